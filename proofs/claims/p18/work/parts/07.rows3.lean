section MD3
variable {p : Program} {l : Launch} {e : Env} {R : Room} {s : State} {m : MethodId} {args : Array Value} {below : List Frame} {meth : Method} {c : Code} {b : Nat} {sa : Nat → Nat} {cA : Nat → ClassId} {dC : Nat → ClassId} {dI : Nat → Nat → Nat} {i : mxi} {Qf : State → Prop} {c0 s0 : Nat} {pc : Nat} {lv : mxV} {r : List Value} {w : mxW}
theorem md_putI (C : mxF p R s m args meth c b sa cA dC dI i) {n ci j a n0 : Nat} {x : Int32} (hd : decode (mxi_c i) pc = .ok (.putfield n, 3)) (hl : (mxfl (mxi_o i)).lookup n = some (ci, j)) (hs : w.1[a]? = some (ci + 4, n0)) (hfin : ((mxct ci).2.1 j).2.2.2 = false ∨ mxi_I i = true) (ht : mxty ci j = .int ∨ (mxty ci j = .boolean ∧ (x == 0 || x == 1) = true)) (K : mxD p l e R s m args below meth c b sa cA dC dI i Qf c0 s0 (pc + 3) lv r (mxpi w a j x)) : mxD p l e R s m args below meth c b sa cA dC dI i Qf c0 s0 pc lv (.int x :: .ref a :: r) w := by
  refine md_put C (v := .int x) (w' := mxpi w a j x) hd hl hs hfin ?_ ?_ rfl (fun y hy => ⟨if_neg hy, rfl, rfl⟩) ?_ (fun k hk => mxgf_pi ci k hk) K
  · rcases ht with h | ⟨h, hx⟩
    · rw [h]; rfl
    · rw [h]
      simp only [Bool.or_eq_true, beq_iff_eq] at hx
      rcases hx with rfl | rfl <;> rfl
  · rcases ht with h | ⟨h, hx⟩
    · rw [h]; rfl
    · rw [h]; exact hx
  · rcases ht with h | ⟨h, -⟩ <;> · unfold mxgf; rw [h]; simp [mxpi, mxI, upd]
theorem md_putJ (C : mxF p R s m args meth c b sa cA dC dI i) {n ci j a n0 : Nat} {x : Int64} (hd : decode (mxi_c i) pc = .ok (.putfield n, 3)) (hl : (mxfl (mxi_o i)).lookup n = some (ci, j)) (hs : w.1[a]? = some (ci + 4, n0)) (hfin : ((mxct ci).2.1 j).2.2.2 = false ∨ mxi_I i = true) (ht : mxty ci j = .long) (K : mxD p l e R s m args below meth c b sa cA dC dI i Qf c0 s0 (pc + 3) lv r (mxpj w a j x)) : mxD p l e R s m args below meth c b sa cA dC dI i Qf c0 s0 pc lv (.long x :: .ref a :: r) w := by
  refine md_put C (v := .long x) (w' := mxpj w a j x) hd hl hs hfin (by rw [ht]; rfl) (by rw [ht]; rfl) rfl (fun y hy => ⟨rfl, if_neg hy, rfl⟩) ?_ (fun k hk => mxgf_pj ci k hk) K
  unfold mxgf; rw [ht]; simp [mxpj, mxJ, vp_updL]
theorem md_putR (C : mxF p R s m args meth c b sa cA dC dI i) {n ci j a n0 : Nat} {v : Value} (hd : decode (mxi_c i) pc = .ok (.putfield n, 3)) (hl : (mxfl (mxi_o i)).lookup n = some (ci, j)) (hs : w.1[a]? = some (ci + 4, n0)) (hfin : ((mxct ci).2.1 j).2.2.2 = false ∨ mxi_I i = true) (ht : (∃ t, mxty ci j = .object t) ∨ ∃ t, mxty ci j = .array t) (hv : (∃ x, v = .ref x) ∨ v = .null) (K : mxD p l e R s m args below meth c b sa cA dC dI i Qf c0 s0 (pc + 3) lv r (mxpq w a j v)) : mxD p l e R s m args below meth c b sa cA dC dI i Qf c0 s0 pc lv (v :: .ref a :: r) w := by
  refine md_put C (v := v) (w' := mxpq w a j v) hd hl hs hfin ?_ ?_ rfl (fun y hy => ⟨rfl, rfl, if_neg hy⟩) ?_ (fun k hk => mxgf_pq ci k hk) K
  · rcases ht with ⟨t, h⟩ | ⟨t, h⟩ <;> · rw [h]; rcases hv with ⟨x, rfl⟩ | rfl <;> rfl
  · rcases ht with ⟨t, h⟩ | ⟨t, h⟩ <;> · rw [h]; rcases hv with ⟨x, rfl⟩ | rfl <;> rfl
  · rcases ht with ⟨t, h⟩ | ⟨t, h⟩ <;> · unfold mxgf; rw [h]; simp [mxpq, mxQ]
theorem mxsl_new {w : mxW} {t n : Nat} : mxsl (mxne0 w t n) = mxsl w + n := by
  unfold mxsl mxne0
  simp
theorem mxlen_new {w : mxW} {t n : Nat} : (mxne0 w t n).1.length = w.1.length + 1 := by
  unfold mxne0
  simp
theorem mx_off {w : mxW} {t n : Nat} : ∀ a, a ≠ w.1.length → (mxne0 w t n).2.1 a = w.2.1 a ∧ (mxne0 w t n).2.2.1 a = w.2.2.1 a ∧ (mxne0 w t n).2.2.2 a = w.2.2.2 a := fun a ha => ⟨if_neg ha, if_neg ha, if_neg ha⟩
theorem md_new (C : mxF p R s m args meth c b sa cA dC dI i) {n ci : Nat} (hd : decode (mxi_c i) pc = .ok (.new n, 3)) (hl : (mxnw (mxi_o i)).lookup n = some ci) (hRc : w.1.length + 1 ≤ R.cells + c0) (hRs : mxsl w + mxnf ci ≤ R.slots + s0) (K : mxD p l e R s m args below meth c b sa cA dC dI i Qf c0 s0 (pc + 3) lv (.ref w.1.length :: r) (mxne0 w (ci + 4) (mxnf ci))) : mxD p l e R s m args below meth c b sa cA dC dI i Qf c0 s0 pc lv r w := by
  intro H locs cells slots ls h1 h2 h3 h4 h5 h6
  have hm := mx_look hl
  have hci := mk_nwb (mxi_o i) _ hm
  obtain ⟨hcl, hin, hnm, hty, hins, hini⟩ := mk_cls ci hci
  have hKn := C.K.1 ci _ hcl
  refine W.newcK C.x C.bb C.own (C.ts _ (mk_nw (mxi_o i) _ hm)) (C.ts _ hins) (C.ts _ hini) rfl hd (by omega) (by omega) hKn.2.1 h1 fun H1 kC hkC e1 z1 o1 => ?_
  have hk : ∀ (k : Nat) (x : Nat × va_E), (mxP b sa cA w)[k]? = some x → H1[x.1]? = H[x.1]? := fun k x hx => o1 x.1 (by rw [← h1]; exact (h2 k x hx).lt)
  refine K H1 locs (cells + 1) (slots + mxnf ci) ls (by rw [z1, mxlen_new]; omega) ?_ ⟨by have := h3.1; omega, fun q g1 g2 => (o1 q (by have := h3.1; omega)).trans (h3.2.1 q g1 g2), h3.2.2⟩ h4 (by rw [mxlen_new]; omega) (by rw [mxsl_new]; omega)
  rw [← mxP_push (w := w) (sh := (ci + 4, mxnf ci)) rfl mx_off]
  refine (h2.kept hk).app (fun k x hx => ?_)
  have hz : k < 1 := (List.getElem?_eq_some_iff.mp hx).1
  rw [show k = 0 by omega] at hx
  cases hx
  refine ⟨_, hcl, (u_born (mxty ci) C.ts hin hKn hkC e1 hty).to (fun j hj => ?_)⟩
  rw [mk_def ci hci j hj]
  unfold vp_V
  rw [List.getD_eq_getElem?_getD, List.getElem?_map, List.getElem?_range hj]
  show mxdv (mxty ci j) = mxv b sa (mxgf (mxne0 w (ci + 4) (mxnf ci)) w.1.length ci j)
  rw [mxgf_new]
  unfold mxdv
  split <;> rfl
theorem md_newarray (C : mxF p R s m args meth c b sa cA dC dI i) {t : ArrayType} {q : Nat} {n : Int32} (hd : decode (mxi_c i) pc = .ok (.newarray t, 2)) (hq : mxat t = some q) (hn : ¬ n < 0) (hN : n.toNatClampNeg ≤ 1000000) (hRc : w.1.length + 1 ≤ R.cells + c0) (hRs : mxsl w + n.toNatClampNeg ≤ R.slots + s0) (K : mxD p l e R s m args below meth c b sa cA dC dI i Qf c0 s0 (pc + 2) lv (.ref w.1.length :: r) (mxne0 w q n.toNatClampNeg)) : mxD p l e R s m args below meth c b sa cA dC dI i Qf c0 s0 pc lv (.int n :: r) w := by
  intro H locs cells slots ls h1 h2 h3 h4 h5 h6
  have harr : (Cond.arrayClass (newarray.typeOf t)).before args s = true := by
    cases t <;> first | exact C.ts _ mk_ar_int | exact C.ts _ mk_ar_long | exact C.ts _ mk_ar_byte | exact C.ts _ mk_ar_boolean | cases hq
  have hby : n.toNatClampNeg * componentBytes (newarray.typeOf t) ≤ 536870912 := by
    have hb8 : componentBytes (newarray.typeOf t) ≤ 8 := by cases t <;> decide
    exact Nat.le_trans (Nat.mul_le_mul hN hb8) (by decide)
  refine va_newaK C.x C.bb harr rfl hd rfl hn rfl hby (by omega) (by omega) h1 fun H1 cA1 e1 z1 o1 hAr hNm => ?_
  have hk : ∀ (k : Nat) (x : Nat × va_E), (mxP b sa cA w)[k]? = some x → H1[x.1]? = H[x.1]? := fun k x hx => o1 x.1 (by rw [← h1]; exact (h2 k x hx).lt)
  refine K H1 locs (cells + 1) (slots + n.toNatClampNeg) ls (by rw [z1, mxlen_new]; omega) ?_ ⟨by have := h3.1; omega, fun q g1 g2 => (o1 q (by have := h3.1; omega)).trans (h3.2.1 q g1 g2), h3.2.2⟩ h4 (by rw [mxlen_new]; omega) (by rw [mxsl_new]; omega)
  rw [← mxP_push (w := w) (sh := (q, n.toNatClampNeg)) rfl mx_off]
  refine (h2.kept hk).app (fun k x hx => ?_)
  have hz : k < 1 := (List.getElem?_eq_some_iff.mp hx).1
  rw [show k = 0 by omega] at hx
  cases hx
  have hi0 : ∀ j, (mxne0 w q n.toNatClampNeg).2.1 w.1.length j = 0 := fun j => by unfold mxne0 mxI0; simp
  have hj0 : ∀ j, (mxne0 w q n.toNatClampNeg).2.2.1 w.1.length j = 0 := fun j => by unfold mxne0 mxJ0; simp
  cases t <;> first | (cases hq; done) | skip
  · cases hq
    have hc : cA1 = cA 3 := Option.some.inj (hNm.symm.trans (C.K.2 3 _ rfl).2)
    subst hc
    show H1[b + w.1.length]? = some (vp_cell _ _)
    rw [e1, vp_cell_i]
    congr 2
    funext j
    rw [hi0]; rfl
  · cases hq
    have hc : cA1 = cA 2 := Option.some.inj (hNm.symm.trans (C.K.2 2 _ rfl).2)
    subst hc
    show H1[b + w.1.length]? = some (vp_cell _ _)
    rw [e1, vp_cell_i]
    congr 2
    funext j
    rw [hi0]; rfl
  · cases hq
    have hc : cA1 = cA 0 := Option.some.inj (hNm.symm.trans (C.K.2 0 _ rfl).2)
    subst hc
    show H1[b + w.1.length]? = some (vp_cell _ _)
    rw [e1, vp_cell_i]
    congr 2
    funext j
    rw [hi0]; rfl
  · cases hq
    have hc : cA1 = cA 1 := Option.some.inj (hNm.symm.trans (C.K.2 1 _ rfl).2)
    subst hc
    show H1[b + w.1.length]? = some (vp_cell _ _)
    rw [e1, vp_cell_l]
    congr 2
    funext j
    rw [hj0]; rfl
theorem md_alen (C : mxF p R s m args meth c b sa cA dC dI i) {t n a : Nat} (hd : decode (mxi_c i) pc = .ok (.arraylength, 1)) (hs : w.1[a]? = some (t, n)) (ht : t < 4) (K : mxD p l e R s m args below meth c b sa cA dC dI i Qf c0 s0 (pc + 1) lv (.int (Int32.ofNat n) :: r) w) : mxD p l e R s m args below meth c b sa cA dC dI i Qf c0 s0 pc lv (.ref a :: r) w := by
  intro H locs cells slots ls h1 h2 h3 h4 h5 h6
  match t, hs, ht with
  | 0, hs, _ => exact va_alen C.x C.bb C.K h2 a 0 (mxP_some hs) rfl rfl hd (K H locs cells slots ls h1 h2 h3 h4 h5 h6)
  | 1, hs, _ => exact va_alen C.x C.bb C.K h2 a 1 (mxP_some hs) rfl rfl hd (K H locs cells slots ls h1 h2 h3 h4 h5 h6)
  | 2, hs, _ => exact va_alen C.x C.bb C.K h2 a 2 (mxP_some hs) rfl rfl hd (K H locs cells slots ls h1 h2 h3 h4 h5 h6)
  | 3, hs, _ => exact va_alen C.x C.bb C.K h2 a 3 (mxP_some hs) rfl rfl hd (K H locs cells slots ls h1 h2 h3 h4 h5 h6)
theorem mxst_spec {j n : Nat} {f : Nat → Int32} (h : mxst j = some (n, f)) : (j = 0 ∧ n = 8 ∧ f = mxmv) ∨ (j = 1 ∧ n = 3 ∧ f = mxfw) := by
  unfold mxst at h
  split at h
  · cases h; exact Or.inl ⟨rfl, rfl, rfl⟩
  · cases h; exact Or.inr ⟨rfl, rfl, rfl⟩
  · cases h
theorem md_alenS (C : mxF p R s m args meth c b sa cA dC dI i) {n j : Nat} {f : Nat → Int32} (hd : decode (mxi_c i) pc = .ok (.arraylength, 1)) (hs : mxst j = some (n, f)) (K : mxD p l e R s m args below meth c b sa cA dC dI i Qf c0 s0 (pc + 1) lv (.int (Int32.ofNat n) :: r) w) : mxD p l e R s m args below meth c b sa cA dC dI i Qf c0 s0 pc lv (.retAddr j :: r) w := by
  intro H locs cells slots ls h1 h2 h3 h4 h5 h6
  rcases mxst_spec hs with ⟨rfl, rfl, rfl⟩ | ⟨rfl, rfl, rfl⟩
  · exact va_tlen C.x C.bb C.G.2.2.1.2.2.1 h3 rfl hd (K H locs cells slots ls h1 h2 h3 h4 h5 h6)
  · exact va_tlen C.x C.bb C.G.2.2.1.2.2.2 h3 rfl hd (K H locs cells slots ls h1 h2 h3 h4 h5 h6)
theorem md_ialdS (C : mxF p R s m args meth c b sa cA dC dI i) {n j : Nat} {x : Int32} {f : Nat → Int32} (hd : decode (mxi_c i) pc = .ok (.iaload, 1)) (hs : mxst j = some (n, f)) (hin : vp_in x n) (K : mxD p l e R s m args below meth c b sa cA dC dI i Qf c0 s0 (pc + 1) lv (.int (f x.toNatClampNeg) :: r) w) : mxD p l e R s m args below meth c b sa cA dC dI i Qf c0 s0 pc lv (.int x :: .retAddr j :: r) w := by
  intro H locs cells slots ls h1 h2 h3 h4 h5 h6
  rcases mxst_spec hs with ⟨rfl, rfl, rfl⟩ | ⟨rfl, rfl, rfl⟩
  · exact va_ti C.x C.bb C.G.2.2.1.2.2.1 h3 hin rfl hd (K H locs cells slots ls h1 h2 h3 h4 h5 h6)
  · exact va_ti C.x C.bb C.G.2.2.1.2.2.2 h3 hin rfl hd (K H locs cells slots ls h1 h2 h3 h4 h5 h6)
theorem md_iald (C : mxF p R s m args meth c b sa cA dC dI i) {n a : Nat} {x : Int32} (hd : decode (mxi_c i) pc = .ok (.iaload, 1)) (hs : w.1[a]? = some (0, n)) (hin : vp_in x n) (K : mxD p l e R s m args below meth c b sa cA dC dI i Qf c0 s0 (pc + 1) lv (.int (w.2.1 a x.toNatClampNeg) :: r) w) : mxD p l e R s m args below meth c b sa cA dC dI i Qf c0 s0 pc lv (.int x :: .ref a :: r) w :=
  fun H locs cells slots ls h1 h2 h3 h4 h5 h6 => va_iald C.x C.bb C.K h2 a 0 (mxP_some hs) rfl hin hd (K H locs cells slots ls h1 h2 h3 h4 h5 h6)
theorem md_lald (C : mxF p R s m args meth c b sa cA dC dI i) {n a : Nat} {x : Int32} (hd : decode (mxi_c i) pc = .ok (.laload, 1)) (hs : w.1[a]? = some (1, n)) (hin : vp_in x n) (K : mxD p l e R s m args below meth c b sa cA dC dI i Qf c0 s0 (pc + 1) lv (.long (w.2.2.1 a x.toNatClampNeg) :: r) w) : mxD p l e R s m args below meth c b sa cA dC dI i Qf c0 s0 pc lv (.int x :: .ref a :: r) w :=
  fun H locs cells slots ls h1 h2 h3 h4 h5 h6 => va_lald C.x C.bb C.K h2 a 1 (mxP_some hs) rfl hin hd (K H locs cells slots ls h1 h2 h3 h4 h5 h6)
theorem md_bald (C : mxF p R s m args meth c b sa cA dC dI i) {n a : Nat} {x : Int32} (hd : decode (mxi_c i) pc = .ok (.baload, 1)) (hs : w.1[a]? = some (2, n)) (hin : vp_in x n) (K : mxD p l e R s m args below meth c b sa cA dC dI i Qf c0 s0 (pc + 1) lv (.int (w.2.1 a x.toNatClampNeg) :: r) w) : mxD p l e R s m args below meth c b sa cA dC dI i Qf c0 s0 pc lv (.int x :: .ref a :: r) w :=
  fun H locs cells slots ls h1 h2 h3 h4 h5 h6 => va_bald C.x C.bb C.K h2 a 2 (mxP_some hs) rfl hin hd (K H locs cells slots ls h1 h2 h3 h4 h5 h6)
theorem md_zald (C : mxF p R s m args meth c b sa cA dC dI i) {n a : Nat} {x : Int32} (hd : decode (mxi_c i) pc = .ok (.baload, 1)) (hs : w.1[a]? = some (3, n)) (hin : vp_in x n) (K : mxD p l e R s m args below meth c b sa cA dC dI i Qf c0 s0 (pc + 1) lv (.int (w.2.1 a x.toNatClampNeg) :: r) w) : mxD p l e R s m args below meth c b sa cA dC dI i Qf c0 s0 pc lv (.int x :: .ref a :: r) w :=
  fun H locs cells slots ls h1 h2 h3 h4 h5 h6 => va_zald C.x C.bb C.K h2 a 3 (mxP_some hs) rfl hin hd (K H locs cells slots ls h1 h2 h3 h4 h5 h6)
theorem md_iast (C : mxF p R s m args meth c b sa cA dC dI i) {n a : Nat} {x v : Int32} (hd : decode (mxi_c i) pc = .ok (.iastore, 1)) (hs : w.1[a]? = some (0, n)) (hin : vp_in x n) (K : mxD p l e R s m args below meth c b sa cA dC dI i Qf c0 s0 (pc + 1) lv r (mxpi w a x.toNatClampNeg v)) : mxD p l e R s m args below meth c b sa cA dC dI i Qf c0 s0 pc lv (.int v :: .int x :: .ref a :: r) w := by
  intro H locs cells slots ls h1 h2 h3 h4 h5 h6
  have he : (mxP b sa cA w)[a]? = some (b + a, .inl (cA 0, n, .inl (w.2.1 a))) := mxP_some hs
  refine W.iast C.x C.bb (h2 a _ he) ((C.K.2 0 _ rfl).1 n (fun j => .int (w.2.1 a j))) (fun q => by cases q) (by show ¬ (x < 0 ∨ (arrV _ _ _).slots.size ≤ _); rw [arrV_size]; exact hin) rfl rfl hd fun H1 e1 z oq => ?_
  refine K H1 _ cells slots ls (by rw [z]; exact h1) ?_ (h3.put z oq (Nat.le_add_right b a)) h4 h5 h6
  rw [← mxP_set (w' := mxpi w a x.toNatClampNeg v) hs rfl (fun y hy => ⟨if_neg hy, rfl, rfl⟩)]
  refine h2.set mxP_D he ?_ oq
  show H1[b + a]? = some (vp_cell _ _)
  rw [e1, vp_cell_i, vp_cell_i, arrV_store]
  congr 2
  funext q
  by_cases hq : q = x.toNatClampNeg
  · subst hq
    simp [updV, mxpi, mxI, upd]
  · simp [updV, mxpi, mxI, upd, hq]
theorem md_bast (C : mxF p R s m args meth c b sa cA dC dI i) {n a : Nat} {x v : Int32} (hd : decode (mxi_c i) pc = .ok (.bastore, 1)) (hs : w.1[a]? = some (2, n)) (hin : vp_in x n) (K : mxD p l e R s m args below meth c b sa cA dC dI i Qf c0 s0 (pc + 1) lv r (mxpi w a x.toNatClampNeg (vp_nar .byte v))) : mxD p l e R s m args below meth c b sa cA dC dI i Qf c0 s0 pc lv (.int v :: .int x :: .ref a :: r) w := by
  intro H locs cells slots ls h1 h2 h3 h4 h5 h6
  have he : (mxP b sa cA w)[a]? = some (b + a, .inl (cA 2, n, .inl (w.2.1 a))) := mxP_some hs
  refine W.bast C.x C.bb (h2 a _ he) ((C.K.2 2 _ rfl).1 n (fun j => .int (w.2.1 a j))) (fun q => by cases q) (by show ¬ (x < 0 ∨ (arrV _ _ _).slots.size ≤ _); rw [arrV_size]; exact hin) rfl rfl hd fun H1 e1 z oq => ?_
  refine K H1 _ cells slots ls (by rw [z]; exact h1) ?_ (h3.put z oq (Nat.le_add_right b a)) h4 h5 h6
  rw [← mxP_set (w' := mxpi w a x.toNatClampNeg (vp_nar .byte v)) hs rfl (fun y hy => ⟨if_neg hy, rfl, rfl⟩)]
  refine h2.set mxP_D he ?_ oq
  show H1[b + a]? = some (vp_cell _ _)
  rw [e1, vp_cell_i, vp_cell_i, arrV_store]
  congr 2
  funext q
  by_cases hq : q = x.toNatClampNeg
  · subst hq
    simp [updV, mxpi, mxI, upd, vp_nar, narrow]
  · simp [updV, mxpi, mxI, upd, hq]
theorem md_zast (C : mxF p R s m args meth c b sa cA dC dI i) {n a : Nat} {x v : Int32} (hd : decode (mxi_c i) pc = .ok (.bastore, 1)) (hs : w.1[a]? = some (3, n)) (hin : vp_in x n) (K : mxD p l e R s m args below meth c b sa cA dC dI i Qf c0 s0 (pc + 1) lv r (mxpi w a x.toNatClampNeg (vp_nar .boolean v))) : mxD p l e R s m args below meth c b sa cA dC dI i Qf c0 s0 pc lv (.int v :: .int x :: .ref a :: r) w := by
  intro H locs cells slots ls h1 h2 h3 h4 h5 h6
  have he : (mxP b sa cA w)[a]? = some (b + a, .inl (cA 3, n, .inl (w.2.1 a))) := mxP_some hs
  refine W.zast C.x C.bb (h2 a _ he) ((C.K.2 3 _ rfl).1 n (fun j => .int (w.2.1 a j))) (fun q => by cases q) (by show ¬ (x < 0 ∨ (arrV _ _ _).slots.size ≤ _); rw [arrV_size]; exact hin) rfl rfl hd fun H1 e1 z oq => ?_
  refine K H1 _ cells slots ls (by rw [z]; exact h1) ?_ (h3.put z oq (Nat.le_add_right b a)) h4 h5 h6
  rw [← mxP_set (w' := mxpi w a x.toNatClampNeg (vp_nar .boolean v)) hs rfl (fun y hy => ⟨if_neg hy, rfl, rfl⟩)]
  refine h2.set mxP_D he ?_ oq
  show H1[b + a]? = some (vp_cell _ _)
  rw [e1, vp_cell_i, vp_cell_i, arrV_store]
  congr 2
  funext q
  by_cases hq : q = x.toNatClampNeg
  · subst hq
    simp [updV, mxpi, mxI, upd, vp_nar, narrow]
  · simp [updV, mxpi, mxI, upd, hq]
theorem md_last (C : mxF p R s m args meth c b sa cA dC dI i) {n a : Nat} {x : Int32} {v : Int64} (hd : decode (mxi_c i) pc = .ok (.lastore, 1)) (hs : w.1[a]? = some (1, n)) (hin : vp_in x n) (K : mxD p l e R s m args below meth c b sa cA dC dI i Qf c0 s0 (pc + 1) lv r (mxpj w a x.toNatClampNeg v)) : mxD p l e R s m args below meth c b sa cA dC dI i Qf c0 s0 pc lv (.long v :: .int x :: .ref a :: r) w := by
  intro H locs cells slots ls h1 h2 h3 h4 h5 h6
  have he : (mxP b sa cA w)[a]? = some (b + a, .inl (cA 1, n, .inr (.inl (w.2.2.1 a)))) := mxP_some hs
  refine W.last C.x C.bb (h2 a _ he) ((C.K.2 1 _ rfl).1 n (fun j => .long (w.2.2.1 a j))) (fun q => by cases q) (by show ¬ (x < 0 ∨ (arrV _ _ _).slots.size ≤ _); rw [arrV_size]; exact hin) rfl rfl hd fun H1 e1 z oq => ?_
  refine K H1 _ cells slots ls (by rw [z]; exact h1) ?_ (h3.put z oq (Nat.le_add_right b a)) h4 h5 h6
  rw [← mxP_set (w' := mxpj w a x.toNatClampNeg v) hs rfl (fun y hy => ⟨rfl, if_neg hy, rfl⟩)]
  refine h2.set mxP_D he ?_ oq
  show H1[b + a]? = some (vp_cell _ _)
  rw [e1, vp_cell_l, vp_cell_l, arrV_store]
  congr 2
  funext q
  by_cases hq : q = x.toNatClampNeg
  · subst hq
    simp [updV, mxpj, mxJ, vp_updL]
  · simp [updV, mxpj, mxJ, vp_updL, hq]
end MD3
