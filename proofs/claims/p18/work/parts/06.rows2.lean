theorem mx_look {β : Type} {n : Nat} {v : β} : ∀ {L : List (Nat × β)}, L.lookup n = some v → (n, v) ∈ L
  | [], h => by cases h
  | (a, u) :: t, h => by
    by_cases e : n = a
    · subst e
      rw [List.lookup_cons_self] at h
      cases h
      exact List.mem_cons_self
    · rw [List.lookup_cons, show (n == a) = false from by simp [e]] at h
      exact List.mem_cons_of_mem _ (mx_look h)
theorem mxin_of {x : Int32} {n : Nat} (h : mxin x n = true) : vp_in x n := by
  unfold mxin at h
  simp only [Bool.and_eq_true, Bool.not_eq_true', decide_eq_false_iff_not, Nat.blt_eq] at h
  exact fun q => q.elim h.1 (fun q => absurd h.2 (Nat.not_lt.mpr q))
theorem mxsf_spec {o n j : Nat} (h : mxsf o n = some j) : o = 1 ∧ ((n = 65 ∧ j = 1) ∨ (n = 74 ∧ j = 0)) := by
  unfold mxsf at h
  split at h
  · cases h; exact ⟨rfl, Or.inl ⟨rfl, rfl⟩⟩
  · cases h; exact ⟨rfl, Or.inr ⟨rfl, rfl⟩⟩
  · cases h
def mxdv (ty : FieldType) : Value := match ty with
  | .long => .long 0
  | .object _ => .null
  | .array _ => .null
  | _ => .int 0
theorem mk_def : ∀ c, c < 5 → ∀ j, j < mxnf c → defaultValue (mxty c j) = mxdv (mxty c j) := by decide +kernel
theorem mxgf_new {w : mxW} {t n : Nat} (c j : Nat) : mxgf (mxne0 w t n) w.1.length c j = mxdv (mxty c j) := by
  unfold mxgf mxdv mxne0 mxI0 mxJ0 mxQ0
  split <;> simp_all
theorem mxgf_pi {w : mxW} {a j : Nat} {x : Int32} (c k : Nat) (hk : k ≠ j) : mxgf (mxpi w a j x) a c k = mxgf w a c k := by
  unfold mxgf mxpi mxI upd
  split <;> simp [hk]
theorem mxgf_pj {w : mxW} {a j : Nat} {x : Int64} (c k : Nat) (hk : k ≠ j) : mxgf (mxpj w a j x) a c k = mxgf w a c k := by
  unfold mxgf mxpj mxJ vp_updL
  split <;> simp [hk]
theorem mxgf_pq {w : mxW} {a j : Nat} {x : Value} (c k : Nat) (hk : k ≠ j) : mxgf (mxpq w a j x) a c k = mxgf w a c k := by
  unfold mxgf mxpq mxQ
  split <;> simp [hk]
theorem mx_cats (b : Nat) (sa : Nat → Nat) (r : List Value) : ((r.map (mxv b sa)).map fun v => v.category).sum = mxsum r := by
  unfold mxsum
  rw [List.map_map]
  congr 2
  funext v
  exact mxv_cat b sa v
theorem mx_good {zi : mxi} (hz : zi ∈ mxms) : GoodIn mxA (mxws zi) := by
  have hA : ∀ w ∈ mxA, w ∈ mxA ∧ ((w.onTables && w.keeps) = true ∨ ∃ ty, w = .arrayClass ty) := fun w hw => ⟨hw, good_of_word (List.mem_filter.mp hw).2⟩
  intro w hw
  rcases List.mem_cons.mp hw with rfl | hw
  · exact hA _ (mk_code zi hz)
  · exact hA w hw
theorem mxG_blind {b : Nat} {sa : Nat → Nat} {cA : Nat → ClassId} {dC : Nat → ClassId} {dI : Nat → Nat → Nat} {U V : State} (h : mxG b sa cA dC dI U) (hv : U.vm = V.vm) (hh : V.heap = U.heap) : mxG b sa cA dC dI V := by
  have ha : U.vm.Alike V.vm := by rw [hv]; exact Vm.Alike.refl V.vm
  obtain ⟨h1, ⟨n1, n2, n3⟩, ⟨z1, z2, t1, t2⟩, r1, s1, z3, q1⟩ := h
  refine ⟨va_K.moved ha h1, ⟨n1.same rfl hv, n2.same rfl hv, n3.same rfl hv⟩, ⟨by rw [hh]; exact z1.moved ha, by rw [hh]; exact z2.moved ha, by rw [hh]; exact t1.moved ha, by rw [hh]; exact t2.moved ha⟩, fun o n j h => (r1 o n j h).same hv.symm, by rw [hh]; exact s1.moved ha, by rw [hh]; exact z3.moved ha, ?_⟩
  rcases q1 with q1 | q1
  · exact Or.inl (by rw [hh]; exact q1.moved ha)
  · exact Or.inr (by rw [hh]; exact q1.moved ha)
theorem mxH_blind {b : Nat} {sa : Nat → Nat} {cA : Nat → ClassId} {dC : Nat → ClassId} {dI : Nat → Nat → Nat} {w : mxW} {av : List Value} : FrameBlind (va_Pc av (mxH b sa cA dC dI w)) :=
  fun a U g mk q => ⟨q.1, q.2.1, q.2.2.1, mxG_blind q.2.2.2 rfl rfl⟩
section MD2
variable {p : Program} {l : Launch} {e : Env} {R : Room} {s : State} {m : MethodId} {args : Array Value} {below : List Frame} {meth : Method} {c : Code} {b : Nat} {sa : Nat → Nat} {cA : Nat → ClassId} {dC : Nat → ClassId} {dI : Nat → Nat → Nat} {i : mxi} {Qf : State → Prop} {c0 s0 : Nat} {pc : Nat} {lv : mxV} {r : List Value} {w : mxW}
theorem mxF.x (C : mxF p R s m args meth c b sa cA dC dI i) : p.tables.exec = Jvm.exec := C.1
theorem mxF.bb (C : mxF p R s m args meth c b sa cA dC dI i) : c.code = mxi_c i := C.2.1
theorem mxF.rr (C : mxF p R s m args meth c b sa cA dC dI i) : meth.sig.returnType = mxi_r i := C.2.2.1
theorem mxF.ml (C : mxF p R s m args meth c b sa cA dC dI i) : c.maxLocals = mxi_L i := C.2.2.2.1
theorem mxF.own (C : mxF p R s m args meth c b sa cA dC dI i) : s.vm.findClass (mxo (mxi_o i)) = some m.cls := C.2.2.2.2.1
theorem mxF.ts (C : mxF p R s m args meth c b sa cA dC dI i) : ∀ x ∈ mxA, x.before args s = true := C.2.2.2.2.2.1
theorem mxF.lk (C : mxF p R s m args meth c b sa cA dC dI i) : meth.locks = false := C.2.2.2.2.2.2.1
theorem mxF.I (C : mxF p R s m args meth c b sa cA dC dI i) : mxi_I i = true → meth.name = "<init>" := C.2.2.2.2.2.2.2.1
theorem mxF.G (C : mxF p R s m args meth c b sa cA dC dI i) : mxG b sa cA dC dI s := C.2.2.2.2.2.2.2.2.1
theorem mxF.bs (C : mxF p R s m args meth c b sa cA dC dI i) : b ≤ s.heap.size := C.2.2.2.2.2.2.2.2.2.1
theorem mxF.fr (C : mxF p R s m args meth c b sa cA dC dI i) : R.frames = mxi_f i := C.2.2.2.2.2.2.2.2.2.2.1
theorem mxF.lo (C : mxF p R s m args meth c b sa cA dC dI i) : R.locals = mxi_l i := C.2.2.2.2.2.2.2.2.2.2.2
theorem mxF.K (C : mxF p R s m args meth c b sa cA dC dI i) : va_K (dC, dI) vwCl [(cA 0, .int), (cA 1, .long), (cA 2, .byte), (cA 3, .boolean)] s := C.G.1
theorem md_ldc (C : mxF p R s m args meth c b sa cA dC dI i) {n : Nat} {v : Int32} (hd : decode (mxi_c i) pc = .ok (.ldc n, 2)) (hc : (mxcs (mxi_o i)).lookup n = some (.int v)) (K : mxD p l e R s m args below meth c b sa cA dC dI i Qf c0 s0 (pc + 2) lv (.int v :: r) w) : mxD p l e R s m args below meth c b sa cA dC dI i Qf c0 s0 pc lv r w :=
  fun H locs cells slots ls h1 h2 h3 h4 h5 h6 => lv_ldc C.x C.bb C.own (C.ts _ (mk_cs (mxi_o i) _ (mx_look hc))) hd (K H locs cells slots ls h1 h2 h3 h4 h5 h6)
theorem md_ldcw (C : mxF p R s m args meth c b sa cA dC dI i) {n : Nat} {v : Int32} (hd : decode (mxi_c i) pc = .ok (.ldc_w n, 3)) (hc : (mxcs (mxi_o i)).lookup n = some (.int v)) (K : mxD p l e R s m args below meth c b sa cA dC dI i Qf c0 s0 (pc + 3) lv (.int v :: r) w) : mxD p l e R s m args below meth c b sa cA dC dI i Qf c0 s0 pc lv r w :=
  fun H locs cells slots ls h1 h2 h3 h4 h5 h6 => lv_ldcw C.x C.bb C.own (C.ts _ (mk_cs (mxi_o i) _ (mx_look hc))) hd (K H locs cells slots ls h1 h2 h3 h4 h5 h6)
theorem md_ldc2 (C : mxF p R s m args meth c b sa cA dC dI i) {n : Nat} {v : Int64} (hd : decode (mxi_c i) pc = .ok (.ldc2_w n, 3)) (hc : (mxcs (mxi_o i)).lookup n = some (.long v)) (K : mxD p l e R s m args below meth c b sa cA dC dI i Qf c0 s0 (pc + 3) lv (.long v :: r) w) : mxD p l e R s m args below meth c b sa cA dC dI i Qf c0 s0 pc lv r w :=
  fun H locs cells slots ls h1 h2 h3 h4 h5 h6 => lv_ldc2 C.x C.bb C.own (C.ts _ (mk_cs (mxi_o i) _ (mx_look hc))) hd (K H locs cells slots ls h1 h2 h3 h4 h5 h6)
theorem md_getstatic (C : mxF p R s m args meth c b sa cA dC dI i) {n j : Nat} (hd : decode (mxi_c i) pc = .ok (.getstatic n, 3)) (hc : mxsf (mxi_o i) n = some j) (K : mxD p l e R s m args below meth c b sa cA dC dI i Qf c0 s0 (pc + 3) lv (.retAddr j :: r) w) : mxD p l e R s m args below meth c b sa cA dC dI i Qf c0 s0 pc lv r w := by
  intro H locs cells slots ls h1 h2 h3 h4 h5 h6
  have hown := C.own
  obtain ⟨ho, ⟨hn, hj⟩ | ⟨hn, hj⟩⟩ := mxsf_spec hc
  · subst hn; subst hj
    rw [ho] at hown
    exact va_gets C.x C.bb C.G.2.2.1.2.1 h3 hown (C.ts _ mk_fw) (fun _ h => h) hd (K H locs cells slots ls h1 h2 h3 h4 h5 h6)
  · subst hn; subst hj
    rw [ho] at hown
    exact va_gets C.x C.bb C.G.2.2.1.1 h3 hown (C.ts _ mk_mv) (fun _ h => h) hd (K H locs cells slots ls h1 h2 h3 h4 h5 h6)
theorem mx_fl {o n ci j : Nat} (h : (mxfl o).lookup n = some (ci, j)) : ci < 5 ∧ j < mxnf ci ∧ (((mxct ci).2.1 j).2.2.2 = true → ((mxct ci).2.1 j).1 = mxo o) ∧ Cond.fieldLink (mxo o) n ((mxct ci).2.1 j).1 ((mxct ci).2.1 j).2.1 ((mxct ci).2.1 j).2.2.1 ∈ mxA := by
  have hm := mx_look h
  have q := List.all_eq_true.mp (mk_flb o) _ hm
  simp only [Bool.and_eq_true, Nat.blt_eq, Bool.or_eq_true, Bool.not_eq_true', decide_eq_true_eq] at q
  refine ⟨q.1.1, q.1.2, fun hf => ?_, mk_fl o _ hm⟩
  rcases q.2 with q | q
  · rw [hf] at q; cases q
  · exact q
theorem md_getfield (C : mxF p R s m args meth c b sa cA dC dI i) {n ci j a n0 : Nat} (hd : decode (mxi_c i) pc = .ok (.getfield n, 3)) (hl : (mxfl (mxi_o i)).lookup n = some (ci, j)) (hs : w.1[a]? = some (ci + 4, n0)) (K : mxD p l e R s m args below meth c b sa cA dC dI i Qf c0 s0 (pc + 3) lv (mxgf w a ci j :: r) w) : mxD p l e R s m args below meth c b sa cA dC dI i Qf c0 s0 pc lv (.ref a :: r) w := by
  intro H locs cells slots ls h1 h2 h3 h4 h5 h6
  obtain ⟨hci, hj, -, hlk⟩ := mx_fl hl
  obtain ⟨hcl, hin, -⟩ := mk_cls ci hci
  have he : (mxP b sa cA w)[a]? = some (b + a, .inr (ci, (List.range (mxnf ci)).map (fun j => mxv b sa (mxgf w a ci j)))) := mxP_some hs
  exact va_get (D := (dC, dI)) C.x C.bb C.ts hin C.own C.K h2 a he hcl j hj (C.ts _ hlk) (fun _ h => h) (by rw [List.getElem?_map, List.getElem?_range hj]; rfl) hd (K H locs cells slots ls h1 h2 h3 h4 h5 h6)
theorem md_put (C : mxF p R s m args meth c b sa cA dC dI i) {n ci j a n0 : Nat} {v : Value} {w' : mxW} (hd : decode (mxi_c i) pc = .ok (.putfield n, 3)) (hl : (mxfl (mxi_o i)).lookup n = some (ci, j)) (hs : w.1[a]? = some (ci + 4, n0)) (hfin : ((mxct ci).2.1 j).2.2.2 = false ∨ mxi_I i = true) (hn : narrow (mxty ci j) (mxv b sa v) = mxv b sa v) (hfit : fits (mxty ci j) (mxv b sa v) = true) (h0 : w'.1 = w.1) (ho : ∀ x, x ≠ a → w'.2.1 x = w.2.1 x ∧ w'.2.2.1 x = w.2.2.1 x ∧ w'.2.2.2 x = w.2.2.2 x) (hj2 : mxgf w' a ci j = v) (hoj : ∀ k, k ≠ j → mxgf w' a ci k = mxgf w a ci k)
    (K : mxD p l e R s m args below meth c b sa cA dC dI i Qf c0 s0 (pc + 3) lv r w') : mxD p l e R s m args below meth c b sa cA dC dI i Qf c0 s0 pc lv (v :: .ref a :: r) w := by
  intro H locs cells slots ls h1 h2 h3 h4 h5 h6
  obtain ⟨hci, hj, hdecl, hlk⟩ := mx_fl hl
  obtain ⟨hcl, hin, hnm, hty, -⟩ := mk_cls ci hci
  have he : (mxP b sa cA w)[a]? = some (b + a, .inr (ci, (List.range (mxnf ci)).map (fun j => mxv b sa (mxgf w a ci j)))) := mxP_some hs
  have hap := va_apart (own := mxo (mxi_o i)) C.ts hin (mxty ci) hty hnm C.K hcl
  have hlen : j < ((List.range (mxnf ci)).map (fun j => mxv b sa (mxgf w a ci j))).length := by rw [List.length_map, List.length_range]; exact hj
  have e9 : (mxP b sa cA w).set a (b + a, .inr (ci, ((List.range (mxnf ci)).map (fun j => mxv b sa (mxgf w a ci j))).set j (mxv b sa v))) = mxP b sa cA w' := by
    rw [← mxP_set hs h0 ho, mxfs_set (g := fun k => mxv b sa (mxgf w' a ci k)) (by rw [hj2]) (fun k hk => by rw [hoj k hk])]
    rfl
  obtain ⟨q, g1, cell, q1, q2, q3, q4⟩ := h2 a _ he
  have hr : q = ((mxct ci).1, (mxct ci).2.1, mxnf ci) := Option.some.inj (g1.symm.trans hcl)
  subst hr
  obtain ⟨hSl, hfc, kC, hkC, hkind⟩ := C.K.1 ci _ hcl
  obtain ⟨cf, kf, fi, f, hi, hsl⟩ := hSl j hj
  have hlay := C.ts _ (hin _ (u_in_lay hj))
  have hst := (u_facts hfc hkC (u_lays C.ts hin hj) hi).1
  have go : ∀ (H' : Heap), H'[b + a]? = some (cell.setSlot f.slot (mxv b sa v)) → H'.size = H.size → (∀ q, q ≠ b + a → H'[q]? = H[q]?) → W p l e R s m args below meth c H' (locs ++ [⟨b + a, f.slot⟩]) cells slots Qf (F0 m (pc + 3) ls (r.map (mxv b sa))) := by
    intro H' e1 e2 e3
    rw [hsl] at e1
    refine K H' _ cells slots ls (by rw [e2, h1, h0]) ?_ (h3.put e2 e3 (Nat.le_add_right b a)) h4 (by rw [h0]; exact h5) (by unfold mxsl; rw [h0]; exact h6)
    rw [← e9]
    exact h2.set mxP_D he ⟨_, hcl, t_OB.to (V := updV (vp_V _) j (mxv b sa v)) ⟨_, e1, q2, q3, t_set q4 hap hj (mxv b sa v)⟩ (fun k _ => vp_updV_set hlen (mxv b sa v) k)⟩ e3
  unfold u_lay at hlay
  by_cases hf : ((mxct ci).2.1 j).2.2.2 = true
  · rw [if_pos hf] at hlay
    have hI : mxi_I i = true := by
      rcases hfin with q | q
      · rw [hf] at q; cases q
      · exact q
    have hcf : m.cls = cf := by
      obtain ⟨_, _, c', _, _, _, -, -, hf', -, -, -, hown2, -⟩ := Cond.laysFinal_spec hlay
      have e1 : c' = cf := by have := hi.symm.trans hf'; simp at this; exact this.1.symm
      rw [hdecl hf] at hown2
      rw [← e1]; exact Option.some.inj (C.own.symm.trans hown2)
    have h6' := u_fits hfc hkC hkind (Or.inr hlay) hi (hty j hj) hn hfit
    exact W.putFinK C.x C.bb C.own (C.ts _ hlk) hi hst hcf (C.I hI) (by rw [q2]; exact h6') q1 q3 (by rw [hsl]; exact k2_hasslot (q4 j hj)) rfl rfl hd go
  · rw [if_neg hf] at hlay
    have h6' := u_store hfc hkC hkind hlay hi (hty j hj) hn hfit
    exact W.putK C.x C.bb (f := f) ⟨C.own, C.ts _ hlk, ⟨_, _, _, hi⟩, hst⟩ (by rw [q2]; exact h6') q1 q3 (by rw [hsl]; exact k2_hasslot (q4 j hj)) rfl rfl hd go
end MD2
