section MD4
variable {p : Program} {l : Launch} {e : Env} {R : Room} {s : State} {m : MethodId} {args : Array Value} {below : List Frame} {meth : Method} {c : Code} {b : Nat} {sa : Nat → Nat} {cA : Nat → ClassId} {dC : Nat → ClassId} {dI : Nat → Nat → Nat} {i : mxi} {Qf : State → Prop} {c0 s0 : Nat} {pc : Nat} {lv : mxV} {r : List Value} {w : mxW}
theorem mr_go (C : mxF p R s m args meth c b sa cA dC dI i) {H : Heap} {locs : List Loc} {cells slots mc ms : Nat} {ls : Array Slot} {rz : Option Value} {wz : mxW} {a : Array Value} {st0 : List Value} (h1 : H.size = b + w.1.length) (h3 : va_S (fun q => b ≤ q) s.heap H locs) (h4 : lv_has ls (mxi_L i) (lv.map (mxc b sa))) (hmc : cells + mc + c0 = wz.1.length) (hms : slots + ms + s0 = mxsl wz) (hg : w.1.length ≤ wz.1.length) (hr : va_Run p l e R s m args below meth c H locs cells slots mc ms (F0 m pc ls st0) (r.map (mxv b sa)) (mxQc b sa cA dC dI rz wz a) (fun q => b ≤ q)) (K : mxD p l e R s m args below meth c b sa cA dC dI i Qf c0 s0 (pc + 3) lv (rz.toList ++ r) wz) : W p l e R s m args below meth c H locs cells slots Qf (F0 m pc ls st0) := by
  intro T hT X
  obtain ⟨v, st₀, t, T', L, g0, X', hL, e1, e2, ⟨hv, ⟨hz, hP1, hG1⟩, hk⟩, st⟩ := hr T hT X
  have hv : v = rz.map (mxv b sa) := by injection hv
  subst hv
  have hs := C.bs
  obtain ⟨t2, a1, b1⟩ := K T'.heap (locs ++ L) (cells + mc) (slots + ms) ls (by rw [e1]; exact hz) (by rw [e1]; exact hP1) ⟨by rw [e1, hz]; have := h3.1; omega, fun q q1 q2 => by
      rw [e1, hk q (by omega), g0]
      exact h3.2.1 q q1 q2, fun q hq => by
      rcases List.mem_append.mp hq with h | h
      · exact h3.2.2 q h
      · exact hL q h⟩ h4 hmc hms T' rfl X'
  refine ⟨t2, st t2 ?_, b1⟩
  have e3 : (rz.toList ++ r).map (mxv b sa) = (rz.map (mxv b sa)).toList ++ r.map (mxv b sa) := by
    rw [List.map_append]
    cases rz <;> rfl
  rw [e3] at a1
  exact a1
theorem mx_nam {zi : mxi} (hz : zi ∈ mxms) : (mxi_n zi).cls = mxo (mxi_o zi) ∧ plainName (mxi_n zi).cls = true ∧ (mxi_n zi).cls ≠ "java/lang/invoke/MethodHandle" ∧ (mxi_n zi).cls ≠ "java/lang/invoke/VarHandle" ∧ (parseMethodDescriptor (mxi_n zi).desc).map (fun d => d.parameters.length) = some (mxi_a zi) ∧ (mxi_I zi = true → (mxi_n zi).name = "<init>") := by
  have q := List.all_eq_true.mp mk_nam zi hz
  simp only [Bool.and_eq_true, decide_eq_true_eq, Bool.or_eq_true, Bool.not_eq_true'] at q
  obtain ⟨⟨⟨⟨⟨q1, q2⟩, q3⟩, q4⟩, q5⟩, q6⟩ := q
  refine ⟨q1, q2, q3, q4, q5, fun hI => ?_⟩
  rcases q6 with q | q
  · rw [hI] at q; cases q
  · exact q
theorem mx_B (C : mxF p R s m args meth c b sa cA dC dI i) {z n mc ms : Nat} {zi : mxi} (hz : mxms[z]? = some zi) (hl : (mxca (mxi_o i)).lookup n = some z) (hR : mxi_f zi + 1 ≤ mxi_f i ∧ 8 + (mxi_L zi + 11) + mxi_l zi ≤ mxi_l i) : CallB R s args (mxo (mxi_o i)) n (mxi_n zi) (mxi_c zi) (mxi_L zi) (mxi_r zi) (mxws zi) { frames := mxi_f zi, cells := mc, slots := ms, locals := mxi_l zi } mc ms (mxi_a zi) := by
  have hm := List.mem_of_getElem? hz
  obtain ⟨q1, q2, q3, q4, q5, q6⟩ := mx_nam hm
  exact callB_of (mxi_a zi) C.ts (mx_good hm) rfl rfl rfl (by rw [q1]; exact C.ts _ (mk_ini zi hm)) (C.ts _ (mk_ca (mxi_o i) _ (mx_look hl) zi hz)) ⟨q3, q4, q5⟩ ⟨by rw [C.fr]; exact hR.1, by rw [C.lo]; exact hR.2⟩
theorem mx_pre (C : mxF p R s m args meth c b sa cA dC dI i) {H : Heap} {locs : List Loc} (h1 : H.size = b + w.1.length) (h2 : va_P (dC, dI) vwCl (mxP b sa cA w) H) (h3 : va_S (fun q => b ≤ q) s.heap H locs) (vs : List Value) : ∀ U : State, U.heap = H → s.WarmedH U.vm → va_Pc (vs.map (mxv b sa)) (mxH b sa cA dC dI w) (vs.map (mxv b sa)).toArray U :=
  fun U hU hW => ⟨rfl, by rw [hU]; exact h1, by rw [hU]; exact h2, C.G.moved hW (fun q g1 g2 => by rw [hU]; exact h3.2.1 q g1 g2)⟩
theorem md_static (C : mxF p R s m args meth c b sa cA dC dI i) {z n : Nat} {zi : mxi} {vs : List Value} {rz : Option Value} {wz : mxW} (hd : decode (mxi_c i) pc = .ok (.invokestatic n, 3)) (hl : (mxca (mxi_o i)).lookup n = some z) (hz : mxms[z]? = some zi) (hst : mxi_s zi = true) (hn : vs.length = mxi_a zi) (hR : mxi_f zi + 1 ≤ mxi_f i ∧ 8 + (mxi_L zi + 11) + mxi_l zi ≤ mxi_l i) (hr8 : mxsum r ≤ 8) (hM : mxM l b sa cA dC dI zi vs w rz wz) (hg : w.1.length ≤ wz.1.length ∧ mxsl w ≤ mxsl wz) (hRc : wz.1.length ≤ R.cells + c0) (hRs : mxsl wz ≤ R.slots + s0)
    (K : mxD p l e R s m args below meth c b sa cA dC dI i Qf c0 s0 (pc + 3) lv (rz.toList ++ r) wz) : mxD p l e R s m args below meth c b sa cA dC dI i Qf c0 s0 pc lv (vs.reverse ++ r) w := by
  intro H locs cells slots ls h1 h2 h3 h4 h5 h6
  have hm := List.mem_of_getElem? hz
  have hks := mk_knd zi hm
  rw [if_pos hst] at hks
  refine mr_go (a := (vs.map (mxv b sa)).toArray) (w := w) (lv := lv) (mc := wz.1.length - w.1.length) (ms := mxsl wz - mxsl w) C h1 h3 h4 (by omega) (by omega) hg.1 ?_ K
  exact va_runS (As := vs.map (mxv b sa)) (nL := mxi_L i) ⟨C.x, C.bb, C.ml, C.own, C.ts⟩ hM ⟨mx_B C hz hl hR, C.ts _ hks⟩ ⟨mxH_blind, mx_pre C h1 h2 h3 vs⟩ rfl (by rw [List.length_map]; exact hn) h4.1 (by show List.map (mxv b sa) (vs.reverse ++ r) = _; rw [List.map_append, List.map_reverse]) (lv_room (by rw [mx_cats]; exact hr8)) hd ⟨by omega, by omega⟩
theorem md_virtual (C : mxF p R s m args meth c b sa cA dC dI i) {z n a t n0 : Nat} {zi : mxi} {vs : List Value} {rz : Option Value} {wz : mxW} (hd : decode (mxi_c i) pc = .ok (.invokevirtual n, 3)) (hl : (mxca (mxi_o i)).lookup n = some z) (hz : mxms[z]? = some zi) (hst : mxi_s zi = false) (hsI : mxi_I zi = false) (hs : w.1[a]? = some (t, n0)) (ht : t = mxk (mxi_o zi) + 4) (hk9 : mxk (mxi_o zi) < 5) (hn : vs.length = mxi_a zi) (hR : mxi_f zi + 1 ≤ mxi_f i ∧ 8 + (mxi_L zi + 11) + mxi_l zi ≤ mxi_l i) (hr8 : mxsum r ≤ 8) (hM : mxM l b sa cA dC dI zi (.ref a :: vs) w rz wz) (hg : w.1.length ≤ wz.1.length ∧ mxsl w ≤ mxsl wz) (hRc : wz.1.length ≤ R.cells + c0) (hRs : mxsl wz ≤ R.slots + s0)
    (K : mxD p l e R s m args below meth c b sa cA dC dI i Qf c0 s0 (pc + 3) lv (rz.toList ++ r) wz) : mxD p l e R s m args below meth c b sa cA dC dI i Qf c0 s0 pc lv (vs.reverse ++ .ref a :: r) w := by
  intro H locs cells slots ls h1 h2 h3 h4 h5 h6
  subst ht
  have hm := List.mem_of_getElem? hz
  have hks := mk_knd zi hm
  rw [if_neg (by rw [hst]; decide)] at hks
  have hse := mk_sel zi hm
  rw [if_neg (by rw [hst, hsI]; decide)] at hse
  obtain ⟨hcl, -⟩ := mk_cls _ hk9
  have hnm : (mxct (mxk (mxi_o zi))).1 = mxo (mxi_o zi) := by
    generalize mxi_o zi = o at hk9 ⊢
    unfold mxk at hk9 ⊢
    split at hk9 <;> first | rfl | (exact absurd hk9 (by decide))
  rw [hnm] at hcl
  have he : (mxP b sa cA w)[a]? = some (b + a, .inr (mxk (mxi_o zi), (List.range (mxnf (mxk (mxi_o zi)))).map (fun j => mxv b sa (mxgf w a (mxk (mxi_o zi)) j)))) := mxP_some hs
  refine mr_go (a := (Value.ref (b + a) :: vs.map (mxv b sa)).toArray) (w := w) (lv := lv) (mc := wz.1.length - w.1.length) (ms := mxsl wz - mxsl w) C h1 h3 h4 (by omega) (by omega) hg.1 ?_ K
  exact va_runV (As := vs.map (mxv b sa)) (b := b + a) (C := mxo (mxi_o zi)) (nL := mxi_L i) ⟨C.x, C.bb, C.ml, C.own, C.ts⟩ hM ⟨mx_B C hz hl hR, C.ts _ hks, C.ts _ hse⟩ ⟨mxH_blind, va_recv C.K h2 hcl he, mx_pre C h1 h2 h3 (.ref a :: vs)⟩ rfl (by rw [List.length_map]; exact hn) h4.1 (by show List.map (mxv b sa) (vs.reverse ++ .ref a :: r) = _; rw [List.map_append, List.map_reverse]; rfl) (lv_room (by rw [mx_cats]; exact hr8)) hd ⟨by omega, by omega⟩
theorem mxne_spec {o n z : Nat} (h : (mxne o).lookup n = some z) : o = 4 ∧ ((n = 19 ∧ mxms[z]? = some miX0_init) ∨ (n = 26 ∧ mxms[z]? = some miX3_init) ∨ (n = 173 ∧ mxms[z]? = some miX1_init)) := by
  have hm := mx_look h
  have ho : o = 4 := by
    unfold mxne at hm
    split at hm
    · rfl
    · exact absurd hm List.not_mem_nil
  subst ho
  have h2 : (n, z) ∈ [(19, 0), (26, 36), (173, 12)] := hm
  refine ⟨rfl, ?_⟩
  simp only [List.mem_cons, List.not_mem_nil, or_false, Prod.mk.injEq] at h2
  rcases h2 with ⟨rfl, rfl⟩ | ⟨rfl, rfl⟩ | ⟨rfl, rfl⟩
  · exact Or.inl ⟨rfl, rfl⟩
  · exact Or.inr (Or.inl ⟨rfl, rfl⟩)
  · exact Or.inr (Or.inr ⟨rfl, rfl⟩)
theorem md_nest (C : mxF p R s m args meth c b sa cA dC dI i) {z n a : Nat} {zi : mxi} {rz : Option Value} {wz : mxW} (hd : decode (mxi_c i) pc = .ok (.invokespecial n, 3)) (hl : (mxne (mxi_o i)).lookup n = some z) (hz : mxms[z]? = some zi) (hR : mxi_f zi + 1 ≤ mxi_f i ∧ 8 + (mxi_L zi + 11) + mxi_l zi ≤ mxi_l i) (hr8 : mxsum r ≤ 8) (hM : mxM l b sa cA dC dI zi [.ref a] w rz wz) (hg : w.1.length ≤ wz.1.length ∧ mxsl w ≤ mxsl wz) (hRc : wz.1.length ≤ R.cells + c0) (hRs : mxsl wz ≤ R.slots + s0)
    (K : mxD p l e R s m args below meth c b sa cA dC dI i Qf c0 s0 (pc + 3) lv (rz.toList ++ r) wz) : mxD p l e R s m args below meth c b sa cA dC dI i Qf c0 s0 pc lv (.ref a :: r) w := by
  intro H locs cells slots ls h1 h2 h3 h4 h5 h6
  have hm := List.mem_of_getElem? hz
  obtain ⟨q1, q2, q3, q4, q5, q6⟩ := mx_nam hm
  have hown := C.own
  obtain ⟨ho, hcase⟩ := mxne_spec hl
  rw [ho] at hown
  have hini := C.ts _ (mk_ini zi hm)
  have hfacts : mxi_s zi = false ∧ mxi_I zi = true ∧ mxi_a zi = 0 ∧ mxi_r zi = none ∧ va_Nw (.methodLinkNest (mxo 4) n (mxi_n zi) RX4) s := by
    rcases hcase with ⟨rfl, hh⟩ | ⟨rfl, hh⟩ | ⟨rfl, hh⟩
    · cases hz.symm.trans hh; exact ⟨rfl, rfl, rfl, rfl, C.G.2.1.1⟩
    · cases hz.symm.trans hh; exact ⟨rfl, rfl, rfl, rfl, C.G.2.1.2.1⟩
    · cases hz.symm.trans hh; exact ⟨rfl, rfl, rfl, rfl, C.G.2.1.2.2⟩
  obtain ⟨f1, f2, f3, f4, f5⟩ := hfacts
  have hks := mk_knd zi hm
  rw [if_neg (by rw [f1]; decide)] at hks
  refine mr_go (a := (Value.ref (b + a) :: []).toArray) (w := w) (lv := lv) (mc := wz.1.length - w.1.length) (ms := mxsl wz - mxsl w) C h1 h3 h4 (by omega) (by omega) hg.1 ?_ K
  have cw := va_cnB (R := R) (mxi_a zi) C.ts (mx_good hm) (bytes := mxi_c zi) (maxL := mxi_L zi) (ret := mxi_r zi) rfl (rm := { frames := mxi_f zi, cells := wz.1.length - w.1.length, slots := mxsl wz - mxsl w, locals := mxi_l zi }) rfl rfl f5 (by rw [q1]; exact hini) ⟨q3, q4, q5⟩ ⟨by rw [C.fr]; exact hR.1, by rw [C.lo]; exact hR.2⟩
  rw [f4] at cw
  exact va_runIN (As := []) (b := b + a) (nL := mxi_L i) ⟨C.x, C.bb, C.ml, hown, C.ts⟩ hM ⟨cw, q6 f2, C.ts _ hks⟩ ⟨mxH_blind, mx_pre C h1 h2 h3 [.ref a]⟩ rfl (by rw [f3]; rfl) h4.1 rfl (lv_room (by rw [mx_cats]; exact hr8)) hd ⟨by omega, by omega⟩
theorem md_init (C : mxF p R s m args meth c b sa cA dC dI i) {z n a : Nat} {zi : mxi} {rz : Option Value} {wz : mxW} (hd : decode (mxi_c i) pc = .ok (.invokespecial n, 3)) (hl : (mxca (mxi_o i)).lookup n = some z) (hz : mxms[z]? = some zi) (f2 : mxi_I zi = true) (f3 : mxi_a zi = 0) (f1 : mxi_s zi = false) (f4 : mxi_r zi = none) (hR : mxi_f zi + 1 ≤ mxi_f i ∧ 8 + (mxi_L zi + 11) + mxi_l zi ≤ mxi_l i) (hr8 : mxsum r ≤ 8) (hM : mxM l b sa cA dC dI zi [.ref a] w rz wz) (hg : w.1.length ≤ wz.1.length ∧ mxsl w ≤ mxsl wz) (hRc : wz.1.length ≤ R.cells + c0) (hRs : mxsl wz ≤ R.slots + s0)
    (K : mxD p l e R s m args below meth c b sa cA dC dI i Qf c0 s0 (pc + 3) lv (rz.toList ++ r) wz) : mxD p l e R s m args below meth c b sa cA dC dI i Qf c0 s0 pc lv (.ref a :: r) w := by
  intro H locs cells slots ls h1 h2 h3 h4 h5 h6
  have hm := List.mem_of_getElem? hz
  obtain ⟨q1, q2, q3, q4, q5, q6⟩ := mx_nam hm
  have hks := mk_knd zi hm
  rw [if_neg (by rw [f1]; decide)] at hks
  refine mr_go (a := (Value.ref (b + a) :: []).toArray) (w := w) (lv := lv) (mc := wz.1.length - w.1.length) (ms := mxsl wz - mxsl w) C h1 h3 h4 (by omega) (by omega) hg.1 ?_ K
  have cw := mx_B (mc := wz.1.length - w.1.length) (ms := mxsl wz - mxsl w) C hz hl hR
  rw [f4] at cw
  exact va_runI (As := []) (b := b + a) (nL := mxi_L i) ⟨C.x, C.bb, C.ml, C.own, C.ts⟩ hM ⟨cw, q6 f2, C.ts _ hks⟩ ⟨mxH_blind, mx_pre C h1 h2 h3 [.ref a]⟩ rfl (by rw [f3]; rfl) h4.1 rfl (lv_room (by rw [mx_cats]; exact hr8)) hd ⟨by omega, by omega⟩
theorem md_objInit (C : mxF p R s m args meth c b sa cA dC dI i) {n a : Nat} (hd : decode (mxi_c i) pc = .ok (.invokespecial n, 3)) (hl : n ∈ mxoi (mxi_o i)) (hR : 1 ≤ mxi_f i ∧ 12 ≤ mxi_l i) (K : mxD p l e R s m args below meth c b sa cA dC dI i Qf c0 s0 (pc + 3) lv [] w) : mxD p l e R s m args below meth c b sa cA dC dI i Qf c0 s0 pc lv [.ref a] w := by
  intro H locs cells slots ls h1 h2 h3 h4 h5 h6
  refine W.objInit C.x C.bb C.own (C.ts _ (mk_oi (mxi_o i) n hl)) (C.ts _ mk_obi) (C.ts _ mk_obc) rfl (by rw [C.ml]; exact h4.1) rfl hd (by rw [C.fr]; exact hR.1) (by rw [C.lo]; exact hR.2) ?_
  exact W.eq (g2 := F0 m (pc + 3) ls []) rfl (K H locs cells slots ls h1 h2 h3 h4 h5 h6)
theorem md_max (C : mxF p R s m args meth c b sa cA dC dI i) {n : Nat} {x y : Int32} (hd : decode (mxi_c i) pc = .ok (.invokestatic n, 3)) (hl : (mxma (mxi_o i)).lookup n = some 0) (hR : 1 ≤ mxi_f i ∧ 21 ≤ mxi_l i) (hr8 : mxsum r ≤ 8) (hRc : w.1.length ≤ R.cells + c0) (hRs : mxsl w ≤ R.slots + s0) (K : mxD p l e R s m args below meth c b sa cA dC dI i Qf c0 s0 (pc + 3) lv (.int (if x < y then y else x) :: r) w) : mxD p l e R s m args below meth c b sa cA dC dI i Qf c0 s0 pc lv (.int y :: .int x :: r) w := by
  intro H locs cells slots ls h1 h2 h3 h4 h5 h6
  have q := mk_ma (mxi_o i) _ (mx_look hl)
  rw [if_pos rfl] at q
  exact va_mmax C.x C.bb (by rw [C.ml]; exact h4.1.symm) C.own (C.ts _ q) (C.ts _ mk_maxs) (C.ts _ mk_mini) (C.ts _ mk_maxc) (by rw [C.fr]; exact hR.1) (by rw [C.lo, mx_cats]; omega) (by omega) (by omega) hd (K H locs cells slots ls h1 h2 h3 h4 h5 h6)
theorem md_min (C : mxF p R s m args meth c b sa cA dC dI i) {n : Nat} {x y : Int32} (hd : decode (mxi_c i) pc = .ok (.invokestatic n, 3)) (hl : (mxma (mxi_o i)).lookup n = some 1) (hR : 1 ≤ mxi_f i ∧ 21 ≤ mxi_l i) (hr8 : mxsum r ≤ 8) (hRc : w.1.length ≤ R.cells + c0) (hRs : mxsl w ≤ R.slots + s0) (K : mxD p l e R s m args below meth c b sa cA dC dI i Qf c0 s0 (pc + 3) lv (.int (if y < x then y else x) :: r) w) : mxD p l e R s m args below meth c b sa cA dC dI i Qf c0 s0 pc lv (.int y :: .int x :: r) w := by
  intro H locs cells slots ls h1 h2 h3 h4 h5 h6
  have q := mk_ma (mxi_o i) _ (mx_look hl)
  rw [if_neg (show ¬ (1 : Nat) = 0 by decide)] at q
  exact va_mmin C.x C.bb (by rw [C.ml]; exact h4.1.symm) C.own (C.ts _ q) (C.ts _ mk_mins) (C.ts _ mk_mini) (C.ts _ mk_minc) (by rw [C.fr]; exact hR.1) (by rw [C.lo, mx_cats]; omega) (by omega) (by omega) hd (K H locs cells slots ls h1 h2 h3 h4 h5 h6)
theorem mx_end (C : mxF p R s m args meth c b sa cA dC dI i) {H : Heap} {locs : List Loc} {rv : Option Value} (h1 : H.size = b + w.1.length) (h2 : va_P (dC, dI) vwCl (mxP b sa cA w) H) (h3 : va_S (fun q => b ≤ q) s.heap H locs) : ∀ t : State, t.heap = H → s.WarmedH t.vm → mxQc b sa cA dC dI rv w args s (.returned (rv.map (mxv b sa))) t :=
  fun t ht hW => ⟨rfl, ⟨by rw [ht]; exact h1, by rw [ht]; exact h2, C.G.moved hW (fun q g1 g2 => by rw [ht]; exact h3.2.1 q g1 g2)⟩, fun q hq => by rw [ht]; exact h3.2.1 q (Nat.lt_of_lt_of_le hq C.bs) (Nat.not_le.mpr hq)⟩
theorem md_iret (C : mxF p R s m args meth c b sa cA dC dI i) {v : Int32} {ty : FieldType} {mc ms : Nat} (hd : decode (mxi_c i) pc = .ok (.ireturn, 1)) (hr : mxi_r i = some ty) (hv : mxnr ty v = true) (hmc : mc + c0 = w.1.length) (hms : ms + s0 = mxsl w) : mxD p l e R s m args below meth c b sa cA dC dI i (MQ below (mxQc b sa cA dC dI (some (.int v)) w) args s mc ms (fun q => b ≤ q)) c0 s0 pc lv [.int v] w := by
  intro H locs cells slots ls h1 h2 h3 h4 h5 h6
  obtain rfl : cells = mc := by omega
  obtain rfl : slots = ms := by omega
  have hn : narrow ty (.int v) = .int v := by
    unfold mxnr at hv
    split at hv
    · rfl
    · simp only [Bool.or_eq_true, beq_iff_eq] at hv
      rcases hv with rfl | rfl <;> rfl
    · simp only [beq_iff_eq] at hv
      show Value.int _ = _
      rw [hv]
    · simp only [beq_iff_eq] at hv
      show Value.int _ = _
      rw [hv]
    · cases hv
  exact W.zret C.x C.bb (C.rr.trans hr) hn (mx_end (rv := some (.int v)) C h1 h2 h3) h3.2.2 hd C.lk
theorem md_lret (C : mxF p R s m args meth c b sa cA dC dI i) {v : Int64} {mc ms : Nat} (hd : decode (mxi_c i) pc = .ok (.lreturn, 1)) (hr : mxi_r i = some .long) (hmc : mc + c0 = w.1.length) (hms : ms + s0 = mxsl w) : mxD p l e R s m args below meth c b sa cA dC dI i (MQ below (mxQc b sa cA dC dI (some (.long v)) w) args s mc ms (fun q => b ≤ q)) c0 s0 pc lv [.long v] w := by
  intro H locs cells slots ls h1 h2 h3 h4 h5 h6
  obtain rfl : cells = mc := by omega
  obtain rfl : slots = ms := by omega
  exact W.lret C.x C.bb (C.rr.trans hr) (mx_end (rv := some (.long v)) C h1 h2 h3) h3.2.2 hd C.lk
theorem md_aret (C : mxF p R s m args meth c b sa cA dC dI i) {v : Nat} {t : String} {mc ms : Nat} (hd : decode (mxi_c i) pc = .ok (.areturn, 1)) (hr : mxi_r i = some (.object t)) (hmc : mc + c0 = w.1.length) (hms : ms + s0 = mxsl w) : mxD p l e R s m args below meth c b sa cA dC dI i (MQ below (mxQc b sa cA dC dI (some (.ref v)) w) args s mc ms (fun q => b ≤ q)) c0 s0 pc lv [.ref v] w := by
  intro H locs cells slots ls h1 h2 h3 h4 h5 h6
  obtain rfl : cells = mc := by omega
  obtain rfl : slots = ms := by omega
  exact W.aret C.x C.bb (C.rr.trans hr) (Or.inl ⟨t, rfl⟩) (Or.inr ⟨b + v, rfl⟩) (mx_end (rv := some (.ref v)) C h1 h2 h3) h3.2.2 hd C.lk
theorem md_vret (C : mxF p R s m args meth c b sa cA dC dI i) {mc ms : Nat} (hd : decode (mxi_c i) pc = .ok (.return_, 1)) (hr : mxi_r i = none) (hmc : mc + c0 = w.1.length) (hms : ms + s0 = mxsl w) : mxD p l e R s m args below meth c b sa cA dC dI i (MQ below (mxQc b sa cA dC dI none w) args s mc ms (fun q => b ≤ q)) c0 s0 pc lv [] w := by
  intro H locs cells slots ls h1 h2 h3 h4 h5 h6
  obtain rfl : cells = mc := by omega
  obtain rfl : slots = ms := by omega
  exact W.vret C.x C.bb (C.rr.trans hr) (mx_end (rv := none) C h1 h2 h3) h3.2.2 hd C.lk
end MD4
