section MD5
variable {p : Program} {l : Launch} {e : Env} {R : Room} {s : State} {m : MethodId} {args : Array Value} {below : List Frame} {meth : Method} {c : Code} {b : Nat} {sa : Nat → Nat} {cA : Nat → ClassId} {dC : Nat → ClassId} {dI : Nat → Nat → Nat} {i : mxi} {Qf : State → Prop} {c0 s0 : Nat} {pc : Nat} {lv : mxV} {r : List Value} {w : mxW}
theorem mxsi_spec {o n : Nat} {v : Int32} (h : mxsi o n = some v) : o = 9 ∧ n = 38 ∧ v = 1 := by
  unfold mxsi at h
  split at h
  · cases h; exact ⟨rfl, rfl, rfl⟩
  · cases h
theorem mxfs_spec {o n q : Nat} (h : mxfs o n = some q) : o = 9 ∧ ((n = 9 ∧ q = 0) ∨ (n = 15 ∧ q = 1)) := by
  unfold mxfs at h
  split at h
  · cases h; exact ⟨rfl, Or.inl ⟨rfl, rfl⟩⟩
  · cases h; exact ⟨rfl, Or.inr ⟨rfl, rfl⟩⟩
  · cases h
theorem mxsb_spec {j : Nat} {t : List Int32} (h : mxsb j = some t) : ∃ q, q < 7 ∧ j = 10 + q ∧ mxsB.getD q [] = t ∧ mxsL.getD q 0 = t.length := by
  unfold mxsb at h
  cases hb : Nat.ble 10 j with
  | false => rw [hb] at h; cases h
  | true =>
    rw [hb] at h
    replace h : mxsB[j - 10]? = some t := h
    have hj := Nat.ble_eq.mp hb
    obtain ⟨hl, hv⟩ := List.getElem?_eq_some_iff.mp h
    have hl7 : j - 10 < 7 := hl
    have hall : ∀ q, q < 7 → mxsL.getD q 0 = (mxsB.getD q []).length := by decide
    refine ⟨j - 10, hl7, by omega, by rw [List.getD_eq_getElem?_getD, h]; rfl, ?_⟩
    rw [hall _ hl7, List.getD_eq_getElem?_getD, h]
    rfl
theorem md_ldcS (C : mxF p R s m args meth c b sa cA dC dI i) {n j : Nat} (hd : decode (mxi_c i) pc = .ok (.ldc n, 2)) (hc : (mxss (mxi_o i)).lookup n = some j) (K : mxD p l e R s m args below meth c b sa cA dC dI i Qf c0 s0 (pc + 2) lv (.retAddr (3 + j) :: r) w) : mxD p l e R s m args below meth c b sa cA dC dI i Qf c0 s0 pc lv r w :=
  fun H locs cells slots ls h1 h2 h3 h4 h5 h6 => va_ldcS C.x C.bb C.own (C.G.2.2.2.1 _ _ _ hc) hd (K H locs cells slots ls h1 h2 h3 h4 h5 h6)
theorem md_getsI (C : mxF p R s m args meth c b sa cA dC dI i) {n : Nat} {v : Int32} (hd : decode (mxi_c i) pc = .ok (.getstatic n, 3)) (hc : mxsi (mxi_o i) n = some v) (K : mxD p l e R s m args below meth c b sa cA dC dI i Qf c0 s0 (pc + 3) lv (.int v :: r) w) : mxD p l e R s m args below meth c b sa cA dC dI i Qf c0 s0 pc lv r w := by
  intro H locs cells slots ls h1 h2 h3 h4 h5 h6
  have hown := C.own
  obtain ⟨ho, hn, hv⟩ := mxsi_spec hc
  subst hn; subst hv
  rw [ho] at hown
  exact va_gets C.x C.bb C.G.2.2.2.2.2.1 h3 hown (C.ts _ mk_fjz) (fun _ h => h) hd (K H locs cells slots ls h1 h2 h3 h4 h5 h6)
theorem mx_str {j : Nat} (hj : (Nat.ble 3 j && Nat.blt j 10) = true) : ∃ q, q < 7 ∧ j = 3 + q := by
  simp only [Bool.and_eq_true, Nat.ble_eq, Nat.blt_eq] at hj
  exact ⟨j - 3, by omega, by omega⟩
theorem md_getS0 (C : mxF p R s m args meth c b sa cA dC dI i) {n j : Nat} (hd : decode (mxi_c i) pc = .ok (.getfield n, 3)) (hc : mxfs (mxi_o i) n = some 0) (hj : (Nat.ble 3 j && Nat.blt j 10) = true) (K : mxD p l e R s m args below meth c b sa cA dC dI i Qf c0 s0 (pc + 3) lv (.retAddr (j + 7) :: r) w) : mxD p l e R s m args below meth c b sa cA dC dI i Qf c0 s0 pc lv (.retAddr j :: r) w := by
  intro H locs cells slots ls h1 h2 h3 h4 h5 h6
  have hown := C.own
  obtain ⟨q, hq, rfl⟩ := mx_str hj
  obtain ⟨ho, ⟨hn, -⟩ | ⟨-, hv⟩⟩ := mxfs_spec hc
  · subst hn
    rw [ho] at hown
    rw [show 3 + q + 7 = 10 + q by omega] at K
    exact vk_getf C.x C.bb (C.G.2.2.2.2.1.1 q hq).2.2.1 h3 hown (C.ts _ mk_fjv) (fun _ h => h) hd (K H locs cells slots ls h1 h2 h3 h4 h5 h6)
  · cases hv
theorem md_getS1 (C : mxF p R s m args meth c b sa cA dC dI i) {n j : Nat} (hd : decode (mxi_c i) pc = .ok (.getfield n, 3)) (hc : mxfs (mxi_o i) n = some 1) (hj : (Nat.ble 3 j && Nat.blt j 10) = true) (K : mxD p l e R s m args below meth c b sa cA dC dI i Qf c0 s0 (pc + 3) lv (.int 0 :: r) w) : mxD p l e R s m args below meth c b sa cA dC dI i Qf c0 s0 pc lv (.retAddr j :: r) w := by
  intro H locs cells slots ls h1 h2 h3 h4 h5 h6
  have hown := C.own
  obtain ⟨q, hq, rfl⟩ := mx_str hj
  obtain ⟨ho, ⟨-, hv⟩ | ⟨hn, -⟩⟩ := mxfs_spec hc
  · cases hv
  · subst hn
    rw [ho] at hown
    exact vk_getf C.x C.bb (C.G.2.2.2.2.1.1 q hq).2.1 h3 hown (C.ts _ mk_fjc) (fun _ h => h) hd (K H locs cells slots ls h1 h2 h3 h4 h5 h6)
theorem md_alenB (C : mxF p R s m args meth c b sa cA dC dI i) {j : Nat} {t : List Int32} (hd : decode (mxi_c i) pc = .ok (.arraylength, 1)) (hs : mxsb j = some t) (K : mxD p l e R s m args below meth c b sa cA dC dI i Qf c0 s0 (pc + 1) lv (.int (Int32.ofNat t.length) :: r) w) : mxD p l e R s m args below meth c b sa cA dC dI i Qf c0 s0 pc lv (.retAddr j :: r) w := by
  intro H locs cells slots ls h1 h2 h3 h4 h5 h6
  obtain ⟨q, hq, rfl, e1, e2⟩ := mxsb_spec hs
  exact va_tlen C.x C.bb (C.G.2.2.2.2.1.1 q hq).2.2.2 h3 (by rw [e2]) hd (K H locs cells slots ls h1 h2 h3 h4 h5 h6)
theorem md_baldS (C : mxF p R s m args meth c b sa cA dC dI i) {j : Nat} {x : Int32} {t : List Int32} (hd : decode (mxi_c i) pc = .ok (.baload, 1)) (hs : mxsb j = some t) (hin : vp_in x t.length) (K : mxD p l e R s m args below meth c b sa cA dC dI i Qf c0 s0 (pc + 1) lv (.int (t.getD x.toNatClampNeg 0) :: r) w) : mxD p l e R s m args below meth c b sa cA dC dI i Qf c0 s0 pc lv (.int x :: .retAddr j :: r) w := by
  intro H locs cells slots ls h1 h2 h3 h4 h5 h6
  obtain ⟨q, hq, rfl, e1, e2⟩ := mxsb_spec hs
  exact va_tb C.x C.bb (C.G.2.2.2.2.1.1 q hq).2.2.2 h3 (by rw [e2]; exact hin) (by rw [e1]; rfl) hd (K H locs cells slots ls h1 h2 h3 h4 h5 h6)
theorem md_i2c (C : mxF p R s m args meth c b sa cA dC dI i) {x : Int32} (hd : decode (mxi_c i) pc = .ok (.i2c, 1)) (K : mxD p l e R s m args below meth c b sa cA dC dI i Qf c0 s0 (pc + 1) lv (.int (x.toUInt32 % 65536).toInt32 :: r) w) : mxD p l e R s m args below meth c b sa cA dC dI i Qf c0 s0 pc lv (.int x :: r) w :=
  fun H locs cells slots ls h1 h2 h3 h4 h5 h6 => lv_i2c C.x C.bb hd rfl (K H locs cells slots ls h1 h2 h3 h4 h5 h6)
theorem md_aretS (C : mxF p R s m args meth c b sa cA dC dI i) {v : Nat} {t : String} {mc ms : Nat} (hd : decode (mxi_c i) pc = .ok (.areturn, 1)) (hr : mxi_r i = some (.object t)) (hmc : mc + c0 = w.1.length) (hms : ms + s0 = mxsl w) : mxD p l e R s m args below meth c b sa cA dC dI i (MQ below (mxQc b sa cA dC dI (some (.retAddr v)) w) args s mc ms (fun q => b ≤ q)) c0 s0 pc lv [.retAddr v] w := by
  intro H locs cells slots ls h1 h2 h3 h4 h5 h6
  obtain rfl : cells = mc := by omega
  obtain rfl : slots = ms := by omega
  exact W.aret C.x C.bb (C.rr.trans hr) (Or.inl ⟨t, rfl⟩) (Or.inr ⟨sa v, rfl⟩) (mx_end (rv := some (.retAddr v)) C h1 h2 h3) h3.2.2 hd C.lk
theorem md_virtS (C : mxF p R s m args meth c b sa cA dC dI i) {z n j : Nat} {zi : mxi} {vs : List Value} {rz : Option Value} {wz : mxW} (hd : decode (mxi_c i) pc = .ok (.invokevirtual n, 3)) (hl : (mxca (mxi_o i)).lookup n = some z) (hz : mxms[z]? = some zi) (hst : mxi_s zi = false) (hsI : mxi_I zi = false) (ho : mxi_o zi = 9) (hj : (Nat.ble 3 j && Nat.blt j 10) = true) (hn : vs.length = mxi_a zi) (hR : mxi_f zi + 1 ≤ mxi_f i ∧ 8 + (mxi_L zi + 11) + mxi_l zi ≤ mxi_l i) (hr8 : mxsum r ≤ 8) (hM : mxM l b sa cA dC dI zi (.retAddr j :: vs) w rz wz) (hg : w.1.length ≤ wz.1.length ∧ mxsl w ≤ mxsl wz) (hRc : wz.1.length ≤ R.cells + c0) (hRs : mxsl wz ≤ R.slots + s0)
    (K : mxD p l e R s m args below meth c b sa cA dC dI i Qf c0 s0 (pc + 3) lv (rz.toList ++ r) wz) : mxD p l e R s m args below meth c b sa cA dC dI i Qf c0 s0 pc lv (vs.reverse ++ .retAddr j :: r) w := by
  intro H locs cells slots ls h1 h2 h3 h4 h5 h6
  have hm := List.mem_of_getElem? hz
  have hks := mk_knd zi hm
  rw [if_neg (by rw [hst]; decide)] at hks
  have hse := mk_sel zi hm
  rw [if_neg (by rw [hst, hsI]; decide)] at hse
  obtain ⟨q, hq, rfl⟩ := mx_str hj
  have hrc := vk_recv C.G.2.2.2.2.1 hq h3
  have hcn : mxo (mxi_o zi) = "java/lang/String" := by rw [ho]; rfl
  refine mr_go (a := (Value.ref (sa (3 + q)) :: vs.map (mxv b sa)).toArray) (w := w) (lv := lv) (mc := wz.1.length - w.1.length) (ms := mxsl wz - mxsl w) C h1 h3 h4 (by omega) (by omega) hg.1 ?_ K
  exact va_runV (As := vs.map (mxv b sa)) (b := sa (3 + q)) (C := mxo (mxi_o zi)) (nL := mxi_L i) ⟨C.x, C.bb, C.ml, C.own, C.ts⟩ hM ⟨mx_B C hz hl hR, C.ts _ hks, C.ts _ hse⟩ ⟨mxH_blind, by rw [hcn]; exact hrc, mx_pre C h1 h2 h3 (.retAddr (3 + q) :: vs)⟩ rfl (by rw [List.length_map]; exact hn) h4.1 (by show List.map (mxv b sa) (vs.reverse ++ .retAddr (3 + q) :: r) = _; rw [List.map_append, List.map_reverse]; rfl) (lv_room (by rw [mx_cats]; exact hr8)) hd ⟨by omega, by omega⟩
end MD5
