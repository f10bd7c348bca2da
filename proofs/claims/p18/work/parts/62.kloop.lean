/-! the law's loop, and the claim -/
theorem sp_of {x : Int32} {n : Int} {v : Int32} (hv : v.toInt = n) (h : x.toInt = n) : x = v := Int32.toInt_inj.mp (h.trans hv.symm)
theorem Inv_mono {w : mxW} {B C : Nat} (h : Inv w B) (hB : B ≤ C) : Inv w C := ⟨h.1, Nat.le_trans h.2.1 (by omega), Nat.le_trans h.2.2 (by omega)⟩
set_option maxRecDepth 100000 in
theorem sw_ok {L : Nat} {xs : Nat → Int32} {i : Int32} {w : mxW} (v : Int32) (h0 : mxOk L xs 116 (LV i) [] w) (h1 : mxOk L xs 179 (LV i) [] w) (h2 : mxOk L xs 202 (LV i) [] w) (h3 : mxOk L xs 215 (LV i) [] w) (h4 : mxOk L xs 238 (LV i) [] w) (h5 : mxOk L xs 271 (LV i) [] w) (h6 : mxOk L xs 334 (LV i) [] w) (h7 : mxOk L xs 367 (LV i) [] w) (h8 : mxOk L xs 380 (LV i) [] w) (h9 : mxOk L xs 403 (LV i) [] w) (h10 : mxOk L xs 426 (LV i) [] w) (h11 : mxOk L xs 449 (LV i) [] w) (h12 : mxOk L xs 482 (LV i) [] w) (h13 : mxOk L xs 525 (LV i) [] w) (h14 : mxOk L xs 548 (LV i) [] w) (h15 : mxOk L xs 571 (LV i) [] w) (h16 : mxOk L xs 604 (LV i) [] w) (hd : mxOk L xs 627 (LV i) [] w) : mxOk L xs 33 (LV i) [.int v] w := by
  by_cases h : v.toInt < 0 ∨ 16 < v.toInt
  · have hb : (decide (v.toInt < 0) || decide (16 < v.toInt)) = true := by
      rw [Bool.or_eq_true, decide_eq_true_eq, decide_eq_true_eq]
      exact h
    exact mxOk.it2 1 0 (bb := (decide (v.toInt < 0) || decide (16 < v.toInt))) (fun n => rfl) hb hd
  · have hv : v.toInt = 0 ∨ v.toInt = 1 ∨ v.toInt = 2 ∨ v.toInt = 3 ∨ v.toInt = 4 ∨ v.toInt = 5 ∨ v.toInt = 6 ∨ v.toInt = 7 ∨ v.toInt = 8 ∨ v.toInt = 9 ∨ v.toInt = 10 ∨ v.toInt = 11 ∨ v.toInt = 12 ∨ v.toInt = 13 ∨ v.toInt = 14 ∨ v.toInt = 15 ∨ v.toInt = 16 := by omega
    rcases hv with hv | hv | hv | hv | hv | hv | hv | hv | hv | hv | hv | hv | hv | hv | hv | hv | hv
    · have e := sp_of (v := 0) (n := 0) rfl hv
      subst e
      exact mxOk.g2 1 0 (fun n => rfl) h0
    · have e := sp_of (v := 1) (n := 1) rfl hv
      subst e
      exact mxOk.g2 1 0 (fun n => rfl) h1
    · have e := sp_of (v := 2) (n := 2) rfl hv
      subst e
      exact mxOk.g2 1 0 (fun n => rfl) h2
    · have e := sp_of (v := 3) (n := 3) rfl hv
      subst e
      exact mxOk.g2 1 0 (fun n => rfl) h3
    · have e := sp_of (v := 4) (n := 4) rfl hv
      subst e
      exact mxOk.g2 1 0 (fun n => rfl) h4
    · have e := sp_of (v := 5) (n := 5) rfl hv
      subst e
      exact mxOk.g2 1 0 (fun n => rfl) h5
    · have e := sp_of (v := 6) (n := 6) rfl hv
      subst e
      exact mxOk.g2 1 0 (fun n => rfl) h6
    · have e := sp_of (v := 7) (n := 7) rfl hv
      subst e
      exact mxOk.g2 1 0 (fun n => rfl) h7
    · have e := sp_of (v := 8) (n := 8) rfl hv
      subst e
      exact mxOk.g2 1 0 (fun n => rfl) h8
    · have e := sp_of (v := 9) (n := 9) rfl hv
      subst e
      exact mxOk.g2 1 0 (fun n => rfl) h9
    · have e := sp_of (v := 10) (n := 10) rfl hv
      subst e
      exact mxOk.g2 1 0 (fun n => rfl) h10
    · have e := sp_of (v := 11) (n := 11) rfl hv
      subst e
      exact mxOk.g2 1 0 (fun n => rfl) h11
    · have e := sp_of (v := 12) (n := 12) rfl hv
      subst e
      exact mxOk.g2 1 0 (fun n => rfl) h12
    · have e := sp_of (v := 13) (n := 13) rfl hv
      subst e
      exact mxOk.g2 1 0 (fun n => rfl) h13
    · have e := sp_of (v := 14) (n := 14) rfl hv
      subst e
      exact mxOk.g2 1 0 (fun n => rfl) h14
    · have e := sp_of (v := 15) (n := 15) rfl hv
      subst e
      exact mxOk.g2 1 0 (fun n => rfl) h15
    · have e := sp_of (v := 16) (n := 16) rfl hv
      subst e
      exact mxOk.g2 1 0 (fun n => rfl) h16
theorem i_toInt {k : Int} (h0 : 0 ≤ k) (h1 : k ≤ 4000) : (Int32.ofInt k).toInt = k := Int32.toInt_ofInt_of_le (by omega) (by omega)
theorem in_of {L : Nat} {k : Int} (hL : L ≤ 3072) (h0 : 0 ≤ k) (h : k < L) : mxin (Int32.ofInt k) L = true := by
  have e := i_toInt h0 (by omega)
  unfold mxin
  rw [Bool.and_eq_true]
  refine ⟨?_, Nat.blt_eq.mpr ?_⟩
  · rw [Bool.not_eq_true', decide_eq_false_iff_not, Int32.lt_iff_toInt_lt, e]
    exact Int.not_lt.mpr h0
  · show (Int32.ofInt k).toInt.toNat < L
    rw [e]
    omega
theorem lim_eq (L : Nat) : Int32.ofNat L - (Int8.ofInt 6).toInt32 = Int32.ofInt ((L : Int) - 6) := by
  rw [Int32.ofInt_sub, Int32.ofInt_eq_ofNat]
  rfl
theorem lim_int {L : Nat} (hL : L ≤ 3072) : (Int32.ofNat L - (Int8.ofInt 6).toInt32).toInt = (L : Int) - 6 := by
  rw [lim_eq]
  exact Int32.toInt_ofInt_of_le (by omega) (by omega)
set_option maxRecDepth 100000 in
theorem lp_exit {L : Nat} {xs : Nat → Int32} (hL : L ≤ 3072) {k : Nat} {w : mxW} (hk : k ≤ 3078) (h : L < k + 6) (hI : Inv w k) : mxOk L xs 18 (LV (Int32.ofInt k)) [] w := by
  have hb : Op.if_icmp.holds .gt (Int32.ofInt k) (Int32.ofNat L - (Int8.ofInt 6).toInt32) = true := by
    rw [hk_gt, lim_int hL, i_toInt (by omega) (by omega)]
    omega
  refine mxOk.it2 6 0 (bb := Op.if_icmp.holds .gt (Int32.ofInt k) (Int32.ofNat L - (Int8.ofInt 6).toInt32)) (pc' := 633) (lv' := LV (Int32.ofInt k)) (st' := []) (w' := w) (fun n => rfl) hb ?_
  exact mxOk.ret 2 (w' := w) (fun n => rfl) (Nat.le_trans hI.2.1 (by omega)) (Nat.le_trans hI.2.2 (by omega))
set_option maxRecDepth 100000 in
theorem lp_ok {L : Nat} {xs : Nat → Int32} (hL : L ≤ 3072) : ∀ (N k : Nat) (w : mxW), L + 1 ≤ k + N → k ≤ 3078 → Inv w k → mxOk L xs 18 (LV (Int32.ofInt k)) [] w := by
  intro N
  induction N with
  | zero => exact fun k w h1 h2 hI => lp_exit hL h2 (by omega) hI
  | succ N ih =>
    intro k w h1 h2 hI
    rcases Nat.lt_or_ge L (k + 6) with hk | hk
    · exact lp_exit hL h2 hk hI
    · have hb : Op.if_icmp.holds .gt (Int32.ofInt k) (Int32.ofNat L - (Int8.ofInt 6).toInt32) = false := by
        rw [Bool.eq_false_iff]
        intro q
        rw [hk_gt, lim_int hL, i_toInt (by omega) (by omega)] at q
        omega
      refine mxOk.if2 6 0 (bb := Op.if_icmp.holds .gt (Int32.ofInt k) (Int32.ofNat L - (Int8.ofInt 6).toInt32)) (pc' := 27) (lv' := LV (Int32.ofInt k)) (st' := []) (w' := w) (fun n => rfl) hb ?_
      refine mxOk.it2 3 0 (bb := mxin (Int32.ofInt k) L) (pc' := 30) (lv' := LV (Int32.ofInt k)) (st' := [.int (xs (Int32.ofInt k).toNatClampNeg)]) (w' := w) (X := fun _ => none) (fun n => rfl) (in_of hL (by omega) (by omega)) ?_
      refine mxOk.g2 2 0 (pc' := 33) (lv' := LV (Int32.ofInt k)) (st' := [.int (xs (Int32.ofInt k).toNatClampNeg &&& (Int8.ofInt 31).toInt32)]) (w' := w) (fun n => rfl) ?_
      have hi : ∀ c : Int, 1 ≤ c → c ≤ 5 → mxin (Int32.ofInt k + Int32.ofInt c) L = true := fun c c1 c2 => by
        rw [← Int32.ofInt_add]
        exact in_of hL (by omega) (by omega)
      have fin : ∀ w' : mxW, Inv w' (k + 1) → mxOk L xs 627 (LV (Int32.ofInt k)) [] w' := fun w' hw' => by
        refine mxOk.g2 2 0 (pc' := 18) (lv' := LV (Int32.ofInt k + Int32.ofInt 6)) (st' := []) (w' := w') (fun n => rfl) ?_
        rw [← Int32.ofInt_add]
        exact ih (k + 6) w' (by omega) (by omega) (Inv_mono hw' (by omega))
      exact sw_ok _ (op_feed hi hI fin) (op_end hi hI fin) (op_house hi hI fin) (op_has hi hI fin) (op_cost hi hI fin) (op_task hi hI fin) (op_goes hi hI fin) (op_drop hi hI fin) (op_begin hi hI fin) (op_letter hi hI fin) (op_row hi hI fin) (op_ticket hi hI fin) (op_walk hi hI fin) (op_least hi hI fin) (op_walked hi hI fin) (op_mend hi hI fin) (op_count hi hI fin) (fin w (Inv_mono hI (by omega)))
theorem run_ok {L : Nat} {xs : Nat → Int32} (hL : L ≤ 3072) : ∃ (n : Nat) (w : mxW), mxevL L xs n 0 [(0, .retAddr 2)] [] mxw0 = some (some (.int 1), w) ∧ w.1.length ≤ 600000 ∧ mxsl w ≤ 7302250 := by
  have hI : Inv wA 0 := ⟨Or.inl ⟨ρA, γA⟩, Nat.le_of_ble_eq_true rfl, Nat.le_of_ble_eq_true rfl⟩
  have e : Int32.ofInt ((0 : Nat) : Int) = 0 := rfl
  have h := lp_ok (xs := xs) hL (L + 1) 0 wA (by omega) (by omega) hI
  rw [e] at h
  obtain ⟨w', ⟨N, hN⟩, h1, h2⟩ := p1_init L xs h
  exact ⟨0 + N, w', hN 0, h1, h2⟩
