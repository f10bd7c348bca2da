/-! placeOf, meets, leads, the clear loop: what they do -/
theorem ix_ok {h : Int32} {N : Nat} (h0 : 0 ≤ h.toInt) (h1 : h.toInt < N) : mxin h N = true := by
  unfold mxin
  have h2 : ¬ (h < 0) := by
    rw [Int32.lt_iff_toInt_lt]
    show ¬ h.toInt < 0
    omega
  rw [decide_eq_false h2]
  show Nat.blt h.toInt.toNat N = true
  rw [Nat.blt_eq]
  omega
theorem cl_nat {h : Int32} : h.toNatClampNeg = h.toInt.toNat := rfl
theorem po_inc {h : Int32} (h0 : 0 ≤ h.toInt) (h1 : h.toInt < 65536) : ((h + 1) &&& 65535).toInt = if h.toInt = 65535 then 0 else h.toInt + 1 := by
  have e1 : (h + 1).toInt = h.toInt + 1 := by
    rw [Int32.toInt_add]
    have c1 : (1 : Int32).toInt = 1 := rfl
    rw [c1]
    exact Int.bmod_eq_of_le (by omega) (by omega)
  obtain ⟨a1, a2⟩ := sx_nn (h + 1) (k := 65537) (by omega) (by omega)
  have hn : ((h + 1) &&& 65535).toBitVec.toNat = (h + 1).toBitVec.toNat % 65536 := by
    rw [Int32.toBitVec_and, BitVec.toNat_and]
    have : (65535 : Int32).toBitVec.toNat = 2 ^ 16 - 1 := rfl
    rw [this, Nat.and_two_pow_sub_one_eq_mod]
  have hlt : ((h + 1) &&& 65535).toBitVec.toNat < 65536 := by rw [hn]; exact Nat.mod_lt _ (by decide)
  have e3 : ((h + 1) &&& 65535).toInt = (((h + 1) &&& 65535).toBitVec.toNat : Int) := by
    show ((h + 1) &&& 65535).toBitVec.toInt = _
    rw [BitVec.toInt_eq_toNat_cond, if_pos (by omega)]
  rw [e3, hn]
  split <;> omega
theorem po_loop {a : Nat → Nat × Nat} {sh : List (Nat × Nat)} {I : Nat → Nat → Int32} {J : Nat → Nat → Int64} {Q : Nat → Nat → Value} {v : Int64} {z : Nat} (hz : z < 65536) (hz0 : I 24 z = 0) (hb : ∀ j, j < 65536 → 0 ≤ (I 24 j).toInt ∧ (I 24 j).toInt ≤ 20001) : ∀ (d : Nat) (h : Int32), 0 ≤ h.toInt → h.toInt < 65536 → (z + 65536 - h.toInt.toNat) % 65536 = d → ∃ h' : Int32, 0 ≤ h'.toInt ∧ h'.toInt < 65536 ∧ mxRn 115 17 [(0, .ref 9), (1, .long v), (3, .int h)] [] (shW a sh, I, J, QW Q) (some (.int h'), (shW a sh, I, J, QW Q)) := by
  intro d
  induction d with
  | zero =>
    intro h h0 h1 hd
    have e : h.toInt.toNat = z := by omega
    have hp : Op.ifCond.holds .le (I 24 h.toNatClampNeg) = true := hd_le_t (by rw [cl_nat, e, hz0]; decide)
    exact ⟨h, h0, h1, po_free (ix_ok h0 h1) hp po_end⟩
  | succ d ih =>
    intro h h0 h1 hd
    cases hp : Op.ifCond.holds .le (I 24 h.toNatClampNeg) with
    | true => exact ⟨h, h0, h1, po_free (ix_ok h0 h1) hp po_end⟩
    | false =>
      have hb1 := hb h.toInt.toNat (by omega)
      have hpos : 0 < (I 24 h.toNatClampNeg).toInt := by
        rcases Int.lt_or_le 0 (I 24 h.toNatClampNeg).toInt with g | g
        · exact g
        · rw [hd_le_t g] at hp
          cases hp
      have e1 : (I 24 h.toNatClampNeg - 1).toInt = (I 24 h.toNatClampNeg).toInt - 1 := by
        have c1 : (1 : Int32).toInt = 1 := rfl
        rw [cl_nat] at hpos ⊢
        rw [i32_sub (by rw [c1]; omega) (by rw [c1]; omega), c1]
      have hj : mxin (I 24 h.toNatClampNeg - 1) 20001 = true := by
        rw [cl_nat] at hpos e1 ⊢
        exact ix_ok (by omega) (by omega)
      cases hs : Op.ifCond.holds .eq (lg_cmp (J 21 (I 24 h.toNatClampNeg - 1).toNatClampNeg) v) with
      | true => exact ⟨h, h0, h1, po_same (ix_ok h0 h1) hp hj hs po_end⟩
      | false =>
        have hi := po_inc h0 h1
        obtain ⟨h', a1, a2, a3⟩ := ih ((h + 1) &&& 65535) (by rw [hi]; split <;> omega) (by rw [hi]; split <;> omega) (by rw [hi]; split <;> omega)
        exact ⟨h', a1, a2, po_next (ix_ok h0 h1) hp hj hs a3⟩
theorem le_loop {a : Nat → Nat × Nat} {sh : List (Nat × Nat)} {J : Nat → Nat → Int64} {Q : Nat → Nat → Value} {k l dp : Int32} : ∀ (d : Nat) (x s : Int32) (I : Nat → Nat → Int32), dpt (I 22) d s.toInt.toNat → 0 ≤ s.toInt → s.toInt < 20001 → (d : Int) ≤ x.toInt → x.toInt ≤ 9 → ∃ I' : Nat → Nat → Int32, (∀ c, c ≠ 25 → I' c = I c) ∧ mxRn 118 16 [(0, .ref 9), (1, .int k), (2, .int l), (3, .int dp), (4, .int x), (5, .int s)] [] (shW a sh, I, J, QW Q) (none, (shW a sh, I', J, QW Q)) := by
  intro d
  induction d with
  | zero =>
    intro x s I hd s0 s1 hx hx9
    have hz : Op.if_icmp.holds .eq (I 22 s.toNatClampNeg) (Int32.ofInt (-1)) = true := hc_eq_t (-1) rfl (by rw [cl_nat, show I 22 s.toInt.toNat = -1 from hd]; rfl)
    exact ⟨I, fun _ _ => rfl, le_a (ix_ok s0 s1) (le_c hz le_end)⟩
  | succ d ih =>
    intro x s I hd s0 s1 hx hx9
    cases hz : Op.if_icmp.holds .eq (I 22 s.toNatClampNeg) (Int32.ofInt (-1)) with
    | true => exact ⟨I, fun _ _ => rfl, le_a (ix_ok s0 s1) (le_c hz le_end)⟩
    | false =>
      rcases hd with hd | ⟨q, q1, q2, q3⟩
      · rw [hc_eq_t (-1) rfl (by rw [cl_nat, hd]; rfl)] at hz
        cases hz
      · have ex : (x + Int32.ofInt (-1)).toInt = x.toInt - 1 := by
          rw [Int32.toInt_add]
          have c1 : (Int32.ofInt (-1)).toInt = -1 := rfl
          rw [c1]
          rw [Int.bmod_eq_of_le (by omega) (by omega)]
          omega
        have hx1 : mxin (x + Int32.ofInt (-1)) 10 = true := ix_ok (by rw [ex]; omega) (by rw [ex]; omega)
        obtain ⟨I', b1, b2⟩ := ih (x + Int32.ofInt (-1)) (I 22 s.toNatClampNeg) (mxI I 25 (x + Int32.ofInt (-1)).toNatClampNeg (I 23 s.toNatClampNeg)) (by
          show dpt (I 22) d _
          rw [cl_nat, q2]
          exact q3) (by rw [cl_nat, q2]; omega) (by rw [cl_nat, q2]; omega) (by rw [ex]; omega) (by rw [ex]; omega)
        refine ⟨I', fun c hc => (b1 c hc).trans (if_neg hc), le_a (ix_ok s0 s1) (le_b hz (le_i (le_go2 (ix_ok s0 s1) hx1 b2)))⟩
/-- leads -/
theorem le_C {a : Nat → Nat × Nat} {sh : List (Nat × Nat)} {I : Nat → Nat → Int32} {J : Nat → Nat → Int64} {Q : Nat → Nat → Value} {k l dp : Int32} (hdp : 1 ≤ dp.toInt ∧ dp.toInt ≤ 10) (hk : 0 ≤ k.toInt ∧ k.toInt < 20001) (hd : dpt (I 22) (dp.toInt - 1).toNat k.toInt.toNat) : ∃ I' : Nat → Nat → Int32, (∀ c, c ≠ 25 → I' c = I c) ∧ mxRn 118 0 [(0, .ref 9), (1, .int k), (2, .int l), (3, .int dp)] [] (shW a sh, I, J, QW Q) (none, (shW a sh, I', J, QW Q)) := by
  have c1 : (1 : Int32).toInt = 1 := rfl
  have e1 : (dp - 1).toInt = dp.toInt - 1 := by rw [i32_sub (by rw [c1]; omega) (by rw [c1]; omega), c1]
  obtain ⟨I', b1, b2⟩ := le_loop (a := a) (sh := sh) (J := J) (Q := Q) (k := k) (l := l) (dp := dp) (dp.toInt - 1).toNat (dp - 1) k (mxI I 25 (dp - 1).toNatClampNeg l) (by exact hd) hk.1 hk.2 (by rw [e1]; omega) (by rw [e1]; omega)
  exact ⟨I', fun c hc => (b1 c hc).trans (if_neg hc), le_0 (ix_ok (by rw [e1]; omega) (by rw [e1]; omega)) b2⟩
/-- the clear loop -/
theorem wc_loop {a : Nat → Nat × Nat} {sh : List (Nat × Nat)} {J : Nat → Nat → Int64} {Q : Nat → Nat → Value} {r ln kd : Int32} : ∀ (d : Nat) (x : Int32) (I : Nat → Nat → Int32), 0 ≤ x.toInt → x.toInt + d = 65536 → (∀ j, j < x.toInt.toNat → I 24 j = 0) → ∃ I' : Nat → Nat → Int32, (∀ c, c ≠ 24 → I' c = I c) ∧ (∀ j, j < 65536 → I' 24 j = 0) ∧ ∀ res, mxRn 117 29 [(0, .ref 9), (1, .int r), (2, .int ln), (3, .int kd), (4, .int 65536)] [] (shW a sh, I', J, QW Q) res → mxRn 117 8 [(0, .ref 9), (1, .int r), (2, .int ln), (3, .int kd), (4, .int x)] [] (shW a sh, I, J, QW Q) res := by
  intro d
  induction d with
  | zero =>
    intro x I h0 h1 hj
    have e : x = 65536 := Int32.toInt_inj.mp (by show x.toInt = 65536; omega)
    subst e
    exact ⟨I, fun _ _ => rfl, hj, fun res H => wc_end (hc_ge_t 65536 rfl (by decide)) H⟩
  | succ d ih =>
    intro x I h0 h1 hj
    have c1 : (1 : Int32).toInt = 1 := rfl
    have e1 : (x + 1).toInt = x.toInt + 1 := by
      rw [Int32.toInt_add, c1]
      exact Int.bmod_eq_of_le (by omega) (by omega)
    obtain ⟨I', b1, b2, b3⟩ := ih (x + 1) (mxI I 24 x.toNatClampNeg 0) (by omega) (by omega) (fun j hj2 => by
      show (upd (I 24) x.toNatClampNeg 0) j = 0
      unfold upd
      by_cases hx : j = x.toNatClampNeg
      · rw [if_pos hx]
      · rw [if_neg hx]
        rw [cl_nat] at hx
        exact hj j (by omega))
    exact ⟨I', fun c hc => (b1 c hc).trans (if_neg hc), b2, fun res H => wc_go (hc_ge_f 65536 rfl (by omega)) (ix_ok h0 (by omega)) (b3 res H)⟩
