/-! the model's walk and mend answer 0 where the house is empty -/
theorem CMall (τ sh : Bool) : ∃ X : mX, CM τ sh X ∧ VC (VX X) ∧ X 0 0 4 4 (fun _ => 0) (fun _ => 0) (fun _ => 0) (fun _ => 0) := by
  cases τ with
  | false =>
    cases sh with
    | false => exact ⟨_, CM00, VC00, X0_00⟩
    | true => exact ⟨_, CM01, VC01, X0_01⟩
  | true =>
    cases sh with
    | false => exact ⟨_, CM10, VC10, X0_10⟩
    | true => exact ⟨_, CM11, VC11, X0_11⟩
theorem wks (ex : List (Nat × Nat)) {lnn : Nat} (rr ki : Int32) {I : Nat → Nat → Int32} {J : Nat → Nat → Int64} (h1 : 1 ≤ lnn) (hl : lnn ≤ 10) (hE : ∀ j, j < 7 → I 11 j = 0) : ∃ I' J', mxRn 117 0 [(0, .ref 9), (1, .int rr), (2, .int (Int32.ofInt (lnn : Int))), (3, .int ki)] [] (shS ex, I, J, QS) (some (.int 0), (shS ex, I', J', QS)) ∧ (∀ c, c ≠ 9 → c ≠ 14 → c ≠ 15 → c ≠ 16 → c ≠ 17 → c ≠ 18 → c ≠ 22 → c ≠ 23 → c ≠ 24 → I' c = I c) ∧ (∀ j, j ≠ 14 → j ≠ 15 → j ≠ 16 → j ≠ 28 → j ≠ 29 → I' 9 j = I 9 j) := by
  obtain ⟨X, x1, x2, x3⟩ := CMall (!(Op.if_icmp.holds .ne (((rr) >>> ((0 : Int32) &&& 31)) &&& (1 : Int32)) (1 : Int32))) (!(Op.if_icmp.holds .ne (((rr) >>> ((6 : Int32) &&& 31)) &&& (1 : Int32)) (1 : Int32)))
  obtain ⟨I', J', w1, w2, w3, w4⟩ := walks_ok ex (rr := rr) (ki := ki) (I := I) (J := J) h1 hl x1 x2 (by rw [Bool.not_not]) (by rw [Bool.not_not]) x3 hE
  exact ⟨I', J', w1, w2, w3⟩
theorem mw_ok {ex : List (Nat × Nat)} {I : Nat → Nat → Int32} {J : Nat → Nat → Int64} {r ki : Int32} {ln : Nat} (hr : 0 ≤ r.toInt ∧ r.toInt ≤ 127) (h1 : 1 ≤ ln) (h2 : ln ≤ 10) (hk : 1 ≤ ki.toInt ∧ ki.toInt ≤ 7) (hE : ∀ j, j < 7 → I 11 j = 0) : ∃ I' J', mxRn 119 0 [(0, .ref 9), (1, .int r), (2, .int (Int32.ofInt (ln : Int))), (3, .int ki)] [] (shS ex, I, J, QS) (some (.int 0), (shS ex, I', J', QS)) := by
  obtain ⟨I1, J1, w1, -⟩ := wks ex r ki (I := I) (J := J) h1 h2 hE
  have hl : 1 ≤ (Int32.ofInt (ln : Int)).toInt ∧ (Int32.ofInt (ln : Int)).toInt ≤ 10 := by
    rw [t32 (by omega)]
    omega
  cases hs : Op.if_icmp.holds .le (I1 9 28) (20000 : Int32) with
  | true => exact ⟨_, _, mw_topa hr hl hk w1 hs⟩
  | false => exact ⟨_, _, mw_topb hr hl hk w1 hs⟩
theorem su_val : ∀ k : Nat, k < 128 → 0 < k → 0 < (suE (fun _ => 1) (Int32.ofInt (k : Int))).toInt := by decide +kernel
theorem su_v0 : suE (fun _ => 1) 0 = 0 := by decide +kernel
theorem ma_v0 : maE 0 = 0 := by decide +kernel
theorem suE_c {c : Nat → Int32} (h : ∀ j, j < 7 → c j = 1) (n : Int32) : suE c n = suE (fun _ => 1) n := by
  unfold suE
  rw [h 0 (by decide), h 1 (by decide), h 2 (by decide), h 3 (by decide), h 4 (by decide), h 5 (by decide), h 6 (by decide)]
theorem mm_loop {ln : Nat} {ki : Int32} (h1 : 1 ≤ ln) (h2 : ln ≤ 10) : ∀ (d k : Nat) (I : Nat → Nat → Int32) (J : Nat → Nat → Int64) (su ma kk : Int32), k + d = 128 → 0 < k → I 9 21 = 0 → (∀ j, j < 7 → I 27 j = 1) → (∀ j, j < 7 → I 11 j = 0) → ∃ I' J', mxRn 123 73 [(0, .ref 9), (1, .int (Int32.ofInt (ln : Int))), (2, .int ki), (3, .ref 32), (4, .int 0), (5, .int 0), (6, .int 0), (7, .int (Int32.ofInt (k : Int))), (8, .int 1), (9, .int 0), (10, .int su), (11, .int ma), (12, .int kk)] [] (shS [(3, 6)], I, J, QS) (some (.int 0), (shS [(3, 6)], I', J', QS))
  | 0, k, I, J, su, ma, kk, e1, e2, hT, hC, hE => ⟨I, J, mm_end1 (ge_tt (b := 128) (by omega) (by decide) (by omega))⟩
  | d + 1, k, I, J, su, ma, kk, e1, e2, hT, hC, hE => by
    have m11 : ∀ v j, (mxI I 9 16 v) 11 j = I 11 j := fun v j => by simp [mxI]
    have m27 : ∀ v j, (mxI I 9 16 v) 27 j = I 27 j := fun v j => by simp [mxI]
    have m9 : ∀ v, (mxI I 9 16 v) 9 21 = I 9 21 := fun v => by simp [mxI, upd]
    obtain ⟨I1, J1, w1, w2, w3⟩ := wks [(3, 6)] (Int32.ofInt (k : Int)) ki (I := mxI I 9 16 (Int32.ofInt (k : Int))) (J := J) h1 h2 (fun j hj => (m11 _ j).trans (hE j hj))
    have c27 : ∀ j, j < 7 → I1 27 j = 1 := fun j hj => by
      rw [w2 27 (by decide) (by decide) (by decide) (by decide) (by decide) (by decide) (by decide) (by decide) (by decide), m27]
      exact hC j hj
    have c11 : ∀ j, j < 7 → I1 11 j = 0 := fun j hj => by
      rw [w2 11 (by decide) (by decide) (by decide) (by decide) (by decide) (by decide) (by decide) (by decide) (by decide), m11]
      exact hE j hj
    have c9 : I1 9 21 = 0 := by
      rw [w3 21 (by decide) (by decide) (by decide) (by decide) (by decide), m9]
      exact hT
    have hs : suE (I1 27) (Int32.ofInt (k : Int)) = suE (fun _ => 1) (Int32.ofInt (k : Int)) := suE_c c27 _
    have hv := su_val k (by omega) e2
    obtain ⟨I', J', r1⟩ := mm_loop h1 h2 d (k + 1) I1 J1 (suE (I1 27) (Int32.ofInt (k : Int))) (maE (Int32.ofInt (k : Int))) 7 (by omega) (by omega) c9 c27 c11
    have q : mxRn 123 73 [(0, .ref 9), (1, .int (Int32.ofInt (ln : Int))), (2, .int ki), (3, .ref 32), (4, .int 0), (5, .int 0), (6, .int 0), (7, .int (Int32.ofInt (k : Int) + 1)), (8, .int 1), (9, .int 0), (10, .int (suE (I1 27) (Int32.ofInt (k : Int)))), (11, .int (maE (Int32.ofInt (k : Int)))), (12, .int 7)] [] (shS [(3, 6)], I1, J1, QS) (some (.int 0), (shS [(3, 6)], I', J', QS)) := by
      rw [s32]
      exact r1
    have c3 : Op.if_icmp.holds .lt (suE (I1 27) (Int32.ofInt (k : Int))) 0 = false := by
      rw [hs]
      exact hc_lt_f 0 rfl (by omega)
    have c4 : Op.if_icmp.holds .ne (suE (I1 27) (Int32.ofInt (k : Int))) 0 = true := by
      rw [hs]
      exact hc_ne_t 0 rfl (by omega)
    exact ⟨I', J', mm_b1b w1 (ge_ff (b := 128) (by omega) (by decide) (by omega)) (by rw [hT]; decide) (by decide) c3 c4 q⟩
theorem q32 : mxQ0 QS 32 = QS := by
  funext a j
  unfold mxQ0
  by_cases h : a = 32
  · subst h
    rfl
  · rw [if_neg h]
theorem mm_ok {I : Nat → Nat → Int32} {J : Nat → Nat → Int64} {ki : Int32} {ln : Nat} (h1 : 1 ≤ ln) (h2 : ln ≤ 10) (hk : 1 ≤ ki.toInt ∧ ki.toInt ≤ 7) (hT : I 9 21 = 0) (hC : ∀ j, j < 7 → I 27 j = 1) (hE : ∀ j, j < 7 → I 11 j = 0) : ∃ I' J', mxRn 123 0 [(0, .ref 9), (1, .int (Int32.ofInt (ln : Int))), (2, .int ki)] [] (shS [], I, J, QS) (some (.int 0), (shS [(3, 6)], I', J', QS)) := by
  have hl : 1 ≤ (Int32.ofInt (ln : Int)).toInt ∧ (Int32.ofInt (ln : Int)).toInt ≤ 10 := by
    rw [t32 (by omega)]
    omega
  have m11 : ∀ v u j, (mxI (mxI (mxI0 I 32) 9 16 v) 9 16 u) 11 j = I 11 j := fun v u j => by simp [mxI, mxI0]
  have m27 : ∀ v u j, (mxI (mxI (mxI0 I 32) 9 16 v) 9 16 u) 27 j = I 27 j := fun v u j => by simp [mxI, mxI0]
  have m9 : ∀ v u, (mxI (mxI (mxI0 I 32) 9 16 v) 9 16 u) 9 21 = I 9 21 := fun v u => by simp [mxI, mxI0, upd]
  have m9' : ∀ v, (mxI (mxI0 I 32) 9 16 v) 9 21 = I 9 21 := fun v => by simp [mxI, mxI0, upd]
  obtain ⟨I1, J1, w1, w2, w3⟩ := wks [(3, 6)] 0 ki (I := mxI (mxI (mxI0 I 32) 9 16 0) 9 16 0) (J := mxJ0 J 32) h1 h2 (fun j hj => (m11 _ _ j).trans (hE j hj))
  have c27 : ∀ j, j < 7 → I1 27 j = 1 := fun j hj => by
    rw [w2 27 (by decide) (by decide) (by decide) (by decide) (by decide) (by decide) (by decide) (by decide) (by decide), m27]
    exact hC j hj
  have c11 : ∀ j, j < 7 → I1 11 j = 0 := fun j hj => by
    rw [w2 11 (by decide) (by decide) (by decide) (by decide) (by decide) (by decide) (by decide) (by decide) (by decide), m11]
    exact hE j hj
  have c9 : I1 9 21 = 0 := by
    rw [w3 21 (by decide) (by decide) (by decide) (by decide) (by decide), m9]
    exact hT
  have hs : suE (I1 27) 0 = 0 := (suE_c c27 _).trans su_v0
  obtain ⟨I', J', r1⟩ := mm_loop (ki := ki) h1 h2 127 1 I1 J1 (suE (I1 27) 0) (maE 0) 7 (by omega) (by omega) c9 c27 c11
  have q : mxRn 123 73 [(0, .ref 9), (1, .int (Int32.ofInt (ln : Int))), (2, .int ki), (3, .ref 32), (4, .int 0), (5, .int (suE (I1 27) 0)), (6, .int (maE 0)), (7, .int ((0 : Int32) + 1)), (8, .int 1), (9, .int 0), (10, .int (suE (I1 27) 0)), (11, .int (maE 0)), (12, .int 7)] [] (shS [(3, 6)], I1, J1, QS) (some (.int 0), (shS [(3, 6)], I', J', QS)) := by
    rw [hs, ma_v0, show (0 : Int32) + 1 = Int32.ofInt ((1 : Nat) : Int) from rfl]
    rw [hs, ma_v0] at r1
    exact r1
  refine ⟨I', J', mm_start hl hk (by rw [hT]; decide) ?_⟩
  rw [q32]
  exact mm_b0a w1 (by decide) (by rw [m9', hT]; decide) (by decide) q
theorem nat_of {x : Int32} (h : 1 ≤ x.toInt ∧ x.toInt ≤ 10) : ∃ n : Nat, 1 ≤ n ∧ n ≤ 10 ∧ x = Int32.ofInt (n : Int) := ⟨x.toInt.toNat, by omega, by omega, Int32.toInt_inj.mp (by rw [t32 (by omega)]; omega)⟩
