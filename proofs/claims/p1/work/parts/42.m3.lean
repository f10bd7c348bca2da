/-! rides and ticksOn in the empty house -/
theorem bit_eq : ∀ k : Nat, k < 16 → ∀ j : Nat, j < 4 → (((Int32.ofInt (k : Int)) >>> ((Int32.ofInt (j : Int)) &&& 31)) &&& (1 : Int32)) = Int32.ofInt (((k >>> j) % 2 : Nat) : Int) := by decide
theorem rd_loop (ex : List (Nat × Nat)) {I : Nat → Nat → Int32} (J : Nat → Nat → Int64) {g k a b : Nat} {L F B T : Nat → Nat} (hF : FI I g k a b L F B T) (hr : RG g k a b L F B T) (hb : ∀ j, j < g → (k >>> j) % 2 = 1 → F j ≠ 1) : ∀ (d j : Nat), j + d = g → mxRn 104 4 [(0, .ref 9), (1, .int 0), (2, .int (Int32.ofInt (j : Int)))] [] (shS ex, I, J, QS) (some (.int 0), (shS ex, I, J, QS))
  | 0, j, hj => rd_end ex I J _ (by rw [hF.1.1]; exact ge_tt (by have := hr.1.1; omega) (by have := hr.1.1; omega) (by omega))
  | d + 1, j, hj => by
    have r1 := hr.1.1
    have r2 := hr.1.2.1
    have h0 : Op.if_icmp.holds .ge (Int32.ofInt (j : Int)) (I 9 14) = false := by rw [hF.1.1]; exact ge_ff (by omega) (by omega) (by omega)
    have nx := rd_loop ex J hF hr hb d (j + 1) (by omega)
    rw [← a32 j 1] at nx
    cases hc : Op.if_icmp.holds .ne (((I 9 15) >>> ((Int32.ofInt (j : Int)) &&& 31)) &&& (1 : Int32)) (1 : Int32) with
    | true => exact rd_a ex I J _ h0 hc nx
    | false =>
      refine rd_b ex I J _ h0 hc (in32 (by omega) (by decide)) ?_ nx
      rw [hF.1.2.1, bit_eq k (by omega) j (by omega)] at hc
      have hbit : (k >>> j) % 2 = 1 := by
        rcases Nat.mod_two_eq_zero_or_one (k >>> j) with q | q
        · rw [q] at hc
          exact absurd hc (by decide)
        · exact q
      have hf := hb j (by omega) hbit
      have e := (hF.2 j (by omega)).2.1
      have rf := (hr.2 j (by omega)).2.1
      rw [c32 (by omega), e]
      refine (hk_ne _ _).mpr ?_
      rw [t32 (by omega)]
      show ¬ (F j : Int) = 1
      omega
theorem dz_9 (ex : List (Nat × Nat)) {I : Nat → Nat → Int32} (J : Nat → Nat → Int64) {g k a b : Nat} {L F B T : Nat → Nat} (hF : FI I g k a b L F B T) (hr : RG g k a b L F B T) (hb : ∀ j, j < g → (k >>> j) % 2 = 1 → F j ≠ 1) : ∃ I' : Nat → Nat → Int32, mxRn 106 0 [(0, .ref 9), (1, .int 9)] [] (shS ex, I, J, QS) (some (.int 0), (shS ex, I', J, QS)) ∧ FrM I I' := by
  have hz := rd_start ex I J (rd_loop ex J hF hr hb g 0 (by omega))
  cases hc : Op.if_icmp.holds .eq (I 18 1) (4 : Int32) with
  | true => exact ⟨_, do9a ex I J hz hc, FrM.rf⟩
  | false => exact ⟨_, do9b ex I J hz hc, FrM.u9 FrM.rf (by decide)⟩
def tL (j : Nat) (L T : Nat → Nat) : Nat → Nat := fun t => if t < j ∧ L t ≠ 0 then (if 2 ≤ T t + 1 then 0 else 1) else L t
def tT (j : Nat) (L T : Nat → Nat) : Nat → Nat := fun t => if t < j ∧ L t ≠ 0 then T t + 1 else T t
theorem FI_cg {I : Nat → Nat → Int32} {g k a b : Nat} {L F B T L' T' : Nat → Nat} (h : FI I g k a b L F B T) (hL : ∀ t, t < 4 → L' t = L t) (hT : ∀ t, t < 4 → T' t = T t) : FI I g k a b L' F B T' := ⟨h.1, fun t ht => by rw [hL t ht, hT t ht]; exact h.2 t ht⟩
theorem tk_loop (ex : List (Nat × Nat)) (J : Nat → Nat → Int64) {g k a b : Nat} {L F B T : Nat → Nat} (hr : RG g k a b L F B T) : ∀ (d j : Nat) (I : Nat → Nat → Int32), j + d = g → FI I g k a b (tL j L T) F B (tT j L T) → ∃ I', mxRn 105 45 [(0, .ref 9), (1, .int 2), (2, .int (Int32.ofInt (j : Int)))] [] (shS ex, I, J, QS) (none, (shS ex, I', J, QS)) ∧ FrM I I' ∧ FI I' g k a b (tL g L T) F B (tT g L T)
  | 0, j, I, hj, hF => by
    have r1 := hr.1.1
    have e : j = g := by omega
    subst e
    exact ⟨I, tk_end2 ex I J _ (by rw [hF.1.1]; exact ge_tt (by omega) (by omega) (by omega)), FrM.rf, hF⟩
  | d + 1, j, I, hj, hF => by
    have r1 := hr.1.1
    obtain ⟨rl, rf, rb, rt⟩ := hr.2 j (by omega)
    have h0 : Op.if_icmp.holds .ge (Int32.ofInt (j : Int)) (I 9 14) = false := by rw [hF.1.1]; exact ge_ff (by omega) (by omega) (by omega)
    have g1 : mxin (Int32.ofInt (j : Int)) 4 = true := in32 (by omega) (by decide)
    have ec : (Int32.ofInt (j : Int)).toNatClampNeg = j := c32 (by omega)
    have eL : I 14 j = Int32.ofInt (L j : Int) := by
      have q := (hF.2 j (by omega)).1
      unfold tL at q
      rwa [if_neg (by omega)] at q
    have eT : I 17 j = Int32.ofInt (T j : Int) := by
      have q := (hF.2 j (by omega)).2.2.2
      unfold tT at q
      rwa [if_neg (by omega)] at q
    have other : ∀ t, t ≠ j → tL (j + 1) L T t = tL j L T t ∧ tT (j + 1) L T t = tT j L T t := fun t ht => by
      unfold tL tT
      have : (t < j + 1 ∧ L t ≠ 0) ↔ (t < j ∧ L t ≠ 0) := by constructor <;> (intro q; exact ⟨by omega, q.2⟩)
      simp only [this]
      refine ⟨?_, ?_⟩ <;> first | rfl | trivial
    cases hc : Op.ifCond.holds .eq (I 14 (Int32.ofInt (j : Int)).toNatClampNeg) with
    | true =>
      have hl : L j = 0 := by
        rcases Nat.eq_zero_or_pos (L j) with q | q
        · exact q
        · rw [ec, eL, show L j = 1 by omega] at hc
          exact absurd hc (by decide)
      have same : ∀ t, t < 4 → tL (j + 1) L T t = tL j L T t ∧ tT (j + 1) L T t = tT j L T t := fun t _ => by
        by_cases e : t = j
        · subst e
          unfold tL tT
          rw [if_neg (by omega), if_neg (by omega), if_neg (by omega), if_neg (by omega)]
          exact ⟨rfl, rfl⟩
        · exact other t e
      obtain ⟨I', a1, a2, a3⟩ := tk_loop ex J hr d (j + 1) I (by omega) (FI_cg hF (fun t ht => (same t ht).1) (fun t ht => (same t ht).2))
      rw [← a32 j 1] at a1
      exact ⟨I', tk_dead ex I J _ h0 g1 hc a1, a2, a3⟩
    | false =>
      have hl : L j ≠ 0 := fun q => by
        rw [ec, eL, q] at hc
        exact absurd hc (by decide)
      have eT1 : I 17 j + (1 : Int32) = Int32.ofInt ((T j + 1 : Nat) : Int) := by rw [eT, one32, a32]
      have er : (mxI I 17 j (I 17 j + (1 : Int32))) 17 j = I 17 j + (1 : Int32) := by simp [mxI, upd]
      cases hk : Op.if_icmp.holds .ge ((mxI I 17 (Int32.ofInt (j : Int)).toNatClampNeg ((I 17 (Int32.ofInt (j : Int)).toNatClampNeg) + (1 : Int32))) 17 (Int32.ofInt (j : Int)).toNatClampNeg) (2 : Int32) with
      | true =>
        have h2 : 2 ≤ T j + 1 := by
          have q := (hk_ge _ _).mp hk
          rw [ec, er, eT1, t32 (by omega)] at q
          have e2 : (2 : Int32).toInt = 2 := rfl
          rw [e2] at q
          omega
        have step : FI (mxI (mxI I 17 j (Int32.ofInt ((T j + 1 : Nat) : Int))) 14 j 0) g k a b (tL (j + 1) L T) F B (tT (j + 1) L T) := by
          refine FI_cg (FI_l (w := 0) (FI_t (w := T j + 1) hF rfl) rfl) (fun t ht => ?_) (fun t ht => ?_)
          · unfold fu
            split
            · rename_i e
              subst e
              unfold tL
              rw [if_pos ⟨Nat.lt_succ_self t, hl⟩, if_pos h2]
            · rename_i e
              exact (other t e).1
          · unfold fu
            split
            · rename_i e
              subst e
              unfold tT
              rw [if_pos ⟨Nat.lt_succ_self t, hl⟩]
            · rename_i e
              exact (other t e).2
        obtain ⟨I', a1, a2, a3⟩ := tk_loop ex J hr d (j + 1) _ (by omega) step
        rw [← a32 j 1] at a1
        refine ⟨I', tk_out ex I J _ h0 g1 hc hk ?_, FrM.tr (FrM.up (FrM.up FrM.rf (by decide)) (by decide)) a2, a3⟩
        rw [ec, eT1]
        exact a1
      | false =>
        have h2 : ¬ 2 ≤ T j + 1 := fun q => by
          have q2 : Op.if_icmp.holds .ge ((mxI I 17 (Int32.ofInt (j : Int)).toNatClampNeg ((I 17 (Int32.ofInt (j : Int)).toNatClampNeg) + (1 : Int32))) 17 (Int32.ofInt (j : Int)).toNatClampNeg) (2 : Int32) = true := (hk_ge _ _).mpr (by
            rw [ec, er, eT1, t32 (by omega)]
            show (2 : Int) ≤ ((T j + 1 : Nat) : Int)
            omega)
          rw [hk] at q2
          cases q2
        have step : FI (mxI (mxI I 17 j (Int32.ofInt ((T j + 1 : Nat) : Int))) 14 j 1) g k a b (tL (j + 1) L T) F B (tT (j + 1) L T) := by
          refine FI_cg (FI_l (w := 1) (FI_t (w := T j + 1) hF rfl) rfl) (fun t ht => ?_) (fun t ht => ?_)
          · unfold fu
            split
            · rename_i e
              subst e
              unfold tL
              rw [if_pos ⟨Nat.lt_succ_self t, hl⟩, if_neg h2]
            · rename_i e
              exact (other t e).1
          · unfold fu
            split
            · rename_i e
              subst e
              unfold tT
              rw [if_pos ⟨Nat.lt_succ_self t, hl⟩]
            · rename_i e
              exact (other t e).2
        obtain ⟨I', a1, a2, a3⟩ := tk_loop ex J hr d (j + 1) _ (by omega) step
        rw [← a32 j 1] at a1
        refine ⟨I', tk_on ex I J _ h0 g1 hc hk ?_, FrM.tr (FrM.up (FrM.up FrM.rf (by decide)) (by decide)) a2, a3⟩
        rw [ec, eT1]
        exact a1
theorem kn_tail (ex : List (Nat × Nat)) {I : Nat → Nat → Int32} (J : Nat → Nat → Int64) {g k a b : Nat} {L F B T : Nat → Nat} (hF : FI I g k a b L F B T) (hk : k ≤ 15) (hb : b ≤ 4) : ∃ I' : Nat → Nat → Int32, mxRn 106 252 [(0, .ref 9), (1, .int 10), (2, .int 1), (3, .int 1)] [] (shS ex, I, J, QS) (some (.int 1), (shS ex, I', J, QS)) ∧ FrM I I' ∧ FI I' g (kt k b) a b L F B T := by
  have f2 := hF.1.2.1
  have f4 := hF.1.2.2.2
  cases hc : Op.if_icmp.holds .eq (I 18 1) (4 : Int32) with
  | true =>
    have q := q4_t f4 hb hc
    refine ⟨_, do10a ex I J hc, FrM.rf, ?_⟩
    unfold kt
    rw [if_pos q]
    exact hF
  | false =>
    have q := q4_f f4 hb hc
    refine ⟨_, do10b ex I J hc, FrM.u9 FrM.rf (by decide), FI_k hF ?_⟩
    rw [f2, f4, kn_eq k (by omega) b q]
    unfold kt
    rw [if_neg (by omega)]
theorem dz_10 (ex : List (Nat × Nat)) {I : Nat → Nat → Int32} (J : Nat → Nat → Int64) {g k a b : Nat} {L F B T : Nat → Nat} {sh : Bool} (hF : FI I g k a b L F B T) (hr : RG g k a b L F B T) (hE : I 11 6 = 0) (hs : mxRn 96 0 [(0, .ref 9), (1, .int 6)] [] (shS ex, I, J, QS) (some (.int (cond sh 1 0)), (shS ex, I, J, QS))) : ∃ I' : Nat → Nat → Int32, mxRn 106 0 [(0, .ref 9), (1, .int 10)] [] (shS ex, I, J, QS) (some (.int 1), (shS ex, I', J, QS)) ∧ FrM I I' ∧ FI I' g (kt k b) a b (cond sh (tL g L T) L) F B (cond sh (tT g L T) T) := by
  have r1 := hr.1.1
  have hL : Op.ifCond.holds .ne (I 11 6) = false := by rw [hE]; decide
  cases sh with
  | false =>
    have hz : mxRn 105 0 [(0, .ref 9)] [] (shS ex, I, J, QS) (none, (shS ex, I, J, QS)) := by
      refine tk_start0 ex I J hs hL ?_
      cases hc : Op.if_icmp.holds .ge (0 : Int32) (I 9 14) with
      | true => exact tk_end100 ex I J _ hc
      | false => exact tk_no ex I J _ hc
    obtain ⟨I', a1, a2, a3⟩ := kn_tail ex J hF hr.1.2.1 hr.1.2.2.2
    exact ⟨I', do10s ex I J I hz a1, a2, a3⟩
  | true =>
    have z0 : FI I g k a b (tL 0 L T) F B (tT 0 L T) := FI_cg hF (fun t _ => by unfold tL; rw [if_neg (by omega)]) (fun t _ => by unfold tT; rw [if_neg (by omega)])
    obtain ⟨I1, b1, b2, b3⟩ := tk_loop ex J hr g 0 I (by omega) z0
    have hz : mxRn 105 0 [(0, .ref 9)] [] (shS ex, I, J, QS) (none, (shS ex, I1, J, QS)) := tk_start1 ex I J hs hL b1
    obtain ⟨I', a1, a2, a3⟩ := kn_tail ex J b3 hr.1.2.1 hr.1.2.2.2
    exact ⟨I', do10s ex I J I1 hz a1, b2.tr a2, a3⟩
