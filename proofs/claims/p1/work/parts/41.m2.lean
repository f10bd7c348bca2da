/-! the model's state in the empty house: given, knows, both stores, and of each TICKET lives, of, bound, ticks -/
def fu (f : Nat → Nat) (k v : Nat) : Nat → Nat := fun j => if j = k then v else f j
def FI (I : Nat → Nat → Int32) (g k a b : Nat) (L F B T : Nat → Nat) : Prop := (I 9 14 = Int32.ofInt (g : Int) ∧ I 9 15 = Int32.ofInt (k : Int) ∧ I 18 0 = Int32.ofInt (a : Int) ∧ I 18 1 = Int32.ofInt (b : Int)) ∧ ∀ t, t < 4 → I 14 t = Int32.ofInt (L t : Int) ∧ I 15 t = Int32.ofInt (F t : Int) ∧ I 16 t = Int32.ofInt (B t : Int) ∧ I 17 t = Int32.ofInt (T t : Int)
def RG (g k a b : Nat) (L F B T : Nat → Nat) : Prop := (g ≤ 4 ∧ k ≤ 15 ∧ a ≤ 4 ∧ b ≤ 4) ∧ ∀ t, t < 4 → L t ≤ 1 ∧ F t ≤ 3 ∧ B t ≤ 1 ∧ T t ≤ 9
def kt (k b : Nat) : Nat := if b = 4 then k else k ||| (1 <<< b)
def FrM (I I' : Nat → Nat → Int32) : Prop := (∀ c, c ≠ 9 → c ≠ 14 → c ≠ 15 → c ≠ 16 → c ≠ 17 → c ≠ 18 → I' c = I c) ∧ ∀ j, j ≠ 14 → j ≠ 15 → I' 9 j = I 9 j
theorem FrM.rf {I : Nat → Nat → Int32} : FrM I I := ⟨fun _ _ _ _ _ _ _ => rfl, fun _ _ _ => rfl⟩
theorem FrM.tr {I I1 I2 : Nat → Nat → Int32} (h : FrM I I1) (q : FrM I1 I2) : FrM I I2 := ⟨fun c a1 a2 a3 a4 a5 a6 => (q.1 c a1 a2 a3 a4 a5 a6).trans (h.1 c a1 a2 a3 a4 a5 a6), fun j a1 a2 => (q.2 j a1 a2).trans (h.2 j a1 a2)⟩
theorem FrM.up {I I1 : Nat → Nat → Int32} (h : FrM I I1) {c j : Nat} {v : Int32} (hc : c = 14 ∨ c = 15 ∨ c = 16 ∨ c = 17 ∨ c = 18) : FrM I (mxI I1 c j v) := by
  refine h.tr ⟨fun d a1 a2 a3 a4 a5 a6 => ?_, fun i _ _ => ?_⟩
  · have : d ≠ c := by omega
    simp [mxI, this]
  · have : (9 : Nat) ≠ c := by omega
    simp [mxI, this]
theorem FrM.u9 {I I1 : Nat → Nat → Int32} (h : FrM I I1) {j : Nat} {v : Int32} (hj : j = 14 ∨ j = 15) : FrM I (mxI I1 9 j v) := by
  refine h.tr ⟨fun d a1 a2 a3 a4 a5 a6 => ?_, fun i i1 i2 => ?_⟩
  · simp [mxI, a1]
  · have : i ≠ j := by omega
    simp [mxI, upd, this]
theorem FI_k {I : Nat → Nat → Int32} {g k a b k' : Nat} {L F B T : Nat → Nat} {v : Int32} (h : FI I g k a b L F B T) (hv : v = Int32.ofInt (k' : Int)) : FI (mxI I 9 15 v) g k' a b L F B T := by
  obtain ⟨⟨h1, h2, h3, h4⟩, h5⟩ := h
  refine ⟨⟨?_, ?_, ?_, ?_⟩, fun t ht => ?_⟩
  · simpa [mxI, upd] using h1
  · simp [mxI, upd, hv]
  · simpa [mxI] using h3
  · simpa [mxI] using h4
  · simpa [mxI] using h5 t ht
theorem FI_l {I : Nat → Nat → Int32} {g k a b z w : Nat} {L F B T : Nat → Nat} {v : Int32} (h : FI I g k a b L F B T) (hv : v = Int32.ofInt (w : Int)) : FI (mxI I 14 z v) g k a b (fu L z w) F B T := by
  obtain ⟨⟨h1, h2, h3, h4⟩, h5⟩ := h
  refine ⟨⟨?_, ?_, ?_, ?_⟩, fun t ht => ?_⟩
  · simpa [mxI] using h1
  · simpa [mxI] using h2
  · simpa [mxI] using h3
  · simpa [mxI] using h4
  · obtain ⟨q1, q2, q3, q4⟩ := h5 t ht
    refine ⟨?_, by simpa [mxI] using q2, by simpa [mxI] using q3, by simpa [mxI] using q4⟩
    by_cases e : t = z
    · simp [mxI, upd, fu, e, hv]
    · simpa [mxI, upd, fu, e] using q1
theorem FI_t {I : Nat → Nat → Int32} {g k a b z w : Nat} {L F B T : Nat → Nat} {v : Int32} (h : FI I g k a b L F B T) (hv : v = Int32.ofInt (w : Int)) : FI (mxI I 17 z v) g k a b L F B (fu T z w) := by
  obtain ⟨⟨h1, h2, h3, h4⟩, h5⟩ := h
  refine ⟨⟨?_, ?_, ?_, ?_⟩, fun t ht => ?_⟩
  · simpa [mxI] using h1
  · simpa [mxI] using h2
  · simpa [mxI] using h3
  · simpa [mxI] using h4
  · obtain ⟨q1, q2, q3, q4⟩ := h5 t ht
    refine ⟨by simpa [mxI] using q1, by simpa [mxI] using q2, by simpa [mxI] using q3, ?_⟩
    by_cases e : t = z
    · simp [mxI, upd, fu, e, hv]
    · simpa [mxI, upd, fu, e] using q4
theorem FI_f {I : Nat → Nat → Int32} {g k a b z w : Nat} {L F B T : Nat → Nat} {v : Int32} (h : FI I g k a b L F B T) (hv : v = Int32.ofInt (w : Int)) : FI (mxI I 15 z v) g k a b L (fu F z w) B T := by
  obtain ⟨⟨h1, h2, h3, h4⟩, h5⟩ := h
  refine ⟨⟨?_, ?_, ?_, ?_⟩, fun t ht => ?_⟩
  · simpa [mxI] using h1
  · simpa [mxI] using h2
  · simpa [mxI] using h3
  · simpa [mxI] using h4
  · obtain ⟨q1, q2, q3, q4⟩ := h5 t ht
    refine ⟨by simpa [mxI] using q1, ?_, by simpa [mxI] using q3, by simpa [mxI] using q4⟩
    by_cases e : t = z
    · simp [mxI, upd, fu, e, hv]
    · simpa [mxI, upd, fu, e] using q2
theorem FI_b {I : Nat → Nat → Int32} {g k a b z w : Nat} {L F B T : Nat → Nat} {v : Int32} (h : FI I g k a b L F B T) (hv : v = Int32.ofInt (w : Int)) : FI (mxI I 16 z v) g k a b L F (fu B z w) T := by
  obtain ⟨⟨h1, h2, h3, h4⟩, h5⟩ := h
  refine ⟨⟨?_, ?_, ?_, ?_⟩, fun t ht => ?_⟩
  · simpa [mxI] using h1
  · simpa [mxI] using h2
  · simpa [mxI] using h3
  · simpa [mxI] using h4
  · obtain ⟨q1, q2, q3, q4⟩ := h5 t ht
    refine ⟨by simpa [mxI] using q1, by simpa [mxI] using q2, ?_, by simpa [mxI] using q4⟩
    by_cases e : t = z
    · simp [mxI, upd, fu, e, hv]
    · simpa [mxI, upd, fu, e] using q3
theorem FI_s0 {I : Nat → Nat → Int32} {g k a b w : Nat} {L F B T : Nat → Nat} {v : Int32} (h : FI I g k a b L F B T) (hv : v = Int32.ofInt (w : Int)) : FI (mxI I 18 0 v) g k w b L F B T := by
  obtain ⟨⟨h1, h2, h3, h4⟩, h5⟩ := h
  exact ⟨⟨by simpa [mxI] using h1, by simpa [mxI] using h2, by simp [mxI, upd, hv], by simpa [mxI, upd] using h4⟩, fun t ht => by simpa [mxI] using h5 t ht⟩
theorem FI_s1 {I : Nat → Nat → Int32} {g k a b w : Nat} {L F B T : Nat → Nat} {v : Int32} (h : FI I g k a b L F B T) (hv : v = Int32.ofInt (w : Int)) : FI (mxI I 18 1 v) g k a w L F B T := by
  obtain ⟨⟨h1, h2, h3, h4⟩, h5⟩ := h
  exact ⟨⟨by simpa [mxI] using h1, by simpa [mxI] using h2, by simpa [mxI, upd] using h3, by simp [mxI, upd, hv]⟩, fun t ht => by simpa [mxI] using h5 t ht⟩
theorem FI_g {I : Nat → Nat → Int32} {g k a b w : Nat} {L F B T : Nat → Nat} {v : Int32} (h : FI I g k a b L F B T) (hv : v = Int32.ofInt (w : Int)) : FI (mxI I 9 14 v) w k a b L F B T := by
  obtain ⟨⟨h1, h2, h3, h4⟩, h5⟩ := h
  exact ⟨⟨by simp [mxI, upd, hv], by simpa [mxI, upd] using h2, by simpa [mxI] using h3, by simpa [mxI] using h4⟩, fun t ht => by simpa [mxI] using h5 t ht⟩
theorem kn_eq : ∀ k : Nat, k < 16 → ∀ b : Nat, b < 4 → Int32.ofInt (k : Int) ||| ((1 : Int32) <<< (Int32.ofInt (b : Int) &&& 31)) = Int32.ofInt ((k ||| (1 <<< b) : Nat) : Int) := by decide
theorem q4_t {v : Int32} {a : Nat} (h : v = Int32.ofInt (a : Int)) (ha : a ≤ 4) (hc : Op.if_icmp.holds .eq v (4 : Int32) = true) : a = 4 := by
  have q := (hk_eq _ _).mp hc
  rw [h, t32 (by omega)] at q
  have e4 : (4 : Int32).toInt = 4 := rfl
  rw [e4] at q
  omega
theorem q4_f {v : Int32} {a : Nat} (h : v = Int32.ofInt (a : Int)) (ha : a ≤ 4) (hc : Op.if_icmp.holds .eq v (4 : Int32) = false) : a < 4 := by
  rcases Nat.lt_or_ge a 4 with q | q
  · exact q
  · have e : a = 4 := by omega
    rw [h, e] at hc
    exact absurd hc (by decide)
theorem p4_t {v : Int32} {a : Nat} (h : v = Int32.ofInt (a : Int)) (ha : a ≤ 4) (hc : Op.if_icmp.holds .ne v (4 : Int32) = true) : a < 4 := by
  rcases Nat.lt_or_ge a 4 with q | q
  · exact q
  · have e : a = 4 := by omega
    rw [h, e] at hc
    exact absurd hc (by decide)
theorem g4 {v : Int32} {a : Nat} (h : v = Int32.ofInt (a : Int)) (ha : a < 4) : mxin v 4 = true := by
  rw [h]
  exact in32 ha (by decide)
theorem nz_t {v : Int32} {a : Nat} (h : v = Int32.ofInt (a : Int)) (ha : a ≤ 9) (hc : Op.ifCond.holds .eq v = false) : a ≠ 0 := fun e => by
  rw [h, e] at hc
  exact absurd hc (by decide)
theorem nz_n {v : Int32} {a : Nat} (h : v = Int32.ofInt (a : Int)) (hc : Op.ifCond.holds .ne v = true) : a ≠ 0 := fun e => by
  rw [h, e] at hc
  exact absurd hc (by decide)
theorem n2_f {v : Int32} {a : Nat} (h : v = Int32.ofInt (a : Int)) (ha : a < 2147483648) (hc : Op.if_icmp.holds .ne v (2 : Int32) = false) : a = 2 := by
  rcases Nat.decEq a 2 with q | q
  · have t : Op.if_icmp.holds .ne v (2 : Int32) = true := (hk_ne _ _).mpr (by
      rw [h, t32 ha]
      show ¬ (a : Int) = 2
      omega)
    rw [hc] at t
    cases t
  · exact q
/-- what a LETTER may make of the state -/
def NX (τ : Bool) (g k a b : Nat) (L F B T : Nat → Nat) (I' : Nat → Nat → Int32) : Prop := FI I' g (kt k b) a b L F B T ∨ (g < 4 ∧ (τ = false ∨ a = 4) ∧ FI I' (g + 1) (kt k b) g b (fu L g 1) (fu F g 1) (fu B g 0) (fu T g 0)) ∨ (g < 4 ∧ τ = true ∧ a < 4 ∧ FI I' (g + 1) (kt k b) g b (fu (fu L g 1) a 0) (fu F g 1) (fu B g 0) (fu T g 0)) ∨ (g < 4 ∧ (τ = false ∨ b = 4) ∧ FI I' (g + 1) (kt k g) a g (fu L g 1) (fu F g 2) (fu B g 1) (fu T g 0)) ∨ (g < 4 ∧ τ = true ∧ b < 4 ∧ FI I' (g + 1) (kt k g) a g (fu (fu L g 1) b 0) (fu F g 2) (fu B g 1) (fu T g 0)) ∨ (a < 4 ∧ L a ≠ 0 ∧ F a ≠ 0 ∧ FI I' g (kt k b) 4 b (fu L a 0) F B T)
theorem dz_0 (ex : List (Nat × Nat)) {I : Nat → Nat → Int32} (J : Nat → Nat → Int64) {g k a b : Nat} {L F B T : Nat → Nat} {τ : Bool} (hF : FI I g k a b L F B T) (hr : RG g k a b L F B T) (hE : ∀ j, j < 7 → I 11 j = 0) (hτ : Op.if_icmp.holds .ne (((I 9 16) >>> ((0 : Int32) &&& 31)) &&& (1 : Int32)) (1 : Int32) = !τ) (hn : a < 4 → F a ≠ 2) : ∃ (v : Int32) (I' : Nat → Nat → Int32), mxRn 106 0 [(0, .ref 9), (1, .int 0)] [] (shS ex, I, J, QS) (some (.int v), (shS ex, I', J, QS)) ∧ FrM I I' ∧ (v = 0 ∨ (v = 1 ∧ NX τ g k a b L F B T I')) := by
  have f1 := hF.1.1
  have f2 := hF.1.2.1
  have f3 := hF.1.2.2.1
  have f4 := hF.1.2.2.2
  have r1 := hr.1.1
  have r2 := hr.1.2.1
  have r3 := hr.1.2.2.1
  have r4 := hr.1.2.2.2
  cases c0 : Op.if_icmp.holds .eq (I 18 0) (4 : Int32) with
  | true =>
    have q_a := q4_t f3 r3 c0
    have c1 : Op.ifCond.holds .eq (I 11 0) = true := by rw [hE 0 (by decide)]; decide
    cases c2 : Op.if_icmp.holds .eq (I 18 1) (4 : Int32) with
    | true =>
      have q_b := q4_t f4 r4 c2
      refine ⟨_, _, d_does_0_0 ex I J c0 c1 c2, FrM.rf, Or.inr ⟨rfl, ?_⟩⟩
      have hk : k = kt k b := by
        unfold kt
        rw [if_pos (by omega)]
      refine Or.inl ?_
      rw [← hk]
      exact hF
    | false =>
      have q_b := q4_f f4 r4 c2
      have e_b : (I 18 1).toNatClampNeg = b := by rw [f4]; exact c32 (by omega)
      refine ⟨_, _, d_does_0_1 ex I J c0 c1 c2, (FrM.u9 FrM.rf (by decide)), Or.inr ⟨rfl, ?_⟩⟩
      have hk : (I 9 15) ||| ((1 : Int32) <<< ((I 18 1) &&& 31)) = Int32.ofInt ((kt k b : Nat) : Int) := by
        rw [f2, f4, kn_eq k (by omega) b q_b]
        unfold kt
        rw [if_neg (by omega)]
      refine Or.inl ?_
      exact (FI_k hF hk)
  | false =>
    have q_a := q4_f f3 r3 c0
    have e_a : (I 18 0).toNatClampNeg = a := by rw [f3]; exact c32 (by omega)
    have c1 : mxin (I 18 0) 4 = true := g4 f3 q_a
    cases c2 : Op.ifCond.holds .eq (I 14 (I 18 0).toNatClampNeg) with
    | true =>
      have c3 : Op.ifCond.holds .eq (I 11 0) = true := by rw [hE 0 (by decide)]; decide
      cases c4 : Op.if_icmp.holds .eq (I 18 1) (4 : Int32) with
      | true =>
        have q_b := q4_t f4 r4 c4
        refine ⟨_, _, d_does_0_2 ex I J c0 c1 c2 c3 c4, FrM.rf, Or.inr ⟨rfl, ?_⟩⟩
        have hk : k = kt k b := by
          unfold kt
          rw [if_pos (by omega)]
        refine Or.inl ?_
        rw [← hk]
        exact hF
      | false =>
        have q_b := q4_f f4 r4 c4
        have e_b : (I 18 1).toNatClampNeg = b := by rw [f4]; exact c32 (by omega)
        refine ⟨_, _, d_does_0_3 ex I J c0 c1 c2 c3 c4, (FrM.u9 FrM.rf (by decide)), Or.inr ⟨rfl, ?_⟩⟩
        have hk : (I 9 15) ||| ((1 : Int32) <<< ((I 18 1) &&& 31)) = Int32.ofInt ((kt k b : Nat) : Int) := by
          rw [f2, f4, kn_eq k (by omega) b q_b]
          unfold kt
          rw [if_neg (by omega)]
        refine Or.inl ?_
        exact (FI_k hF hk)
    | false =>
      have q_l : L a ≠ 0 := nz_t (hF.2 a q_a).1 (by have := (hr.2 a q_a).1; omega) (by rw [e_a] at c2; exact c2)
      have c3 : Op.ifCond.holds .eq (I 11 0) = true := by rw [hE 0 (by decide)]; decide
      cases c4 : Op.if_icmp.holds .eq (I 18 1) (4 : Int32) with
      | true =>
        have q_b := q4_t f4 r4 c4
        refine ⟨_, _, d_does_0_4 ex I J c0 c1 c2 c3 c4, FrM.rf, Or.inr ⟨rfl, ?_⟩⟩
        have hk : k = kt k b := by
          unfold kt
          rw [if_pos (by omega)]
        refine Or.inl ?_
        rw [← hk]
        exact hF
      | false =>
        have q_b := q4_f f4 r4 c4
        have e_b : (I 18 1).toNatClampNeg = b := by rw [f4]; exact c32 (by omega)
        refine ⟨_, _, d_does_0_5 ex I J c0 c1 c2 c3 c4, (FrM.u9 FrM.rf (by decide)), Or.inr ⟨rfl, ?_⟩⟩
        have hk : (I 9 15) ||| ((1 : Int32) <<< ((I 18 1) &&& 31)) = Int32.ofInt ((kt k b : Nat) : Int) := by
          rw [f2, f4, kn_eq k (by omega) b q_b]
          unfold kt
          rw [if_neg (by omega)]
        refine Or.inl ?_
        exact (FI_k hF hk)
theorem dz_1 (ex : List (Nat × Nat)) {I : Nat → Nat → Int32} (J : Nat → Nat → Int64) {g k a b : Nat} {L F B T : Nat → Nat} {τ : Bool} (hF : FI I g k a b L F B T) (hr : RG g k a b L F B T) (hE : ∀ j, j < 7 → I 11 j = 0) (hτ : Op.if_icmp.holds .ne (((I 9 16) >>> ((0 : Int32) &&& 31)) &&& (1 : Int32)) (1 : Int32) = !τ) (hn : a < 4 → F a ≠ 2) : ∃ (v : Int32) (I' : Nat → Nat → Int32), mxRn 106 0 [(0, .ref 9), (1, .int 1)] [] (shS ex, I, J, QS) (some (.int v), (shS ex, I', J, QS)) ∧ FrM I I' ∧ (v = 0 ∨ (v = 1 ∧ NX τ g k a b L F B T I')) := by
  have f1 := hF.1.1
  have f2 := hF.1.2.1
  have f3 := hF.1.2.2.1
  have f4 := hF.1.2.2.2
  have r1 := hr.1.1
  have r2 := hr.1.2.1
  have r3 := hr.1.2.2.1
  have r4 := hr.1.2.2.2
  have c0 : Op.if_icmp.holds .ne (I 11 2) (1 : Int32) = true := by rw [hE 2 (by decide)]; decide
  cases c1 : Op.if_icmp.holds .ne (I 9 14) (4 : Int32) with
  | true =>
    have q_g := p4_t f1 r1 c1
    have e_g : (I 9 14).toNatClampNeg = g := by rw [f1]; exact c32 (by omega)
    have c2 : mxin (I 9 14) 4 = true := g4 f1 q_g
    cases c3 : Op.if_icmp.holds .ne (((I 9 16) >>> ((0 : Int32) &&& 31)) &&& (1 : Int32)) (1 : Int32) with
    | true =>
      have q_τ : τ = false := by
        rw [c3] at hτ
        cases τ <;> first | rfl | cases hτ
      cases c4 : Op.if_icmp.holds .eq (I 18 1) (4 : Int32) with
      | true =>
        have q_b := q4_t f4 r4 c4
        refine ⟨_, _, d_does_1_0 ex I J c0 c1 c2 c3 c4, (FrM.u9 (FrM.up (FrM.up (FrM.up (FrM.up (FrM.up FrM.rf (by decide)) (by decide)) (by decide)) (by decide)) (by decide)) (by decide)), Or.inr ⟨rfl, ?_⟩⟩
        rw [e_g]
        have hk : k = kt k b := by
          unfold kt
          rw [if_pos (by omega)]
        refine Or.inr (Or.inl ⟨q_g, Or.inl q_τ, ?_⟩)
        rw [← hk]
        exact (FI_g (FI_s0 (FI_t (FI_b (FI_f (FI_l hF rfl) rfl) rfl) rfl) f1) (by rw [f1, one32, a32]))
      | false =>
        have q_b := q4_f f4 r4 c4
        have e_b : (I 18 1).toNatClampNeg = b := by rw [f4]; exact c32 (by omega)
        refine ⟨_, _, d_does_1_1 ex I J c0 c1 c2 c3 c4, (FrM.u9 (FrM.u9 (FrM.up (FrM.up (FrM.up (FrM.up (FrM.up FrM.rf (by decide)) (by decide)) (by decide)) (by decide)) (by decide)) (by decide)) (by decide)), Or.inr ⟨rfl, ?_⟩⟩
        rw [e_g]
        have hk : (I 9 15) ||| ((1 : Int32) <<< ((I 18 1) &&& 31)) = Int32.ofInt ((kt k b : Nat) : Int) := by
          rw [f2, f4, kn_eq k (by omega) b q_b]
          unfold kt
          rw [if_neg (by omega)]
        refine Or.inr (Or.inl ⟨q_g, Or.inl q_τ, ?_⟩)
        exact (FI_k (FI_g (FI_s0 (FI_t (FI_b (FI_f (FI_l hF rfl) rfl) rfl) rfl) f1) (by rw [f1, one32, a32])) hk)
    | false =>
      have q_τ : τ = true := by
        rw [c3] at hτ
        cases τ <;> first | rfl | cases hτ
      cases c4 : Op.if_icmp.holds .eq (I 18 0) (4 : Int32) with
      | true =>
        have q_a := q4_t f3 r3 c4
        cases c5 : Op.if_icmp.holds .eq (I 18 1) (4 : Int32) with
        | true =>
          have q_b := q4_t f4 r4 c5
          refine ⟨_, _, d_does_1_2 ex I J c0 c1 c2 c3 c4 c5, (FrM.u9 (FrM.up (FrM.up (FrM.up (FrM.up (FrM.up FrM.rf (by decide)) (by decide)) (by decide)) (by decide)) (by decide)) (by decide)), Or.inr ⟨rfl, ?_⟩⟩
          rw [e_g]
          have hk : k = kt k b := by
            unfold kt
            rw [if_pos (by omega)]
          refine Or.inr (Or.inl ⟨q_g, Or.inr q_a, ?_⟩)
          rw [← hk]
          exact (FI_g (FI_s0 (FI_t (FI_b (FI_f (FI_l hF rfl) rfl) rfl) rfl) f1) (by rw [f1, one32, a32]))
        | false =>
          have q_b := q4_f f4 r4 c5
          have e_b : (I 18 1).toNatClampNeg = b := by rw [f4]; exact c32 (by omega)
          refine ⟨_, _, d_does_1_3 ex I J c0 c1 c2 c3 c4 c5, (FrM.u9 (FrM.u9 (FrM.up (FrM.up (FrM.up (FrM.up (FrM.up FrM.rf (by decide)) (by decide)) (by decide)) (by decide)) (by decide)) (by decide)) (by decide)), Or.inr ⟨rfl, ?_⟩⟩
          rw [e_g]
          have hk : (I 9 15) ||| ((1 : Int32) <<< ((I 18 1) &&& 31)) = Int32.ofInt ((kt k b : Nat) : Int) := by
            rw [f2, f4, kn_eq k (by omega) b q_b]
            unfold kt
            rw [if_neg (by omega)]
          refine Or.inr (Or.inl ⟨q_g, Or.inr q_a, ?_⟩)
          exact (FI_k (FI_g (FI_s0 (FI_t (FI_b (FI_f (FI_l hF rfl) rfl) rfl) rfl) f1) (by rw [f1, one32, a32])) hk)
      | false =>
        have q_a := q4_f f3 r3 c4
        have e_a : (I 18 0).toNatClampNeg = a := by rw [f3]; exact c32 (by omega)
        have c5 : mxin (I 18 0) 4 = true := g4 f3 q_a
        cases c6 : Op.if_icmp.holds .eq (I 18 1) (4 : Int32) with
        | true =>
          have q_b := q4_t f4 r4 c6
          refine ⟨_, _, d_does_1_4 ex I J c0 c1 c2 c3 c4 c5 c6, (FrM.up (FrM.u9 (FrM.up (FrM.up (FrM.up (FrM.up (FrM.up FrM.rf (by decide)) (by decide)) (by decide)) (by decide)) (by decide)) (by decide)) (by decide)), Or.inr ⟨rfl, ?_⟩⟩
          rw [e_g, e_a]
          have hk : k = kt k b := by
            unfold kt
            rw [if_pos (by omega)]
          refine Or.inr (Or.inr (Or.inl ⟨q_g, q_τ, q_a, ?_⟩))
          rw [← hk]
          exact (FI_l (FI_g (FI_s0 (FI_t (FI_b (FI_f (FI_l hF rfl) rfl) rfl) rfl) f1) (by rw [f1, one32, a32])) rfl)
        | false =>
          have q_b := q4_f f4 r4 c6
          have e_b : (I 18 1).toNatClampNeg = b := by rw [f4]; exact c32 (by omega)
          refine ⟨_, _, d_does_1_5 ex I J c0 c1 c2 c3 c4 c5 c6, (FrM.u9 (FrM.up (FrM.u9 (FrM.up (FrM.up (FrM.up (FrM.up (FrM.up FrM.rf (by decide)) (by decide)) (by decide)) (by decide)) (by decide)) (by decide)) (by decide)) (by decide)), Or.inr ⟨rfl, ?_⟩⟩
          rw [e_g, e_a]
          have hk : (I 9 15) ||| ((1 : Int32) <<< ((I 18 1) &&& 31)) = Int32.ofInt ((kt k b : Nat) : Int) := by
            rw [f2, f4, kn_eq k (by omega) b q_b]
            unfold kt
            rw [if_neg (by omega)]
          refine Or.inr (Or.inr (Or.inl ⟨q_g, q_τ, q_a, ?_⟩))
          exact (FI_k (FI_l (FI_g (FI_s0 (FI_t (FI_b (FI_f (FI_l hF rfl) rfl) rfl) rfl) f1) (by rw [f1, one32, a32])) rfl) hk)
  | false =>
    cases c2 : Op.if_icmp.holds .eq (I 18 1) (4 : Int32) with
    | true =>
      have q_b := q4_t f4 r4 c2
      exact ⟨_, _, d_does_1_6 ex I J c0 c1 c2, FrM.rf, Or.inl rfl⟩
    | false =>
      have q_b := q4_f f4 r4 c2
      have e_b : (I 18 1).toNatClampNeg = b := by rw [f4]; exact c32 (by omega)
      exact ⟨_, _, d_does_1_7 ex I J c0 c1 c2, (FrM.u9 FrM.rf (by decide)), Or.inl rfl⟩
theorem dz_2 (ex : List (Nat × Nat)) {I : Nat → Nat → Int32} (J : Nat → Nat → Int64) {g k a b : Nat} {L F B T : Nat → Nat} {τ : Bool} (hF : FI I g k a b L F B T) (hr : RG g k a b L F B T) (hE : ∀ j, j < 7 → I 11 j = 0) (hτ : Op.if_icmp.holds .ne (((I 9 16) >>> ((0 : Int32) &&& 31)) &&& (1 : Int32)) (1 : Int32) = !τ) (hn : a < 4 → F a ≠ 2) : ∃ (v : Int32) (I' : Nat → Nat → Int32), mxRn 106 0 [(0, .ref 9), (1, .int 2)] [] (shS ex, I, J, QS) (some (.int v), (shS ex, I', J, QS)) ∧ FrM I I' ∧ (v = 0 ∨ (v = 1 ∧ NX τ g k a b L F B T I')) := by
  have f1 := hF.1.1
  have f2 := hF.1.2.1
  have f3 := hF.1.2.2.1
  have f4 := hF.1.2.2.2
  have r1 := hr.1.1
  have r2 := hr.1.2.1
  have r3 := hr.1.2.2.1
  have r4 := hr.1.2.2.2
  cases c0 : Op.if_icmp.holds .eq (I 18 0) (4 : Int32) with
  | true =>
    have q_a := q4_t f3 r3 c0
    cases c1 : Op.if_icmp.holds .eq (I 18 1) (4 : Int32) with
    | true =>
      have q_b := q4_t f4 r4 c1
      exact ⟨_, _, d_does_2_0 ex I J c0 c1, FrM.rf, Or.inl rfl⟩
    | false =>
      have q_b := q4_f f4 r4 c1
      have e_b : (I 18 1).toNatClampNeg = b := by rw [f4]; exact c32 (by omega)
      exact ⟨_, _, d_does_2_1 ex I J c0 c1, (FrM.u9 FrM.rf (by decide)), Or.inl rfl⟩
  | false =>
    have q_a := q4_f f3 r3 c0
    have e_a : (I 18 0).toNatClampNeg = a := by rw [f3]; exact c32 (by omega)
    have c1 : mxin (I 18 0) 4 = true := g4 f3 q_a
    cases c2 : Op.ifCond.holds .eq (I 14 (I 18 0).toNatClampNeg) with
    | true =>
      cases c3 : Op.if_icmp.holds .eq (I 18 1) (4 : Int32) with
      | true =>
        have q_b := q4_t f4 r4 c3
        exact ⟨_, _, d_does_2_2 ex I J c0 c1 c2 c3, FrM.rf, Or.inl rfl⟩
      | false =>
        have q_b := q4_f f4 r4 c3
        have e_b : (I 18 1).toNatClampNeg = b := by rw [f4]; exact c32 (by omega)
        exact ⟨_, _, d_does_2_3 ex I J c0 c1 c2 c3, (FrM.u9 FrM.rf (by decide)), Or.inl rfl⟩
    | false =>
      have q_l : L a ≠ 0 := nz_t (hF.2 a q_a).1 (by have := (hr.2 a q_a).1; omega) (by rw [e_a] at c2; exact c2)
      cases c3 : Op.ifCond.holds .ne (I 15 (I 18 0).toNatClampNeg) with
      | true =>
        have q_f : F a ≠ 0 := nz_n (hF.2 a q_a).2.1 (by rw [e_a] at c3; exact c3)
        have c4 : Op.ifCond.holds .eq (I 11 3) = true := by rw [hE 3 (by decide)]; decide
        cases c5 : Op.if_icmp.holds .eq (I 18 1) (4 : Int32) with
        | true =>
          have q_b := q4_t f4 r4 c5
          refine ⟨_, _, d_does_2_4 ex I J c0 c1 c2 c3 c4 c5, (FrM.up (FrM.up FrM.rf (by decide)) (by decide)), Or.inr ⟨rfl, ?_⟩⟩
          rw [e_a]
          have hk : k = kt k b := by
            unfold kt
            rw [if_pos (by omega)]
          refine Or.inr (Or.inr (Or.inr (Or.inr (Or.inr ⟨q_a, q_l, q_f, ?_⟩))))
          rw [← hk]
          exact (FI_s0 (FI_l hF rfl) rfl)
        | false =>
          have q_b := q4_f f4 r4 c5
          have e_b : (I 18 1).toNatClampNeg = b := by rw [f4]; exact c32 (by omega)
          refine ⟨_, _, d_does_2_5 ex I J c0 c1 c2 c3 c4 c5, (FrM.u9 (FrM.up (FrM.up FrM.rf (by decide)) (by decide)) (by decide)), Or.inr ⟨rfl, ?_⟩⟩
          rw [e_a]
          have hk : (I 9 15) ||| ((1 : Int32) <<< ((I 18 1) &&& 31)) = Int32.ofInt ((kt k b : Nat) : Int) := by
            rw [f2, f4, kn_eq k (by omega) b q_b]
            unfold kt
            rw [if_neg (by omega)]
          refine Or.inr (Or.inr (Or.inr (Or.inr (Or.inr ⟨q_a, q_l, q_f, ?_⟩))))
          exact (FI_k (FI_s0 (FI_l hF rfl) rfl) hk)
      | false =>
        cases c4 : Op.if_icmp.holds .eq (I 18 1) (4 : Int32) with
        | true =>
          have q_b := q4_t f4 r4 c4
          exact ⟨_, _, d_does_2_6 ex I J c0 c1 c2 c3 c4, FrM.rf, Or.inl rfl⟩
        | false =>
          have q_b := q4_f f4 r4 c4
          have e_b : (I 18 1).toNatClampNeg = b := by rw [f4]; exact c32 (by omega)
          exact ⟨_, _, d_does_2_7 ex I J c0 c1 c2 c3 c4, (FrM.u9 FrM.rf (by decide)), Or.inl rfl⟩
theorem dz_3 (ex : List (Nat × Nat)) {I : Nat → Nat → Int32} (J : Nat → Nat → Int64) {g k a b : Nat} {L F B T : Nat → Nat} {τ : Bool} (hF : FI I g k a b L F B T) (hr : RG g k a b L F B T) (hE : ∀ j, j < 7 → I 11 j = 0) (hτ : Op.if_icmp.holds .ne (((I 9 16) >>> ((0 : Int32) &&& 31)) &&& (1 : Int32)) (1 : Int32) = !τ) (hn : a < 4 → F a ≠ 2) : ∃ (v : Int32) (I' : Nat → Nat → Int32), mxRn 106 0 [(0, .ref 9), (1, .int 3)] [] (shS ex, I, J, QS) (some (.int v), (shS ex, I', J, QS)) ∧ FrM I I' ∧ (v = 0 ∨ (v = 1 ∧ NX τ g k a b L F B T I')) := by
  have f1 := hF.1.1
  have f2 := hF.1.2.1
  have f3 := hF.1.2.2.1
  have f4 := hF.1.2.2.2
  have r1 := hr.1.1
  have r2 := hr.1.2.1
  have r3 := hr.1.2.2.1
  have r4 := hr.1.2.2.2
  cases c0 : Op.if_icmp.holds .eq (I 18 0) (4 : Int32) with
  | true =>
    have q_a := q4_t f3 r3 c0
    cases c1 : Op.if_icmp.holds .eq (I 18 1) (4 : Int32) with
    | true =>
      have q_b := q4_t f4 r4 c1
      exact ⟨_, _, d_does_3_0 ex I J c0 c1, FrM.rf, Or.inl rfl⟩
    | false =>
      have q_b := q4_f f4 r4 c1
      have e_b : (I 18 1).toNatClampNeg = b := by rw [f4]; exact c32 (by omega)
      exact ⟨_, _, d_does_3_1 ex I J c0 c1, (FrM.u9 FrM.rf (by decide)), Or.inl rfl⟩
  | false =>
    have q_a := q4_f f3 r3 c0
    have e_a : (I 18 0).toNatClampNeg = a := by rw [f3]; exact c32 (by omega)
    have c1 : mxin (I 18 0) 4 = true := g4 f3 q_a
    cases c2 : Op.ifCond.holds .eq (I 14 (I 18 0).toNatClampNeg) with
    | true =>
      cases c3 : Op.if_icmp.holds .eq (I 18 1) (4 : Int32) with
      | true =>
        have q_b := q4_t f4 r4 c3
        exact ⟨_, _, d_does_3_2 ex I J c0 c1 c2 c3, FrM.rf, Or.inl rfl⟩
      | false =>
        have q_b := q4_f f4 r4 c3
        have e_b : (I 18 1).toNatClampNeg = b := by rw [f4]; exact c32 (by omega)
        exact ⟨_, _, d_does_3_3 ex I J c0 c1 c2 c3, (FrM.u9 FrM.rf (by decide)), Or.inl rfl⟩
    | false =>
      have q_l : L a ≠ 0 := nz_t (hF.2 a q_a).1 (by have := (hr.2 a q_a).1; omega) (by rw [e_a] at c2; exact c2)
      cases c3 : Op.if_icmp.holds .ne (((I 9 16) >>> ((2 : Int32) &&& 31)) &&& (1 : Int32)) (1 : Int32) with
      | true =>
        cases c4 : Op.ifCond.holds .le (I 15 (I 18 0).toNatClampNeg) with
        | true =>
          cases c5 : Op.if_icmp.holds .eq (I 18 1) (4 : Int32) with
          | true =>
            have q_b := q4_t f4 r4 c5
            exact ⟨_, _, d_does_3_4 ex I J c0 c1 c2 c3 c4 c5, FrM.rf, Or.inl rfl⟩
          | false =>
            have q_b := q4_f f4 r4 c5
            have e_b : (I 18 1).toNatClampNeg = b := by rw [f4]; exact c32 (by omega)
            exact ⟨_, _, d_does_3_5 ex I J c0 c1 c2 c3 c4 c5, (FrM.u9 FrM.rf (by decide)), Or.inl rfl⟩
        | false =>
          cases c5 : Op.if_icmp.holds .ne (I 15 (I 18 0).toNatClampNeg) (2 : Int32) with
          | true =>
            cases c6 : Op.if_icmp.holds .eq (I 18 1) (4 : Int32) with
            | true =>
              have q_b := q4_t f4 r4 c6
              refine ⟨_, _, d_does_3_6 ex I J c0 c1 c2 c3 c4 c5 c6, FrM.rf, Or.inr ⟨rfl, ?_⟩⟩
              have hk : k = kt k b := by
                unfold kt
                rw [if_pos (by omega)]
              refine Or.inl ?_
              rw [← hk]
              exact hF
            | false =>
              have q_b := q4_f f4 r4 c6
              have e_b : (I 18 1).toNatClampNeg = b := by rw [f4]; exact c32 (by omega)
              refine ⟨_, _, d_does_3_7 ex I J c0 c1 c2 c3 c4 c5 c6, (FrM.u9 FrM.rf (by decide)), Or.inr ⟨rfl, ?_⟩⟩
              have hk : (I 9 15) ||| ((1 : Int32) <<< ((I 18 1) &&& 31)) = Int32.ofInt ((kt k b : Nat) : Int) := by
                rw [f2, f4, kn_eq k (by omega) b q_b]
                unfold kt
                rw [if_neg (by omega)]
              refine Or.inl ?_
              exact (FI_k hF hk)
          | false =>
            cases c6 : Op.if_icmp.holds .eq (I 18 1) (4 : Int32) with
            | true =>
              have q_b := q4_t f4 r4 c6
              exact absurd (n2_f (hF.2 a q_a).2.1 (by have := (hr.2 a q_a).2.1; omega) (by rw [e_a] at c5; exact c5)) (hn q_a)
            | false =>
              have q_b := q4_f f4 r4 c6
              have e_b : (I 18 1).toNatClampNeg = b := by rw [f4]; exact c32 (by omega)
              exact absurd (n2_f (hF.2 a q_a).2.1 (by have := (hr.2 a q_a).2.1; omega) (by rw [e_a] at c5; exact c5)) (hn q_a)
      | false =>
        cases c4 : Op.if_icmp.holds .ne (I 16 (I 18 0).toNatClampNeg) (0 : Int32) with
        | true =>
          cases c5 : Op.if_icmp.holds .eq (I 18 1) (4 : Int32) with
          | true =>
            have q_b := q4_t f4 r4 c5
            exact ⟨_, _, d_does_3_10 ex I J c0 c1 c2 c3 c4 c5, FrM.rf, Or.inl rfl⟩
          | false =>
            have q_b := q4_f f4 r4 c5
            have e_b : (I 18 1).toNatClampNeg = b := by rw [f4]; exact c32 (by omega)
            exact ⟨_, _, d_does_3_11 ex I J c0 c1 c2 c3 c4 c5, (FrM.u9 FrM.rf (by decide)), Or.inl rfl⟩
        | false =>
          cases c5 : Op.ifCond.holds .le (I 15 (I 18 0).toNatClampNeg) with
          | true =>
            cases c6 : Op.if_icmp.holds .eq (I 18 1) (4 : Int32) with
            | true =>
              have q_b := q4_t f4 r4 c6
              exact ⟨_, _, d_does_3_12 ex I J c0 c1 c2 c3 c4 c5 c6, FrM.rf, Or.inl rfl⟩
            | false =>
              have q_b := q4_f f4 r4 c6
              have e_b : (I 18 1).toNatClampNeg = b := by rw [f4]; exact c32 (by omega)
              exact ⟨_, _, d_does_3_13 ex I J c0 c1 c2 c3 c4 c5 c6, (FrM.u9 FrM.rf (by decide)), Or.inl rfl⟩
          | false =>
            cases c6 : Op.if_icmp.holds .ne (I 15 (I 18 0).toNatClampNeg) (2 : Int32) with
            | true =>
              cases c7 : Op.if_icmp.holds .eq (I 18 1) (4 : Int32) with
              | true =>
                have q_b := q4_t f4 r4 c7
                refine ⟨_, _, d_does_3_14 ex I J c0 c1 c2 c3 c4 c5 c6 c7, FrM.rf, Or.inr ⟨rfl, ?_⟩⟩
                have hk : k = kt k b := by
                  unfold kt
                  rw [if_pos (by omega)]
                refine Or.inl ?_
                rw [← hk]
                exact hF
              | false =>
                have q_b := q4_f f4 r4 c7
                have e_b : (I 18 1).toNatClampNeg = b := by rw [f4]; exact c32 (by omega)
                refine ⟨_, _, d_does_3_15 ex I J c0 c1 c2 c3 c4 c5 c6 c7, (FrM.u9 FrM.rf (by decide)), Or.inr ⟨rfl, ?_⟩⟩
                have hk : (I 9 15) ||| ((1 : Int32) <<< ((I 18 1) &&& 31)) = Int32.ofInt ((kt k b : Nat) : Int) := by
                  rw [f2, f4, kn_eq k (by omega) b q_b]
                  unfold kt
                  rw [if_neg (by omega)]
                refine Or.inl ?_
                exact (FI_k hF hk)
            | false =>
              cases c7 : Op.if_icmp.holds .eq (I 18 1) (4 : Int32) with
              | true =>
                have q_b := q4_t f4 r4 c7
                exact absurd (n2_f (hF.2 a q_a).2.1 (by have := (hr.2 a q_a).2.1; omega) (by rw [e_a] at c6; exact c6)) (hn q_a)
              | false =>
                have q_b := q4_f f4 r4 c7
                have e_b : (I 18 1).toNatClampNeg = b := by rw [f4]; exact c32 (by omega)
                exact absurd (n2_f (hF.2 a q_a).2.1 (by have := (hr.2 a q_a).2.1; omega) (by rw [e_a] at c6; exact c6)) (hn q_a)
theorem dz_4 (ex : List (Nat × Nat)) {I : Nat → Nat → Int32} (J : Nat → Nat → Int64) {g k a b : Nat} {L F B T : Nat → Nat} {τ : Bool} (hF : FI I g k a b L F B T) (hr : RG g k a b L F B T) (hE : ∀ j, j < 7 → I 11 j = 0) (hτ : Op.if_icmp.holds .ne (((I 9 16) >>> ((0 : Int32) &&& 31)) &&& (1 : Int32)) (1 : Int32) = !τ) (hn : a < 4 → F a ≠ 2) : ∃ (v : Int32) (I' : Nat → Nat → Int32), mxRn 106 0 [(0, .ref 9), (1, .int 4)] [] (shS ex, I, J, QS) (some (.int v), (shS ex, I', J, QS)) ∧ FrM I I' ∧ (v = 0 ∨ (v = 1 ∧ NX τ g k a b L F B T I')) := by
  have f1 := hF.1.1
  have f2 := hF.1.2.1
  have f3 := hF.1.2.2.1
  have f4 := hF.1.2.2.2
  have r1 := hr.1.1
  have r2 := hr.1.2.1
  have r3 := hr.1.2.2.1
  have r4 := hr.1.2.2.2
  have c0 : Op.ifCond.holds .eq (I 11 1) = true := by rw [hE 1 (by decide)]; decide
  cases c1 : Op.if_icmp.holds .eq (I 18 1) (4 : Int32) with
  | true =>
    have q_b := q4_t f4 r4 c1
    exact ⟨_, _, d_does_4_0 ex I J c0 c1, FrM.rf, Or.inl rfl⟩
  | false =>
    have q_b := q4_f f4 r4 c1
    have e_b : (I 18 1).toNatClampNeg = b := by rw [f4]; exact c32 (by omega)
    exact ⟨_, _, d_does_4_1 ex I J c0 c1, (FrM.u9 FrM.rf (by decide)), Or.inl rfl⟩
theorem dz_5 (ex : List (Nat × Nat)) {I : Nat → Nat → Int32} (J : Nat → Nat → Int64) {g k a b : Nat} {L F B T : Nat → Nat} {τ : Bool} (hF : FI I g k a b L F B T) (hr : RG g k a b L F B T) (hE : ∀ j, j < 7 → I 11 j = 0) (hτ : Op.if_icmp.holds .ne (((I 9 16) >>> ((0 : Int32) &&& 31)) &&& (1 : Int32)) (1 : Int32) = !τ) (hn : a < 4 → F a ≠ 2) : ∃ (v : Int32) (I' : Nat → Nat → Int32), mxRn 106 0 [(0, .ref 9), (1, .int 5)] [] (shS ex, I, J, QS) (some (.int v), (shS ex, I', J, QS)) ∧ FrM I I' ∧ (v = 0 ∨ (v = 1 ∧ NX τ g k a b L F B T I')) := by
  have f1 := hF.1.1
  have f2 := hF.1.2.1
  have f3 := hF.1.2.2.1
  have f4 := hF.1.2.2.2
  have r1 := hr.1.1
  have r2 := hr.1.2.1
  have r3 := hr.1.2.2.1
  have r4 := hr.1.2.2.2
  have c0 : Op.if_icmp.holds .ne (I 11 5) (1 : Int32) = true := by rw [hE 5 (by decide)]; decide
  cases c1 : Op.if_icmp.holds .eq (I 18 1) (4 : Int32) with
  | true =>
    have q_b := q4_t f4 r4 c1
    exact ⟨_, _, d_does_5_0 ex I J c0 c1, FrM.rf, Or.inl rfl⟩
  | false =>
    have q_b := q4_f f4 r4 c1
    have e_b : (I 18 1).toNatClampNeg = b := by rw [f4]; exact c32 (by omega)
    exact ⟨_, _, d_does_5_1 ex I J c0 c1, (FrM.u9 FrM.rf (by decide)), Or.inl rfl⟩
theorem dz_6 (ex : List (Nat × Nat)) {I : Nat → Nat → Int32} (J : Nat → Nat → Int64) {g k a b : Nat} {L F B T : Nat → Nat} {τ : Bool} (hF : FI I g k a b L F B T) (hr : RG g k a b L F B T) (hE : ∀ j, j < 7 → I 11 j = 0) (hτ : Op.if_icmp.holds .ne (((I 9 16) >>> ((0 : Int32) &&& 31)) &&& (1 : Int32)) (1 : Int32) = !τ) (hn : a < 4 → F a ≠ 2) : ∃ (v : Int32) (I' : Nat → Nat → Int32), mxRn 106 0 [(0, .ref 9), (1, .int 6)] [] (shS ex, I, J, QS) (some (.int v), (shS ex, I', J, QS)) ∧ FrM I I' ∧ (v = 0 ∨ (v = 1 ∧ NX τ g k a b L F B T I')) := by
  have f1 := hF.1.1
  have f2 := hF.1.2.1
  have f3 := hF.1.2.2.1
  have f4 := hF.1.2.2.2
  have r1 := hr.1.1
  have r2 := hr.1.2.1
  have r3 := hr.1.2.2.1
  have r4 := hr.1.2.2.2
  have c0 : Op.ifCond.holds .eq (I 11 4) = true := by rw [hE 4 (by decide)]; decide
  cases c1 : Op.if_icmp.holds .eq (I 18 1) (4 : Int32) with
  | true =>
    have q_b := q4_t f4 r4 c1
    exact ⟨_, _, d_does_6_0 ex I J c0 c1, FrM.rf, Or.inl rfl⟩
  | false =>
    have q_b := q4_f f4 r4 c1
    have e_b : (I 18 1).toNatClampNeg = b := by rw [f4]; exact c32 (by omega)
    exact ⟨_, _, d_does_6_1 ex I J c0 c1, (FrM.u9 FrM.rf (by decide)), Or.inl rfl⟩
theorem dz_7 (ex : List (Nat × Nat)) {I : Nat → Nat → Int32} (J : Nat → Nat → Int64) {g k a b : Nat} {L F B T : Nat → Nat} {τ : Bool} (hF : FI I g k a b L F B T) (hr : RG g k a b L F B T) (hE : ∀ j, j < 7 → I 11 j = 0) (hτ : Op.if_icmp.holds .ne (((I 9 16) >>> ((0 : Int32) &&& 31)) &&& (1 : Int32)) (1 : Int32) = !τ) (hn : a < 4 → F a ≠ 2) : ∃ (v : Int32) (I' : Nat → Nat → Int32), mxRn 106 0 [(0, .ref 9), (1, .int 7)] [] (shS ex, I, J, QS) (some (.int v), (shS ex, I', J, QS)) ∧ FrM I I' ∧ (v = 0 ∨ (v = 1 ∧ NX τ g k a b L F B T I')) := by
  have f1 := hF.1.1
  have f2 := hF.1.2.1
  have f3 := hF.1.2.2.1
  have f4 := hF.1.2.2.2
  have r1 := hr.1.1
  have r2 := hr.1.2.1
  have r3 := hr.1.2.2.1
  have r4 := hr.1.2.2.2
  cases c0 : Op.if_icmp.holds .eq (I 18 1) (4 : Int32) with
  | true =>
    have q_b := q4_t f4 r4 c0
    have c1 : Op.ifCond.holds .eq (I 11 0) = true := by rw [hE 0 (by decide)]; decide
    refine ⟨_, _, d_does_7_0 ex I J c0 c1, FrM.rf, Or.inr ⟨rfl, ?_⟩⟩
    have hk : k = kt k b := by
      unfold kt
      rw [if_pos (by omega)]
    refine Or.inl ?_
    rw [← hk]
    exact hF
  | false =>
    have q_b := q4_f f4 r4 c0
    have e_b : (I 18 1).toNatClampNeg = b := by rw [f4]; exact c32 (by omega)
    have c1 : mxin (I 18 1) 4 = true := g4 f4 q_b
    cases c2 : Op.ifCond.holds .eq (I 14 (I 18 1).toNatClampNeg) with
    | true =>
      have c3 : Op.ifCond.holds .eq (I 11 0) = true := by rw [hE 0 (by decide)]; decide
      refine ⟨_, _, d_does_7_1 ex I J c0 c1 c2 c3, (FrM.u9 FrM.rf (by decide)), Or.inr ⟨rfl, ?_⟩⟩
      have hk : (I 9 15) ||| ((1 : Int32) <<< ((I 18 1) &&& 31)) = Int32.ofInt ((kt k b : Nat) : Int) := by
        rw [f2, f4, kn_eq k (by omega) b q_b]
        unfold kt
        rw [if_neg (by omega)]
      refine Or.inl ?_
      exact (FI_k hF hk)
    | false =>
      have c3 : Op.ifCond.holds .eq (I 11 0) = true := by rw [hE 0 (by decide)]; decide
      refine ⟨_, _, d_does_7_2 ex I J c0 c1 c2 c3, (FrM.u9 FrM.rf (by decide)), Or.inr ⟨rfl, ?_⟩⟩
      have hk : (I 9 15) ||| ((1 : Int32) <<< ((I 18 1) &&& 31)) = Int32.ofInt ((kt k b : Nat) : Int) := by
        rw [f2, f4, kn_eq k (by omega) b q_b]
        unfold kt
        rw [if_neg (by omega)]
      refine Or.inl ?_
      exact (FI_k hF hk)
theorem dz_8 (ex : List (Nat × Nat)) {I : Nat → Nat → Int32} (J : Nat → Nat → Int64) {g k a b : Nat} {L F B T : Nat → Nat} {τ : Bool} (hF : FI I g k a b L F B T) (hr : RG g k a b L F B T) (hE : ∀ j, j < 7 → I 11 j = 0) (hτ : Op.if_icmp.holds .ne (((I 9 16) >>> ((0 : Int32) &&& 31)) &&& (1 : Int32)) (1 : Int32) = !τ) (hn : a < 4 → F a ≠ 2) : ∃ (v : Int32) (I' : Nat → Nat → Int32), mxRn 106 0 [(0, .ref 9), (1, .int 8)] [] (shS ex, I, J, QS) (some (.int v), (shS ex, I', J, QS)) ∧ FrM I I' ∧ (v = 0 ∨ (v = 1 ∧ NX τ g k a b L F B T I')) := by
  have f1 := hF.1.1
  have f2 := hF.1.2.1
  have f3 := hF.1.2.2.1
  have f4 := hF.1.2.2.2
  have r1 := hr.1.1
  have r2 := hr.1.2.1
  have r3 := hr.1.2.2.1
  have r4 := hr.1.2.2.2
  have c0 : Op.if_icmp.holds .ne (I 11 2) (1 : Int32) = true := by rw [hE 2 (by decide)]; decide
  cases c1 : Op.if_icmp.holds .ne (I 9 14) (4 : Int32) with
  | true =>
    have q_g := p4_t f1 r1 c1
    have e_g : (I 9 14).toNatClampNeg = g := by rw [f1]; exact c32 (by omega)
    have c2 : mxin (I 9 14) 4 = true := g4 f1 q_g
    cases c3 : Op.if_icmp.holds .ne (((I 9 16) >>> ((0 : Int32) &&& 31)) &&& (1 : Int32)) (1 : Int32) with
    | true =>
      have q_τ : τ = false := by
        rw [c3] at hτ
        cases τ <;> first | rfl | cases hτ
      cases c4 : Op.if_icmp.holds .eq (I 9 14) (4 : Int32) with
      | true =>
        have q_g := q4_t f1 r1 c4
        exact absurd q_g (by omega)
      | false =>
        have q_g := q4_f f1 r1 c4
        have e_g : (I 9 14).toNatClampNeg = g := by rw [f1]; exact c32 (by omega)
        refine ⟨_, _, d_does_8_1 ex I J c0 c1 c2 c3 c4, (FrM.u9 (FrM.u9 (FrM.up (FrM.up (FrM.up (FrM.up (FrM.up FrM.rf (by decide)) (by decide)) (by decide)) (by decide)) (by decide)) (by decide)) (by decide)), Or.inr ⟨rfl, ?_⟩⟩
        rw [e_g]
        have hk : (I 9 15) ||| ((1 : Int32) <<< ((I 9 14) &&& 31)) = Int32.ofInt ((kt k g : Nat) : Int) := by
          rw [f2, f1, kn_eq k (by omega) g q_g]
          unfold kt
          rw [if_neg (by omega)]
        refine Or.inr (Or.inr (Or.inr (Or.inl ⟨q_g, Or.inl q_τ, ?_⟩)))
        exact (FI_k (FI_g (FI_s1 (FI_t (FI_b (FI_f (FI_l hF rfl) rfl) rfl) rfl) f1) (by rw [f1, one32, a32])) hk)
    | false =>
      have q_τ : τ = true := by
        rw [c3] at hτ
        cases τ <;> first | rfl | cases hτ
      cases c4 : Op.if_icmp.holds .eq (I 18 1) (4 : Int32) with
      | true =>
        have q_b := q4_t f4 r4 c4
        cases c5 : Op.if_icmp.holds .eq (I 9 14) (4 : Int32) with
        | true =>
          have q_g := q4_t f1 r1 c5
          exact absurd q_g (by omega)
        | false =>
          have q_g := q4_f f1 r1 c5
          have e_g : (I 9 14).toNatClampNeg = g := by rw [f1]; exact c32 (by omega)
          refine ⟨_, _, d_does_8_3 ex I J c0 c1 c2 c3 c4 c5, (FrM.u9 (FrM.u9 (FrM.up (FrM.up (FrM.up (FrM.up (FrM.up FrM.rf (by decide)) (by decide)) (by decide)) (by decide)) (by decide)) (by decide)) (by decide)), Or.inr ⟨rfl, ?_⟩⟩
          rw [e_g]
          have hk : (I 9 15) ||| ((1 : Int32) <<< ((I 9 14) &&& 31)) = Int32.ofInt ((kt k g : Nat) : Int) := by
            rw [f2, f1, kn_eq k (by omega) g q_g]
            unfold kt
            rw [if_neg (by omega)]
          refine Or.inr (Or.inr (Or.inr (Or.inl ⟨q_g, Or.inr q_b, ?_⟩)))
          exact (FI_k (FI_g (FI_s1 (FI_t (FI_b (FI_f (FI_l hF rfl) rfl) rfl) rfl) f1) (by rw [f1, one32, a32])) hk)
      | false =>
        have q_b := q4_f f4 r4 c4
        have e_b : (I 18 1).toNatClampNeg = b := by rw [f4]; exact c32 (by omega)
        have c5 : mxin (I 18 1) 4 = true := g4 f4 q_b
        cases c6 : Op.if_icmp.holds .eq (I 9 14) (4 : Int32) with
        | true =>
          have q_g := q4_t f1 r1 c6
          exact absurd q_g (by omega)
        | false =>
          have q_g := q4_f f1 r1 c6
          have e_g : (I 9 14).toNatClampNeg = g := by rw [f1]; exact c32 (by omega)
          refine ⟨_, _, d_does_8_5 ex I J c0 c1 c2 c3 c4 c5 c6, (FrM.u9 (FrM.up (FrM.u9 (FrM.up (FrM.up (FrM.up (FrM.up (FrM.up FrM.rf (by decide)) (by decide)) (by decide)) (by decide)) (by decide)) (by decide)) (by decide)) (by decide)), Or.inr ⟨rfl, ?_⟩⟩
          rw [e_g, e_b]
          have hk : (I 9 15) ||| ((1 : Int32) <<< ((I 9 14) &&& 31)) = Int32.ofInt ((kt k g : Nat) : Int) := by
            rw [f2, f1, kn_eq k (by omega) g q_g]
            unfold kt
            rw [if_neg (by omega)]
          refine Or.inr (Or.inr (Or.inr (Or.inr (Or.inl ⟨q_g, q_τ, q_b, ?_⟩))))
          exact (FI_k (FI_l (FI_g (FI_s1 (FI_t (FI_b (FI_f (FI_l hF rfl) rfl) rfl) rfl) f1) (by rw [f1, one32, a32])) rfl) hk)
  | false =>
    cases c2 : Op.if_icmp.holds .eq (I 18 1) (4 : Int32) with
    | true =>
      have q_b := q4_t f4 r4 c2
      exact ⟨_, _, d_does_8_6 ex I J c0 c1 c2, FrM.rf, Or.inl rfl⟩
    | false =>
      have q_b := q4_f f4 r4 c2
      have e_b : (I 18 1).toNatClampNeg = b := by rw [f4]; exact c32 (by omega)
      exact ⟨_, _, d_does_8_7 ex I J c0 c1 c2, (FrM.u9 FrM.rf (by decide)), Or.inl rfl⟩
