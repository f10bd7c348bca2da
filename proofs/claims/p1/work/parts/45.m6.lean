/-! the model's table of states -/
theorem l_small (x : Int64) (hx : x.toBitVec.toNat < 65536) : x.toInt32 = Int32.ofInt (x.toBitVec.toNat : Int) := by
  refine Int32.toBitVec.inj ?_
  have e1 : x.toInt32.toBitVec = x.toBitVec.signExtend 32 := rfl
  rw [e1, BitVec.signExtend_eq_setWidth_of_le _ (by decide), Int32.ofInt_eq_ofNat]
  refine BitVec.eq_of_toNat_eq ?_
  rw [BitVec.toNat_setWidth]
  show x.toBitVec.toNat % 2 ^ 32 = (BitVec.ofNat 32 x.toBitVec.toNat).toNat
  rw [BitVec.toNat_ofNat]
theorem mh_rg (v : Int64) : ∃ h : Nat, h < 65536 ∧ m_hash v = Int32.ofInt (h : Int) := by
  unfold m_hash
  generalize ((v) ^^^ ((((v)).toUInt64 >>> ((((17 : Int32)).toInt64).toUInt64 &&& Int64.toUInt64 63)).toInt64)) ^^^ ((((v)).toUInt64 >>> ((((31 : Int32)).toInt64).toUInt64 &&& Int64.toUInt64 63)).toInt64) = y
  have hlt : (y &&& (65535 : Int64)).toBitVec.toNat < 65536 := by
    have e : (y &&& (65535 : Int64)).toBitVec = y.toBitVec &&& 65535#64 := rfl
    rw [e, BitVec.toNat_and]
    have q : y.toBitVec.toNat &&& (65535#64).toNat ≤ (65535#64).toNat := Nat.and_le_right
    have q2 : (65535#64).toNat = 65535 := by decide
    omega
  exact ⟨_, hlt, l_small _ hlt⟩
def mN (v : Int64) : Nat := (m_hash v).toNatClampNeg
theorem mN_rg (v : Int64) : mN v < 65536 ∧ m_hash v = Int32.ofInt (mN v : Int) := by
  obtain ⟨h, h1, h2⟩ := mh_rg v
  have e : mN v = h := by
    unfold mN
    rw [h2]
    exact c32 (by omega)
  rw [e]
  exact ⟨h1, h2⟩
def plN (v : Int64) (t : Nat) : Nat := (mN v + t) % 65536
theorem plN_lt (v : Int64) (t : Nat) : plN v t < 65536 := Nat.mod_lt _ (by decide)
theorem pl_next (v : Int64) (t : Nat) : (Int32.ofInt (plN v t : Int) + (1 : Int32)) &&& (65535 : Int32) = Int32.ofInt (plN v (t + 1) : Int) := by
  have hx := plN_lt v t
  have e2 : plN v (t + 1) = (plN v t + 1) % 65536 := by
    unfold plN
    omega
  rw [e2, one32, a32]
  have hn : plN v t + 1 ≤ 65536 := by omega
  generalize plN v t + 1 = n at hn ⊢
  refine Int32.toBitVec.inj ?_
  rw [Int32.ofInt_eq_ofNat, Int32.ofInt_eq_ofNat]
  refine BitVec.eq_of_toNat_eq ?_
  show (BitVec.ofNat 32 n &&& 65535#32).toNat = (BitVec.ofNat 32 (n % 65536)).toNat
  rw [BitVec.toNat_and, BitVec.toNat_ofNat, BitVec.toNat_ofNat, BitVec.toNat_ofNat]
  have h1 : n % 2 ^ 32 = n := Nat.mod_eq_of_lt (by omega)
  have h2 : 65535 % 2 ^ 32 = 2 ^ 16 - 1 := by decide
  rw [h1, h2, Nat.and_two_pow_sub_one_eq_mod]
  omega
def SM (V : Int64 → Prop) (I : Nat → Nat → Int32) (J : Nat → Nat → Int64) (m : Nat) : Prop := I 9 28 = Int32.ofInt (m : Int) ∧ cz (I 24) 65536 ≤ m ∧ (∀ j, j < 65536 → ∃ v : Nat, v ≤ m ∧ I 24 j = Int32.ofInt (v : Int)) ∧ (∀ p, p < m → V (J 21 p)) ∧ (∀ p q, p < q → q < m → J 21 p ≠ J 21 q) ∧ (∀ p, p < m → ∃ t, t < 65536 ∧ I 24 (plN (J 21 p) t) = Int32.ofInt ((p + 1 : Nat) : Int) ∧ ∀ u, u < t → I 24 (plN (J 21 p) u) ≠ 0)
theorem pq_loop (ex : List (Nat × Nat)) {V : Int64 → Prop} {I : Nat → Nat → Int32} {J : Nat → Nat → Int64} {m t0 : Nat} {v : Int64} (h : SM V I J m) (hm : m ≤ 19000) (h0 : I 24 (plN v t0) = 0) (ht0 : t0 < 65536) : ∀ (d t : Nat), t + d = t0 → (∀ u, u < t → ∃ x : Nat, 1 ≤ x ∧ x ≤ m ∧ I 24 (plN v u) = Int32.ofInt (x : Int) ∧ J 21 (x - 1) ≠ v) → ∃ t1, t1 ≤ t0 ∧ mxRn 115 17 [(0, .ref 9), (1, .long (v)), (3, .int (Int32.ofInt (plN v t : Int)))] [] (shS ex, I, J, QS) (some (.int (Int32.ofInt (plN v t1 : Int))), (shS ex, I, J, QS)) ∧ (∀ u, u < t1 → ∃ x : Nat, 1 ≤ x ∧ x ≤ m ∧ I 24 (plN v u) = Int32.ofInt (x : Int) ∧ J 21 (x - 1) ≠ v) ∧ (I 24 (plN v t1) = 0 ∨ ∃ x : Nat, 1 ≤ x ∧ x ≤ m ∧ I 24 (plN v t1) = Int32.ofInt (x : Int) ∧ J 21 (x - 1) = v)
  | d, t, hd, hseen => by
    have hl := plN_lt v t
    have g1 : mxin (Int32.ofInt (plN v t : Int)) 65536 = true := in32 hl (by decide)
    have ec : (Int32.ofInt (plN v t : Int)).toNatClampNeg = plN v t := c32 (by omega)
    obtain ⟨x, x1, x2⟩ := h.2.2.1 _ hl
    rcases Nat.eq_zero_or_pos x with hx | hx
    · subst hx
      refine ⟨t, by omega, pq_free ex I J v _ g1 ?_, hseen, Or.inl x2⟩
      rw [ec, x2]
      decide
    · have p1 : Op.ifCond.holds .le (I 24 (Int32.ofInt (plN v t : Int)).toNatClampNeg) = false := by
        rw [ec, x2]
        refine Bool.eq_false_iff.mpr (fun q => ?_)
        have q := (hj_le _).mp q
        rw [t32 (by omega)] at q
        have e0 : (0 : Int32).toInt = 0 := rfl
        rw [e0] at q
        omega
      have ep : I 24 (Int32.ofInt (plN v t : Int)).toNatClampNeg - (1 : Int32) = Int32.ofInt ((x - 1 : Nat) : Int) := by
        rw [ec, x2, one32, ← Int32.ofInt_sub]
        congr 1
        omega
      have g2 : mxin ((I 24 (Int32.ofInt (plN v t : Int)).toNatClampNeg) - (1 : Int32)) 20001 = true := by
        rw [ep]
        exact in32 (by omega) (by decide)
      have ej : ((I 24 (Int32.ofInt (plN v t : Int)).toNatClampNeg) - (1 : Int32)).toNatClampNeg = x - 1 := by
        rw [ep]
        exact c32 (by omega)
      by_cases hq : J 21 (x - 1) = v
      · refine ⟨t, by omega, pq_hit ex I J v _ g1 p1 g2 ?_, hseen, Or.inr ⟨x, hx, x1, x2, hq⟩⟩
        rw [ej]
        exact hz_t (lc_e hq)
      · have hne : t ≠ t0 := fun e => by
          rw [e, h0] at x2
          exact nz32 (v := x) hx (by omega) x2.symm
        obtain ⟨d', hd'⟩ : ∃ d', d = d' + 1 := ⟨d - 1, by omega⟩
        subst hd'
        obtain ⟨t1, a1, a2, a3, a4⟩ := pq_loop ex h hm h0 ht0 d' (t + 1) (by omega) (fun u hu => by
          rcases Nat.lt_or_ge u t with q | q
          · exact hseen u q
          · rw [show u = t by omega]
            exact ⟨x, hx, x1, x2, hq⟩)
        refine ⟨t1, a1, pq_nx ex I J v _ g1 p1 g2 ?_ ?_, a3, a4⟩
        · rw [ej]
          exact hz_f (lc_n hq)
        · rw [pl_next]
          exact a2
  termination_by d => d
def FrW (I I' : Nat → Nat → Int32) (J J' : Nat → Nat → Int64) : Prop := (∀ c, c ≠ 9 → c ≠ 22 → c ≠ 23 → c ≠ 24 → I' c = I c) ∧ (∀ j, j ≠ 28 → I' 9 j = I 9 j) ∧ (∀ c, c ≠ 21 → J' c = J c)
theorem FrW.rf {I : Nat → Nat → Int32} {J : Nat → Nat → Int64} : FrW I I J J := ⟨fun _ _ _ _ _ => rfl, fun _ _ => rfl, fun _ _ => rfl⟩
def MM (V : Int64 → Prop) (I I' : Nat → Nat → Int32) (J J' : Nat → Nat → Int64) (m : Nat) : Prop := ∃ m', SM V I' J' m' ∧ m ≤ m' ∧ (∀ p, p < m → J' 21 p = J 21 p) ∧ FrW I I' J J' ∧ 0 < m'
theorem addSM {V : Int64 → Prop} {I : Nat → Nat → Int32} {J : Nat → Nat → Int64} {m t : Nat} {s : Int64} {fr lt : Int32} (h : SM V I J m) (hm : m ≤ 19000) (hs : V s) (h0 : I 24 (plN s t) = 0) (ht : t < 65536) (hseen : ∀ u, u < t → ∃ v : Nat, 1 ≤ v ∧ v ≤ m ∧ I 24 (plN s u) = Int32.ofInt (v : Int) ∧ J 21 (v - 1) ≠ s) : MM V I (mxI (mxI (mxI (mxI I 22 (I 9 28).toNatClampNeg (fr)) 23 (I 9 28).toNatClampNeg (lt)) 9 28 ((I 9 28) + (1 : Int32))) 24 (Int32.ofInt (plN s t : Int)).toNatClampNeg ((I 9 28) + (1 : Int32))) J (mxJ J 21 (I 9 28).toNatClampNeg (s)) m := by
  obtain ⟨k1, k2, k5, k6, k7, k8⟩ := h
  have hsl := plN_lt s t
  rw [k1, c32 (by omega), c32 (by omega), one32, a32]
  have e24 : ∀ j, (mxI (mxI (mxI (mxI I 22 m fr) 23 m lt) 9 28 (Int32.ofInt ((m + 1 : Nat) : Int))) 24 (plN s t) (Int32.ofInt ((m + 1 : Nat) : Int))) 24 j = if j = plN s t then Int32.ofInt ((m + 1 : Nat) : Int) else I 24 j := fun j => by
    simp [mxI, upd]
  have e21 : ∀ p, (mxJ J 21 m s) 21 p = if p = m then s else J 21 p := fun p => by
    simp [mxJ, vp_updL]
  have hnew : ∀ p, p < m → J 21 p ≠ s := by
    intro p hp hq
    obtain ⟨tp, q1, q2, q3⟩ := k8 p hp
    rw [hq] at q2 q3
    rcases Nat.lt_trichotomy tp t with hlt | heq | hgt
    · obtain ⟨v, v1, v2, v3, v4⟩ := hseen tp hlt
      rw [q2] at v3
      have := n32 (a := p + 1) (b := v) (by omega) (by omega) v3
      rw [show v - 1 = p by omega] at v4
      exact v4 hq
    · rw [heq, h0] at q2
      exact nz32 (v := p + 1) (by omega) (by omega) q2.symm
    · exact q3 t hgt h0
  refine ⟨m + 1, ⟨?_, ?_, ?_, ?_, ?_, ?_⟩, Nat.le_succ m, ?_, ⟨?_, ?_, ?_⟩, Nat.succ_pos m⟩
  · simp [mxI, upd]
  · have q := cz_upd (f := I 24) (g := (mxI (mxI (mxI (mxI I 22 m fr) 23 m lt) 9 28 (Int32.ofInt ((m + 1 : Nat) : Int))) 24 (plN s t) (Int32.ofInt ((m + 1 : Nat) : Int))) 24) (h := plN s t) (fun j hj => by rw [e24, if_neg hj]) 65536
    rw [if_pos hsl] at q
    omega
  · intro j hj
    rw [e24]
    split
    · exact ⟨m + 1, by omega, rfl⟩
    · obtain ⟨v, v1, v2⟩ := k5 j hj
      exact ⟨v, by omega, v2⟩
  · intro p hp
    rw [e21]
    split
    · exact hs
    · exact k6 p (by omega)
  · intro p q hpq hq
    rw [e21, e21, if_neg (by omega)]
    split
    · exact hnew p (by omega)
    · exact k7 p q hpq (by omega)
  · intro p hp
    rw [e21]
    split
    · rename_i hpm
      subst hpm
      refine ⟨t, ht, ?_, fun u hu => ?_⟩
      · rw [e24, if_pos rfl]
      · rw [e24]
        obtain ⟨v, v1, v2, v3, v4⟩ := hseen u hu
        split
        · exact nz32 (by omega) (by omega)
        · rw [v3]
          exact nz32 v1 (by omega)
    · rename_i hpm
      obtain ⟨tp, q1, q2, q3⟩ := k8 p (by omega)
      have hne : plN (J 21 p) tp ≠ plN s t := fun q => by
        rw [q, h0] at q2
        exact nz32 (v := p + 1) (by omega) (by omega) q2.symm
      refine ⟨tp, q1, ?_, fun u hu => ?_⟩
      · rw [e24, if_neg hne]
        exact q2
      · rw [e24]
        split
        · exact nz32 (by omega) (by omega)
        · exact q3 u hu
  · intro p hp
    rw [e21, if_neg (by omega)]
  · intro c c1 c2 c3 c4
    simp [mxI, c1, c2, c3, c4]
  · intro j hj
    simp [mxI, upd, hj]
  · intro c c1
    simp [mxJ, c1]
theorem mq_ok (ex : List (Nat × Nat)) {V : Int64 → Prop} {I : Nat → Nat → Int32} {J : Nat → Nat → Int64} {m : Nat} {s : Int64} (fr lt : Int32) (h : SM V I J m) (hV : VC V) (hs : V s) : ∃ I' J', MM V I I' J J' m ∧ mxRn 116 0 [(0, .ref 9), (1, .long (s)), (3, .int (fr)), (4, .int (lt))] [] (shS ex, I, J, QS) (none, (shS ex, I', J', QS)) := by
  have hm : m ≤ 19000 := hV (J 21) m h.2.2.2.1 h.2.2.2.2.1
  obtain ⟨z, hz, hz0⟩ := cz_free (f := I 24) (N := 65536) (by have := h.2.1; omega)
  have hmn := (mN_rg s).1
  obtain ⟨t0, ht0, et0⟩ : ∃ t0, t0 < 65536 ∧ plN s t0 = z := by
    refine ⟨(z + 65536 - mN s) % 65536, Nat.mod_lt _ (by decide), ?_⟩
    unfold plN
    omega
  rw [← et0] at hz0
  obtain ⟨t1, a1, a2, a3, a4⟩ := pq_loop ex h hm hz0 ht0 t0 0 (by omega) (fun u hu => absurd hu (Nat.not_lt_zero u))
  have e0 : m_hash s = Int32.ofInt (plN s 0 : Int) := by
    unfold plN
    rw [Nat.add_zero, Nat.mod_eq_of_lt hmn]
    exact (mN_rg s).2
  have Hz : mxRn 115 0 [(0, .ref 9), (1, .long s)] [] (shS ex, I, J, QS) (some (.int (Int32.ofInt (plN s t1 : Int))), (shS ex, I, J, QS)) := by
    refine pq_start ex I J s ?_
    rw [← e0] at a2
    exact a2
  have hl := plN_lt s t1
  have g1 : mxin (Int32.ofInt (plN s t1 : Int)) 65536 = true := in32 hl (by decide)
  have ec : (Int32.ofInt (plN s t1 : Int)).toNatClampNeg = plN s t1 := c32 (by omega)
  rcases a4 with q | ⟨x, x1, x2, x3, x4⟩
  · refine ⟨_, _, addSM (fr := fr) (lt := lt) h hm hs q (by omega) a3, mq_add ex I J s fr lt _ Hz g1 ?_ ?_ ?_⟩
    · rw [ec, q]
      decide
    · rw [h.1]
      refine Bool.eq_false_iff.mpr (fun w => ?_)
      have w := (hk_gt _ _).mp w
      rw [t32 (by omega)] at w
      have e2 : (20000 : Int32).toInt = 20000 := rfl
      rw [e2] at w
      omega
    · rw [h.1]
      exact in32 (by omega) (by decide)
  · refine ⟨I, J, ⟨m, h, Nat.le_refl _, fun _ _ => rfl, FrW.rf, by omega⟩, mq_no ex I J s fr lt _ Hz g1 ?_⟩
    rw [ec, x3]
    exact hn_t (nz32 x1 (by omega))
