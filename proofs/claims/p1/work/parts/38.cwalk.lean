/-! the class's search where no state has a FLAW and the states are few -/
theorem t32 {a : Nat} (ha : a < 2147483648) : (Int32.ofInt (a : Int)).toInt = (a : Int) := Int32.toInt_ofInt_of_le (by omega) (by omega)
theorem n32 {a b : Nat} (ha : a < 2147483648) (hb : b < 2147483648) (h : Int32.ofInt (a : Int) = Int32.ofInt (b : Int)) : a = b := by
  have h := congrArg Int32.toInt h
  rw [t32 ha, t32 hb] at h
  omega
theorem c32 {a : Nat} (ha : a < 2147483648) : (Int32.ofInt (a : Int)).toNatClampNeg = a := by
  show (Int32.ofInt (a : Int)).toInt.toNat = a
  rw [t32 ha]
  omega
theorem in32 {a n : Nat} (h : a < n) (hn : n < 2147483648) : mxin (Int32.ofInt (a : Int)) n = true := by
  unfold mxin
  rw [Bool.and_eq_true]
  refine ⟨?_, Nat.blt_eq.mpr ?_⟩
  · rw [Bool.not_eq_true', decide_eq_false_iff_not, Int32.lt_iff_toInt_lt, t32 (by omega)]
    exact Int.not_lt.mpr (Int.natCast_nonneg a)
  · rw [c32 (by omega)]
    exact h
theorem a32 (a b : Nat) : Int32.ofInt (a : Int) + Int32.ofInt (b : Int) = Int32.ofInt ((a + b : Nat) : Int) := by
  rw [← Int32.ofInt_add]
  rfl
theorem one32 : (1 : Int32) = Int32.ofInt ((1 : Nat) : Int) := rfl
theorem lc_e {x y : Int64} (h : x = y) : lg_cmp x y = 0 := by
  subst h
  have hn : ¬ x > x := fun q => Int64.lt_irrefl q
  simp only [lg_cmp, hn, if_false, if_true]
theorem lc_n {x y : Int64} (h : x ≠ y) : lg_cmp x y ≠ 0 := by
  unfold lg_cmp
  by_cases hg : x > y
  · rw [if_pos hg]
    decide
  · rw [if_neg hg, if_neg h]
    decide
theorem hz_t {v : Int32} (h : v = 0) : Op.ifCond.holds .eq v = true := (hj_eq v).mpr (by rw [h])
theorem hz_f {v : Int32} (h : v ≠ 0) : Op.ifCond.holds .eq v = false := Bool.eq_false_iff.mpr (fun q => h (Int32.toInt_inj.mp ((hj_eq v).mp q)))
theorem hn_t {v : Int32} (h : v ≠ 0) : Op.ifCond.holds .ne v = true := (hj_ne v).mpr (fun q => h (Int32.toInt_inj.mp q))
theorem hn_f {v : Int32} (h : v = 0) : Op.ifCond.holds .ne v = false := Bool.eq_false_iff.mpr (fun q => (hj_ne v).mp q (by rw [h]))
theorem ge_tt {a b : Nat} (ha : a < 2147483648) (hb : b < 2147483648) (h : b ≤ a) : Op.if_icmp.holds .ge (Int32.ofInt (a : Int)) (Int32.ofInt (b : Int)) = true := (hk_ge _ _).mpr (by rw [t32 ha, t32 hb]; omega)
theorem ge_ff {a b : Nat} (ha : a < 2147483648) (hb : b < 2147483648) (h : a < b) : Op.if_icmp.holds .ge (Int32.ofInt (a : Int)) (Int32.ofInt (b : Int)) = false := Bool.eq_false_iff.mpr (fun q => by
  have q := (hk_ge _ _).mp q
  rw [t32 ha, t32 hb] at q
  omega)
theorem lt_tt {a b : Nat} (ha : a < 2147483648) (hb : b < 2147483648) (h : a < b) : Op.if_icmp.holds .lt (Int32.ofInt (a : Int)) (Int32.ofInt (b : Int)) = true := (hk_lt _ _).mpr (by rw [t32 ha, t32 hb]; omega)
/-- the slot where a state's search begins -/
theorem u_small (v : UInt64) (hv : v.toNat < 32768) : v.toInt64.toInt32 = Int32.ofInt (v.toNat : Int) := by
  refine Int32.toBitVec.inj ?_
  have e1 : v.toInt64.toInt32.toBitVec = v.toBitVec.signExtend 32 := rfl
  rw [e1, BitVec.signExtend_eq_setWidth_of_le _ (by decide), Int32.ofInt_eq_ofNat]
  refine BitVec.eq_of_toNat_eq ?_
  rw [BitVec.toNat_setWidth]
  show v.toNat % 2 ^ 32 = (BitVec.ofNat 32 v.toNat).toNat
  rw [BitVec.toNat_ofNat]
theorem ch_rg (s : Int64) : ∃ h : Nat, h < 32768 ∧ c_hash s = Int32.ofInt (h : Int) := by
  have hk : (((((49 : Int32)).toInt64).toUInt64 &&& Int64.toUInt64 63)).toNat % 64 = 49 := by decide
  have hlt : ((s * (-7046029254386353131 : Int64)).toUInt64 >>> ((((49 : Int32)).toInt64).toUInt64 &&& Int64.toUInt64 63)).toNat < 32768 := by
    rw [UInt64.toNat_shiftRight, hk, Nat.shiftRight_eq_div_pow]
    have := (s * (-7046029254386353131 : Int64)).toUInt64.toNat_lt
    omega
  exact ⟨_, hlt, u_small _ hlt⟩
def hN (s : Int64) : Nat := (c_hash s).toNatClampNeg
theorem hN_rg (s : Int64) : hN s < 32768 ∧ c_hash s = Int32.ofInt (hN s : Int) := by
  obtain ⟨h, h1, h2⟩ := ch_rg s
  have e : hN s = h := by
    unfold hN
    rw [h2]
    exact c32 (by omega)
  rw [e]
  exact ⟨h1, h2⟩
def slN (s : Int64) (t : Nat) : Nat := (hN s + t) % 32768
theorem slN_lt (s : Int64) (t : Nat) : slN s t < 32768 := Nat.mod_lt _ (by decide)
theorem sl_next (s : Int64) (t : Nat) : (Int32.ofInt (slN s t : Int) + (1 : Int32)) &&& (32767 : Int32) = Int32.ofInt (slN s (t + 1) : Int) := by
  have hx := slN_lt s t
  have e2 : slN s (t + 1) = (slN s t + 1) % 32768 := by
    unfold slN
    omega
  rw [e2, one32, a32]
  have hn : slN s t + 1 ≤ 32768 := by omega
  generalize slN s t + 1 = n at hn ⊢
  refine Int32.toBitVec.inj ?_
  rw [Int32.ofInt_eq_ofNat, Int32.ofInt_eq_ofNat]
  refine BitVec.eq_of_toNat_eq ?_
  show (BitVec.ofNat 32 n &&& 32767#32).toNat = (BitVec.ofNat 32 (n % 32768)).toNat
  rw [BitVec.toNat_and, BitVec.toNat_ofNat, BitVec.toNat_ofNat, BitVec.toNat_ofNat]
  have h1 : n % 2 ^ 32 = n := Nat.mod_eq_of_lt (by omega)
  have h2 : 32767 % 2 ^ 32 = 2 ^ 15 - 1 := by decide
  rw [h1, h2, Nat.and_two_pow_sub_one_eq_mod]
  omega
/-- what holds of the Search's arrays: m states are met -/
def SI (V : Int64 → Prop) (I : Nat → Nat → Int32) (J : Nat → Nat → Int64) (m : Nat) : Prop := (I 28 3 = 1 ∧ I 28 4 = Int32.ofInt (m : Int) ∧ I 28 5 = 0 ∧ I 28 6 = 0) ∧ (∀ j, j < 32768 → ∃ v : Nat, v ≤ m ∧ I 31 j = Int32.ofInt (v : Int)) ∧ (∀ p, p < m → V (J 29 p)) ∧ (∀ p q, p < q → q < m → J 29 p ≠ J 29 q) ∧ (∀ p, p < m → ∃ t, t < 32768 ∧ I 31 (slN (J 29 p) t) = Int32.ofInt ((p + 1 : Nat) : Int) ∧ ∀ u, u < t → I 31 (slN (J 29 p) u) ≠ 0)
def VC (V : Int64 → Prop) : Prop := ∀ (f : Nat → Int64) (m : Nat), (∀ p, p < m → V (f p)) → (∀ p q, p < q → q < m → f p ≠ f q) → m ≤ 19000
def FrS (I I' : Nat → Nat → Int32) (J J' : Nat → Nat → Int64) : Prop := (∀ c, c ≠ 28 → c ≠ 30 → c ≠ 31 → I' c = I c) ∧ (∀ c, c ≠ 29 → J' c = J c)
theorem FrS.rf {I : Nat → Nat → Int32} {J : Nat → Nat → Int64} : FrS I I J J := ⟨fun _ _ _ _ => rfl, fun _ _ => rfl⟩
theorem FrS.tr {I I1 I2 : Nat → Nat → Int32} {J J1 J2 : Nat → Nat → Int64} (h : FrS I I1 J J1) (g : FrS I1 I2 J1 J2) : FrS I I2 J J2 := ⟨fun c a b d => (g.1 c a b d).trans (h.1 c a b d), fun c a => (g.2 c a).trans (h.2 c a)⟩
/-- what meet may do -/
def MT (V : Int64 → Prop) (I I' : Nat → Nat → Int32) (J J' : Nat → Nat → Int64) (m : Nat) : Prop := ∃ m', SI V I' J' m' ∧ m ≤ m' ∧ (∀ p, p < m → J' 29 p = J 29 p) ∧ FrS I I' J J'
theorem MT.rf {V : Int64 → Prop} {I : Nat → Nat → Int32} {J : Nat → Nat → Int64} {m : Nat} (h : SI V I J m) : MT V I I J J m := ⟨m, h, Nat.le_refl _, fun _ _ => rfl, FrS.rf⟩
theorem nz32 {v : Nat} (h : 1 ≤ v) (h2 : v < 2147483648) : Int32.ofInt (v : Int) ≠ 0 := fun q => by
  have := n32 (a := v) (b := 0) h2 (by decide) q
  omega
theorem keepSI {V : Int64 → Prop} {I : Nat → Nat → Int32} {J : Nat → Nat → Int64} {m t : Nat} {s : Int64} {og : Int32} (h : SI V I J m) (hm : m ≤ 19000) (hs : V s) (h0 : I 31 (slN s t) = 0) (ht : t < 32768) (hseen : ∀ u, u < t → ∃ v : Nat, 1 ≤ v ∧ v ≤ m ∧ I 31 (slN s u) = Int32.ofInt (v : Int) ∧ J 29 (v - 1) ≠ s) : MT V I (mxI (mxI (mxI I 30 (I 28 4).toNatClampNeg og) 31 (Int32.ofInt (slN s t : Int)).toNatClampNeg ((I 28 3) + (I 28 4))) 28 4 ((I 28 4) + (1 : Int32))) J (mxJ J 29 (I 28 4).toNatClampNeg s) m := by
  obtain ⟨⟨k1, k2, k3, k4⟩, k5, k6, k7, k8⟩ := h
  have hsl := slN_lt s t
  rw [k1, k2, c32 (by omega), c32 (by omega), one32, a32, a32]
  have e28 : ∀ j, j ≠ 4 → (mxI (mxI (mxI I 30 m og) 31 (slN s t) (Int32.ofInt ((1 + m : Nat) : Int))) 28 4 (Int32.ofInt ((m + 1 : Nat) : Int))) 28 j = I 28 j := fun j hj => by
    simp [mxI, upd, hj]
  have e31 : ∀ j, (mxI (mxI (mxI I 30 m og) 31 (slN s t) (Int32.ofInt ((1 + m : Nat) : Int))) 28 4 (Int32.ofInt ((m + 1 : Nat) : Int))) 31 j = if j = slN s t then Int32.ofInt ((1 + m : Nat) : Int) else I 31 j := fun j => by
    simp [mxI, upd]
  have e29 : ∀ p, (mxJ J 29 m s) 29 p = if p = m then s else J 29 p := fun p => by
    simp [mxJ, vp_updL]
  have hnew : ∀ p, p < m → J 29 p ≠ s := by
    intro p hp hq
    obtain ⟨tp, q1, q2, q3⟩ := k8 p hp
    rw [hq] at q2 q3
    rcases Nat.lt_trichotomy tp t with hlt | heq | hgt
    · obtain ⟨v, v1, v2, v3, v4⟩ := hseen tp hlt
      rw [q2] at v3
      have := n32 (a := p + 1) (b := v) (by omega) (by omega) v3
      rw [show v - 1 = p by omega] at v4
      exact v4 hq
    · rw [heq, h0] at q2
      exact nz32 (v := p + 1) (by omega) (by omega) q2.symm
    · exact q3 t hgt h0
  refine ⟨m + 1, ⟨⟨?_, ?_, ?_, ?_⟩, ?_, ?_, ?_, ?_⟩, Nat.le_succ m, ?_, ?_, ?_⟩
  · rw [e28 3 (by decide)]; exact k1
  · simp [mxI, upd]
  · rw [e28 5 (by decide)]; exact k3
  · rw [e28 6 (by decide)]; exact k4
  · intro j hj
    rw [e31]
    split
    · exact ⟨1 + m, by omega, rfl⟩
    · obtain ⟨v, v1, v2⟩ := k5 j hj
      exact ⟨v, by omega, v2⟩
  · intro p hp
    rw [e29]
    split
    · exact hs
    · exact k6 p (by omega)
  · intro p q hpq hq
    rw [e29, e29, if_neg (by omega)]
    split
    · exact hnew p (by omega)
    · exact k7 p q hpq (by omega)
  · intro p hp
    rw [e29]
    split
    · rename_i hpm
      subst hpm
      refine ⟨t, ht, ?_, fun u hu => ?_⟩
      · rw [e31, if_pos rfl, Nat.add_comm]
      · rw [e31]
        obtain ⟨v, v1, v2, v3, v4⟩ := hseen u hu
        split
        · exact nz32 (by omega) (by omega)
        · rw [v3]
          exact nz32 v1 (by omega)
    · rename_i hpm
      obtain ⟨tp, q1, q2, q3⟩ := k8 p (by omega)
      have hne : slN (J 29 p) tp ≠ slN s t := fun q => by
        rw [q, h0] at q2
        exact nz32 (v := p + 1) (by omega) (by omega) q2.symm
      refine ⟨tp, q1, ?_, fun u hu => ?_⟩
      · rw [e31, if_neg hne]
        exact q2
      · rw [e31]
        split
        · exact nz32 (by omega) (by omega)
        · exact q3 u hu
  · intro p hp
    rw [e29, if_neg (by omega)]
  · intro c c1 c2 c3
    simp [mxI, c1, c2, c3]
  · intro c c1
    simp [mxJ, c1]
theorem mt_one0 (ex : List (Nat × Nat)) {V : Int64 → Prop} {I : Nat → Nat → Int32} {J : Nat → Nat → Int64} {m t : Nat} {s : Int64} {og : Int32} (h : SI V I J m) (hm : m ≤ 19000) (hs : V s) (ht : t < 32768) (hseen : ∀ u, u < t → ∃ v : Nat, 1 ≤ v ∧ v ≤ m ∧ I 31 (slN s u) = Int32.ofInt (v : Int) ∧ J 29 (v - 1) ≠ s) : (∃ I' J', MT V I I' J J' m ∧ mxRn 19 14 [(0, .ref 28), (1, .long (s)), (3, .int (og)), (4, .int (Int32.ofInt (slN s t : Int))), (5, .int (Int32.ofInt (t : Int)))] [] (shS ex, I, J, QS) (none, (shS ex, I', J', QS))) ∨ ((∃ v : Nat, 1 ≤ v ∧ v ≤ m ∧ I 31 (slN s t) = Int32.ofInt (v : Int) ∧ J 29 (v - 1) ≠ s) ∧ ∃ pl' : Int32, ∀ res, mxRn 19 14 [(0, .ref 28), (1, .long (s)), (3, .int (og)), (4, .int (Int32.ofInt (slN s (t + 1) : Int))), (5, .int (Int32.ofInt ((t + 1 : Nat) : Int))), (6, .int pl')] [] (shS ex, I, J, QS) res → mxRn 19 14 [(0, .ref 28), (1, .long (s)), (3, .int (og)), (4, .int (Int32.ofInt (slN s t : Int))), (5, .int (Int32.ofInt (t : Int)))] [] (shS ex, I, J, QS) res) := by
  have hsl := slN_lt s t
  have g0 : Op.if_icmp.holds .ge (Int32.ofInt (t : Int)) (32768 : Int32) = false := ge_ff (b := 32768) (by omega) (by decide) ht
  have g1 : mxin (Int32.ofInt (slN s t : Int)) 32768 = true := in32 hsl (by decide)
  obtain ⟨v, v1, v2⟩ := h.2.1 _ hsl
  have k1 := h.1.1
  have k2 := h.1.2.1
  have ec : (Int32.ofInt (slN s t : Int)).toNatClampNeg = slN s t := c32 (by omega)
  rcases Nat.eq_zero_or_pos v with hv | hv
  · subst hv
    have hk := keepSI (og := og) h hm hs v2 ht hseen
    refine Or.inl ⟨_, _, hk, m_ka0 ex I J s og (Int32.ofInt (slN s t : Int)) (Int32.ofInt (t : Int)) ?_ ?_ g0 g1 ?_⟩
    · rw [k2]
      exact lt_tt (b := 20000) (by omega) (by decide) (by omega)
    · rw [k2]
      exact in32 (by omega) (by decide)
    · rw [ec, v2, k1]
      decide
  · obtain ⟨u, hu⟩ : ∃ u, v = u + 1 := ⟨v - 1, by omega⟩
    subst hu
    have ep : I 31 (slN s t) - I 28 3 = Int32.ofInt (u : Int) := by
      rw [v2, k1, one32, ← Int32.ofInt_sub]
      congr 1
      omega
    have p1 : Op.ifCond.holds .lt ((I 31 (Int32.ofInt (slN s t : Int)).toNatClampNeg) - (I 28 3)) = false := by
      rw [ec, ep]
      exact hd_lt_f (by rw [t32 (by omega)]; omega)
    have p2 : Op.if_icmp.holds .lt ((I 31 (Int32.ofInt (slN s t : Int)).toNatClampNeg) - (I 28 3)) (I 28 4) = true := by
      rw [ec, ep, k2]
      exact lt_tt (by omega) (by omega) (by omega)
    have p3 : mxin ((I 31 (Int32.ofInt (slN s t : Int)).toNatClampNeg) - (I 28 3)) 20000 = true := by
      rw [ec, ep]
      exact in32 (by omega) (by decide)
    have ej : ((I 31 (Int32.ofInt (slN s t : Int)).toNatClampNeg) - (I 28 3)).toNatClampNeg = u := by
      rw [ec, ep]
      exact c32 (by omega)
    by_cases hq : J 29 u = s
    · refine Or.inl ⟨I, J, MT.rf h, m_hit0 ex I J s og (Int32.ofInt (slN s t : Int)) (Int32.ofInt (t : Int)) g0 g1 p1 p2 p3 ?_⟩
      rw [ej]
      exact hn_f (lc_e hq)
    · refine Or.inr ⟨⟨u + 1, by omega, v1, v2, hq⟩, (I 31 (Int32.ofInt (slN s t : Int)).toNatClampNeg - I 28 3), fun res Hr => m_nx0 ex I J s og (Int32.ofInt (slN s t : Int)) (Int32.ofInt (t : Int)) g0 g1 p1 p2 p3 ?_ ?_⟩
      · rw [ej]
        exact hn_t (lc_n hq)
      · rw [sl_next, show (1 : Int32) = Int32.ofInt ((1 : Nat) : Int) from rfl, a32]
        exact Hr
theorem mt_one1 (ex : List (Nat × Nat)) {V : Int64 → Prop} {I : Nat → Nat → Int32} {J : Nat → Nat → Int64} {m t : Nat} {s : Int64} {og : Int32} {pl : Int32} (h : SI V I J m) (hm : m ≤ 19000) (hs : V s) (ht : t < 32768) (hseen : ∀ u, u < t → ∃ v : Nat, 1 ≤ v ∧ v ≤ m ∧ I 31 (slN s u) = Int32.ofInt (v : Int) ∧ J 29 (v - 1) ≠ s) : (∃ I' J', MT V I I' J J' m ∧ mxRn 19 14 [(0, .ref 28), (1, .long (s)), (3, .int (og)), (4, .int (Int32.ofInt (slN s t : Int))), (5, .int (Int32.ofInt (t : Int))), (6, .int pl)] [] (shS ex, I, J, QS) (none, (shS ex, I', J', QS))) ∨ ((∃ v : Nat, 1 ≤ v ∧ v ≤ m ∧ I 31 (slN s t) = Int32.ofInt (v : Int) ∧ J 29 (v - 1) ≠ s) ∧ ∃ pl' : Int32, ∀ res, mxRn 19 14 [(0, .ref 28), (1, .long (s)), (3, .int (og)), (4, .int (Int32.ofInt (slN s (t + 1) : Int))), (5, .int (Int32.ofInt ((t + 1 : Nat) : Int))), (6, .int pl')] [] (shS ex, I, J, QS) res → mxRn 19 14 [(0, .ref 28), (1, .long (s)), (3, .int (og)), (4, .int (Int32.ofInt (slN s t : Int))), (5, .int (Int32.ofInt (t : Int))), (6, .int pl)] [] (shS ex, I, J, QS) res) := by
  have hsl := slN_lt s t
  have g0 : Op.if_icmp.holds .ge (Int32.ofInt (t : Int)) (32768 : Int32) = false := ge_ff (b := 32768) (by omega) (by decide) ht
  have g1 : mxin (Int32.ofInt (slN s t : Int)) 32768 = true := in32 hsl (by decide)
  obtain ⟨v, v1, v2⟩ := h.2.1 _ hsl
  have k1 := h.1.1
  have k2 := h.1.2.1
  have ec : (Int32.ofInt (slN s t : Int)).toNatClampNeg = slN s t := c32 (by omega)
  rcases Nat.eq_zero_or_pos v with hv | hv
  · subst hv
    have hk := keepSI (og := og) h hm hs v2 ht hseen
    refine Or.inl ⟨_, _, hk, m_ka1 ex I J s og (Int32.ofInt (slN s t : Int)) (Int32.ofInt (t : Int)) pl ?_ ?_ g0 g1 ?_⟩
    · rw [k2]
      exact lt_tt (b := 20000) (by omega) (by decide) (by omega)
    · rw [k2]
      exact in32 (by omega) (by decide)
    · rw [ec, v2, k1]
      decide
  · obtain ⟨u, hu⟩ : ∃ u, v = u + 1 := ⟨v - 1, by omega⟩
    subst hu
    have ep : I 31 (slN s t) - I 28 3 = Int32.ofInt (u : Int) := by
      rw [v2, k1, one32, ← Int32.ofInt_sub]
      congr 1
      omega
    have p1 : Op.ifCond.holds .lt ((I 31 (Int32.ofInt (slN s t : Int)).toNatClampNeg) - (I 28 3)) = false := by
      rw [ec, ep]
      exact hd_lt_f (by rw [t32 (by omega)]; omega)
    have p2 : Op.if_icmp.holds .lt ((I 31 (Int32.ofInt (slN s t : Int)).toNatClampNeg) - (I 28 3)) (I 28 4) = true := by
      rw [ec, ep, k2]
      exact lt_tt (by omega) (by omega) (by omega)
    have p3 : mxin ((I 31 (Int32.ofInt (slN s t : Int)).toNatClampNeg) - (I 28 3)) 20000 = true := by
      rw [ec, ep]
      exact in32 (by omega) (by decide)
    have ej : ((I 31 (Int32.ofInt (slN s t : Int)).toNatClampNeg) - (I 28 3)).toNatClampNeg = u := by
      rw [ec, ep]
      exact c32 (by omega)
    by_cases hq : J 29 u = s
    · refine Or.inl ⟨I, J, MT.rf h, m_hit1 ex I J s og (Int32.ofInt (slN s t : Int)) (Int32.ofInt (t : Int)) pl g0 g1 p1 p2 p3 ?_⟩
      rw [ej]
      exact hn_f (lc_e hq)
    · refine Or.inr ⟨⟨u + 1, by omega, v1, v2, hq⟩, (I 31 (Int32.ofInt (slN s t : Int)).toNatClampNeg - I 28 3), fun res Hr => m_nx1 ex I J s og (Int32.ofInt (slN s t : Int)) (Int32.ofInt (t : Int)) pl g0 g1 p1 p2 p3 ?_ ?_⟩
      · rw [ej]
        exact hn_t (lc_n hq)
      · rw [sl_next, show (1 : Int32) = Int32.ofInt ((1 : Nat) : Int) from rfl, a32]
        exact Hr
theorem mt_loop (ex : List (Nat × Nat)) {V : Int64 → Prop} {I : Nat → Nat → Int32} {J : Nat → Nat → Int64} {m : Nat} {s : Int64} {og : Int32} (h : SI V I J m) (hm : m ≤ 19000) (hs : V s) : ∀ (d t : Nat) (pl : Int32), t + d = 32768 → (∀ u, u < t → ∃ v : Nat, 1 ≤ v ∧ v ≤ m ∧ I 31 (slN s u) = Int32.ofInt (v : Int) ∧ J 29 (v - 1) ≠ s) → ∃ I' J', MT V I I' J J' m ∧ mxRn 19 14 [(0, .ref 28), (1, .long (s)), (3, .int (og)), (4, .int (Int32.ofInt (slN s t : Int))), (5, .int (Int32.ofInt (t : Int))), (6, .int pl)] [] (shS ex, I, J, QS) (none, (shS ex, I', J', QS))
  | 0, t, pl, ht, _ => ⟨I, J, MT.rf h, m_out1 ex I J s og (Int32.ofInt (slN s t : Int)) (Int32.ofInt (t : Int)) pl (ge_tt (b := 32768) (by omega) (by decide) (by omega))⟩
  | d + 1, t, pl, ht, hseen => by
    rcases mt_one1 ex (og := og) (pl := pl) h hm hs (by omega) hseen with q | ⟨q1, pl', q2⟩
    · exact q
    · obtain ⟨I', J', a1, a2⟩ := mt_loop ex (og := og) h hm hs d (t + 1) pl' (by omega) (fun u hu => by
        rcases Nat.lt_or_ge u t with hlt | hge
        · exact hseen u hlt
        · rw [show u = t by omega]
          exact q1)
      exact ⟨I', J', a1, q2 _ a2⟩
theorem meet_ok (ex : List (Nat × Nat)) {V : Int64 → Prop} {I : Nat → Nat → Int32} {J : Nat → Nat → Int64} {m : Nat} {s : Int64} (og : Int32) (h : SI V I J m) (hV : VC V) (hs : V s) : ∃ I' J', MT V I I' J J' m ∧ mxRn 19 0 [(0, .ref 28), (1, .long (s)), (3, .int (og))] [] (shS ex, I, J, QS) (none, (shS ex, I', J', QS)) := by
  have hm : m ≤ 19000 := hV (J 29) m h.2.2.1 h.2.2.2.1
  have e0 : c_hash s = Int32.ofInt (slN s 0 : Int) := by
    unfold slN
    rw [Nat.add_zero, Nat.mod_eq_of_lt (hN_rg s).1]
    exact (hN_rg s).2
  have key : ∃ I' J', MT V I I' J J' m ∧ mxRn 19 14 [(0, .ref 28), (1, .long (s)), (3, .int (og)), (4, .int (Int32.ofInt (slN s 0 : Int))), (5, .int (Int32.ofInt ((0 : Nat) : Int)))] [] (shS ex, I, J, QS) (none, (shS ex, I', J', QS)) := by
    rcases mt_one0 ex (og := og) (t := 0) h hm hs (by decide) (fun u hu => absurd hu (Nat.not_lt_zero u)) with q | ⟨q1, pl', q2⟩
    · exact q
    · obtain ⟨I', J', a1, a2⟩ := mt_loop ex (og := og) h hm hs 32767 1 pl' (by decide) (fun u hu => by
        rw [show u = 0 by omega]
        exact q1)
      exact ⟨I', J', a1, q2 _ a2⟩
  obtain ⟨I', J', a1, a2⟩ := key
  refine ⟨I', J', a1, m_start ex I J s og ?_⟩
  rw [← e0] at a2
  exact a2
/-- the letters lead from states of V to such states, and are no FLAWS -/
def CL (V : Int64 → Prop) (f : Nat → Int32) : Prop := ∀ I : Nat → Nat → Int32, I 3 = f → ∀ s, V s → ((w_after0 I s = -1 ∨ V (w_after0 I s)) ∧ (w_after1 I s = -1 ∨ V (w_after1 I s)) ∧ (w_after2 I s = -1 ∨ V (w_after2 I s)) ∧ (w_after4 I s = -1 ∨ V (w_after4 I s)) ∧ (w_after6 I s = -1 ∨ V (w_after6 I s)) ∧ (w_after7 I s = -1 ∨ V (w_after7 I s)) ∧ (w_after8 I s = -1 ∨ V (w_after8 I s)) ∧ (w_after10 I s = -1 ∨ V (w_after10 I s))) ∧ w_flaw3 I s = 0 ∧ w_flaw5 I s = 0 ∧ w_flaw9 I s = 0
theorem gm_0 (ex : List (Nat × Nat)) {V : Int64 → Prop} {f : Nat → Int32} {I : Nat → Nat → Int32} {J : Nat → Nat → Int64} {m : Nat} {s : Int64} {fi be pl : Int32} (h : SI V I J m) (hV : VC V) (hC : CL V f) (hf : I 3 = f) (hs : V s) : ∃ I' J', MT V I I' J J' m ∧ ∃ (lo' : Int32) (no' : Int64), ∀ res, mxRn 18 46 [(0, .ref 28), (1, .ref 3), (2, .int fi), (3, .int be), (4, .int pl), (5, .long s), (7, .retAddr 0), (8, .int 8), (9, .int 1), (10, .int lo'), (11, .long no')] [] (shS ex, I', J', QS) res → mxRn 18 46 [(0, .ref 28), (1, .ref 3), (2, .int fi), (3, .int be), (4, .int pl), (5, .long s), (7, .retAddr 0), (8, .int 8), (9, .int 0)] [] (shS ex, I, J, QS) res := by
  have Ha := w_after0_run (shT ex) J QS I s
  have hc := ((hC I hf s hs).1).1
  by_cases h1 : w_after0 I s = -1
  · exact ⟨I, J, MT.rf h, _, _, fun res Hr => g_r0 ex I J fi be pl s _ Ha (hz_t (lc_e h1)) Hr⟩
  · by_cases h2 : w_after0 I s = s
    · exact ⟨I, J, MT.rf h, _, _, fun res Hr => g_s0 ex I J fi be pl s _ Ha (hz_f (lc_n h1)) (hz_t (lc_e h2)) Hr⟩
    · obtain ⟨I', J', a1, a2⟩ := meet_ok ex (((16 : Int32) * (pl)) + (0 : Int32)) h hV (hc.resolve_left h1)
      exact ⟨I', J', a1, _, _, fun res Hr => g_m0 ex I J fi be pl s _ Ha I' J' a2 (hz_f (lc_n h1)) (hz_f (lc_n h2)) Hr⟩
theorem gm_0b (ex : List (Nat × Nat)) {V : Int64 → Prop} {f : Nat → Int32} {I : Nat → Nat → Int32} {J : Nat → Nat → Int64} {m : Nat} {s : Int64} {fi be pl : Int32} {lo : Int32} {no : Int64} (h : SI V I J m) (hV : VC V) (hC : CL V f) (hf : I 3 = f) (hs : V s) : ∃ I' J', MT V I I' J J' m ∧ ∃ (lo' : Int32) (no' : Int64), ∀ res, mxRn 18 46 [(0, .ref 28), (1, .ref 3), (2, .int fi), (3, .int be), (4, .int pl), (5, .long s), (7, .retAddr 0), (8, .int 8), (9, .int 1), (10, .int lo'), (11, .long no')] [] (shS ex, I', J', QS) res → mxRn 18 46 [(0, .ref 28), (1, .ref 3), (2, .int fi), (3, .int be), (4, .int pl), (5, .long s), (7, .retAddr 0), (8, .int 8), (9, .int 0), (10, .int lo), (11, .long no)] [] (shS ex, I, J, QS) res := by
  have Ha := w_after0_run (shT ex) J QS I s
  have hc := ((hC I hf s hs).1).1
  by_cases h1 : w_after0 I s = -1
  · exact ⟨I, J, MT.rf h, _, _, fun res Hr => g_rb ex I J fi be pl s lo no _ Ha (hz_t (lc_e h1)) Hr⟩
  · by_cases h2 : w_after0 I s = s
    · exact ⟨I, J, MT.rf h, _, _, fun res Hr => g_sb ex I J fi be pl s lo no _ Ha (hz_f (lc_n h1)) (hz_t (lc_e h2)) Hr⟩
    · obtain ⟨I', J', a1, a2⟩ := meet_ok ex (((16 : Int32) * (pl)) + (0 : Int32)) h hV (hc.resolve_left h1)
      exact ⟨I', J', a1, _, _, fun res Hr => g_mb ex I J fi be pl s lo no _ Ha I' J' a2 (hz_f (lc_n h1)) (hz_f (lc_n h2)) Hr⟩
theorem gm_1 (ex : List (Nat × Nat)) {V : Int64 → Prop} {f : Nat → Int32} {I : Nat → Nat → Int32} {J : Nat → Nat → Int64} {m : Nat} {s : Int64} {fi be pl : Int32} {lo : Int32} {no : Int64} (h : SI V I J m) (hV : VC V) (hC : CL V f) (hf : I 3 = f) (hs : V s) : ∃ I' J', MT V I I' J J' m ∧ ∃ (lo' : Int32) (no' : Int64), ∀ res, mxRn 18 46 [(0, .ref 28), (1, .ref 3), (2, .int fi), (3, .int be), (4, .int pl), (5, .long s), (7, .retAddr 0), (8, .int 8), (9, .int 2), (10, .int lo'), (11, .long no')] [] (shS ex, I', J', QS) res → mxRn 18 46 [(0, .ref 28), (1, .ref 3), (2, .int fi), (3, .int be), (4, .int pl), (5, .long s), (7, .retAddr 0), (8, .int 8), (9, .int 1), (10, .int lo), (11, .long no)] [] (shS ex, I, J, QS) res := by
  have Ha := w_after1_run (shT ex) J QS I s
  have hc := ((hC I hf s hs).1).2.1
  by_cases h1 : w_after1 I s = -1
  · exact ⟨I, J, MT.rf h, _, _, fun res Hr => g_r1 ex I J fi be pl s lo no _ Ha (hz_t (lc_e h1)) Hr⟩
  · by_cases h2 : w_after1 I s = s
    · exact ⟨I, J, MT.rf h, _, _, fun res Hr => g_s1 ex I J fi be pl s lo no _ Ha (hz_f (lc_n h1)) (hz_t (lc_e h2)) Hr⟩
    · obtain ⟨I', J', a1, a2⟩ := meet_ok ex (((16 : Int32) * (pl)) + (1 : Int32)) h hV (hc.resolve_left h1)
      exact ⟨I', J', a1, _, _, fun res Hr => g_m1 ex I J fi be pl s lo no _ Ha I' J' a2 (hz_f (lc_n h1)) (hz_f (lc_n h2)) Hr⟩
theorem gm_2 (ex : List (Nat × Nat)) {V : Int64 → Prop} {f : Nat → Int32} {I : Nat → Nat → Int32} {J : Nat → Nat → Int64} {m : Nat} {s : Int64} {fi be pl : Int32} {lo : Int32} {no : Int64} (h : SI V I J m) (hV : VC V) (hC : CL V f) (hf : I 3 = f) (hs : V s) : ∃ I' J', MT V I I' J J' m ∧ ∃ (lo' : Int32) (no' : Int64), ∀ res, mxRn 18 46 [(0, .ref 28), (1, .ref 3), (2, .int fi), (3, .int be), (4, .int pl), (5, .long s), (7, .retAddr 0), (8, .int 8), (9, .int 3), (10, .int lo'), (11, .long no')] [] (shS ex, I', J', QS) res → mxRn 18 46 [(0, .ref 28), (1, .ref 3), (2, .int fi), (3, .int be), (4, .int pl), (5, .long s), (7, .retAddr 0), (8, .int 8), (9, .int 2), (10, .int lo), (11, .long no)] [] (shS ex, I, J, QS) res := by
  have Ha := w_after2_run (shT ex) J QS I s
  have hc := ((hC I hf s hs).1).2.2.1
  by_cases h1 : w_after2 I s = -1
  · exact ⟨I, J, MT.rf h, _, _, fun res Hr => g_r2 ex I J fi be pl s lo no _ Ha (hz_t (lc_e h1)) Hr⟩
  · by_cases h2 : w_after2 I s = s
    · exact ⟨I, J, MT.rf h, _, _, fun res Hr => g_s2 ex I J fi be pl s lo no _ Ha (hz_f (lc_n h1)) (hz_t (lc_e h2)) Hr⟩
    · obtain ⟨I', J', a1, a2⟩ := meet_ok ex (((16 : Int32) * (pl)) + (2 : Int32)) h hV (hc.resolve_left h1)
      exact ⟨I', J', a1, _, _, fun res Hr => g_m2 ex I J fi be pl s lo no _ Ha I' J' a2 (hz_f (lc_n h1)) (hz_f (lc_n h2)) Hr⟩
theorem gm_3 (ex : List (Nat × Nat)) {V : Int64 → Prop} {f : Nat → Int32} {I : Nat → Nat → Int32} {J : Nat → Nat → Int64} {m : Nat} {s : Int64} {fi be pl : Int32} {lo : Int32} {no : Int64} (h : SI V I J m) (hV : VC V) (hC : CL V f) (hf : I 3 = f) (hs : V s) : ∃ I' J', MT V I I' J J' m ∧ ∃ (lo' : Int32) (no' : Int64), ∀ res, mxRn 18 46 [(0, .ref 28), (1, .ref 3), (2, .int fi), (3, .int be), (4, .int pl), (5, .long s), (7, .retAddr 0), (8, .int 8), (9, .int 4), (10, .int lo'), (11, .long no')] [] (shS ex, I', J', QS) res → mxRn 18 46 [(0, .ref 28), (1, .ref 3), (2, .int fi), (3, .int be), (4, .int pl), (5, .long s), (7, .retAddr 0), (8, .int 8), (9, .int 3), (10, .int lo), (11, .long no)] [] (shS ex, I, J, QS) res := by
  have Ha := w_after4_run (shT ex) J QS I s
  have hc := ((hC I hf s hs).1).2.2.2.1
  by_cases h1 : w_after4 I s = -1
  · exact ⟨I, J, MT.rf h, _, _, fun res Hr => g_r3 ex I J fi be pl s lo no _ Ha (hz_t (lc_e h1)) Hr⟩
  · by_cases h2 : w_after4 I s = s
    · exact ⟨I, J, MT.rf h, _, _, fun res Hr => g_s3 ex I J fi be pl s lo no _ Ha (hz_f (lc_n h1)) (hz_t (lc_e h2)) Hr⟩
    · obtain ⟨I', J', a1, a2⟩ := meet_ok ex (((16 : Int32) * (pl)) + (4 : Int32)) h hV (hc.resolve_left h1)
      exact ⟨I', J', a1, _, _, fun res Hr => g_m3 ex I J fi be pl s lo no _ Ha I' J' a2 (hz_f (lc_n h1)) (hz_f (lc_n h2)) Hr⟩
theorem gm_4 (ex : List (Nat × Nat)) {V : Int64 → Prop} {f : Nat → Int32} {I : Nat → Nat → Int32} {J : Nat → Nat → Int64} {m : Nat} {s : Int64} {fi be pl : Int32} {lo : Int32} {no : Int64} (h : SI V I J m) (hV : VC V) (hC : CL V f) (hf : I 3 = f) (hs : V s) : ∃ I' J', MT V I I' J J' m ∧ ∃ (lo' : Int32) (no' : Int64), ∀ res, mxRn 18 46 [(0, .ref 28), (1, .ref 3), (2, .int fi), (3, .int be), (4, .int pl), (5, .long s), (7, .retAddr 0), (8, .int 8), (9, .int 5), (10, .int lo'), (11, .long no')] [] (shS ex, I', J', QS) res → mxRn 18 46 [(0, .ref 28), (1, .ref 3), (2, .int fi), (3, .int be), (4, .int pl), (5, .long s), (7, .retAddr 0), (8, .int 8), (9, .int 4), (10, .int lo), (11, .long no)] [] (shS ex, I, J, QS) res := by
  have Ha := w_after6_run (shT ex) J QS I s
  have hc := ((hC I hf s hs).1).2.2.2.2.1
  by_cases h1 : w_after6 I s = -1
  · exact ⟨I, J, MT.rf h, _, _, fun res Hr => g_r4 ex I J fi be pl s lo no _ Ha (hz_t (lc_e h1)) Hr⟩
  · by_cases h2 : w_after6 I s = s
    · exact ⟨I, J, MT.rf h, _, _, fun res Hr => g_s4 ex I J fi be pl s lo no _ Ha (hz_f (lc_n h1)) (hz_t (lc_e h2)) Hr⟩
    · obtain ⟨I', J', a1, a2⟩ := meet_ok ex (((16 : Int32) * (pl)) + (6 : Int32)) h hV (hc.resolve_left h1)
      exact ⟨I', J', a1, _, _, fun res Hr => g_m4 ex I J fi be pl s lo no _ Ha I' J' a2 (hz_f (lc_n h1)) (hz_f (lc_n h2)) Hr⟩
theorem gm_5 (ex : List (Nat × Nat)) {V : Int64 → Prop} {f : Nat → Int32} {I : Nat → Nat → Int32} {J : Nat → Nat → Int64} {m : Nat} {s : Int64} {fi be pl : Int32} {lo : Int32} {no : Int64} (h : SI V I J m) (hV : VC V) (hC : CL V f) (hf : I 3 = f) (hs : V s) : ∃ I' J', MT V I I' J J' m ∧ ∃ (lo' : Int32) (no' : Int64), ∀ res, mxRn 18 46 [(0, .ref 28), (1, .ref 3), (2, .int fi), (3, .int be), (4, .int pl), (5, .long s), (7, .retAddr 0), (8, .int 8), (9, .int 6), (10, .int lo'), (11, .long no')] [] (shS ex, I', J', QS) res → mxRn 18 46 [(0, .ref 28), (1, .ref 3), (2, .int fi), (3, .int be), (4, .int pl), (5, .long s), (7, .retAddr 0), (8, .int 8), (9, .int 5), (10, .int lo), (11, .long no)] [] (shS ex, I, J, QS) res := by
  have Ha := w_after7_run (shT ex) J QS I s
  have hc := ((hC I hf s hs).1).2.2.2.2.2.1
  by_cases h1 : w_after7 I s = -1
  · exact ⟨I, J, MT.rf h, _, _, fun res Hr => g_r5 ex I J fi be pl s lo no _ Ha (hz_t (lc_e h1)) Hr⟩
  · by_cases h2 : w_after7 I s = s
    · exact ⟨I, J, MT.rf h, _, _, fun res Hr => g_s5 ex I J fi be pl s lo no _ Ha (hz_f (lc_n h1)) (hz_t (lc_e h2)) Hr⟩
    · obtain ⟨I', J', a1, a2⟩ := meet_ok ex (((16 : Int32) * (pl)) + (7 : Int32)) h hV (hc.resolve_left h1)
      exact ⟨I', J', a1, _, _, fun res Hr => g_m5 ex I J fi be pl s lo no _ Ha I' J' a2 (hz_f (lc_n h1)) (hz_f (lc_n h2)) Hr⟩
theorem gm_6 (ex : List (Nat × Nat)) {V : Int64 → Prop} {f : Nat → Int32} {I : Nat → Nat → Int32} {J : Nat → Nat → Int64} {m : Nat} {s : Int64} {fi be pl : Int32} {lo : Int32} {no : Int64} (h : SI V I J m) (hV : VC V) (hC : CL V f) (hf : I 3 = f) (hs : V s) : ∃ I' J', MT V I I' J J' m ∧ ∃ (lo' : Int32) (no' : Int64), ∀ res, mxRn 18 46 [(0, .ref 28), (1, .ref 3), (2, .int fi), (3, .int be), (4, .int pl), (5, .long s), (7, .retAddr 0), (8, .int 8), (9, .int 7), (10, .int lo'), (11, .long no')] [] (shS ex, I', J', QS) res → mxRn 18 46 [(0, .ref 28), (1, .ref 3), (2, .int fi), (3, .int be), (4, .int pl), (5, .long s), (7, .retAddr 0), (8, .int 8), (9, .int 6), (10, .int lo), (11, .long no)] [] (shS ex, I, J, QS) res := by
  have Ha := w_after8_run (shT ex) J QS I s
  have hc := ((hC I hf s hs).1).2.2.2.2.2.2.1
  by_cases h1 : w_after8 I s = -1
  · exact ⟨I, J, MT.rf h, _, _, fun res Hr => g_r6 ex I J fi be pl s lo no _ Ha (hz_t (lc_e h1)) Hr⟩
  · by_cases h2 : w_after8 I s = s
    · exact ⟨I, J, MT.rf h, _, _, fun res Hr => g_s6 ex I J fi be pl s lo no _ Ha (hz_f (lc_n h1)) (hz_t (lc_e h2)) Hr⟩
    · obtain ⟨I', J', a1, a2⟩ := meet_ok ex (((16 : Int32) * (pl)) + (8 : Int32)) h hV (hc.resolve_left h1)
      exact ⟨I', J', a1, _, _, fun res Hr => g_m6 ex I J fi be pl s lo no _ Ha I' J' a2 (hz_f (lc_n h1)) (hz_f (lc_n h2)) Hr⟩
theorem gm_7 (ex : List (Nat × Nat)) {V : Int64 → Prop} {f : Nat → Int32} {I : Nat → Nat → Int32} {J : Nat → Nat → Int64} {m : Nat} {s : Int64} {fi be pl : Int32} {lo : Int32} {no : Int64} (h : SI V I J m) (hV : VC V) (hC : CL V f) (hf : I 3 = f) (hs : V s) : ∃ I' J', MT V I I' J J' m ∧ ∃ (lo' : Int32) (no' : Int64), ∀ res, mxRn 18 46 [(0, .ref 28), (1, .ref 3), (2, .int fi), (3, .int be), (4, .int pl), (5, .long s), (7, .retAddr 0), (8, .int 8), (9, .int 8), (10, .int lo'), (11, .long no')] [] (shS ex, I', J', QS) res → mxRn 18 46 [(0, .ref 28), (1, .ref 3), (2, .int fi), (3, .int be), (4, .int pl), (5, .long s), (7, .retAddr 0), (8, .int 8), (9, .int 7), (10, .int lo), (11, .long no)] [] (shS ex, I, J, QS) res := by
  have Ha := w_after10_run (shT ex) J QS I s
  have hc := ((hC I hf s hs).1).2.2.2.2.2.2.2
  by_cases h1 : w_after10 I s = -1
  · exact ⟨I, J, MT.rf h, _, _, fun res Hr => g_r7 ex I J fi be pl s lo no _ Ha (hz_t (lc_e h1)) Hr⟩
  · by_cases h2 : w_after10 I s = s
    · exact ⟨I, J, MT.rf h, _, _, fun res Hr => g_s7 ex I J fi be pl s lo no _ Ha (hz_f (lc_n h1)) (hz_t (lc_e h2)) Hr⟩
    · obtain ⟨I', J', a1, a2⟩ := meet_ok ex (((16 : Int32) * (pl)) + (10 : Int32)) h hV (hc.resolve_left h1)
      exact ⟨I', J', a1, _, _, fun res Hr => g_m7 ex I J fi be pl s lo no _ Ha I' J' a2 (hz_f (lc_n h1)) (hz_f (lc_n h2)) Hr⟩
theorem MT.tr {V : Int64 → Prop} {I I1 I2 : Nat → Nat → Int32} {J J1 J2 : Nat → Nat → Int64} {m m1 : Nat} (h : MT V I I1 J J1 m) (h1 : m ≤ m1) (g : MT V I1 I2 J1 J2 m1) (hp : ∀ p, p < m → J1 29 p = J 29 p) : MT V I I2 J J2 m := by
  obtain ⟨a, a1, a2, a3, a4⟩ := h
  obtain ⟨b, b1, b2, b3, b4⟩ := g
  exact ⟨b, b1, Nat.le_trans h1 b2, fun p q => (b3 p (by omega)).trans (hp p q), a4.tr b4⟩
theorem gm_all (ex : List (Nat × Nat)) {V : Int64 → Prop} {f : Nat → Int32} {I : Nat → Nat → Int32} {J : Nat → Nat → Int64} {m : Nat} {s : Int64} {fi be pl : Int32} (h : SI V I J m) (hV : VC V) (hC : CL V f) (hf : I 3 = f) (hs : V s) : ∃ I' J', MT V I I' J J' m ∧ ∃ (lo' : Int32) (no' : Int64), ∀ res, mxRn 18 46 [(0, .ref 28), (1, .ref 3), (2, .int fi), (3, .int be), (4, .int pl), (5, .long s), (7, .retAddr 0), (8, .int 8), (9, .int 8), (10, .int lo'), (11, .long no')] [] (shS ex, I', J', QS) res → mxRn 18 46 [(0, .ref 28), (1, .ref 3), (2, .int fi), (3, .int be), (4, .int pl), (5, .long s), (7, .retAddr 0), (8, .int 8), (9, .int 0)] [] (shS ex, I, J, QS) res := by
  obtain ⟨I0, J0, a0, l0, n0, r0⟩ := gm_0 ex (fi := fi) (be := be) (pl := pl) h hV hC hf hs
  obtain ⟨m0, s0, q0, p0, f0⟩ := a0
  have e0 : I0 3 = f := (f0.1 3 (by decide) (by decide) (by decide)).trans hf
  obtain ⟨I1, J1, ⟨m1, s1, q1, p1, f1⟩, l1, n1, r1⟩ := gm_1 ex (fi := fi) (be := be) (pl := pl) (lo := l0) (no := n0) s0 hV hC e0 hs
  have e1 : I1 3 = f := (f1.1 3 (by decide) (by decide) (by decide)).trans e0
  obtain ⟨I2, J2, ⟨m2, s2, q2, p2, f2⟩, l2, n2, r2⟩ := gm_2 ex (fi := fi) (be := be) (pl := pl) (lo := l1) (no := n1) s1 hV hC e1 hs
  have e2 : I2 3 = f := (f2.1 3 (by decide) (by decide) (by decide)).trans e1
  obtain ⟨I3, J3, ⟨m3, s3, q3, p3, f3⟩, l3, n3, r3⟩ := gm_3 ex (fi := fi) (be := be) (pl := pl) (lo := l2) (no := n2) s2 hV hC e2 hs
  have e3 : I3 3 = f := (f3.1 3 (by decide) (by decide) (by decide)).trans e2
  obtain ⟨I4, J4, ⟨m4, s4, q4, p4, f4⟩, l4, n4, r4⟩ := gm_4 ex (fi := fi) (be := be) (pl := pl) (lo := l3) (no := n3) s3 hV hC e3 hs
  have e4 : I4 3 = f := (f4.1 3 (by decide) (by decide) (by decide)).trans e3
  obtain ⟨I5, J5, ⟨m5, s5, q5, p5, f5⟩, l5, n5, r5⟩ := gm_5 ex (fi := fi) (be := be) (pl := pl) (lo := l4) (no := n4) s4 hV hC e4 hs
  have e5 : I5 3 = f := (f5.1 3 (by decide) (by decide) (by decide)).trans e4
  obtain ⟨I6, J6, ⟨m6, s6, q6, p6, f6⟩, l6, n6, r6⟩ := gm_6 ex (fi := fi) (be := be) (pl := pl) (lo := l5) (no := n5) s5 hV hC e5 hs
  have e6 : I6 3 = f := (f6.1 3 (by decide) (by decide) (by decide)).trans e5
  obtain ⟨I7, J7, ⟨m7, s7, q7, p7, f7⟩, l7, n7, r7⟩ := gm_7 ex (fi := fi) (be := be) (pl := pl) (lo := l6) (no := n6) s6 hV hC e6 hs
  have e7 : I7 3 = f := (f7.1 3 (by decide) (by decide) (by decide)).trans e6
  refine ⟨I7, J7, ⟨m7, s7, by omega, fun p hp => ?_, ((((((f0.tr f1).tr f2).tr f3).tr f4).tr f5).tr f6).tr f7⟩, l7, n7, fun res Hr => r0 _ (r1 _ (r2 _ (r3 _ (r4 _ (r5 _ (r6 _ (r7 _ Hr)))))))⟩
  rw [p7 p (by omega), p6 p (by omega), p5 p (by omega), p4 p (by omega), p3 p (by omega), p2 p (by omega), p1 p (by omega), p0 p (by omega)]
theorem gm_allb (ex : List (Nat × Nat)) {V : Int64 → Prop} {f : Nat → Int32} {I : Nat → Nat → Int32} {J : Nat → Nat → Int64} {m : Nat} {s : Int64} {fi be pl : Int32} {lo : Int32} {no : Int64} (h : SI V I J m) (hV : VC V) (hC : CL V f) (hf : I 3 = f) (hs : V s) : ∃ I' J', MT V I I' J J' m ∧ ∃ (lo' : Int32) (no' : Int64), ∀ res, mxRn 18 46 [(0, .ref 28), (1, .ref 3), (2, .int fi), (3, .int be), (4, .int pl), (5, .long s), (7, .retAddr 0), (8, .int 8), (9, .int 8), (10, .int lo'), (11, .long no')] [] (shS ex, I', J', QS) res → mxRn 18 46 [(0, .ref 28), (1, .ref 3), (2, .int fi), (3, .int be), (4, .int pl), (5, .long s), (7, .retAddr 0), (8, .int 8), (9, .int 0), (10, .int lo), (11, .long no)] [] (shS ex, I, J, QS) res := by
  obtain ⟨I0, J0, a0, l0, n0, r0⟩ := gm_0b ex (fi := fi) (be := be) (pl := pl) (lo := lo) (no := no) h hV hC hf hs
  obtain ⟨m0, s0, q0, p0, f0⟩ := a0
  have e0 : I0 3 = f := (f0.1 3 (by decide) (by decide) (by decide)).trans hf
  obtain ⟨I1, J1, ⟨m1, s1, q1, p1, f1⟩, l1, n1, r1⟩ := gm_1 ex (fi := fi) (be := be) (pl := pl) (lo := l0) (no := n0) s0 hV hC e0 hs
  have e1 : I1 3 = f := (f1.1 3 (by decide) (by decide) (by decide)).trans e0
  obtain ⟨I2, J2, ⟨m2, s2, q2, p2, f2⟩, l2, n2, r2⟩ := gm_2 ex (fi := fi) (be := be) (pl := pl) (lo := l1) (no := n1) s1 hV hC e1 hs
  have e2 : I2 3 = f := (f2.1 3 (by decide) (by decide) (by decide)).trans e1
  obtain ⟨I3, J3, ⟨m3, s3, q3, p3, f3⟩, l3, n3, r3⟩ := gm_3 ex (fi := fi) (be := be) (pl := pl) (lo := l2) (no := n2) s2 hV hC e2 hs
  have e3 : I3 3 = f := (f3.1 3 (by decide) (by decide) (by decide)).trans e2
  obtain ⟨I4, J4, ⟨m4, s4, q4, p4, f4⟩, l4, n4, r4⟩ := gm_4 ex (fi := fi) (be := be) (pl := pl) (lo := l3) (no := n3) s3 hV hC e3 hs
  have e4 : I4 3 = f := (f4.1 3 (by decide) (by decide) (by decide)).trans e3
  obtain ⟨I5, J5, ⟨m5, s5, q5, p5, f5⟩, l5, n5, r5⟩ := gm_5 ex (fi := fi) (be := be) (pl := pl) (lo := l4) (no := n4) s4 hV hC e4 hs
  have e5 : I5 3 = f := (f5.1 3 (by decide) (by decide) (by decide)).trans e4
  obtain ⟨I6, J6, ⟨m6, s6, q6, p6, f6⟩, l6, n6, r6⟩ := gm_6 ex (fi := fi) (be := be) (pl := pl) (lo := l5) (no := n5) s5 hV hC e5 hs
  have e6 : I6 3 = f := (f6.1 3 (by decide) (by decide) (by decide)).trans e5
  obtain ⟨I7, J7, ⟨m7, s7, q7, p7, f7⟩, l7, n7, r7⟩ := gm_7 ex (fi := fi) (be := be) (pl := pl) (lo := l6) (no := n6) s6 hV hC e6 hs
  have e7 : I7 3 = f := (f7.1 3 (by decide) (by decide) (by decide)).trans e6
  refine ⟨I7, J7, ⟨m7, s7, by omega, fun p hp => ?_, ((((((f0.tr f1).tr f2).tr f3).tr f4).tr f5).tr f6).tr f7⟩, l7, n7, fun res Hr => r0 _ (r1 _ (r2 _ (r3 _ (r4 _ (r5 _ (r6 _ (r7 _ Hr)))))))⟩
  rw [p7 p (by omega), p6 p (by omega), p5 p (by omega), p4 p (by omega), p3 p (by omega), p2 p (by omega), p1 p (by omega), p0 p (by omega)]
theorem go_in (ex : List (Nat × Nat)) {V : Int64 → Prop} {f : Nat → Int32} {fi be : Nat} (hbe : be ≤ 19000) (hV : VC V) (hC : CL V f) : ∀ (d pl m : Nat) (I : Nat → Nat → Int32) (J : Nat → Nat → Int64) (s0 : Int64) (lo : Int32) (no : Int64), pl + d = be → be ≤ m → SI V I J m → I 3 = f → ∃ I' J', MT V I I' J J' m ∧ mxRn 18 3 [(0, .ref 28), (1, .ref 3), (2, .int (Int32.ofInt (fi : Int))), (3, .int (Int32.ofInt (be : Int))), (4, .int (Int32.ofInt (pl : Int))), (5, .long s0), (7, .retAddr 0), (8, .int 8), (9, .int 8), (10, .int lo), (11, .long no)] [] (shS ex, I, J, QS) (none, (shS ex, I', J', QS))
  | 0, pl, m, I, J, s0, lo, no, h1, h2, h, hf => ⟨I, J, MT.rf h, g_end1 ex I J (Int32.ofInt (fi : Int)) (Int32.ofInt (be : Int)) (Int32.ofInt (pl : Int)) s0 lo no (ge_tt (by omega) (by omega) (by omega))⟩
  | d + 1, pl, m, I, J, s0, lo, no, h1, h2, h, hf => by
    have hs : V (J 29 pl) := h.2.2.1 pl (by omega)
    obtain ⟨I1, J1, a1, lo1, no1, r1⟩ := gm_allb ex (fi := Int32.ofInt (fi : Int)) (be := Int32.ofInt (be : Int)) (pl := Int32.ofInt (pl : Int)) (lo := lo) (no := no) h hV hC hf hs
    obtain ⟨m1, b1, b2, b3, b4⟩ := a1
    obtain ⟨I2, J2, c1, c2⟩ := go_in ex hbe hV hC d (pl + 1) m1 I1 J1 (J 29 pl) lo1 no1 (by omega) (by omega) b1 ((b4.1 3 (by decide) (by decide) (by decide)).trans hf)
    refine ⟨I2, J2, MT.tr ⟨m1, b1, b2, b3, b4⟩ b2 c1 b3, ?_⟩
    refine g_in1 ex I J (Int32.ofInt (fi : Int)) (Int32.ofInt (be : Int)) (Int32.ofInt (pl : Int)) s0 lo no (ge_ff (by omega) (by omega) (by omega)) (ge_ff (b := 20000) (by omega) (by decide) (by omega)) (hn_f h.1.2.2.1) (in32 (by omega) (by decide)) ?_
    rw [c32 (by omega)]
    refine r1 _ (g_next ex I1 J1 (Int32.ofInt (fi : Int)) (Int32.ofInt (be : Int)) (Int32.ofInt (pl : Int)) (J 29 pl) lo1 no1 ?_)
    rw [show (1 : Int32) = Int32.ofInt ((1 : Nat) : Int) from rfl, a32]
    exact c2
theorem go_ok (ex : List (Nat × Nat)) {V : Int64 → Prop} {f : Nat → Int32} {fi be m : Nat} {I : Nat → Nat → Int32} {J : Nat → Nat → Int64} (hV : VC V) (hC : CL V f) (hfb : fi ≤ be) (hbm : be ≤ m) (h : SI V I J m) (hf : I 3 = f) : ∃ I' J', MT V I I' J J' m ∧ mxRn 18 0 [(0, .ref 28), (1, .ref 3), (2, .int (Int32.ofInt (fi : Int))), (3, .int (Int32.ofInt (be : Int)))] [] (shS ex, I, J, QS) (none, (shS ex, I', J', QS)) := by
  have hm : m ≤ 19000 := hV (J 29) m h.2.2.1 h.2.2.2.1
  rcases Nat.lt_or_ge fi be with hlt | hge
  · have hs : V (J 29 fi) := h.2.2.1 fi (by omega)
    obtain ⟨I1, J1, a1, lo1, no1, r1⟩ := gm_all ex (fi := Int32.ofInt (fi : Int)) (be := Int32.ofInt (be : Int)) (pl := Int32.ofInt (fi : Int)) h hV hC hf hs
    obtain ⟨m1, b1, b2, b3, b4⟩ := a1
    obtain ⟨I2, J2, c1, c2⟩ := go_in ex (fi := fi) (be := be) (by omega) hV hC (be - (fi + 1)) (fi + 1) m1 I1 J1 (J 29 fi) lo1 no1 (by omega) (by omega) b1 ((b4.1 3 (by decide) (by decide) (by decide)).trans hf)
    refine ⟨I2, J2, MT.tr ⟨m1, b1, b2, b3, b4⟩ b2 c1 b3, g_start ex I J _ _ ?_⟩
    refine g_in0 ex I J (Int32.ofInt (fi : Int)) (Int32.ofInt (be : Int)) (Int32.ofInt (fi : Int)) (ge_ff (by omega) (by omega) (by omega)) (ge_ff (b := 20000) (by omega) (by decide) (by omega)) (hn_f h.1.2.2.1) (in32 (by omega) (by decide)) ?_
    rw [c32 (by omega)]
    refine r1 _ (g_next ex I1 J1 (Int32.ofInt (fi : Int)) (Int32.ofInt (be : Int)) (Int32.ofInt (fi : Int)) (J 29 fi) lo1 no1 ?_)
    rw [show (1 : Int32) = Int32.ofInt ((1 : Nat) : Int) from rfl, a32]
    exact c2
  · exact ⟨I, J, MT.rf h, g_start ex I J _ _ (g_end0 ex I J _ _ _ (ge_tt (by omega) (by omega) hge))⟩
theorem ff_in (ex : List (Nat × Nat)) {V : Int64 → Prop} {f : Nat → Int32} {fi be m : Nat} {ki : Int32} {I : Nat → Nat → Int32} {J : Nat → Nat → Int64} (hm : m ≤ 19000) (hC : CL V f) (hbm : be ≤ m) (h : SI V I J m) (hf : I 3 = f) : ∀ (d pl : Nat) (lo ko : Int32), pl + d = be → mxRn 17 3 [(0, .ref 28), (1, .ref 3), (2, .int (Int32.ofInt (fi : Int))), (3, .int (Int32.ofInt (be : Int))), (4, .int ki), (5, .int (Int32.ofInt (pl : Int))), (6, .retAddr 1), (7, .int 3), (8, .int 3), (9, .int lo), (10, .int ko)] [] (shS ex, I, J, QS) (none, (shS ex, I, J, QS))
  | 0, pl, lo, ko, h1 => v_end1 ex I J (Int32.ofInt (fi : Int)) (Int32.ofInt (be : Int)) ki (Int32.ofInt (pl : Int)) lo ko (ge_tt (by omega) (by omega) (by omega))
  | d + 1, pl, lo, ko, h1 => by
    have hs := (hC I hf (J 29 pl) (h.2.2.1 pl (by omega))).2
    have g1 : mxin (Int32.ofInt (pl : Int)) 20000 = true := in32 (by omega) (by decide)
    have ec : (Int32.ofInt (pl : Int)).toNatClampNeg = pl := c32 (by omega)
    have z3 := w_flaw3_run (shT ex) J QS I (J 29 (Int32.ofInt (pl : Int)).toNatClampNeg)
    have z5 := w_flaw5_run (shT ex) J QS I (J 29 (Int32.ofInt (pl : Int)).toNatClampNeg)
    have z9 := w_flaw9_run (shT ex) J QS I (J 29 (Int32.ofInt (pl : Int)).toNatClampNeg)
    refine v_in1 ex I J (Int32.ofInt (fi : Int)) (Int32.ofInt (be : Int)) ki (Int32.ofInt (pl : Int)) lo ko (ge_ff (by omega) (by omega) (by omega)) (ge_ff (b := 20000) (by omega) (by decide) (by omega)) ?_
    refine v_zb ex I J _ _ ki _ lo ko _ z3 g1 (hz_t (by rw [ec]; exact hs.1)) ?_
    refine v_z1 ex I J _ _ ki _ _ _ _ z5 g1 (hz_t (by rw [ec]; exact hs.2.1)) ?_
    refine v_z2 ex I J _ _ ki _ _ _ _ z9 g1 (hz_t (by rw [ec]; exact hs.2.2)) ?_
    refine v_next ex I J _ _ ki _ _ _ ?_
    rw [show (1 : Int32) = Int32.ofInt ((1 : Nat) : Int) from rfl, a32]
    exact ff_in ex hm hC hbm h hf d (pl + 1) _ _ (by omega)
theorem ff_ok (ex : List (Nat × Nat)) {V : Int64 → Prop} {f : Nat → Int32} {fi be m : Nat} {ki : Int32} {I : Nat → Nat → Int32} {J : Nat → Nat → Int64} (hV : VC V) (hC : CL V f) (hfb : fi ≤ be) (hbm : be ≤ m) (h : SI V I J m) (hf : I 3 = f) : mxRn 17 0 [(0, .ref 28), (1, .ref 3), (2, .int (Int32.ofInt (fi : Int))), (3, .int (Int32.ofInt (be : Int))), (4, .int ki)] [] (shS ex, I, J, QS) (none, (shS ex, I, J, QS)) := by
  have hm : m ≤ 19000 := hV (J 29) m h.2.2.1 h.2.2.2.1
  rcases Nat.lt_or_ge fi be with hlt | hge
  · have hs := (hC I hf (J 29 fi) (h.2.2.1 fi (by omega))).2
    have g1 : mxin (Int32.ofInt (fi : Int)) 20000 = true := in32 (by omega) (by decide)
    have ec : (Int32.ofInt (fi : Int)).toNatClampNeg = fi := c32 (by omega)
    have z3 := w_flaw3_run (shT ex) J QS I (J 29 (Int32.ofInt (fi : Int)).toNatClampNeg)
    have z5 := w_flaw5_run (shT ex) J QS I (J 29 (Int32.ofInt (fi : Int)).toNatClampNeg)
    have z9 := w_flaw9_run (shT ex) J QS I (J 29 (Int32.ofInt (fi : Int)).toNatClampNeg)
    refine v_start ex I J _ _ ki ?_
    refine v_in0 ex I J _ _ ki (Int32.ofInt (fi : Int)) (ge_ff (by omega) (by omega) (by omega)) (ge_ff (b := 20000) (by omega) (by decide) (by omega)) ?_
    refine v_z0 ex I J _ _ ki _ _ z3 g1 (hz_t (by rw [ec]; exact hs.1)) ?_
    refine v_z1 ex I J _ _ ki _ _ _ _ z5 g1 (hz_t (by rw [ec]; exact hs.2.1)) ?_
    refine v_z2 ex I J _ _ ki _ _ _ _ z9 g1 (hz_t (by rw [ec]; exact hs.2.2)) ?_
    refine v_next ex I J _ _ ki _ _ _ ?_
    rw [show (1 : Int32) = Int32.ofInt ((1 : Nat) : Int) from rfl, a32]
    exact ff_in ex (fi := fi) hm hC hbm h hf (be - (fi + 1)) (fi + 1) _ _ (by omega)
  · exact v_start ex I J _ _ ki (v_end0 ex I J _ _ ki _ (ge_tt (by omega) (by omega) hge))
theorem rn_body (ex : List (Nat × Nat)) {V : Int64 → Prop} {f : Nat → Int32} {ln fi dn m : Nat} {ki : Int32} {I : Nat → Nat → Int32} {J : Nat → Nat → Int64} (hV : VC V) (hC : CL V f) (hfm : fi ≤ m) (h : SI V I J m) (hf : I 3 = f) : ∃ I' J', MT V I I' J J' m ∧ ∀ res, mxRn 15 16 [(0, .ref 28), (1, .ref 3), (2, .int (Int32.ofInt (ln : Int))), (3, .int ki), (4, .int (Int32.ofInt (m : Int))), (5, .int (Int32.ofInt ((dn + 1 : Nat) : Int))), (6, .int (Int32.ofInt (m : Int)))] [] (shS ex, I', J', QS) res → mxRn 15 28 [(0, .ref 28), (1, .ref 3), (2, .int (Int32.ofInt (ln : Int))), (3, .int ki), (4, .int (Int32.ofInt (fi : Int))), (5, .int (Int32.ofInt (dn : Int))), (6, .int (Int32.ofInt (m : Int)))] [] (shS ex, I, J, QS) res := by
  obtain ⟨I1, J1, ⟨m1, b1, b2, b3, b4⟩, a2⟩ := go_ok ex (fi := fi) (be := m) hV hC hfm (Nat.le_refl m) h hf
  refine ⟨I1, J1, ⟨m1, b1, b2, b3, b4⟩, fun res Hr => ?_⟩
  refine r_find ex I J _ ki _ _ _ I J (ff_ok ex hV hC hfm (Nat.le_refl m) h hf) ?_
  refine r_go ex I J _ ki _ _ _ I1 J1 a2 (hz_t h.1.2.2.2) ?_
  refine r_loop ex I1 J1 _ ki _ _ _ (hz_t b1.1.2.2.1) ?_
  rw [show (1 : Int32) = Int32.ofInt ((1 : Nat) : Int) from rfl, a32]
  exact Hr
theorem rn_in (ex : List (Nat × Nat)) {V : Int64 → Prop} {f : Nat → Int32} {ln : Nat} {ki : Int32} (hl : ln ≤ 10) (hV : VC V) (hC : CL V f) : ∀ (d dn fi m : Nat) (bo : Int32) (I : Nat → Nat → Int32) (J : Nat → Nat → Int64), dn + d = ln → fi ≤ m → SI V I J m → I 3 = f → ∃ I' J', MT V I I' J J' m ∧ mxRn 15 16 [(0, .ref 28), (1, .ref 3), (2, .int (Int32.ofInt (ln : Int))), (3, .int ki), (4, .int (Int32.ofInt (fi : Int))), (5, .int (Int32.ofInt (dn : Int))), (6, .int bo)] [] (shS ex, I, J, QS) (some (.int 0), (shS ex, I', J', QS))
  | 0, dn, fi, m, bo, I, J, h1, h2, h, hf => ⟨I, J, MT.rf h, r_end1 ex I J _ ki _ _ bo (ge_tt (by omega) (by omega) (by omega))⟩
  | d + 1, dn, fi, m, bo, I, J, h1, h2, h, hf => by
    obtain ⟨I1, J1, ⟨m1, b1, b2, b3, b4⟩, r1⟩ := rn_body ex (ln := ln) (dn := dn) (ki := ki) hV hC h2 h hf
    obtain ⟨I2, J2, c1, c2⟩ := rn_in ex (ki := ki) hl hV hC d (dn + 1) m m1 (Int32.ofInt (m : Int)) I1 J1 (by omega) b2 b1 ((b4.1 3 (by decide) (by decide) (by decide)).trans hf)
    refine ⟨I2, J2, MT.tr ⟨m1, b1, b2, b3, b4⟩ b2 c1 b3, ?_⟩
    refine r_in1 ex I J _ ki _ _ bo (ge_ff (by omega) (by omega) (by omega)) ?_
    rw [h.1.2.1]
    exact r1 _ c2
theorem rn_ok (ex : List (Nat × Nat)) {V : Int64 → Prop} {f : Nat → Int32} {ln : Nat} {ki : Int32} {I : Nat → Nat → Int32} {J : Nat → Nat → Int64} (h1 : 1 ≤ ln) (hl : ln ≤ 10) (hV : VC V) (hC : CL V f) (hf : I 3 = f) (h0 : V 0) (k1 : I 28 3 = 1) (k2 : I 28 4 = 0) (k3 : ∀ j, j < 32768 → I 31 j = 0) : ∃ I' J', FrS I I' J J' ∧ mxRn 15 0 [(0, .ref 28), (1, .ref 3), (2, .int (Int32.ofInt (ln : Int))), (3, .int ki)] [] (shS ex, I, J, QS) (some (.int 0), (shS ex, I', J', QS)) := by
  have hfg := f_forget ex I J (by rw [k1, k2]; decide)
  have hS : SI V (mxI (mxI (mxI (mxI I 28 3 ((I 28 3) + (I 28 4))) 28 4 0) 28 5 0) 28 6 0) J 0 := by
    refine ⟨⟨?_, ?_, ?_, ?_⟩, fun j hj => ⟨0, Nat.le_refl _, ?_⟩, fun p hp => absurd hp (Nat.not_lt_zero p), fun p q _ hq => absurd hq (Nat.not_lt_zero q), fun p hp => absurd hp (Nat.not_lt_zero p)⟩
    · simp [mxI, upd, k1, k2]
    · simp [mxI, upd]
    · simp [mxI, upd]
    · simp [mxI, upd]
    · have e := k3 j hj
      simp [mxI, e]
  have hF : FrS I (mxI (mxI (mxI (mxI I 28 3 ((I 28 3) + (I 28 4))) 28 4 0) 28 5 0) 28 6 0) J J := ⟨fun c c1 _ _ => by simp [mxI, c1], fun _ _ => rfl⟩
  obtain ⟨I1, J1, ⟨m1, b1, b2, b3, b4⟩, a2⟩ := meet_ok ex (s := 0) 0 hS hV h0
  have e1 : I1 3 = f := (b4.1 3 (by decide) (by decide) (by decide)).trans ((hF.1 3 (by decide) (by decide) (by decide)).trans hf)
  obtain ⟨d, hd⟩ : ∃ d, ln = d + 1 := ⟨ln - 1, by omega⟩
  obtain ⟨I2, J2, ⟨m2, d1, d2, d3, d4⟩, r2⟩ := rn_body ex (ln := ln) (dn := 0) (fi := 0) (ki := ki) hV hC (Nat.zero_le m1) b1 e1
  obtain ⟨I3, J3, ⟨m3, f1, f2, f3, f4⟩, c2⟩ := rn_in ex (ki := ki) hl hV hC d 1 m1 m2 (Int32.ofInt (m1 : Int)) I2 J2 (by omega) d2 d1 ((d4.1 3 (by decide) (by decide) (by decide)).trans e1)
  refine ⟨I3, J3, ((hF.tr b4).tr d4).tr f4, r_start ex I J _ ki _ _ hfg I1 J1 a2 ?_⟩
  refine r_in0 ex I1 J1 _ ki (Int32.ofInt ((0 : Nat) : Int)) (Int32.ofInt ((0 : Nat) : Int)) (ge_ff (by decide) (by omega) (by omega)) ?_
  rw [b1.1.2.1]
  exact r2 _ c2
