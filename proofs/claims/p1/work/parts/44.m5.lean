/-! packed and unpacks on the state -/
def pci (g k a b : Nat) (L F B T : Nat → Nat) : Int := (((((((g : Int) * 16 + (k : Int)) * 8 + (a : Int)) * 8 + (b : Int)) * 256 + ((L 0 : Int) * 128 + (F 0 : Int) * 32 + (B 0 : Int) * 16 + (T 0 : Int))) * 256 + ((L 1 : Int) * 128 + (F 1 : Int) * 32 + (B 1 : Int) * 16 + (T 1 : Int))) * 256 + ((L 2 : Int) * 128 + (F 2 : Int) * 32 + (B 2 : Int) * 16 + (T 2 : Int))) * 256 + ((L 3 : Int) * 128 + (F 3 : Int) * 32 + (B 3 : Int) * 16 + (T 3 : Int))
theorem shS_V (ex : List (Nat × Nat)) : ∃ a sh, shS ex = shV a sh := shV_ex (shS ex) rfl rfl rfl rfl rfl rfl
theorem QS_V : QV QS = QS := QV_eq rfl rfl rfl rfl rfl
theorem of_t {x : Int32} {n : Nat} (h : x.toInt = (n : Int)) (hn : n < 2147483648) : x = Int32.ofInt (n : Int) := Int32.toInt_inj.mp (by rw [h, t32 hn])
set_option maxHeartbeats 1000000 in
theorem pk_ok (ex : List (Nat × Nat)) {I : Nat → Nat → Int32} (J : Nat → Nat → Int64) {g k a b : Nat} {L F B T : Nat → Nat} (hF : FI I g k a b L F B T) (hr : RG g k a b L F B T) : ∃ v : Int64, mxRn 94 0 [(0, .ref 9)] [] (shS ex, I, J, QS) (some (.long v), (shS ex, I, J, QS)) ∧ v.toInt = pci g k a b L F B T := by
  obtain ⟨⟨rg, rk, ra, rb⟩, rt⟩ := hr
  obtain ⟨⟨fg, fk, fa, fb⟩, ft⟩ := hF
  have vg : (I 9 14).toInt = (g : Int) := by rw [fg]; exact t32 (by omega)
  have vk : (I 9 15).toInt = (k : Int) := by rw [fk]; exact t32 (by omega)
  have va : (I 18 0).toInt = (a : Int) := by rw [fa]; exact t32 (by omega)
  have vb : (I 18 1).toInt = (b : Int) := by rw [fb]; exact t32 (by omega)
  obtain ⟨rl0, rf0, rb0, rt0⟩ := rt 0 (by decide)
  obtain ⟨fl0, ff0, fb0, ft0⟩ := ft 0 (by decide)
  have vl0 : (I 14 0).toInt = (L 0 : Int) := by rw [fl0]; exact t32 (by omega)
  have vf0 : (I 15 0).toInt = (F 0 : Int) := by rw [ff0]; exact t32 (by omega)
  have vd0 : (I 16 0).toInt = (B 0 : Int) := by rw [fb0]; exact t32 (by omega)
  have vt0 : (I 17 0).toInt = (T 0 : Int) := by rw [ft0]; exact t32 (by omega)
  obtain ⟨rl1, rf1, rb1, rt1⟩ := rt 1 (by decide)
  obtain ⟨fl1, ff1, fb1, ft1⟩ := ft 1 (by decide)
  have vl1 : (I 14 1).toInt = (L 1 : Int) := by rw [fl1]; exact t32 (by omega)
  have vf1 : (I 15 1).toInt = (F 1 : Int) := by rw [ff1]; exact t32 (by omega)
  have vd1 : (I 16 1).toInt = (B 1 : Int) := by rw [fb1]; exact t32 (by omega)
  have vt1 : (I 17 1).toInt = (T 1 : Int) := by rw [ft1]; exact t32 (by omega)
  obtain ⟨rl2, rf2, rb2, rt2⟩ := rt 2 (by decide)
  obtain ⟨fl2, ff2, fb2, ft2⟩ := ft 2 (by decide)
  have vl2 : (I 14 2).toInt = (L 2 : Int) := by rw [fl2]; exact t32 (by omega)
  have vf2 : (I 15 2).toInt = (F 2 : Int) := by rw [ff2]; exact t32 (by omega)
  have vd2 : (I 16 2).toInt = (B 2 : Int) := by rw [fb2]; exact t32 (by omega)
  have vt2 : (I 17 2).toInt = (T 2 : Int) := by rw [ft2]; exact t32 (by omega)
  obtain ⟨rl3, rf3, rb3, rt3⟩ := rt 3 (by decide)
  obtain ⟨fl3, ff3, fb3, ft3⟩ := ft 3 (by decide)
  have vl3 : (I 14 3).toInt = (L 3 : Int) := by rw [fl3]; exact t32 (by omega)
  have vf3 : (I 15 3).toInt = (F 3 : Int) := by rw [ff3]; exact t32 (by omega)
  have vd3 : (I 16 3).toInt = (B 3 : Int) := by rw [fb3]; exact t32 (by omega)
  have vt3 : (I 17 3).toInt = (T 3 : Int) := by rw [ft3]; exact t32 (by omega)
  have e0 := pk_head (g := I 9 14) (k := I 9 15) (s := I 18 0) (t := I 18 1) (by omega) (by omega) (by omega) (by omega)
  generalize hv0 : ((((((((I 9 14)).toInt64 * 16) + ((I 9 15)).toInt64) * 8) + ((I 18 0)).toInt64) * 8) + ((I 18 1)).toInt64) = x0 at e0
  have pl0 := pk_live vl0 (by omega)
  have e1 := pk_num (v := x0) (b := cond (Op.ifCond.holds .eq (I 14 0)) 0 128) (o := I 15 0) (d := I 16 0) (k := I 17 0) (by omega) (by omega) (by omega) (by omega) (by omega)
  generalize hv1 : (((((x0 * 256) + (cond (Op.ifCond.holds .eq (I 14 0)) 0 128)) + (((I 15 0)).toInt64 * 32)) + (((I 16 0)).toInt64 * 16)) + ((I 17 0)).toInt64) = x1 at e1
  have pl1 := pk_live vl1 (by omega)
  have e2 := pk_num (v := x1) (b := cond (Op.ifCond.holds .eq (I 14 1)) 0 128) (o := I 15 1) (d := I 16 1) (k := I 17 1) (by omega) (by omega) (by omega) (by omega) (by omega)
  generalize hv2 : (((((x1 * 256) + (cond (Op.ifCond.holds .eq (I 14 1)) 0 128)) + (((I 15 1)).toInt64 * 32)) + (((I 16 1)).toInt64 * 16)) + ((I 17 1)).toInt64) = x2 at e2
  have pl2 := pk_live vl2 (by omega)
  have e3 := pk_num (v := x2) (b := cond (Op.ifCond.holds .eq (I 14 2)) 0 128) (o := I 15 2) (d := I 16 2) (k := I 17 2) (by omega) (by omega) (by omega) (by omega) (by omega)
  generalize hv3 : (((((x2 * 256) + (cond (Op.ifCond.holds .eq (I 14 2)) 0 128)) + (((I 15 2)).toInt64 * 32)) + (((I 16 2)).toInt64 * 16)) + ((I 17 2)).toInt64) = x3 at e3
  have pl3 := pk_live vl3 (by omega)
  have e4 := pk_num (v := x3) (b := cond (Op.ifCond.holds .eq (I 14 3)) 0 128) (o := I 15 3) (d := I 16 3) (k := I 17 3) (by omega) (by omega) (by omega) (by omega) (by omega)
  generalize hv4 : (((((x3 * 256) + (cond (Op.ifCond.holds .eq (I 14 3)) 0 128)) + (((I 15 3)).toInt64 * 32)) + (((I 16 3)).toInt64 * 16)) + ((I 17 3)).toInt64) = x4 at e4
  refine ⟨x4, ?_, ?_⟩
  · obtain ⟨a', sh, es⟩ := shS_V ex
    rw [es, ← QS_V]
    refine pk_0 ?_
    rw [hv0]
    refine pkt_0 ?_
    rw [hv1]
    refine pkt_1 ?_
    rw [hv2]
    refine pkt_2 ?_
    rw [hv3]
    refine pkt_3 ?_
    rw [hv4]
    exact pk_end
  · unfold pci
    omega
set_option maxHeartbeats 2000000 in
theorem up_ok (ex : List (Nat × Nat)) {I : Nat → Nat → Int32} (J : Nat → Nat → Int64) {g k a b : Nat} {L F B T : Nat → Nat} {v3 : Int64} (hp : v3.toInt = pci g k a b L F B T) (hr : RG g k a b L F B T) : ∃ I' : Nat → Nat → Int32, mxRn 95 0 [(0, .ref 9), (1, .long v3)] [] (shS ex, I, J, QS) (none, (shS ex, I', J, QS)) ∧ FrM I I' ∧ FI I' g k a b L F B T := by
  obtain ⟨⟨rg, rk, ra, rb⟩, rt⟩ := hr
  unfold pci at hp
  obtain ⟨rl0, rf0, rb0, rt0⟩ := rt 0 (by decide)
  obtain ⟨rl1, rf1, rb1, rt1⟩ := rt 1 (by decide)
  obtain ⟨rl2, rf2, rb2, rt2⟩ := rt 2 (by decide)
  obtain ⟨rl3, rf3, rb3, rt3⟩ := rt 3 (by decide)
  have n3 := up_num (x := v3) (b := 256) (B := 256) (A := ((((((g : Int) * 16 + (k : Int)) * 8 + (a : Int)) * 8 + (b : Int)) * 256 + ((L 0 : Int) * 128 + (F 0 : Int) * 32 + (B 0 : Int) * 16 + (T 0 : Int))) * 256 + ((L 1 : Int) * 128 + (F 1 : Int) * 32 + (B 1 : Int) * 16 + (T 1 : Int))) * 256 + ((L 2 : Int) * 128 + (F 2 : Int) * 32 + (B 2 : Int) * 16 + (T 2 : Int))) (D := ((L 3 : Int) * 128 + (F 3 : Int) * 32 + (B 3 : Int) * 16 + (T 3 : Int))) rfl (Or.inl rfl) (by omega) (by omega) (by omega)
  have m3 := up_dig (l := (L 3 : Int)) (f := (F 3 : Int)) (d := (B 3 : Int)) (t := (T 3 : Int)) n3.2 (by omega) (by omega) (by omega) (by omega)
  have hv2 := n3.1
  generalize hw2 : v3 / 256 = v2 at hv2 n3 m3
  have n2 := up_num (x := v2) (b := 256) (B := 256) (A := (((((g : Int) * 16 + (k : Int)) * 8 + (a : Int)) * 8 + (b : Int)) * 256 + ((L 0 : Int) * 128 + (F 0 : Int) * 32 + (B 0 : Int) * 16 + (T 0 : Int))) * 256 + ((L 1 : Int) * 128 + (F 1 : Int) * 32 + (B 1 : Int) * 16 + (T 1 : Int))) (D := ((L 2 : Int) * 128 + (F 2 : Int) * 32 + (B 2 : Int) * 16 + (T 2 : Int))) rfl (Or.inl rfl) (by omega) (by omega) (by omega)
  have m2 := up_dig (l := (L 2 : Int)) (f := (F 2 : Int)) (d := (B 2 : Int)) (t := (T 2 : Int)) n2.2 (by omega) (by omega) (by omega) (by omega)
  have hv1 := n2.1
  generalize hw1 : v2 / 256 = v1 at hv1 n2 m2
  have n1 := up_num (x := v1) (b := 256) (B := 256) (A := ((((g : Int) * 16 + (k : Int)) * 8 + (a : Int)) * 8 + (b : Int)) * 256 + ((L 0 : Int) * 128 + (F 0 : Int) * 32 + (B 0 : Int) * 16 + (T 0 : Int))) (D := ((L 1 : Int) * 128 + (F 1 : Int) * 32 + (B 1 : Int) * 16 + (T 1 : Int))) rfl (Or.inl rfl) (by omega) (by omega) (by omega)
  have m1 := up_dig (l := (L 1 : Int)) (f := (F 1 : Int)) (d := (B 1 : Int)) (t := (T 1 : Int)) n1.2 (by omega) (by omega) (by omega) (by omega)
  have hv0 := n1.1
  generalize hw0 : v1 / 256 = v0 at hv0 n1 m1
  have n0 := up_num (x := v0) (b := 256) (B := 256) (A := (((g : Int) * 16 + (k : Int)) * 8 + (a : Int)) * 8 + (b : Int)) (D := ((L 0 : Int) * 128 + (F 0 : Int) * 32 + (B 0 : Int) * 16 + (T 0 : Int))) rfl (Or.inl rfl) (by omega) (by omega) (by omega)
  have m0 := up_dig (l := (L 0 : Int)) (f := (F 0 : Int)) (d := (B 0 : Int)) (t := (T 0 : Int)) n0.2 (by omega) (by omega) (by omega) (by omega)
  have hvh := n0.1
  generalize hwh : v0 / 256 = vh at hvh n0 m0
  have y1 := up_num (x := vh) (b := 8) (B := 8) (A := ((g : Int) * 16 + (k : Int)) * 8 + (a : Int)) (D := (b : Int)) rfl (Or.inr (Or.inl rfl)) (by omega) (by omega) (by omega)
  have y2 := up_num (x := vh / 8) (b := 8) (B := 8) (A := (g : Int) * 16 + (k : Int)) (D := (a : Int)) rfl (Or.inr (Or.inl rfl)) (by omega) (by omega) (by omega)
  have y3 := up_num (x := vh / 8 / 8) (b := 16) (B := 16) (A := (g : Int)) (D := (k : Int)) rfl (Or.inr (Or.inr rfl)) (by omega) (by omega) (by omega)
  have y4 : ((vh / 8 / 8) / 16).toInt32.toInt = (g : Int) := by
    rw [Int64.toInt_toInt32, y3.1]
    exact Int.bmod_eq_of_le (by omega) (by omega)
  generalize ha0 : vp_nar .boolean (cond (Op.if_icmp.holds .lt ((v0 - vh * 256).toInt32) 128) 0 1) = A0
  generalize ha1 : vp_nar .boolean (cond (Op.if_icmp.holds .lt ((v1 - v0 * 256).toInt32) 128) 0 1) = A1
  generalize ha2 : vp_nar .boolean (cond (Op.if_icmp.holds .lt ((v2 - v1 * 256).toInt32) 128) 0 1) = A2
  generalize ha3 : vp_nar .boolean (cond (Op.if_icmp.holds .lt ((v3 - v2 * 256).toInt32) 128) 0 1) = A3
  have hA : ∀ {x : Int32} {l : Int} {A : Int32}, Op.if_icmp.holds .lt x 128 = decide (l = 0) → (0 ≤ l ∧ l ≤ 1) → vp_nar .boolean (cond (Op.if_icmp.holds .lt x 128) 0 1) = A → A.toInt = l := by
    intro x l A h1 h2 h3
    rw [← h3, h1]
    rcases (show l = 0 ∨ l = 1 by omega) with e | e <;> rw [e] <;> rfl
  have z0 := hA m0.1 (by omega) ha0
  have z1 := hA m1.1 (by omega) ha1
  have z2 := hA m2.1 (by omega) ha2
  have z3 := hA m3.1 (by omega) ha3
  refine ⟨(mxI (mxI (mxI (mxI (mxI (mxI (mxI (mxI (mxI (mxI (mxI (mxI (mxI (mxI (mxI (mxI (mxI (mxI (mxI (mxI I 14 3 A3) 15 3 ((v3 - v2 * 256).toInt32 / 32 - (v3 - v2 * 256).toInt32 / 32 / 4 * 4)) 16 3 ((v3 - v2 * 256).toInt32 / 16 - (v3 - v2 * 256).toInt32 / 16 / 2 * 2)) 17 3 ((v3 - v2 * 256).toInt32 - (v3 - v2 * 256).toInt32 / 16 * 16)) 14 2 A2) 15 2 ((v2 - v1 * 256).toInt32 / 32 - (v2 - v1 * 256).toInt32 / 32 / 4 * 4)) 16 2 ((v2 - v1 * 256).toInt32 / 16 - (v2 - v1 * 256).toInt32 / 16 / 2 * 2)) 17 2 ((v2 - v1 * 256).toInt32 - (v2 - v1 * 256).toInt32 / 16 * 16)) 14 1 A1) 15 1 ((v1 - v0 * 256).toInt32 / 32 - (v1 - v0 * 256).toInt32 / 32 / 4 * 4)) 16 1 ((v1 - v0 * 256).toInt32 / 16 - (v1 - v0 * 256).toInt32 / 16 / 2 * 2)) 17 1 ((v1 - v0 * 256).toInt32 - (v1 - v0 * 256).toInt32 / 16 * 16)) 14 0 A0) 15 0 ((v0 - vh * 256).toInt32 / 32 - (v0 - vh * 256).toInt32 / 32 / 4 * 4)) 16 0 ((v0 - vh * 256).toInt32 / 16 - (v0 - vh * 256).toInt32 / 16 / 2 * 2)) 17 0 ((v0 - vh * 256).toInt32 - (v0 - vh * 256).toInt32 / 16 * 16)) 18 1 (vh - vh / 8 * 8).toInt32) 18 0 (vh / 8 - vh / 8 / 8 * 8).toInt32) 9 15 (vh / 8 / 8 - vh / 8 / 8 / 16 * 16).toInt32) 9 14 (vh / 8 / 8 / 16).toInt32), ?_, (FrM.u9 (FrM.u9 (FrM.up (FrM.up (FrM.up (FrM.up (FrM.up (FrM.up (FrM.up (FrM.up (FrM.up (FrM.up (FrM.up (FrM.up (FrM.up (FrM.up (FrM.up (FrM.up (FrM.up (FrM.up FrM.rf (by decide)) (by decide)) (by decide)) (by decide)) (by decide)) (by decide)) (by decide)) (by decide)) (by decide)) (by decide)) (by decide)) (by decide)) (by decide)) (by decide)) (by decide)) (by decide)) (by decide)) (by decide)) (by decide)) (by decide)), ?_⟩
  · obtain ⟨a', sh, es⟩ := shS_V ex
    rw [es, ← QS_V]
    refine up_0 ?_
    refine upt_3 ?_
    rw [hw2, ha3]
    refine upt_2 ?_
    rw [hw1, ha2]
    refine upt_1 ?_
    rw [hw0, ha1]
    refine upt_0 ?_
    rw [hwh, ha0]
    refine up_e1 (up_e2 (up_e3 ?_))
    exact up_e4
  · refine ⟨⟨?_, ?_, ?_, ?_⟩, fun t ht => ?_⟩
    · exact of_t y4 (by omega)
    · exact of_t y3.2 (by omega)
    · exact of_t y2.2 (by omega)
    · exact of_t y1.2 (by omega)
    · match t, ht with
      | 0, _ => exact ⟨of_t z0 (by omega), of_t m0.2.1 (by omega), of_t m0.2.2.1 (by omega), of_t m0.2.2.2 (by omega)⟩
      | 1, _ => exact ⟨of_t z1 (by omega), of_t m1.2.1 (by omega), of_t m1.2.2.1 (by omega), of_t m1.2.2.2 (by omega)⟩
      | 2, _ => exact ⟨of_t z2 (by omega), of_t m2.2.1 (by omega), of_t m2.2.2.1 (by omega), of_t m2.2.2.2 (by omega)⟩
      | 3, _ => exact ⟨of_t z3 (by omega), of_t m3.2.1 (by omega), of_t m3.2.2.1 (by omega), of_t m3.2.2.2 (by omega)⟩
