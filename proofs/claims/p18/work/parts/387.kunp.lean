def k_unpacks : sxK := ([(0, 0, 0, 0), (0, 9223372036854775807, 1, 0), ((-2147483648), 2147483647, 0, 0), (0, 200, 0, 0), (0, 200, 0, 0), (0, 200, 0, 0), (0, 803, 0, 0), (0, 4, 0, 0), (0, 15, 0, 0), ((-2147483648), 2147483647, 0, 0), (0, 9223372036854775807, 1, 0), (0, 127, 0, 0), ((-2147483648), 2147483647, 0, 0), (0, 1, 0, 0), (0, 6, 0, 0), (0, 20001, 0, 0), ((-2147483648), 2147483647, 0, 0), (0, 1, 0, 0), (0, 10, 0, 0), ((-2147483648), 2147483647, 0, 0), ((-2147483648), 2147483647, 0, 0), (0, 1, 0, 0), (0, 1, 0, 0), (0, 1, 0, 0), (0, 1, 0, 0), (0, 3, 0, 0), (0, 3, 0, 0), (0, 3, 0, 0), (0, 3, 0, 0), (0, 1, 0, 0), (0, 1, 0, 0), (0, 1, 0, 0), (0, 1, 0, 0), (0, 9, 0, 21), (0, 9, 0, 22), (0, 9, 0, 23), (0, 9, 0, 24), (0, 4, 0, 0), (0, 4, 0, 0)], [(2, 9, 0), (1, 1, 0)], [(9, (8, 37, 0, 0, 0, some [(0, 2, 0), (2, 10, 0), (0, 3, 0), (0, 4, 0), (0, 5, 0), (0, 6, 0), (2, 11, 0), (2, 12, 0), (2, 13, 0), (2, 14, 0), (2, 15, 0), (2, 16, 0), (2, 17, 0), (2, 18, 0), (0, 7, 0), (0, 8, 0), (0, 9, 0), (1, 10, 0), (0, 11, 0), (0, 12, 0), (0, 13, 0), (0, 14, 0), (2, 19, 0), (2, 20, 0), (2, 21, 0), (2, 22, 0), (2, 23, 0), (2, 24, 0), (0, 15, 0), (0, 16, 0), (2, 25, 0), (0, 17, 0), (0, 18, 0), (0, 19, 0), (0, 20, 0), (2, 26, 0), (2, 27, 0)])), (14, (3, 4, 0, 0, 0, some [(0, 21, 0), (0, 22, 0), (0, 23, 0), (0, 24, 0)])), (15, (0, 4, 0, 0, 0, some [(0, 25, 0), (0, 26, 0), (0, 27, 0), (0, 28, 0)])), (16, (0, 4, 0, 0, 0, some [(0, 29, 0), (0, 30, 0), (0, 31, 0), (0, 32, 0)])), (17, (0, 4, 0, 0, 0, some [(0, 33, 0), (0, 34, 0), (0, 35, 0), (0, 36, 0)])), (18, (0, 2, 0, 0, 0, some [(0, 37, 0), (0, 38, 0)]))], [([(0, 0, 0, 0), (0, 9223372036854775807, 1, 0), ((-2147483648), 2147483647, 0, 0), (0, 200, 0, 0), (0, 200, 0, 0), (0, 200, 0, 0), (0, 803, 0, 0), (0, 4, 0, 0), (0, 15, 0, 0), ((-2147483648), 2147483647, 0, 0), (0, 9223372036854775807, 1, 0), (0, 127, 0, 0), ((-2147483648), 2147483647, 0, 0), (0, 1, 0, 0), (0, 6, 0, 0), (0, 20001, 0, 0), ((-2147483648), 2147483647, 0, 0), (0, 1, 0, 0), (0, 10, 0, 0), ((-2147483648), 2147483647, 0, 0), ((-2147483648), 2147483647, 0, 0), (0, 1, 0, 0), (0, 1, 0, 0), (0, 1, 0, 0), (0, 1, 0, 0), (0, 3, 0, 0), (0, 3, 0, 0), (0, 3, 0, 0), (0, 3, 0, 0), (0, 1, 0, 0), (0, 1, 0, 0), (0, 1, 0, 0), (0, 1, 0, 0), (0, 9, 0, 21), (0, 9, 0, 22), (0, 9, 0, 23), (0, 9, 0, 24), (0, 4, 0, 0), (0, 4, 0, 0), (0, 4, 0, 0), (0, 15, 0, 0), (0, 1, 0, 0), (0, 1, 0, 0), (0, 1, 0, 0), (0, 1, 0, 0), (0, 3, 0, 0), (0, 3, 0, 0), (0, 3, 0, 0), (0, 3, 0, 0), (0, 1, 0, 0), (0, 1, 0, 0), (0, 1, 0, 0), (0, 1, 0, 0), (0, 9, 0, 41), (0, 9, 0, 42), (0, 9, 0, 43), (0, 9, 0, 44), (0, 4, 0, 0), (0, 4, 0, 0)], none, [(9, (8, 37, 0, 0, 0, some [(0, 2, 0), (2, 10, 0), (0, 3, 0), (0, 4, 0), (0, 5, 0), (0, 6, 0), (2, 11, 0), (2, 12, 0), (2, 13, 0), (2, 14, 0), (2, 15, 0), (2, 16, 0), (2, 17, 0), (2, 18, 0), (0, 39, 0), (0, 40, 0), (0, 9, 0), (1, 10, 0), (0, 11, 0), (0, 12, 0), (0, 13, 0), (0, 14, 0), (2, 19, 0), (2, 20, 0), (2, 21, 0), (2, 22, 0), (2, 23, 0), (2, 24, 0), (0, 15, 0), (0, 16, 0), (2, 25, 0), (0, 17, 0), (0, 18, 0), (0, 19, 0), (0, 20, 0), (2, 26, 0), (2, 27, 0)])), (14, (3, 4, 0, 0, 0, some [(0, 41, 0), (0, 42, 0), (0, 43, 0), (0, 44, 0)])), (15, (0, 4, 0, 0, 0, some [(0, 45, 0), (0, 46, 0), (0, 47, 0), (0, 48, 0)])), (16, (0, 4, 0, 0, 0, some [(0, 49, 0), (0, 50, 0), (0, 51, 0), (0, 52, 0)])), (17, (0, 4, 0, 0, 0, some [(0, 53, 0), (0, 54, 0), (0, 55, 0), (0, 56, 0)])), (18, (0, 2, 0, 0, 0, some [(0, 57, 0), (0, 58, 0)]))])])
theorem upt_3 {a : Nat → Nat × Nat} {sh : List (Nat × Nat)} {J : Nat → Nat → Int64} {Q : Nat → Nat → Value} {res : mxR} {I : Nat → Nat → Int32} {p v : Int64} (H : mxRn 95 5 [(0, .ref 9), (1, .long p), (3, .long (v / 256)), (5, .int 2), (6, .int ((v - v / 256 * 256)).toInt32)] [] (shV a sh, (mxI (mxI (mxI (mxI I 14 3 (vp_nar .boolean (cond (Op.if_icmp.holds .lt ((v - v / 256 * 256).toInt32) (128)) 0 1))) 15 3 (((((v - v / 256 * 256)).toInt32 / 32) - (((v - v / 256 * 256)).toInt32 / 32) / 4 * 4))) 16 3 (((((v - v / 256 * 256)).toInt32 / 16) - (((v - v / 256 * 256)).toInt32 / 16) / 2 * 2))) 17 3 ((((v - v / 256 * 256)).toInt32 - ((v - v / 256 * 256)).toInt32 / 16 * 16))), J, QV Q) res) : mxRn 95 5 [(0, .ref 9), (1, .long p), (3, .long v), (5, .int 3)] [] (shV a sh, I, J, QV Q) res := by
  cases hb : Op.if_icmp.holds .lt ((v - v / 256 * 256).toInt32) (128) with
  | true => rw [hb] at H; exact up_3_0 hb H
  | false => rw [hb] at H; exact up_3_1 hb H
theorem upt_2 {a : Nat → Nat × Nat} {sh : List (Nat × Nat)} {J : Nat → Nat → Int64} {Q : Nat → Nat → Value} {res : mxR} {I : Nat → Nat → Int32} {p v : Int64} {k0 : Int32} (H : mxRn 95 5 [(0, .ref 9), (1, .long p), (3, .long (v / 256)), (5, .int 1), (6, .int ((v - v / 256 * 256)).toInt32)] [] (shV a sh, (mxI (mxI (mxI (mxI I 14 2 (vp_nar .boolean (cond (Op.if_icmp.holds .lt ((v - v / 256 * 256).toInt32) (128)) 0 1))) 15 2 (((((v - v / 256 * 256)).toInt32 / 32) - (((v - v / 256 * 256)).toInt32 / 32) / 4 * 4))) 16 2 (((((v - v / 256 * 256)).toInt32 / 16) - (((v - v / 256 * 256)).toInt32 / 16) / 2 * 2))) 17 2 ((((v - v / 256 * 256)).toInt32 - ((v - v / 256 * 256)).toInt32 / 16 * 16))), J, QV Q) res) : mxRn 95 5 [(0, .ref 9), (1, .long p), (3, .long v), (5, .int 2), (6, .int k0)] [] (shV a sh, I, J, QV Q) res := by
  cases hb : Op.if_icmp.holds .lt ((v - v / 256 * 256).toInt32) (128) with
  | true => rw [hb] at H; exact up_2_0 hb H
  | false => rw [hb] at H; exact up_2_1 hb H
theorem upt_1 {a : Nat → Nat × Nat} {sh : List (Nat × Nat)} {J : Nat → Nat → Int64} {Q : Nat → Nat → Value} {res : mxR} {I : Nat → Nat → Int32} {p v : Int64} {k0 : Int32} (H : mxRn 95 5 [(0, .ref 9), (1, .long p), (3, .long (v / 256)), (5, .int 0), (6, .int ((v - v / 256 * 256)).toInt32)] [] (shV a sh, (mxI (mxI (mxI (mxI I 14 1 (vp_nar .boolean (cond (Op.if_icmp.holds .lt ((v - v / 256 * 256).toInt32) (128)) 0 1))) 15 1 (((((v - v / 256 * 256)).toInt32 / 32) - (((v - v / 256 * 256)).toInt32 / 32) / 4 * 4))) 16 1 (((((v - v / 256 * 256)).toInt32 / 16) - (((v - v / 256 * 256)).toInt32 / 16) / 2 * 2))) 17 1 ((((v - v / 256 * 256)).toInt32 - ((v - v / 256 * 256)).toInt32 / 16 * 16))), J, QV Q) res) : mxRn 95 5 [(0, .ref 9), (1, .long p), (3, .long v), (5, .int 1), (6, .int k0)] [] (shV a sh, I, J, QV Q) res := by
  cases hb : Op.if_icmp.holds .lt ((v - v / 256 * 256).toInt32) (128) with
  | true => rw [hb] at H; exact up_1_0 hb H
  | false => rw [hb] at H; exact up_1_1 hb H
theorem upt_0 {a : Nat → Nat × Nat} {sh : List (Nat × Nat)} {J : Nat → Nat → Int64} {Q : Nat → Nat → Value} {res : mxR} {I : Nat → Nat → Int32} {p v : Int64} {k0 : Int32} (H : mxRn 95 5 [(0, .ref 9), (1, .long p), (3, .long (v / 256)), (5, .int (-1)), (6, .int ((v - v / 256 * 256)).toInt32)] [] (shV a sh, (mxI (mxI (mxI (mxI I 14 0 (vp_nar .boolean (cond (Op.if_icmp.holds .lt ((v - v / 256 * 256).toInt32) (128)) 0 1))) 15 0 (((((v - v / 256 * 256)).toInt32 / 32) - (((v - v / 256 * 256)).toInt32 / 32) / 4 * 4))) 16 0 (((((v - v / 256 * 256)).toInt32 / 16) - (((v - v / 256 * 256)).toInt32 / 16) / 2 * 2))) 17 0 ((((v - v / 256 * 256)).toInt32 - ((v - v / 256 * 256)).toInt32 / 16 * 16))), J, QV Q) res) : mxRn 95 5 [(0, .ref 9), (1, .long p), (3, .long v), (5, .int 0), (6, .int k0)] [] (shV a sh, I, J, QV Q) res := by
  cases hb : Op.if_icmp.holds .lt ((v - v / 256 * 256).toInt32) (128) with
  | true => rw [hb] at H; exact up_0_0 hb H
  | false => rw [hb] at H; exact up_0_1 hb H
set_option maxHeartbeats 1000000 in
theorem c_unpacks : sx_C 95 k_unpacks := by
  intro W0 S ρ w hγ
  obtain ⟨shw, I, J, Q⟩ := w
  obtain ⟨g1, g2, g3, g4, g5⟩ := hγ
  have hm9 := g4 _ (List.mem_of_getElem? (i := 0) rfl)
  have hc9 := hm9.1
  dsimp only at hc9
  rw [sx_ad_lt (show 9 < 1000 by decide)] at hc9
  have hS9 : S 9 := by
    have q := hm9.2.1 (by decide)
    dsimp only at q
    rw [sx_ad_lt (show 9 < 1000 by decide)] at q
    exact q
  have hm14 := g4 _ (List.mem_of_getElem? (i := 1) rfl)
  have hc14 := hm14.1
  dsimp only at hc14
  rw [sx_ad_lt (show 14 < 1000 by decide)] at hc14
  have hS14 : S 14 := by
    have q := hm14.2.1 (by decide)
    dsimp only at q
    rw [sx_ad_lt (show 14 < 1000 by decide)] at q
    exact q
  have hm15 := g4 _ (List.mem_of_getElem? (i := 2) rfl)
  have hc15 := hm15.1
  dsimp only at hc15
  rw [sx_ad_lt (show 15 < 1000 by decide)] at hc15
  have hS15 : S 15 := by
    have q := hm15.2.1 (by decide)
    dsimp only at q
    rw [sx_ad_lt (show 15 < 1000 by decide)] at q
    exact q
  have hm16 := g4 _ (List.mem_of_getElem? (i := 3) rfl)
  have hc16 := hm16.1
  dsimp only at hc16
  rw [sx_ad_lt (show 16 < 1000 by decide)] at hc16
  have hS16 : S 16 := by
    have q := hm16.2.1 (by decide)
    dsimp only at q
    rw [sx_ad_lt (show 16 < 1000 by decide)] at q
    exact q
  have hm17 := g4 _ (List.mem_of_getElem? (i := 4) rfl)
  have hc17 := hm17.1
  dsimp only at hc17
  rw [sx_ad_lt (show 17 < 1000 by decide)] at hc17
  have hS17 : S 17 := by
    have q := hm17.2.1 (by decide)
    dsimp only at q
    rw [sx_ad_lt (show 17 < 1000 by decide)] at q
    exact q
  have hm18 := g4 _ (List.mem_of_getElem? (i := 5) rfl)
  have hc18 := hm18.1
  dsimp only at hc18
  rw [sx_ad_lt (show 18 < 1000 by decide)] at hc18
  have hS18 : S 18 := by
    have q := hm18.2.1 (by decide)
    dsimp only at q
    rw [sx_ad_lt (show 18 < 1000 by decide)] at q
    exact q
  have hs9 : shw[9]? = some (8, 37) := hc9.1
  have hs14 : shw[14]? = some (3, 4) := hc14.1
  have hs15 : shw[15]? = some (0, 4) := hc15.1
  have hs16 : shw[16]? = some (0, 4) := hc16.1
  have hs17 : shw[17]? = some (0, 4) := hc17.1
  have hs18 : shw[18]? = some (0, 2) := hc18.1
  obtain ⟨a, sh, rfl⟩ := shV_ex shw hs9 hs14 hs15 hs16 hs17 hs18
  have hq9 : Q 9 9 = .ref 14 := (hc9.2 9 (2, 14, 0) rfl).2.trans (congrArg Value.ref (sx_ad_lt (show 14 < 1000 by decide)))
  have hq10 : Q 9 10 = .ref 15 := (hc9.2 10 (2, 15, 0) rfl).2.trans (congrArg Value.ref (sx_ad_lt (show 15 < 1000 by decide)))
  have hq11 : Q 9 11 = .ref 16 := (hc9.2 11 (2, 16, 0) rfl).2.trans (congrArg Value.ref (sx_ad_lt (show 16 < 1000 by decide)))
  have hq12 : Q 9 12 = .ref 17 := (hc9.2 12 (2, 17, 0) rfl).2.trans (congrArg Value.ref (sx_ad_lt (show 17 < 1000 by decide)))
  have hq13 : Q 9 13 = .ref 18 := (hc9.2 13 (2, 18, 0) rfl).2.trans (congrArg Value.ref (sx_ad_lt (show 18 < 1000 by decide)))
  have hQ : QV Q = Q := QV_eq hq9 hq10 hq11 hq12 hq13
  have bp := g1.2.2 1 _ rfl
  obtain ⟨g, kn, s0, s1, lv, fo, bd, tk, hg, hkn, hs0, hs1, hd, hp⟩ := bp.2.2.1 rfl
  have hpb : (0 : Int) ≤ ρ 1 ∧ ρ 1 ≤ 9223372036854775807 := ⟨bp.1, bp.2.1⟩
  have hv3 : (Int64.ofInt (ρ 1 + 0)).toInt = ρ 1 := by rw [Int.add_zero]; exact Int64.toInt_ofInt_of_le (by omega) (by omega)
  generalize hvv : Int64.ofInt (ρ 1 + 0) = v3 at hv3
  obtain ⟨l0, f0, d0, t0, x0⟩ := hd 0 (by decide)
  obtain ⟨l1, f1, d1, t1, x1⟩ := hd 1 (by decide)
  obtain ⟨l2, f2, d2, t2, x2⟩ := hd 2 (by decide)
  obtain ⟨l3, f3, d3, t3, x3⟩ := hd 3 (by decide)
  have n3 := up_num (x := v3) (b := 256) (B := 256) (A := (((((g * 16 + kn) * 8 + s0) * 8 + s1) * 256 + (lv 0 * 128 + fo 0 * 32 + bd 0 * 16 + tk 0)) * 256 + (lv 1 * 128 + fo 1 * 32 + bd 1 * 16 + tk 1)) * 256 + (lv 2 * 128 + fo 2 * 32 + bd 2 * 16 + tk 2)) (D := (lv 3 * 128 + fo 3 * 32 + bd 3 * 16 + tk 3)) rfl (Or.inl rfl) (by omega) (by omega) (by omega)
  have m3 := up_dig n3.2 l3 f3 d3 (by omega)
  have hv2 := n3.1
  generalize hw2 : v3 / 256 = v2 at hv2 n3 m3
  have n2 := up_num (x := v2) (b := 256) (B := 256) (A := ((((g * 16 + kn) * 8 + s0) * 8 + s1) * 256 + (lv 0 * 128 + fo 0 * 32 + bd 0 * 16 + tk 0)) * 256 + (lv 1 * 128 + fo 1 * 32 + bd 1 * 16 + tk 1)) (D := (lv 2 * 128 + fo 2 * 32 + bd 2 * 16 + tk 2)) rfl (Or.inl rfl) (by omega) (by omega) (by omega)
  have m2 := up_dig n2.2 l2 f2 d2 (by omega)
  have hv1 := n2.1
  generalize hw1 : v2 / 256 = v1 at hv1 n2 m2
  have n1 := up_num (x := v1) (b := 256) (B := 256) (A := (((g * 16 + kn) * 8 + s0) * 8 + s1) * 256 + (lv 0 * 128 + fo 0 * 32 + bd 0 * 16 + tk 0)) (D := (lv 1 * 128 + fo 1 * 32 + bd 1 * 16 + tk 1)) rfl (Or.inl rfl) (by omega) (by omega) (by omega)
  have m1 := up_dig n1.2 l1 f1 d1 (by omega)
  have hv0 := n1.1
  generalize hw0 : v1 / 256 = v0 at hv0 n1 m1
  have n0 := up_num (x := v0) (b := 256) (B := 256) (A := ((g * 16 + kn) * 8 + s0) * 8 + s1) (D := (lv 0 * 128 + fo 0 * 32 + bd 0 * 16 + tk 0)) rfl (Or.inl rfl) (by omega) (by omega) (by omega)
  have m0 := up_dig n0.2 l0 f0 d0 (by omega)
  have hvh := n0.1
  generalize hwh : v0 / 256 = vh at hvh n0 m0
  have y1 := up_num (x := vh) (b := 8) (B := 8) (A := (g * 16 + kn) * 8 + s0) (D := s1) rfl (Or.inr (Or.inl rfl)) (by omega) (by omega) (by omega)
  have y2 := up_num (x := vh / 8) (b := 8) (B := 8) (A := g * 16 + kn) (D := s0) rfl (Or.inr (Or.inl rfl)) (by omega) (by omega) (by omega)
  have y3 := up_num (x := vh / 8 / 8) (b := 16) (B := 16) (A := g) (D := kn) rfl (Or.inr (Or.inr rfl)) (by omega) (by omega) (by omega)
  have y4 : ((vh / 8 / 8) / 16).toInt32.toInt = g := by
    rw [Int64.toInt_toInt32, y3.1]
    exact Int.bmod_eq_of_le (by omega) (by omega)
  generalize ha0 : vp_nar .boolean (cond (Op.if_icmp.holds .lt ((v0 - vh * 256).toInt32) 128) 0 1) = A0
  generalize ha1 : vp_nar .boolean (cond (Op.if_icmp.holds .lt ((v1 - v0 * 256).toInt32) 128) 0 1) = A1
  generalize ha2 : vp_nar .boolean (cond (Op.if_icmp.holds .lt ((v2 - v1 * 256).toInt32) 128) 0 1) = A2
  generalize ha3 : vp_nar .boolean (cond (Op.if_icmp.holds .lt ((v3 - v2 * 256).toInt32) 128) 0 1) = A3
  have hA : ∀ {x : Int32} {l : Int} {A : Int32}, Op.if_icmp.holds .lt x 128 = decide (l = 0) → (0 ≤ l ∧ l ≤ 1) → vp_nar .boolean (cond (Op.if_icmp.holds .lt x 128) 0 1) = A → A.toInt = l := by
    intro x l A h1 h2 h3
    rw [← h3, h1]
    rcases (show l = 0 ∨ l = 1 by omega) with e | e <;> rw [e] <;> rfl
  have z0 := hA m0.1 l0 ha0
  have z1 := hA m1.1 l1 ha1
  have z2 := hA m2.1 l2 ha2
  have z3 := hA m3.1 l3 ha3
  have hrun : mxRn 95 0 [(0, .ref 9), (1, .long v3)] [] (shV a sh, I, J, Q) (none, (shV a sh, (mxI (mxI (mxI (mxI (mxI (mxI (mxI (mxI (mxI (mxI (mxI (mxI (mxI (mxI (mxI (mxI (mxI (mxI (mxI (mxI I 14 3 A3) 15 3 ((v3 - v2 * 256).toInt32 / 32 - (v3 - v2 * 256).toInt32 / 32 / 4 * 4)) 16 3 ((v3 - v2 * 256).toInt32 / 16 - (v3 - v2 * 256).toInt32 / 16 / 2 * 2)) 17 3 ((v3 - v2 * 256).toInt32 - (v3 - v2 * 256).toInt32 / 16 * 16)) 14 2 A2) 15 2 ((v2 - v1 * 256).toInt32 / 32 - (v2 - v1 * 256).toInt32 / 32 / 4 * 4)) 16 2 ((v2 - v1 * 256).toInt32 / 16 - (v2 - v1 * 256).toInt32 / 16 / 2 * 2)) 17 2 ((v2 - v1 * 256).toInt32 - (v2 - v1 * 256).toInt32 / 16 * 16)) 14 1 A1) 15 1 ((v1 - v0 * 256).toInt32 / 32 - (v1 - v0 * 256).toInt32 / 32 / 4 * 4)) 16 1 ((v1 - v0 * 256).toInt32 / 16 - (v1 - v0 * 256).toInt32 / 16 / 2 * 2)) 17 1 ((v1 - v0 * 256).toInt32 - (v1 - v0 * 256).toInt32 / 16 * 16)) 14 0 A0) 15 0 ((v0 - vh * 256).toInt32 / 32 - (v0 - vh * 256).toInt32 / 32 / 4 * 4)) 16 0 ((v0 - vh * 256).toInt32 / 16 - (v0 - vh * 256).toInt32 / 16 / 2 * 2)) 17 0 ((v0 - vh * 256).toInt32 - (v0 - vh * 256).toInt32 / 16 * 16)) 18 1 (vh - vh / 8 * 8).toInt32) 18 0 (vh / 8 - vh / 8 / 8 * 8).toInt32) 9 15 (vh / 8 / 8 - vh / 8 / 8 / 16 * 16).toInt32) 9 14 (vh / 8 / 8 / 16).toInt32), J, Q)) := by
    rw [← hQ]
    refine up_0 ?_
    refine upt_3 ?_
    rw [hw2, ha3]
    refine upt_2 ?_
    rw [hw1, ha2]
    refine upt_1 ?_
    rw [hw0, ha1]
    refine upt_0 ?_
    rw [hwh, ha0]
    refine up_e1 (up_e2 (up_e3 ?_))
    exact up_e4
  refine ⟨_, List.mem_singleton.mpr rfl, fun i => if i < 39 then ρ i else [g, kn, lv 0, lv 1, lv 2, lv 3, fo 0, fo 1, fo 2, fo 3, bd 0, bd 1, bd 2, bd 3, tk 0, tk 1, tk 2, tk 3, s0, s1].getD (i - 39) 0, (shV a sh, (mxI (mxI (mxI (mxI (mxI (mxI (mxI (mxI (mxI (mxI (mxI (mxI (mxI (mxI (mxI (mxI (mxI (mxI (mxI (mxI I 14 3 A3) 15 3 ((v3 - v2 * 256).toInt32 / 32 - (v3 - v2 * 256).toInt32 / 32 / 4 * 4)) 16 3 ((v3 - v2 * 256).toInt32 / 16 - (v3 - v2 * 256).toInt32 / 16 / 2 * 2)) 17 3 ((v3 - v2 * 256).toInt32 - (v3 - v2 * 256).toInt32 / 16 * 16)) 14 2 A2) 15 2 ((v2 - v1 * 256).toInt32 / 32 - (v2 - v1 * 256).toInt32 / 32 / 4 * 4)) 16 2 ((v2 - v1 * 256).toInt32 / 16 - (v2 - v1 * 256).toInt32 / 16 / 2 * 2)) 17 2 ((v2 - v1 * 256).toInt32 - (v2 - v1 * 256).toInt32 / 16 * 16)) 14 1 A1) 15 1 ((v1 - v0 * 256).toInt32 / 32 - (v1 - v0 * 256).toInt32 / 32 / 4 * 4)) 16 1 ((v1 - v0 * 256).toInt32 / 16 - (v1 - v0 * 256).toInt32 / 16 / 2 * 2)) 17 1 ((v1 - v0 * 256).toInt32 - (v1 - v0 * 256).toInt32 / 16 * 16)) 14 0 A0) 15 0 ((v0 - vh * 256).toInt32 / 32 - (v0 - vh * 256).toInt32 / 32 / 4 * 4)) 16 0 ((v0 - vh * 256).toInt32 / 16 - (v0 - vh * 256).toInt32 / 16 / 2 * 2)) 17 0 ((v0 - vh * 256).toInt32 - (v0 - vh * 256).toInt32 / 16 * 16)) 18 1 (vh - vh / 8 * 8).toInt32) 18 0 (vh / 8 - vh / 8 / 8 * 8).toInt32) 9 15 (vh / 8 / 8 - vh / 8 / 8 / 16 * 16).toInt32) 9 14 (vh / 8 / 8 / 16).toInt32), J, Q), fun i hi => if_pos hi, (by decide), ?_, ⟨⟨?_, (by decide), fun i e he => ?_⟩, ⟨rfl, fun q hq => absurd hq List.not_mem_nil⟩, ⟨rfl, fun v hv => absurd hv List.not_mem_nil⟩, fun q hq => ?_, g5⟩, ⟨[], (List.append_nil _).symm⟩, fun x hx => ?_⟩
  · show mxRn 95 0 [(0, .ref (sx_ad W0 9)), (1, .long (Int64.ofInt (ρ 1 + 0)))] [] _ _
    rw [sx_ad_lt (show 9 < 1000 by decide), hvv]
    exact hrun
  · show (if 0 < 39 then ρ 0 else _) = 0
    rw [if_pos (by decide)]
    exact g1.1
  · rcases Nat.lt_or_ge i 39 with hi | hi
    · have he2 : k_unpacks.1[i]? = some e := by
        rw [← he]
        exact (List.getElem?_append_left (l₁ := k_unpacks.1) (show i < k_unpacks.1.length from hi)).symm
      obtain ⟨c1, c2, c3, c4, c5⟩ := g1.2.2 i e he2
      have c4 : e.2.2.2 < 39 := c4
      dsimp only
      rw [if_pos hi, if_pos c4]
      exact ⟨c1, c2, c3, Nat.lt_trans c4 (by decide), c5⟩
    · have hlt : i < 59 := (List.getElem?_eq_some_iff.mp he).1
      rcases (show i = 39 ∨ i = 40 ∨ i = 41 ∨ i = 42 ∨ i = 43 ∨ i = 44 ∨ i = 45 ∨ i = 46 ∨ i = 47 ∨ i = 48 ∨ i = 49 ∨ i = 50 ∨ i = 51 ∨ i = 52 ∨ i = 53 ∨ i = 54 ∨ i = 55 ∨ i = 56 ∨ i = 57 ∨ i = 58 by omega) with rfl | rfl | rfl | rfl | rfl | rfl | rfl | rfl | rfl | rfl | rfl | rfl | rfl | rfl | rfl | rfl | rfl | rfl | rfl | rfl
      · cases he; exact ⟨hg.1, hg.2, fun q => absurd q (by decide), by decide, fun q => absurd rfl q⟩
      · cases he; exact ⟨hkn.1, hkn.2, fun q => absurd q (by decide), by decide, fun q => absurd rfl q⟩
      · cases he; exact ⟨l0.1, l0.2, fun q => absurd q (by decide), by decide, fun q => absurd rfl q⟩
      · cases he; exact ⟨l1.1, l1.2, fun q => absurd q (by decide), by decide, fun q => absurd rfl q⟩
      · cases he; exact ⟨l2.1, l2.2, fun q => absurd q (by decide), by decide, fun q => absurd rfl q⟩
      · cases he; exact ⟨l3.1, l3.2, fun q => absurd q (by decide), by decide, fun q => absurd rfl q⟩
      · cases he; exact ⟨f0.1, f0.2, fun q => absurd q (by decide), by decide, fun q => absurd rfl q⟩
      · cases he; exact ⟨f1.1, f1.2, fun q => absurd q (by decide), by decide, fun q => absurd rfl q⟩
      · cases he; exact ⟨f2.1, f2.2, fun q => absurd q (by decide), by decide, fun q => absurd rfl q⟩
      · cases he; exact ⟨f3.1, f3.2, fun q => absurd q (by decide), by decide, fun q => absurd rfl q⟩
      · cases he; exact ⟨d0.1, d0.2, fun q => absurd q (by decide), by decide, fun q => absurd rfl q⟩
      · cases he; exact ⟨d1.1, d1.2, fun q => absurd q (by decide), by decide, fun q => absurd rfl q⟩
      · cases he; exact ⟨d2.1, d2.2, fun q => absurd q (by decide), by decide, fun q => absurd rfl q⟩
      · cases he; exact ⟨d3.1, d3.2, fun q => absurd q (by decide), by decide, fun q => absurd rfl q⟩
      · cases he; exact ⟨t0.1, t0.2, fun q => absurd q (by decide), by decide, fun _ q => x0 q⟩
      · cases he; exact ⟨t1.1, t1.2, fun q => absurd q (by decide), by decide, fun _ q => x1 q⟩
      · cases he; exact ⟨t2.1, t2.2, fun q => absurd q (by decide), by decide, fun _ q => x2 q⟩
      · cases he; exact ⟨t3.1, t3.2, fun q => absurd q (by decide), by decide, fun _ q => x3 q⟩
      · cases he; exact ⟨hs0.1, hs0.2, fun q => absurd q (by decide), by decide, fun q => absurd rfl q⟩
      · cases he; exact ⟨hs1.1, hs1.2, fun q => absurd q (by decide), by decide, fun q => absurd rfl q⟩
  · have ag : ∀ j, j < 39 → (fun i => if i < 39 then ρ i else [g, kn, lv 0, lv 1, lv 2, lv 3, fo 0, fo 1, fo 2, fo 3, bd 0, bd 1, bd 2, bd 3, tk 0, tk 1, tk 2, tk 3, s0, s1].getD (i - 39) 0) j = ρ j := fun j hj => if_pos hj
    have ofv : ∀ {x : Int32} {r : Int}, x.toInt = r → Value.int x = .int (Int32.ofInt (r + 0)) := fun {x r} h => by rw [← h, Int.add_zero, Int32.ofInt_toInt]
    simp only [List.mem_cons, List.not_mem_nil, or_false] at hq
    rcases hq with rfl | rfl | rfl | rfl | rfl | rfl
    · refine ⟨?_, fun _ => ?_, hm9.2.2⟩
      · dsimp only
        rw [sx_ad_lt (show 9 < 1000 by decide)]
        refine ⟨hc9.1, fun j v hv => ?_⟩
        by_cases h14 : j = 14
        · subst h14; cases hv; exact ⟨fun _ => (by decide), ofv y4⟩
        · by_cases h15 : j = 15
          · subst h15; cases hv; exact ⟨fun _ => (by decide), ofv y3.2⟩
          · have hvo : (match k_unpacks.2.2.1 with | q :: _ => q.2.2.2.2.2.2.getD [] | [] => [])[j]? = some v := by
              rw [← hv]
              have : ∀ (l : List sxv) (x y : sxv), ((l.set 14 x).set 15 y)[j]? = l[j]? := fun l x y => by rw [List.getElem?_set_ne (Ne.symm h15), List.getElem?_set_ne (Ne.symm h14)]
              exact (this _ (0, 39, 0) (0, 40, 0)).symm
            obtain ⟨c1, c2⟩ := hc9.2 j v hvo
            refine ⟨sx_wf_le c1 (show 39 ≤ 59 by decide), ?_⟩
            rw [sx_val_ag c1 ag, ← c2]
            show mxgf _ 9 4 j = mxgf _ 9 4 j
            unfold mxgf
            simp only [mxI, upd, h14, h15, if_true, if_false, (by decide : ¬ (9 : Nat) = 14), (by decide : ¬ (9 : Nat) = 15), (by decide : ¬ (9 : Nat) = 16), (by decide : ¬ (9 : Nat) = 17), (by decide : ¬ (9 : Nat) = 18)]
      · dsimp only
        rw [sx_ad_lt (show 9 < 1000 by decide)]
        exact hS9
    · refine ⟨?_, fun _ => ?_, hm14.2.2⟩
      · dsimp only
        rw [sx_ad_lt (show 14 < 1000 by decide)]
        refine ⟨hc14.1, fun j v hv => ?_⟩
        match j, hv with
        | 0, hv => cases hv; exact ⟨fun _ => (by decide), ofv z0⟩
        | 1, hv => cases hv; exact ⟨fun _ => (by decide), ofv z1⟩
        | 2, hv => cases hv; exact ⟨fun _ => (by decide), ofv z2⟩
        | 3, hv => cases hv; exact ⟨fun _ => (by decide), ofv z3⟩
        | j + 4, hv => cases hv
      · dsimp only
        rw [sx_ad_lt (show 14 < 1000 by decide)]
        exact hS14
    · refine ⟨?_, fun _ => ?_, hm15.2.2⟩
      · dsimp only
        rw [sx_ad_lt (show 15 < 1000 by decide)]
        refine ⟨hc15.1, fun j v hv => ?_⟩
        match j, hv with
        | 0, hv => cases hv; exact ⟨fun _ => (by decide), ofv m0.2.1⟩
        | 1, hv => cases hv; exact ⟨fun _ => (by decide), ofv m1.2.1⟩
        | 2, hv => cases hv; exact ⟨fun _ => (by decide), ofv m2.2.1⟩
        | 3, hv => cases hv; exact ⟨fun _ => (by decide), ofv m3.2.1⟩
        | j + 4, hv => cases hv
      · dsimp only
        rw [sx_ad_lt (show 15 < 1000 by decide)]
        exact hS15
    · refine ⟨?_, fun _ => ?_, hm16.2.2⟩
      · dsimp only
        rw [sx_ad_lt (show 16 < 1000 by decide)]
        refine ⟨hc16.1, fun j v hv => ?_⟩
        match j, hv with
        | 0, hv => cases hv; exact ⟨fun _ => (by decide), ofv m0.2.2.1⟩
        | 1, hv => cases hv; exact ⟨fun _ => (by decide), ofv m1.2.2.1⟩
        | 2, hv => cases hv; exact ⟨fun _ => (by decide), ofv m2.2.2.1⟩
        | 3, hv => cases hv; exact ⟨fun _ => (by decide), ofv m3.2.2.1⟩
        | j + 4, hv => cases hv
      · dsimp only
        rw [sx_ad_lt (show 16 < 1000 by decide)]
        exact hS16
    · refine ⟨?_, fun _ => ?_, hm17.2.2⟩
      · dsimp only
        rw [sx_ad_lt (show 17 < 1000 by decide)]
        refine ⟨hc17.1, fun j v hv => ?_⟩
        match j, hv with
        | 0, hv => cases hv; exact ⟨fun _ => (by decide), ofv m0.2.2.2⟩
        | 1, hv => cases hv; exact ⟨fun _ => (by decide), ofv m1.2.2.2⟩
        | 2, hv => cases hv; exact ⟨fun _ => (by decide), ofv m2.2.2.2⟩
        | 3, hv => cases hv; exact ⟨fun _ => (by decide), ofv m3.2.2.2⟩
        | j + 4, hv => cases hv
      · dsimp only
        rw [sx_ad_lt (show 17 < 1000 by decide)]
        exact hS17
    · refine ⟨?_, fun _ => ?_, hm18.2.2⟩
      · dsimp only
        rw [sx_ad_lt (show 18 < 1000 by decide)]
        refine ⟨hc18.1, fun j v hv => ?_⟩
        match j, hv with
        | 0, hv => cases hv; exact ⟨fun _ => (by decide), ofv y2.2⟩
        | 1, hv => cases hv; exact ⟨fun _ => (by decide), ofv y1.2⟩
        | j + 2, hv => cases hv
      · dsimp only
        rw [sx_ad_lt (show 18 < 1000 by decide)]
        exact hS18
  · have nx : ∀ k, S k → x ≠ k := fun k hk e => hx (by rw [e]; exact hk)
    have n9 := nx 9 hS9
    have n14 := nx 14 hS14
    have n15 := nx 15 hS15
    have n16 := nx 16 hS16
    have n17 := nx 17 hS17
    have n18 := nx 18 hS18
    refine ⟨?_, rfl, rfl⟩
    simp only [mxI, n9, n14, n15, n16, n17, n18, if_false]
