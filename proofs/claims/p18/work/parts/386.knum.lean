/-! numbers of packed and unpacks -/
theorem i64_add {x y : Int64} (h1 : -9223372036854775808 ≤ x.toInt + y.toInt) (h2 : x.toInt + y.toInt ≤ 9223372036854775807) : (x + y).toInt = x.toInt + y.toInt := by
  rw [Int64.toInt_add]
  exact Int.bmod_eq_of_le (by omega) (by omega)
theorem i64_sub {x y : Int64} (h1 : -9223372036854775808 ≤ x.toInt - y.toInt) (h2 : x.toInt - y.toInt ≤ 9223372036854775807) : (x - y).toInt = x.toInt - y.toInt := by
  rw [Int64.toInt_sub]
  exact Int.bmod_eq_of_le (by omega) (by omega)
theorem i64_mul {x y : Int64} (h1 : -9223372036854775808 ≤ x.toInt * y.toInt) (h2 : x.toInt * y.toInt ≤ 9223372036854775807) : (x * y).toInt = x.toInt * y.toInt := by
  rw [Int64.toInt_mul]
  exact Int.bmod_eq_of_le (by omega) (by omega)
theorem i32_sub {x y : Int32} (h1 : -2147483648 ≤ x.toInt - y.toInt) (h2 : x.toInt - y.toInt ≤ 2147483647) : (x - y).toInt = x.toInt - y.toInt := by
  rw [Int32.toInt_sub]
  exact Int.bmod_eq_of_le (by omega) (by omega)
theorem i32_mul {x y : Int32} (h1 : -2147483648 ≤ x.toInt * y.toInt) (h2 : x.toInt * y.toInt ≤ 2147483647) : (x * y).toInt = x.toInt * y.toInt := by
  rw [Int32.toInt_mul]
  exact Int.bmod_eq_of_le (by omega) (by omega)
/-- one ticket's digits behind the others -/
theorem pk_num {v b : Int64} {o d k : Int32} (hv : 0 ≤ v.toInt ∧ v.toInt ≤ 18014398509481983) (hb : 0 ≤ b.toInt ∧ b.toInt ≤ 128) (ho : 0 ≤ o.toInt ∧ o.toInt ≤ 3) (hd : 0 ≤ d.toInt ∧ d.toInt ≤ 1) (hk : 0 ≤ k.toInt ∧ k.toInt ≤ 9) : (((((v * 256) + b) + (o.toInt64 * 32)) + (d.toInt64 * 16)) + k.toInt64).toInt = v.toInt * 256 + b.toInt + o.toInt * 32 + d.toInt * 16 + k.toInt := by
  have c256 : (256 : Int64).toInt = 256 := rfl
  have c32 : (32 : Int64).toInt = 32 := rfl
  have c16 : (16 : Int64).toInt = 16 := rfl
  have e1 : (v * 256).toInt = v.toInt * 256 := by rw [i64_mul (by rw [c256]; omega) (by rw [c256]; omega), c256]
  have e2 : (o.toInt64 * 32).toInt = o.toInt * 32 := by rw [i64_mul (by rw [c32, Int32.toInt_toInt64]; omega) (by rw [c32, Int32.toInt_toInt64]; omega), c32, Int32.toInt_toInt64]
  have e3 : (d.toInt64 * 16).toInt = d.toInt * 16 := by rw [i64_mul (by rw [c16, Int32.toInt_toInt64]; omega) (by rw [c16, Int32.toInt_toInt64]; omega), c16, Int32.toInt_toInt64]
  have e4 : ((v * 256) + b).toInt = v.toInt * 256 + b.toInt := by rw [i64_add (by rw [e1]; omega) (by rw [e1]; omega), e1]
  have e5 : (((v * 256) + b) + (o.toInt64 * 32)).toInt = v.toInt * 256 + b.toInt + o.toInt * 32 := by rw [i64_add (by rw [e4, e2]; omega) (by rw [e4, e2]; omega), e4, e2]
  have e6 : ((((v * 256) + b) + (o.toInt64 * 32)) + (d.toInt64 * 16)).toInt = v.toInt * 256 + b.toInt + o.toInt * 32 + d.toInt * 16 := by rw [i64_add (by rw [e5, e3]; omega) (by rw [e5, e3]; omega), e5, e3]
  rw [i64_add (by rw [e6, Int32.toInt_toInt64]; omega) (by rw [e6, Int32.toInt_toInt64]; omega), e6, Int32.toInt_toInt64]
theorem pk_head {g k s t : Int32} (hg : 0 ≤ g.toInt ∧ g.toInt ≤ 4) (hk : 0 ≤ k.toInt ∧ k.toInt ≤ 15) (hs : 0 ≤ s.toInt ∧ s.toInt ≤ 4) (ht : 0 ≤ t.toInt ∧ t.toInt ≤ 4) : ((((((g.toInt64 * 16) + k.toInt64) * 8) + s.toInt64) * 8) + t.toInt64).toInt = ((g.toInt * 16 + k.toInt) * 8 + s.toInt) * 8 + t.toInt := by
  have c8 : (8 : Int64).toInt = 8 := rfl
  have c16 : (16 : Int64).toInt = 16 := rfl
  have e1 : (g.toInt64 * 16).toInt = g.toInt * 16 := by rw [i64_mul (by rw [c16, Int32.toInt_toInt64]; omega) (by rw [c16, Int32.toInt_toInt64]; omega), c16, Int32.toInt_toInt64]
  have e2 : ((g.toInt64 * 16) + k.toInt64).toInt = g.toInt * 16 + k.toInt := by rw [i64_add (by rw [e1, Int32.toInt_toInt64]; omega) (by rw [e1, Int32.toInt_toInt64]; omega), e1, Int32.toInt_toInt64]
  have e3 : (((g.toInt64 * 16) + k.toInt64) * 8).toInt = (g.toInt * 16 + k.toInt) * 8 := by rw [i64_mul (by rw [c8, e2]; omega) (by rw [c8, e2]; omega), c8, e2]
  have e4 : ((((g.toInt64 * 16) + k.toInt64) * 8) + s.toInt64).toInt = (g.toInt * 16 + k.toInt) * 8 + s.toInt := by rw [i64_add (by rw [e3, Int32.toInt_toInt64]; omega) (by rw [e3, Int32.toInt_toInt64]; omega), e3, Int32.toInt_toInt64]
  have e5 : (((((g.toInt64 * 16) + k.toInt64) * 8) + s.toInt64) * 8).toInt = ((g.toInt * 16 + k.toInt) * 8 + s.toInt) * 8 := by rw [i64_mul (by rw [c8, e4]; omega) (by rw [c8, e4]; omega), c8, e4]
  rw [i64_add (by rw [e5, Int32.toInt_toInt64]; omega) (by rw [e5, Int32.toInt_toInt64]; omega), e5, Int32.toInt_toInt64]
theorem pk_live {x : Int32} {r : Int} (hx : x.toInt = r) (hr : 0 ≤ r ∧ r ≤ 1) : (cond (Op.ifCond.holds .eq x) (0 : Int64) 128).toInt = r * 128 := by
  rcases (show r = 0 ∨ r = 1 by omega) with e | e
  · rw [hd_eq_t (x := x) (by omega), e]
    rfl
  · rw [hd_eq_f (x := x) (by omega), e]
    rfl
/-- quotient and rest -/
theorem up_num {x : Int64} {A D B : Int} {b : Int64} (hb : b.toInt = B) (hB : B = 256 ∨ B = 8 ∨ B = 16) (hx : x.toInt = A * B + D) (hA : 0 ≤ A) (hD : 0 ≤ D ∧ D < B) : (x / b).toInt = A ∧ (x - x / b * b).toInt32.toInt = D := by
  have hn1 : b ≠ -1 := fun q => by
    have := congrArg Int64.toInt q
    rw [hb] at this
    have e : (-1 : Int64).toInt = -1 := rfl
    omega
  have hxu := Int64.toInt_lt x
  have e1 : (x / b).toInt = A := by
    rw [Int64.toInt_div_of_ne_right _ _ hn1, hb, hx, Int.tdiv_eq_ediv_of_nonneg (by rcases hB with e | e | e <;> rw [e] <;> rw [e] at hD <;> omega)]
    rcases hB with e | e | e <;> rw [e] <;> rw [e] at hD <;> omega
  have hm : A * B ≤ 9223372036854775807 ∧ 0 ≤ A * B := by
    rcases hB with e | e | e <;> rw [e] at hx ⊢ <;> omega
  have e2 : (x / b * b).toInt = A * B := by rw [i64_mul (by rw [e1, hb]; omega) (by rw [e1, hb]; omega), e1, hb]
  have e3 : (x - x / b * b).toInt = D := by rw [i64_sub (by rw [e2]; omega) (by rw [e2]; omega), e2]; omega
  refine ⟨e1, ?_⟩
  rw [Int64.toInt_toInt32, e3]
  exact Int.bmod_eq_of_le (by rcases hB with e | e | e <;> rw [e] at hD <;> omega) (by rcases hB with e | e | e <;> rw [e] at hD <;> omega)
theorem up_d32 {k : Int32} {B : Int} {b : Int32} (hb : b.toInt = B) (hB : 1 < B) (hk : 0 ≤ k.toInt) : (k / b).toInt = k.toInt / B := by
  have hn1 : b ≠ -1 := fun q => by
    have := congrArg Int32.toInt q
    rw [hb] at this
    have e : (-1 : Int32).toInt = -1 := rfl
    omega
  rw [Int32.toInt_div_of_ne_right _ _ hn1, hb, Int.tdiv_eq_ediv_of_nonneg hk]
theorem up_m32 {k : Int32} {b : Int32} (hb : b.toInt = 2 ∨ b.toInt = 4 ∨ b.toInt = 16) (hk : 0 ≤ k.toInt ∧ k.toInt ≤ 255) : (k - k / b * b).toInt = k.toInt % b.toInt := by
  have e1 := up_d32 (b := b) (B := b.toInt) (k := k) rfl (by omega) hk.1
  have e2 : (k / b * b).toInt = k.toInt / b.toInt * b.toInt := by
    rw [i32_mul (by rw [e1]; rcases hb with e | e | e <;> rw [e] <;> omega) (by rw [e1]; rcases hb with e | e | e <;> rw [e] <;> omega), e1]
  rw [i32_sub (by rw [e2]; rcases hb with e | e | e <;> rw [e] <;> omega) (by rw [e2]; rcases hb with e | e | e <;> rw [e] <;> omega), e2]
  rcases hb with e | e | e <;> rw [e] <;> omega
/-- the digits of one ticket -/
theorem up_dig {k : Int32} {l f d t : Int} (hk : k.toInt = l * 128 + f * 32 + d * 16 + t) (hl : 0 ≤ l ∧ l ≤ 1) (hf : 0 ≤ f ∧ f ≤ 3) (hd : 0 ≤ d ∧ d ≤ 1) (ht : 0 ≤ t ∧ t ≤ 15) : (Op.if_icmp.holds .lt k 128 = decide (l = 0)) ∧ (k / 32 - k / 32 / 4 * 4).toInt = f ∧ (k / 16 - k / 16 / 2 * 2).toInt = d ∧ (k - k / 16 * 16).toInt = t := by
  have e32 := up_d32 (b := 32) (B := 32) (k := k) rfl (by decide) (by omega)
  have e16 := up_d32 (b := 16) (B := 16) (k := k) rfl (by decide) (by omega)
  refine ⟨?_, ?_, ?_, ?_⟩
  · rcases (show l = 0 ∨ l = 1 by omega) with e | e
    · rw [hc_lt_t 128 rfl (by omega), e]; rfl
    · rw [hc_lt_f 128 rfl (by omega), e]; rfl
  · rw [up_m32 (b := 4) (Or.inr (Or.inl rfl)) (by rw [e32]; omega), e32]
    show k.toInt / 32 % 4 = f
    omega
  · rw [up_m32 (b := 2) (Or.inl rfl) (by rw [e16]; omega), e16]
    show k.toInt / 16 % 2 = d
    omega
  · rw [up_m32 (b := 16) (Or.inr (Or.inr rfl)) (by omega)]
    show k.toInt % 16 = t
    omega
theorem sx_ofi {x : Int32} {r : Int} (h : Value.int x = .int (Int32.ofInt (r + 0))) (h1 : -2147483648 ≤ r) (h2 : r ≤ 2147483647) : x.toInt = r := by
  rw [Value.int.inj h, Int.add_zero]
  exact Int32.toInt_ofInt_of_le h1 (by omega)
def k_packed : sxK := ([(0, 0, 0, 0), ((-2147483648), 2147483647, 0, 0), (0, 200, 0, 0), (0, 200, 0, 0), (0, 200, 0, 0), (0, 803, 0, 0), (0, 4, 0, 0), (0, 15, 0, 0), ((-2147483648), 2147483647, 0, 0), (0, 9223372036854775807, 1, 0), (0, 127, 0, 0), ((-2147483648), 2147483647, 0, 0), (0, 1, 0, 0), (0, 6, 0, 0), (0, 20001, 0, 0), ((-2147483648), 2147483647, 0, 0), (0, 1, 0, 0), (0, 10, 0, 0), ((-2147483648), 2147483647, 0, 0), ((-2147483648), 2147483647, 0, 0), (0, 1, 0, 0), (0, 1, 0, 0), (0, 1, 0, 0), (0, 1, 0, 0), (0, 3, 0, 0), (0, 3, 0, 0), (0, 3, 0, 0), (0, 3, 0, 0), (0, 1, 0, 0), (0, 1, 0, 0), (0, 1, 0, 0), (0, 1, 0, 0), (0, 9, 0, 20), (0, 9, 0, 21), (0, 9, 0, 22), (0, 9, 0, 23), (0, 4, 0, 0), (0, 4, 0, 0)], [(2, 9, 0)], [(9, (8, 37, 0, 0, 2, some [(0, 1, 0), (2, 10, 0), (0, 2, 0), (0, 3, 0), (0, 4, 0), (0, 5, 0), (2, 11, 0), (2, 12, 0), (2, 13, 0), (2, 14, 0), (2, 15, 0), (2, 16, 0), (2, 17, 0), (2, 18, 0), (0, 6, 0), (0, 7, 0), (0, 8, 0), (1, 9, 0), (0, 10, 0), (0, 11, 0), (0, 12, 0), (0, 13, 0), (2, 19, 0), (2, 20, 0), (2, 21, 0), (2, 22, 0), (2, 23, 0), (2, 24, 0), (0, 14, 0), (0, 15, 0), (2, 25, 0), (0, 16, 0), (0, 17, 0), (0, 18, 0), (0, 19, 0), (2, 26, 0), (2, 27, 0)])), (14, (3, 4, 0, 0, 2, some [(0, 20, 0), (0, 21, 0), (0, 22, 0), (0, 23, 0)])), (15, (0, 4, 0, 0, 2, some [(0, 24, 0), (0, 25, 0), (0, 26, 0), (0, 27, 0)])), (16, (0, 4, 0, 0, 2, some [(0, 28, 0), (0, 29, 0), (0, 30, 0), (0, 31, 0)])), (17, (0, 4, 0, 0, 2, some [(0, 32, 0), (0, 33, 0), (0, 34, 0), (0, 35, 0)])), (18, (0, 2, 0, 0, 2, some [(0, 36, 0), (0, 37, 0)]))], [([(0, 0, 0, 0), ((-2147483648), 2147483647, 0, 0), (0, 200, 0, 0), (0, 200, 0, 0), (0, 200, 0, 0), (0, 803, 0, 0), (0, 4, 0, 0), (0, 15, 0, 0), ((-2147483648), 2147483647, 0, 0), (0, 9223372036854775807, 1, 0), (0, 127, 0, 0), ((-2147483648), 2147483647, 0, 0), (0, 1, 0, 0), (0, 6, 0, 0), (0, 20001, 0, 0), ((-2147483648), 2147483647, 0, 0), (0, 1, 0, 0), (0, 10, 0, 0), ((-2147483648), 2147483647, 0, 0), ((-2147483648), 2147483647, 0, 0), (0, 1, 0, 0), (0, 1, 0, 0), (0, 1, 0, 0), (0, 1, 0, 0), (0, 3, 0, 0), (0, 3, 0, 0), (0, 3, 0, 0), (0, 3, 0, 0), (0, 1, 0, 0), (0, 1, 0, 0), (0, 1, 0, 0), (0, 1, 0, 0), (0, 9, 0, 20), (0, 9, 0, 21), (0, 9, 0, 22), (0, 9, 0, 23), (0, 4, 0, 0), (0, 4, 0, 0), (0, 9223372036854775807, 1, 0)], some (1, 38, 0), [])])
theorem pkt_0 {a : Nat → Nat × Nat} {sh : List (Nat × Nat)} {J : Nat → Nat → Int64} {Q : Nat → Nat → Value} {res : mxR} {I : Nat → Nat → Int32} {v : Int64} (H : mxRn 94 48 [(0, .ref 9), (1, .long (((((v * 256) + (cond (Op.ifCond.holds .eq (I 14 0)) 0 128)) + (((I 15 0)).toInt64 * 32)) + (((I 16 0)).toInt64 * 16)) + ((I 17 0)).toInt64)), (3, .int 1)] [] (shV a sh, I, J, QV Q) res) : mxRn 94 48 [(0, .ref 9), (1, .long v), (3, .int 0)] [] (shV a sh, I, J, QV Q) res := by
  cases hb : Op.ifCond.holds .eq (I 14 0) with
  | true => rw [hb] at H; exact pk_0_0 hb H
  | false => rw [hb] at H; exact pk_0_1 hb H
theorem pkt_1 {a : Nat → Nat × Nat} {sh : List (Nat × Nat)} {J : Nat → Nat → Int64} {Q : Nat → Nat → Value} {res : mxR} {I : Nat → Nat → Int32} {v : Int64} (H : mxRn 94 48 [(0, .ref 9), (1, .long (((((v * 256) + (cond (Op.ifCond.holds .eq (I 14 1)) 0 128)) + (((I 15 1)).toInt64 * 32)) + (((I 16 1)).toInt64 * 16)) + ((I 17 1)).toInt64)), (3, .int 2)] [] (shV a sh, I, J, QV Q) res) : mxRn 94 48 [(0, .ref 9), (1, .long v), (3, .int 1)] [] (shV a sh, I, J, QV Q) res := by
  cases hb : Op.ifCond.holds .eq (I 14 1) with
  | true => rw [hb] at H; exact pk_1_0 hb H
  | false => rw [hb] at H; exact pk_1_1 hb H
theorem pkt_2 {a : Nat → Nat × Nat} {sh : List (Nat × Nat)} {J : Nat → Nat → Int64} {Q : Nat → Nat → Value} {res : mxR} {I : Nat → Nat → Int32} {v : Int64} (H : mxRn 94 48 [(0, .ref 9), (1, .long (((((v * 256) + (cond (Op.ifCond.holds .eq (I 14 2)) 0 128)) + (((I 15 2)).toInt64 * 32)) + (((I 16 2)).toInt64 * 16)) + ((I 17 2)).toInt64)), (3, .int 3)] [] (shV a sh, I, J, QV Q) res) : mxRn 94 48 [(0, .ref 9), (1, .long v), (3, .int 2)] [] (shV a sh, I, J, QV Q) res := by
  cases hb : Op.ifCond.holds .eq (I 14 2) with
  | true => rw [hb] at H; exact pk_2_0 hb H
  | false => rw [hb] at H; exact pk_2_1 hb H
theorem pkt_3 {a : Nat → Nat × Nat} {sh : List (Nat × Nat)} {J : Nat → Nat → Int64} {Q : Nat → Nat → Value} {res : mxR} {I : Nat → Nat → Int32} {v : Int64} (H : mxRn 94 48 [(0, .ref 9), (1, .long (((((v * 256) + (cond (Op.ifCond.holds .eq (I 14 3)) 0 128)) + (((I 15 3)).toInt64 * 32)) + (((I 16 3)).toInt64 * 16)) + ((I 17 3)).toInt64)), (3, .int 4)] [] (shV a sh, I, J, QV Q) res) : mxRn 94 48 [(0, .ref 9), (1, .long v), (3, .int 3)] [] (shV a sh, I, J, QV Q) res := by
  cases hb : Op.ifCond.holds .eq (I 14 3) with
  | true => rw [hb] at H; exact pk_3_0 hb H
  | false => rw [hb] at H; exact pk_3_1 hb H
theorem c_packed : sx_C 94 k_packed := by
  intro W0 S ρ w hγ
  obtain ⟨shw, I, J, Q⟩ := w
  obtain ⟨g1, g2, g3, g4, g5⟩ := hγ
  have hc9 := (g4 _ (List.mem_of_getElem? (i := 0) rfl)).1
  dsimp only at hc9
  rw [sx_ad_lt (show 9 < 1000 by decide)] at hc9
  have hc14 := (g4 _ (List.mem_of_getElem? (i := 1) rfl)).1
  dsimp only at hc14
  rw [sx_ad_lt (show 14 < 1000 by decide)] at hc14
  have hc15 := (g4 _ (List.mem_of_getElem? (i := 2) rfl)).1
  dsimp only at hc15
  rw [sx_ad_lt (show 15 < 1000 by decide)] at hc15
  have hc16 := (g4 _ (List.mem_of_getElem? (i := 3) rfl)).1
  dsimp only at hc16
  rw [sx_ad_lt (show 16 < 1000 by decide)] at hc16
  have hc17 := (g4 _ (List.mem_of_getElem? (i := 4) rfl)).1
  dsimp only at hc17
  rw [sx_ad_lt (show 17 < 1000 by decide)] at hc17
  have hc18 := (g4 _ (List.mem_of_getElem? (i := 5) rfl)).1
  dsimp only at hc18
  rw [sx_ad_lt (show 18 < 1000 by decide)] at hc18
  have hs9 : shw[9]? = some (8, 37) := hc9.1
  have hs14 : shw[14]? = some (3, 4) := hc14.1
  have hs15 : shw[15]? = some (0, 4) := hc15.1
  have hs16 : shw[16]? = some (0, 4) := hc16.1
  have hs17 : shw[17]? = some (0, 4) := hc17.1
  have hs18 : shw[18]? = some (0, 2) := hc18.1
  obtain ⟨a, sh, rfl⟩ := shV_ex shw hs9 hs14 hs15 hs16 hs17 hs18
  have hq9 : Q 9 9 = .ref 14 := (hc9.2 9 (2, 14, 0) rfl).2.trans (congrArg Value.ref (sx_ad_lt (show 14 < 1000 by decide)))
  have hq10 : Q 9 10 = .ref 15 := (hc9.2 10 (2, 15, 0) rfl).2.trans (congrArg Value.ref (sx_ad_lt (show 15 < 1000 by decide)))
  have hq11 : Q 9 11 = .ref 16 := (hc9.2 11 (2, 16, 0) rfl).2.trans (congrArg Value.ref (sx_ad_lt (show 16 < 1000 by decide)))
  have hq12 : Q 9 12 = .ref 17 := (hc9.2 12 (2, 17, 0) rfl).2.trans (congrArg Value.ref (sx_ad_lt (show 17 < 1000 by decide)))
  have hq13 : Q 9 13 = .ref 18 := (hc9.2 13 (2, 18, 0) rfl).2.trans (congrArg Value.ref (sx_ad_lt (show 18 < 1000 by decide)))
  have hQ : QV Q = Q := QV_eq hq9 hq10 hq11 hq12 hq13
  have bg : (0 : Int) ≤ ρ 6 ∧ ρ 6 ≤ 4 := by
    have b := g1.2.2 6 _ rfl
    exact ⟨b.1, b.2.1⟩
  have vg : (I 9 14).toInt = ρ 6 := sx_ofi (hc9.2 14 (0, 6, 0) rfl).2 (by omega) (by omega)
  have bk : (0 : Int) ≤ ρ 7 ∧ ρ 7 ≤ 15 := by
    have b := g1.2.2 7 _ rfl
    exact ⟨b.1, b.2.1⟩
  have vk : (I 9 15).toInt = ρ 7 := sx_ofi (hc9.2 15 (0, 7, 0) rfl).2 (by omega) (by omega)
  have bs0 : (0 : Int) ≤ ρ 36 ∧ ρ 36 ≤ 4 := by
    have b := g1.2.2 36 _ rfl
    exact ⟨b.1, b.2.1⟩
  have vs0 : (I 18 0).toInt = ρ 36 := sx_ofi (hc18.2 0 (0, 36, 0) rfl).2 (by omega) (by omega)
  have bs1 : (0 : Int) ≤ ρ 37 ∧ ρ 37 ≤ 4 := by
    have b := g1.2.2 37 _ rfl
    exact ⟨b.1, b.2.1⟩
  have vs1 : (I 18 1).toInt = ρ 37 := sx_ofi (hc18.2 1 (0, 37, 0) rfl).2 (by omega) (by omega)
  have bl0 : (0 : Int) ≤ ρ 20 ∧ ρ 20 ≤ 1 := by
    have b := g1.2.2 20 _ rfl
    exact ⟨b.1, b.2.1⟩
  have vl0 : (I 14 0).toInt = ρ 20 := sx_ofi (hc14.2 0 (0, 20, 0) rfl).2 (by omega) (by omega)
  have bo0 : (0 : Int) ≤ ρ 24 ∧ ρ 24 ≤ 3 := by
    have b := g1.2.2 24 _ rfl
    exact ⟨b.1, b.2.1⟩
  have vo0 : (I 15 0).toInt = ρ 24 := sx_ofi (hc15.2 0 (0, 24, 0) rfl).2 (by omega) (by omega)
  have bd0 : (0 : Int) ≤ ρ 28 ∧ ρ 28 ≤ 1 := by
    have b := g1.2.2 28 _ rfl
    exact ⟨b.1, b.2.1⟩
  have vd0 : (I 16 0).toInt = ρ 28 := sx_ofi (hc16.2 0 (0, 28, 0) rfl).2 (by omega) (by omega)
  have bt0 : (0 : Int) ≤ ρ 32 ∧ ρ 32 ≤ 9 := by
    have b := g1.2.2 32 _ rfl
    exact ⟨b.1, b.2.1⟩
  have vt0 : (I 17 0).toInt = ρ 32 := sx_ofi (hc17.2 0 (0, 32, 0) rfl).2 (by omega) (by omega)
  have k0 : 1 ≤ ρ 20 → ρ 32 ≤ 8 := (g1.2.2 32 _ rfl).2.2.2.2 (by decide)
  have bl1 : (0 : Int) ≤ ρ 21 ∧ ρ 21 ≤ 1 := by
    have b := g1.2.2 21 _ rfl
    exact ⟨b.1, b.2.1⟩
  have vl1 : (I 14 1).toInt = ρ 21 := sx_ofi (hc14.2 1 (0, 21, 0) rfl).2 (by omega) (by omega)
  have bo1 : (0 : Int) ≤ ρ 25 ∧ ρ 25 ≤ 3 := by
    have b := g1.2.2 25 _ rfl
    exact ⟨b.1, b.2.1⟩
  have vo1 : (I 15 1).toInt = ρ 25 := sx_ofi (hc15.2 1 (0, 25, 0) rfl).2 (by omega) (by omega)
  have bd1 : (0 : Int) ≤ ρ 29 ∧ ρ 29 ≤ 1 := by
    have b := g1.2.2 29 _ rfl
    exact ⟨b.1, b.2.1⟩
  have vd1 : (I 16 1).toInt = ρ 29 := sx_ofi (hc16.2 1 (0, 29, 0) rfl).2 (by omega) (by omega)
  have bt1 : (0 : Int) ≤ ρ 33 ∧ ρ 33 ≤ 9 := by
    have b := g1.2.2 33 _ rfl
    exact ⟨b.1, b.2.1⟩
  have vt1 : (I 17 1).toInt = ρ 33 := sx_ofi (hc17.2 1 (0, 33, 0) rfl).2 (by omega) (by omega)
  have k1 : 1 ≤ ρ 21 → ρ 33 ≤ 8 := (g1.2.2 33 _ rfl).2.2.2.2 (by decide)
  have bl2 : (0 : Int) ≤ ρ 22 ∧ ρ 22 ≤ 1 := by
    have b := g1.2.2 22 _ rfl
    exact ⟨b.1, b.2.1⟩
  have vl2 : (I 14 2).toInt = ρ 22 := sx_ofi (hc14.2 2 (0, 22, 0) rfl).2 (by omega) (by omega)
  have bo2 : (0 : Int) ≤ ρ 26 ∧ ρ 26 ≤ 3 := by
    have b := g1.2.2 26 _ rfl
    exact ⟨b.1, b.2.1⟩
  have vo2 : (I 15 2).toInt = ρ 26 := sx_ofi (hc15.2 2 (0, 26, 0) rfl).2 (by omega) (by omega)
  have bd2 : (0 : Int) ≤ ρ 30 ∧ ρ 30 ≤ 1 := by
    have b := g1.2.2 30 _ rfl
    exact ⟨b.1, b.2.1⟩
  have vd2 : (I 16 2).toInt = ρ 30 := sx_ofi (hc16.2 2 (0, 30, 0) rfl).2 (by omega) (by omega)
  have bt2 : (0 : Int) ≤ ρ 34 ∧ ρ 34 ≤ 9 := by
    have b := g1.2.2 34 _ rfl
    exact ⟨b.1, b.2.1⟩
  have vt2 : (I 17 2).toInt = ρ 34 := sx_ofi (hc17.2 2 (0, 34, 0) rfl).2 (by omega) (by omega)
  have k2 : 1 ≤ ρ 22 → ρ 34 ≤ 8 := (g1.2.2 34 _ rfl).2.2.2.2 (by decide)
  have bl3 : (0 : Int) ≤ ρ 23 ∧ ρ 23 ≤ 1 := by
    have b := g1.2.2 23 _ rfl
    exact ⟨b.1, b.2.1⟩
  have vl3 : (I 14 3).toInt = ρ 23 := sx_ofi (hc14.2 3 (0, 23, 0) rfl).2 (by omega) (by omega)
  have bo3 : (0 : Int) ≤ ρ 27 ∧ ρ 27 ≤ 3 := by
    have b := g1.2.2 27 _ rfl
    exact ⟨b.1, b.2.1⟩
  have vo3 : (I 15 3).toInt = ρ 27 := sx_ofi (hc15.2 3 (0, 27, 0) rfl).2 (by omega) (by omega)
  have bd3 : (0 : Int) ≤ ρ 31 ∧ ρ 31 ≤ 1 := by
    have b := g1.2.2 31 _ rfl
    exact ⟨b.1, b.2.1⟩
  have vd3 : (I 16 3).toInt = ρ 31 := sx_ofi (hc16.2 3 (0, 31, 0) rfl).2 (by omega) (by omega)
  have bt3 : (0 : Int) ≤ ρ 35 ∧ ρ 35 ≤ 9 := by
    have b := g1.2.2 35 _ rfl
    exact ⟨b.1, b.2.1⟩
  have vt3 : (I 17 3).toInt = ρ 35 := sx_ofi (hc17.2 3 (0, 35, 0) rfl).2 (by omega) (by omega)
  have k3 : 1 ≤ ρ 23 → ρ 35 ≤ 8 := (g1.2.2 35 _ rfl).2.2.2.2 (by decide)
  have e0 := pk_head (g := I 9 14) (k := I 9 15) (s := I 18 0) (t := I 18 1) (by omega) (by omega) (by omega) (by omega)
  generalize hv0 : ((((((((I 9 14)).toInt64 * 16) + ((I 9 15)).toInt64) * 8) + ((I 18 0)).toInt64) * 8) + ((I 18 1)).toInt64) = x0 at e0
  have pl0 := pk_live vl0 bl0
  have e1 := pk_num (v := x0) (b := cond (Op.ifCond.holds .eq (I 14 0)) 0 128) (o := I 15 0) (d := I 16 0) (k := I 17 0) (by omega) (by omega) (by omega) (by omega) (by omega)
  generalize hv1 : (((((x0 * 256) + (cond (Op.ifCond.holds .eq (I 14 0)) 0 128)) + (((I 15 0)).toInt64 * 32)) + (((I 16 0)).toInt64 * 16)) + ((I 17 0)).toInt64) = x1 at e1
  have pl1 := pk_live vl1 bl1
  have e2 := pk_num (v := x1) (b := cond (Op.ifCond.holds .eq (I 14 1)) 0 128) (o := I 15 1) (d := I 16 1) (k := I 17 1) (by omega) (by omega) (by omega) (by omega) (by omega)
  generalize hv2 : (((((x1 * 256) + (cond (Op.ifCond.holds .eq (I 14 1)) 0 128)) + (((I 15 1)).toInt64 * 32)) + (((I 16 1)).toInt64 * 16)) + ((I 17 1)).toInt64) = x2 at e2
  have pl2 := pk_live vl2 bl2
  have e3 := pk_num (v := x2) (b := cond (Op.ifCond.holds .eq (I 14 2)) 0 128) (o := I 15 2) (d := I 16 2) (k := I 17 2) (by omega) (by omega) (by omega) (by omega) (by omega)
  generalize hv3 : (((((x2 * 256) + (cond (Op.ifCond.holds .eq (I 14 2)) 0 128)) + (((I 15 2)).toInt64 * 32)) + (((I 16 2)).toInt64 * 16)) + ((I 17 2)).toInt64) = x3 at e3
  have pl3 := pk_live vl3 bl3
  have e4 := pk_num (v := x3) (b := cond (Op.ifCond.holds .eq (I 14 3)) 0 128) (o := I 15 3) (d := I 16 3) (k := I 17 3) (by omega) (by omega) (by omega) (by omega) (by omega)
  generalize hv4 : (((((x3 * 256) + (cond (Op.ifCond.holds .eq (I 14 3)) 0 128)) + (((I 15 3)).toInt64 * 32)) + (((I 16 3)).toInt64 * 16)) + ((I 17 3)).toInt64) = x4 at e4
  have hV : sx_V x4.toInt := by
    refine ⟨ρ 6, ρ 7, ρ 36, ρ 37, (fun t => match t with | 0 => ρ 20 | 1 => ρ 21 | 2 => ρ 22 | _ => ρ 23), (fun t => match t with | 0 => ρ 24 | 1 => ρ 25 | 2 => ρ 26 | _ => ρ 27), (fun t => match t with | 0 => ρ 28 | 1 => ρ 29 | 2 => ρ 30 | _ => ρ 31), (fun t => match t with | 0 => ρ 32 | 1 => ρ 33 | 2 => ρ 34 | _ => ρ 35), bg, bk, bs0, bs1, fun t ht => ?_, ?_⟩
    · match t, ht with
      | 0, _ => exact ⟨bl0, bo0, bd0, bt0, k0⟩
      | 1, _ => exact ⟨bl1, bo1, bd1, bt1, k1⟩
      | 2, _ => exact ⟨bl2, bo2, bd2, bt2, k2⟩
      | 3, _ => exact ⟨bl3, bo3, bd3, bt3, k3⟩
    · show x4.toInt = (((((((ρ 6 * 16 + ρ 7) * 8 + ρ 36) * 8 + ρ 37) * 256 + (ρ 20 * 128 + ρ 24 * 32 + ρ 28 * 16 + ρ 32)) * 256 + (ρ 21 * 128 + ρ 25 * 32 + ρ 29 * 16 + ρ 33)) * 256 + (ρ 22 * 128 + ρ 26 * 32 + ρ 30 * 16 + ρ 34)) * 256 + (ρ 23 * 128 + ρ 27 * 32 + ρ 31 * 16 + ρ 35))
      omega
  have hP0 : 0 ≤ x4.toInt := by omega
  have hP1 := Int64.toInt_lt x4
  have hE := sx_env_new (z := x4.toInt) (lo := 0) (hi := 9223372036854775807) (fl := 1) g1 hP0 (by omega) (fun _ => hV)
  refine ⟨_, List.mem_singleton.mpr rfl, sx_up ρ 38 x4.toInt, (shV a sh, I, J, Q), fun i hi => sx_up_lt hi, Nat.le_succ _, ?_, ⟨hE, ⟨rfl, fun q hq => absurd hq List.not_mem_nil⟩, ⟨rfl, fun v hv => ?_⟩, fun q hq => absurd hq List.not_mem_nil, g5⟩, sx_Fr.rf⟩
  · show mxRn 94 0 [(0, .ref (sx_ad W0 9))] [] (shV a sh, I, J, Q) (some (.long (Int64.ofInt (sx_up ρ 38 x4.toInt 38 + 0))), (shV a sh, I, J, Q))
    rw [sx_ad_lt (show 9 < 1000 by decide), sx_up_eq, Int.add_zero, Int64.ofInt_toInt, ← hQ]
    refine pk_0 ?_
    rw [hv0]
    refine pkt_0 ?_
    rw [hv1]
    refine pkt_1 ?_
    rw [hv2]
    refine pkt_2 ?_
    rw [hv3]
    refine pkt_3 ?_
    rw [hv4]
    exact pk_end
  · cases List.mem_singleton.mp hv
    exact fun _ => Nat.lt_succ_self 38
