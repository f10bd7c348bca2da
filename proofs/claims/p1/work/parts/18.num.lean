theorem i64_add {x y : Int64} (h1 : -9223372036854775808 ≤ x.toInt + y.toInt) (h2 : x.toInt + y.toInt ≤ 9223372036854775807) : (x + y).toInt = x.toInt + y.toInt := by
  rw [Int64.toInt_add]
  exact Int.bmod_eq_of_le (by omega) (by omega)
theorem i64_sub {x y : Int64} (h1 : -9223372036854775808 ≤ x.toInt - y.toInt) (h2 : x.toInt - y.toInt ≤ 9223372036854775807) : (x - y).toInt = x.toInt - y.toInt := by
  rw [Int64.toInt_sub]
  exact Int.bmod_eq_of_le (by omega) (by omega)
theorem i64_mul {x y : Int64} (h1 : -9223372036854775808 ≤ x.toInt * y.toInt) (h2 : x.toInt * y.toInt ≤ 9223372036854775807) : (x * y).toInt = x.toInt * y.toInt := by
  rw [Int64.toInt_mul]
  exact Int.bmod_eq_of_le (by omega) (by omega)
theorem i32_sub {x y : Int32} (h1 : -2147483648 ≤ x.toInt - y.toInt) (h2 : x.toInt - y.toInt ≤ 2147483647) : (x - y).toInt = x.toInt - y.toInt := by
  rw [Int32.toInt_sub]
  exact Int.bmod_eq_of_le (by omega) (by omega)
theorem i32_mul {x y : Int32} (h1 : -2147483648 ≤ x.toInt * y.toInt) (h2 : x.toInt * y.toInt ≤ 2147483647) : (x * y).toInt = x.toInt * y.toInt := by
  rw [Int32.toInt_mul]
  exact Int.bmod_eq_of_le (by omega) (by omega)
theorem pk_num {v b : Int64} {o d k : Int32} (hv : 0 ≤ v.toInt ∧ v.toInt ≤ 18014398509481983) (hb : 0 ≤ b.toInt ∧ b.toInt ≤ 128) (ho : 0 ≤ o.toInt ∧ o.toInt ≤ 3) (hd : 0 ≤ d.toInt ∧ d.toInt ≤ 1) (hk : 0 ≤ k.toInt ∧ k.toInt ≤ 9) : (((((v * 256) + b) + (o.toInt64 * 32)) + (d.toInt64 * 16)) + k.toInt64).toInt = v.toInt * 256 + b.toInt + o.toInt * 32 + d.toInt * 16 + k.toInt := by
  have c256 : (256 : Int64).toInt = 256 := rfl
  have c32 : (32 : Int64).toInt = 32 := rfl
  have c16 : (16 : Int64).toInt = 16 := rfl
  have e1 : (v * 256).toInt = v.toInt * 256 := by rw [i64_mul (by rw [c256]; omega) (by rw [c256]; omega), c256]
  have e2 : (o.toInt64 * 32).toInt = o.toInt * 32 := by rw [i64_mul (by rw [c32, Int32.toInt_toInt64]; omega) (by rw [c32, Int32.toInt_toInt64]; omega), c32, Int32.toInt_toInt64]
  have e3 : (d.toInt64 * 16).toInt = d.toInt * 16 := by rw [i64_mul (by rw [c16, Int32.toInt_toInt64]; omega) (by rw [c16, Int32.toInt_toInt64]; omega), c16, Int32.toInt_toInt64]
  have e4 : ((v * 256) + b).toInt = v.toInt * 256 + b.toInt := by rw [i64_add (by rw [e1]; omega) (by rw [e1]; omega), e1]
  have e5 : (((v * 256) + b) + (o.toInt64 * 32)).toInt = v.toInt * 256 + b.toInt + o.toInt * 32 := by rw [i64_add (by rw [e4, e2]; omega) (by rw [e4, e2]; omega), e4, e2]
  have e6 : ((((v * 256) + b) + (o.toInt64 * 32)) + (d.toInt64 * 16)).toInt = v.toInt * 256 + b.toInt + o.toInt * 32 + d.toInt * 16 := by rw [i64_add (by rw [e5, e3]; omega) (by rw [e5, e3]; omega), e5, e3]
  rw [i64_add (by rw [e6, Int32.toInt_toInt64]; omega) (by rw [e6, Int32.toInt_toInt64]; omega), e6, Int32.toInt_toInt64]
theorem pk_head {g k s t : Int32} (hg : 0 ≤ g.toInt ∧ g.toInt ≤ 4) (hk : 0 ≤ k.toInt ∧ k.toInt ≤ 15) (hs : 0 ≤ s.toInt ∧ s.toInt ≤ 4) (ht : 0 ≤ t.toInt ∧ t.toInt ≤ 4) : ((((((g.toInt64 * 16) + k.toInt64) * 8) + s.toInt64) * 8) + t.toInt64).toInt = ((g.toInt * 16 + k.toInt) * 8 + s.toInt) * 8 + t.toInt := by
  have c8 : (8 : Int64).toInt = 8 := rfl
  have c16 : (16 : Int64).toInt = 16 := rfl
  have e1 : (g.toInt64 * 16).toInt = g.toInt * 16 := by rw [i64_mul (by rw [c16, Int32.toInt_toInt64]; omega) (by rw [c16, Int32.toInt_toInt64]; omega), c16, Int32.toInt_toInt64]
  have e2 : ((g.toInt64 * 16) + k.toInt64).toInt = g.toInt * 16 + k.toInt := by rw [i64_add (by rw [e1, Int32.toInt_toInt64]; omega) (by rw [e1, Int32.toInt_toInt64]; omega), e1, Int32.toInt_toInt64]
  have e3 : (((g.toInt64 * 16) + k.toInt64) * 8).toInt = (g.toInt * 16 + k.toInt) * 8 := by rw [i64_mul (by rw [c8, e2]; omega) (by rw [c8, e2]; omega), c8, e2]
  have e4 : ((((g.toInt64 * 16) + k.toInt64) * 8) + s.toInt64).toInt = (g.toInt * 16 + k.toInt) * 8 + s.toInt := by rw [i64_add (by rw [e3, Int32.toInt_toInt64]; omega) (by rw [e3, Int32.toInt_toInt64]; omega), e3, Int32.toInt_toInt64]
  have e5 : (((((g.toInt64 * 16) + k.toInt64) * 8) + s.toInt64) * 8).toInt = ((g.toInt * 16 + k.toInt) * 8 + s.toInt) * 8 := by rw [i64_mul (by rw [c8, e4]; omega) (by rw [c8, e4]; omega), c8, e4]
  rw [i64_add (by rw [e5, Int32.toInt_toInt64]; omega) (by rw [e5, Int32.toInt_toInt64]; omega), e5, Int32.toInt_toInt64]
theorem pk_live {x : Int32} {r : Int} (hx : x.toInt = r) (hr : 0 ≤ r ∧ r ≤ 1) : (cond (Op.ifCond.holds .eq x) (0 : Int64) 128).toInt = r * 128 := by
  rcases (show r = 0 ∨ r = 1 by omega) with e | e
  · rw [hd_eq_t (x := x) (by omega), e]
    rfl
  · rw [hd_eq_f (x := x) (by omega), e]
    rfl
theorem up_num {x : Int64} {A D B : Int} {b : Int64} (hb : b.toInt = B) (hB : B = 256 ∨ B = 8 ∨ B = 16) (hx : x.toInt = A * B + D) (hA : 0 ≤ A) (hD : 0 ≤ D ∧ D < B) : (x / b).toInt = A ∧ (x - x / b * b).toInt32.toInt = D := by
  have hn1 : b ≠ -1 := fun q => by
    have := congrArg Int64.toInt q
    rw [hb] at this
    have e : (-1 : Int64).toInt = -1 := rfl
    omega
  have hxu := Int64.toInt_lt x
  have e1 : (x / b).toInt = A := by
    rw [Int64.toInt_div_of_ne_right _ _ hn1, hb, hx, Int.tdiv_eq_ediv_of_nonneg (by rcases hB with e | e | e <;> rw [e] <;> rw [e] at hD <;> omega)]
    rcases hB with e | e | e <;> rw [e] <;> rw [e] at hD <;> omega
  have hm : A * B ≤ 9223372036854775807 ∧ 0 ≤ A * B := by
    rcases hB with e | e | e <;> rw [e] at hx ⊢ <;> omega
  have e2 : (x / b * b).toInt = A * B := by rw [i64_mul (by rw [e1, hb]; omega) (by rw [e1, hb]; omega), e1, hb]
  have e3 : (x - x / b * b).toInt = D := by rw [i64_sub (by rw [e2]; omega) (by rw [e2]; omega), e2]; omega
  refine ⟨e1, ?_⟩
  rw [Int64.toInt_toInt32, e3]
  exact Int.bmod_eq_of_le (by rcases hB with e | e | e <;> rw [e] at hD <;> omega) (by rcases hB with e | e | e <;> rw [e] at hD <;> omega)
theorem up_d32 {k : Int32} {B : Int} {b : Int32} (hb : b.toInt = B) (hB : 1 < B) (hk : 0 ≤ k.toInt) : (k / b).toInt = k.toInt / B := by
  have hn1 : b ≠ -1 := fun q => by
    have := congrArg Int32.toInt q
    rw [hb] at this
    have e : (-1 : Int32).toInt = -1 := rfl
    omega
  rw [Int32.toInt_div_of_ne_right _ _ hn1, hb, Int.tdiv_eq_ediv_of_nonneg hk]
theorem up_m32 {k : Int32} {b : Int32} (hb : b.toInt = 2 ∨ b.toInt = 4 ∨ b.toInt = 16) (hk : 0 ≤ k.toInt ∧ k.toInt ≤ 255) : (k - k / b * b).toInt = k.toInt % b.toInt := by
  have e1 := up_d32 (b := b) (B := b.toInt) (k := k) rfl (by omega) hk.1
  have e2 : (k / b * b).toInt = k.toInt / b.toInt * b.toInt := by
    rw [i32_mul (by rw [e1]; rcases hb with e | e | e <;> rw [e] <;> omega) (by rw [e1]; rcases hb with e | e | e <;> rw [e] <;> omega), e1]
  rw [i32_sub (by rw [e2]; rcases hb with e | e | e <;> rw [e] <;> omega) (by rw [e2]; rcases hb with e | e | e <;> rw [e] <;> omega), e2]
  rcases hb with e | e | e <;> rw [e] <;> omega
theorem up_dig {k : Int32} {l f d t : Int} (hk : k.toInt = l * 128 + f * 32 + d * 16 + t) (hl : 0 ≤ l ∧ l ≤ 1) (hf : 0 ≤ f ∧ f ≤ 3) (hd : 0 ≤ d ∧ d ≤ 1) (ht : 0 ≤ t ∧ t ≤ 15) : (Op.if_icmp.holds .lt k 128 = decide (l = 0)) ∧ (k / 32 - k / 32 / 4 * 4).toInt = f ∧ (k / 16 - k / 16 / 2 * 2).toInt = d ∧ (k - k / 16 * 16).toInt = t := by
  have e32 := up_d32 (b := 32) (B := 32) (k := k) rfl (by decide) (by omega)
  have e16 := up_d32 (b := 16) (B := 16) (k := k) rfl (by decide) (by omega)
  refine ⟨?_, ?_, ?_, ?_⟩
  · rcases (show l = 0 ∨ l = 1 by omega) with e | e
    · rw [hc_lt_t 128 rfl (by omega), e]; rfl
    · rw [hc_lt_f 128 rfl (by omega), e]; rfl
  · rw [up_m32 (b := 4) (Or.inr (Or.inl rfl)) (by rw [e32]; omega), e32]
    show k.toInt / 32 % 4 = f
    omega
  · rw [up_m32 (b := 2) (Or.inl rfl) (by rw [e16]; omega), e16]
    show k.toInt / 16 % 2 = d
    omega
  · rw [up_m32 (b := 16) (Or.inr (Or.inr rfl)) (by omega)]
    show k.toInt % 16 = t
    omega
theorem pkt_0 {a : Nat → Nat × Nat} {sh : List (Nat × Nat)} {J : Nat → Nat → Int64} {Q : Nat → Nat → Value} {res : mxR} {I : Nat → Nat → Int32} {v : Int64} (H : mxRn 94 48 [(0, .ref 9), (1, .long (((((v * 256) + (cond (Op.ifCond.holds .eq (I 14 0)) 0 128)) + (((I 15 0)).toInt64 * 32)) + (((I 16 0)).toInt64 * 16)) + ((I 17 0)).toInt64)), (3, .int 1)] [] (shV a sh, I, J, QV Q) res) : mxRn 94 48 [(0, .ref 9), (1, .long v), (3, .int 0)] [] (shV a sh, I, J, QV Q) res := by
  cases hb : Op.ifCond.holds .eq (I 14 0) with
  | true => rw [hb] at H; exact pk_0_0 hb H
  | false => rw [hb] at H; exact pk_0_1 hb H
theorem pkt_1 {a : Nat → Nat × Nat} {sh : List (Nat × Nat)} {J : Nat → Nat → Int64} {Q : Nat → Nat → Value} {res : mxR} {I : Nat → Nat → Int32} {v : Int64} (H : mxRn 94 48 [(0, .ref 9), (1, .long (((((v * 256) + (cond (Op.ifCond.holds .eq (I 14 1)) 0 128)) + (((I 15 1)).toInt64 * 32)) + (((I 16 1)).toInt64 * 16)) + ((I 17 1)).toInt64)), (3, .int 2)] [] (shV a sh, I, J, QV Q) res) : mxRn 94 48 [(0, .ref 9), (1, .long v), (3, .int 1)] [] (shV a sh, I, J, QV Q) res := by
  cases hb : Op.ifCond.holds .eq (I 14 1) with
  | true => rw [hb] at H; exact pk_1_0 hb H
  | false => rw [hb] at H; exact pk_1_1 hb H
theorem pkt_2 {a : Nat → Nat × Nat} {sh : List (Nat × Nat)} {J : Nat → Nat → Int64} {Q : Nat → Nat → Value} {res : mxR} {I : Nat → Nat → Int32} {v : Int64} (H : mxRn 94 48 [(0, .ref 9), (1, .long (((((v * 256) + (cond (Op.ifCond.holds .eq (I 14 2)) 0 128)) + (((I 15 2)).toInt64 * 32)) + (((I 16 2)).toInt64 * 16)) + ((I 17 2)).toInt64)), (3, .int 3)] [] (shV a sh, I, J, QV Q) res) : mxRn 94 48 [(0, .ref 9), (1, .long v), (3, .int 2)] [] (shV a sh, I, J, QV Q) res := by
  cases hb : Op.ifCond.holds .eq (I 14 2) with
  | true => rw [hb] at H; exact pk_2_0 hb H
  | false => rw [hb] at H; exact pk_2_1 hb H
theorem pkt_3 {a : Nat → Nat × Nat} {sh : List (Nat × Nat)} {J : Nat → Nat → Int64} {Q : Nat → Nat → Value} {res : mxR} {I : Nat → Nat → Int32} {v : Int64} (H : mxRn 94 48 [(0, .ref 9), (1, .long (((((v * 256) + (cond (Op.ifCond.holds .eq (I 14 3)) 0 128)) + (((I 15 3)).toInt64 * 32)) + (((I 16 3)).toInt64 * 16)) + ((I 17 3)).toInt64)), (3, .int 4)] [] (shV a sh, I, J, QV Q) res) : mxRn 94 48 [(0, .ref 9), (1, .long v), (3, .int 3)] [] (shV a sh, I, J, QV Q) res := by
  cases hb : Op.ifCond.holds .eq (I 14 3) with
  | true => rw [hb] at H; exact pk_3_0 hb H
  | false => rw [hb] at H; exact pk_3_1 hb H
theorem upt_3 {a : Nat → Nat × Nat} {sh : List (Nat × Nat)} {J : Nat → Nat → Int64} {Q : Nat → Nat → Value} {res : mxR} {I : Nat → Nat → Int32} {p v : Int64} (H : mxRn 95 5 [(0, .ref 9), (1, .long p), (3, .long (v / 256)), (5, .int 2), (6, .int ((v - v / 256 * 256)).toInt32)] [] (shV a sh, (mxI (mxI (mxI (mxI I 14 3 (vp_nar .boolean (cond (Op.if_icmp.holds .lt ((v - v / 256 * 256).toInt32) (128)) 0 1))) 15 3 (((((v - v / 256 * 256)).toInt32 / 32) - (((v - v / 256 * 256)).toInt32 / 32) / 4 * 4))) 16 3 (((((v - v / 256 * 256)).toInt32 / 16) - (((v - v / 256 * 256)).toInt32 / 16) / 2 * 2))) 17 3 ((((v - v / 256 * 256)).toInt32 - ((v - v / 256 * 256)).toInt32 / 16 * 16))), J, QV Q) res) : mxRn 95 5 [(0, .ref 9), (1, .long p), (3, .long v), (5, .int 3)] [] (shV a sh, I, J, QV Q) res := by
  cases hb : Op.if_icmp.holds .lt ((v - v / 256 * 256).toInt32) (128) with
  | true => rw [hb] at H; exact up_3_0 hb H
  | false => rw [hb] at H; exact up_3_1 hb H
theorem upt_2 {a : Nat → Nat × Nat} {sh : List (Nat × Nat)} {J : Nat → Nat → Int64} {Q : Nat → Nat → Value} {res : mxR} {I : Nat → Nat → Int32} {p v : Int64} {k0 : Int32} (H : mxRn 95 5 [(0, .ref 9), (1, .long p), (3, .long (v / 256)), (5, .int 1), (6, .int ((v - v / 256 * 256)).toInt32)] [] (shV a sh, (mxI (mxI (mxI (mxI I 14 2 (vp_nar .boolean (cond (Op.if_icmp.holds .lt ((v - v / 256 * 256).toInt32) (128)) 0 1))) 15 2 (((((v - v / 256 * 256)).toInt32 / 32) - (((v - v / 256 * 256)).toInt32 / 32) / 4 * 4))) 16 2 (((((v - v / 256 * 256)).toInt32 / 16) - (((v - v / 256 * 256)).toInt32 / 16) / 2 * 2))) 17 2 ((((v - v / 256 * 256)).toInt32 - ((v - v / 256 * 256)).toInt32 / 16 * 16))), J, QV Q) res) : mxRn 95 5 [(0, .ref 9), (1, .long p), (3, .long v), (5, .int 2), (6, .int k0)] [] (shV a sh, I, J, QV Q) res := by
  cases hb : Op.if_icmp.holds .lt ((v - v / 256 * 256).toInt32) (128) with
  | true => rw [hb] at H; exact up_2_0 hb H
  | false => rw [hb] at H; exact up_2_1 hb H
theorem upt_1 {a : Nat → Nat × Nat} {sh : List (Nat × Nat)} {J : Nat → Nat → Int64} {Q : Nat → Nat → Value} {res : mxR} {I : Nat → Nat → Int32} {p v : Int64} {k0 : Int32} (H : mxRn 95 5 [(0, .ref 9), (1, .long p), (3, .long (v / 256)), (5, .int 0), (6, .int ((v - v / 256 * 256)).toInt32)] [] (shV a sh, (mxI (mxI (mxI (mxI I 14 1 (vp_nar .boolean (cond (Op.if_icmp.holds .lt ((v - v / 256 * 256).toInt32) (128)) 0 1))) 15 1 (((((v - v / 256 * 256)).toInt32 / 32) - (((v - v / 256 * 256)).toInt32 / 32) / 4 * 4))) 16 1 (((((v - v / 256 * 256)).toInt32 / 16) - (((v - v / 256 * 256)).toInt32 / 16) / 2 * 2))) 17 1 ((((v - v / 256 * 256)).toInt32 - ((v - v / 256 * 256)).toInt32 / 16 * 16))), J, QV Q) res) : mxRn 95 5 [(0, .ref 9), (1, .long p), (3, .long v), (5, .int 1), (6, .int k0)] [] (shV a sh, I, J, QV Q) res := by
  cases hb : Op.if_icmp.holds .lt ((v - v / 256 * 256).toInt32) (128) with
  | true => rw [hb] at H; exact up_1_0 hb H
  | false => rw [hb] at H; exact up_1_1 hb H
theorem upt_0 {a : Nat → Nat × Nat} {sh : List (Nat × Nat)} {J : Nat → Nat → Int64} {Q : Nat → Nat → Value} {res : mxR} {I : Nat → Nat → Int32} {p v : Int64} {k0 : Int32} (H : mxRn 95 5 [(0, .ref 9), (1, .long p), (3, .long (v / 256)), (5, .int (-1)), (6, .int ((v - v / 256 * 256)).toInt32)] [] (shV a sh, (mxI (mxI (mxI (mxI I 14 0 (vp_nar .boolean (cond (Op.if_icmp.holds .lt ((v - v / 256 * 256).toInt32) (128)) 0 1))) 15 0 (((((v - v / 256 * 256)).toInt32 / 32) - (((v - v / 256 * 256)).toInt32 / 32) / 4 * 4))) 16 0 (((((v - v / 256 * 256)).toInt32 / 16) - (((v - v / 256 * 256)).toInt32 / 16) / 2 * 2))) 17 0 ((((v - v / 256 * 256)).toInt32 - ((v - v / 256 * 256)).toInt32 / 16 * 16))), J, QV Q) res) : mxRn 95 5 [(0, .ref 9), (1, .long p), (3, .long v), (5, .int 0), (6, .int k0)] [] (shV a sh, I, J, QV Q) res := by
  cases hb : Op.if_icmp.holds .lt ((v - v / 256 * 256).toInt32) (128) with
  | true => rw [hb] at H; exact up_0_0 hb H
  | false => rw [hb] at H; exact up_0_1 hb H
def cz (f : Nat → Int32) : Nat → Nat
  | 0 => 0
  | k + 1 => cz f k + (if f k = 0 then 0 else 1)
theorem cz_le (f : Nat → Int32) : ∀ N, cz f N ≤ N
  | 0 => Nat.le_refl _
  | k + 1 => by
    have := cz_le f k
    unfold cz
    split <;> omega
theorem cz_free {f : Nat → Int32} : ∀ {N : Nat}, cz f N < N → ∃ z, z < N ∧ f z = 0
  | 0, h => by omega
  | k + 1, h => by
    unfold cz at h
    by_cases hf : f k = 0
    · exact ⟨k, Nat.lt_succ_self k, hf⟩
    · rw [if_neg hf] at h
      obtain ⟨z, h1, h2⟩ := cz_free (f := f) (N := k) (by omega)
      exact ⟨z, by omega, h2⟩
theorem cz_upd {f g : Nat → Int32} {h : Nat} (hg : ∀ j, j ≠ h → g j = f j) : ∀ N, cz g N ≤ cz f N + (if h < N then 1 else 0)
  | 0 => by unfold cz; omega
  | k + 1 => by
    have ih := cz_upd hg k
    unfold cz
    by_cases hk : k = h
    · subst hk
      rw [if_neg (Nat.lt_irrefl k)] at ih
      rw [if_pos (Nat.lt_succ_self k)]
      split <;> split <;> omega
    · rw [hg k hk]
      by_cases h1 : h < k
      · rw [if_pos h1] at ih
        rw [if_pos (show h < k + 1 by omega)]
        omega
      · rw [if_neg h1] at ih
        rw [if_neg (show ¬ h < k + 1 by omega)]
        omega
theorem cz_zero {f : Nat → Int32} : ∀ {N : Nat}, (∀ j, j < N → f j = 0) → cz f N = 0
  | 0, _ => rfl
  | k + 1, h => by
    unfold cz
    rw [cz_zero (fun j hj => h j (by omega)), if_pos (h k (Nat.lt_succ_self k))]
