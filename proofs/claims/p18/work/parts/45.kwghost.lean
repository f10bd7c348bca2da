def k_me : sxK := ([(0, 0, 0, 0), (0, 9223372036854775807, 1, 0), ((-1), 20000, 0, 0), ((-2147483648), 2147483647, 0, 0), ((-2147483648), 2147483647, 0, 0), (0, 200, 0, 0), (0, 200, 0, 0), (0, 200, 0, 0), (0, 803, 0, 0), (0, 4, 0, 0), (0, 15, 0, 0), ((-2147483648), 2147483647, 0, 0), (0, 9223372036854775807, 1, 0), (0, 127, 0, 0), ((-2147483648), 2147483647, 0, 0), (0, 1, 0, 0), (0, 6, 0, 0), (0, 20001, 0, 0), ((-2147483648), 2147483647, 0, 0), (0, 1, 0, 0), (0, 10, 0, 0), ((-2147483648), 2147483647, 0, 0), ((-2147483648), 2147483647, 0, 0)], [(2, 9, 0), (1, 1, 0), (0, 2, 0), (0, 3, 0)], [(9, (8, 37, 0, 0, 0, some [(0, 4, 0), (2, 10, 0), (0, 5, 0), (0, 6, 0), (0, 7, 0), (0, 8, 0), (2, 11, 0), (2, 12, 0), (2, 13, 0), (2, 14, 0), (2, 15, 0), (2, 16, 0), (2, 17, 0), (2, 18, 0), (0, 9, 0), (0, 10, 0), (0, 11, 0), (1, 12, 0), (0, 13, 0), (0, 14, 0), (0, 15, 0), (0, 16, 0), (2, 19, 0), (2, 20, 0), (2, 21, 0), (2, 22, 0), (2, 23, 0), (2, 24, 0), (0, 17, 0), (0, 18, 0), (2, 25, 0), (0, 19, 0), (0, 20, 0), (0, 21, 0), (0, 22, 0), (2, 26, 0), (2, 27, 0)])), (21, (1, 20001, 0, 9223372036854775807, 1, none)), (22, (0, 20001, (-1), 20000, 0, none)), (23, (0, 20001, (-2147483648), 2147483647, 0, none)), (24, (0, 65536, 0, 20001, 0, none))], [([(0, 0, 0, 0), (0, 9223372036854775807, 1, 0), ((-1), 20000, 0, 0), ((-2147483648), 2147483647, 0, 0), ((-2147483648), 2147483647, 0, 0), (0, 200, 0, 0), (0, 200, 0, 0), (0, 200, 0, 0), (0, 803, 0, 0), (0, 4, 0, 0), (0, 15, 0, 0), ((-2147483648), 2147483647, 0, 0), (0, 9223372036854775807, 1, 0), (0, 127, 0, 0), ((-2147483648), 2147483647, 0, 0), (0, 1, 0, 0), (0, 6, 0, 0), (0, 20001, 0, 0), ((-2147483648), 2147483647, 0, 0), (0, 1, 0, 0), (0, 10, 0, 0), ((-2147483648), 2147483647, 0, 0), ((-2147483648), 2147483647, 0, 0)], none, [(9, (8, 37, 0, 0, 0, some [(0, 4, 0), (2, 10, 0), (0, 5, 0), (0, 6, 0), (0, 7, 0), (0, 8, 0), (2, 11, 0), (2, 12, 0), (2, 13, 0), (2, 14, 0), (2, 15, 0), (2, 16, 0), (2, 17, 0), (2, 18, 0), (0, 9, 0), (0, 10, 0), (0, 11, 0), (1, 12, 0), (0, 13, 0), (0, 14, 0), (0, 15, 0), (0, 16, 0), (2, 19, 0), (2, 20, 0), (2, 21, 0), (2, 22, 0), (2, 23, 0), (2, 24, 0), (0, 17, 0), (0, 18, 0), (2, 25, 0), (0, 19, 0), (0, 20, 0), (0, 21, 0), (0, 22, 0), (2, 26, 0), (2, 27, 0)])), (21, (1, 20001, 0, 9223372036854775807, 1, none)), (22, (0, 20001, (-1), 20000, 0, none)), (23, (0, 20001, (-2147483648), 2147483647, 0, none)), (24, (0, 65536, 0, 20001, 0, none))]), ([(0, 0, 0, 0), (0, 9223372036854775807, 1, 0), ((-1), 20000, 0, 0), ((-2147483648), 2147483647, 0, 0), ((-2147483648), 2147483647, 0, 0), (0, 200, 0, 0), (0, 200, 0, 0), (0, 200, 0, 0), (0, 803, 0, 0), (0, 4, 0, 0), (0, 15, 0, 0), ((-2147483648), 2147483647, 0, 0), (0, 9223372036854775807, 1, 0), (0, 127, 0, 0), ((-2147483648), 2147483647, 0, 0), (0, 1, 0, 0), (0, 6, 0, 0), (0, 20000, 0, 0), ((-2147483648), 2147483647, 0, 0), (0, 1, 0, 0), (0, 10, 0, 0), ((-2147483648), 2147483647, 0, 0), ((-2147483648), 2147483647, 0, 0)], none, [(9, (8, 37, 0, 0, 0, some [(0, 4, 0), (2, 10, 0), (0, 5, 0), (0, 6, 0), (0, 7, 0), (0, 8, 0), (2, 11, 0), (2, 12, 0), (2, 13, 0), (2, 14, 0), (2, 15, 0), (2, 16, 0), (2, 17, 0), (2, 18, 0), (0, 9, 0), (0, 10, 0), (0, 11, 0), (1, 12, 0), (0, 13, 0), (0, 14, 0), (0, 15, 0), (0, 16, 0), (2, 19, 0), (2, 20, 0), (2, 21, 0), (2, 22, 0), (2, 23, 0), (2, 24, 0), (0, 17, 1), (0, 18, 0), (2, 25, 0), (0, 19, 0), (0, 20, 0), (0, 21, 0), (0, 22, 0), (2, 26, 0), (2, 27, 0)])), (21, (1, 20001, 0, 9223372036854775807, 1, none)), (22, (0, 20001, (-1), 20000, 0, none)), (23, (0, 20001, (-2147483648), 2147483647, 0, none)), (24, (0, 65536, 0, 20001, 0, none))])])
def k_le : sxK := ([(0, 0, 0, 0), (0, 20000, 0, 0), ((-2147483648), 2147483647, 0, 0), (1, 10, 0, 0), ((-2147483648), 2147483647, 0, 0), (0, 200, 0, 0), (0, 200, 0, 0), (0, 200, 0, 0), (0, 803, 0, 0), (0, 4, 0, 0), (0, 15, 0, 0), ((-2147483648), 2147483647, 0, 0), (0, 9223372036854775807, 1, 0), (0, 127, 0, 0), ((-2147483648), 2147483647, 0, 0), (0, 1, 0, 0), (0, 6, 0, 0), (0, 20001, 0, 0), ((-2147483648), 2147483647, 0, 0), (0, 1, 0, 0), (0, 10, 0, 0), ((-2147483648), 2147483647, 0, 0), ((-2147483648), 2147483647, 0, 0)], [(2, 9, 0), (0, 1, 0), (0, 2, 0), (0, 3, 0)], [(9, (8, 37, 0, 0, 2, some [(0, 4, 0), (2, 10, 0), (0, 5, 0), (0, 6, 0), (0, 7, 0), (0, 8, 0), (2, 11, 0), (2, 12, 0), (2, 13, 0), (2, 14, 0), (2, 15, 0), (2, 16, 0), (2, 17, 0), (2, 18, 0), (0, 9, 0), (0, 10, 0), (0, 11, 0), (1, 12, 0), (0, 13, 0), (0, 14, 0), (0, 15, 0), (0, 16, 0), (2, 19, 0), (2, 20, 0), (2, 21, 0), (2, 22, 0), (2, 23, 0), (2, 24, 0), (0, 17, 0), (0, 18, 0), (2, 25, 0), (0, 19, 0), (0, 20, 0), (0, 21, 0), (0, 22, 0), (2, 26, 0), (2, 27, 0)])), (22, (0, 20001, (-1), 20000, 2, none)), (23, (0, 20001, (-2147483648), 2147483647, 2, none)), (25, (0, 10, (-2147483648), 2147483647, 0, none))], [([(0, 0, 0, 0), (0, 20000, 0, 0), ((-2147483648), 2147483647, 0, 0), (1, 10, 0, 0), ((-2147483648), 2147483647, 0, 0), (0, 200, 0, 0), (0, 200, 0, 0), (0, 200, 0, 0), (0, 803, 0, 0), (0, 4, 0, 0), (0, 15, 0, 0), ((-2147483648), 2147483647, 0, 0), (0, 9223372036854775807, 1, 0), (0, 127, 0, 0), ((-2147483648), 2147483647, 0, 0), (0, 1, 0, 0), (0, 6, 0, 0), (0, 20001, 0, 0), ((-2147483648), 2147483647, 0, 0), (0, 1, 0, 0), (0, 10, 0, 0), ((-2147483648), 2147483647, 0, 0), ((-2147483648), 2147483647, 0, 0)], none, [(25, (0, 10, (-2147483648), 2147483647, 0, none))])])
theorem ce_pi {W0 : Nat} {ρ : Nat → Int} {n : Nat} {w : mxW} {a N j fl : Nat} {lo hi : Int} {x : Int32} (h : sx_ce W0 ρ n w a (0, N, lo, hi, fl, none)) (hx : lo ≤ x.toInt ∧ x.toInt ≤ hi) (hf : fl % 2 = 0) : sx_ce W0 ρ n (mxpi w a j x) a (0, N, lo, hi, fl, none) := by
  obtain ⟨p1, p2, p3⟩ := sx_pi_el (w := w) (a := a) (j := j) (x := x) (t := 0) (Or.inl rfl)
  refine ⟨h.1, h.2.1, fun k hk => ?_⟩
  show lo ≤ sx_nu _ a 0 k ∧ sx_nu _ a 0 k ≤ hi ∧ (fl % 2 = 1 → sx_V (sx_nu _ a 0 k))
  by_cases hkj : k = j
  · subst hkj
    rw [p2]
    exact ⟨hx.1, hx.2, fun q => by rw [hf] at q; cases q⟩
  · rw [(p3 k hkj).2]
    exact h.2.2 k hk
theorem ce_pj {W0 : Nat} {ρ : Nat → Int} {n : Nat} {w : mxW} {a N j fl : Nat} {lo hi : Int} {x : Int64} (h : sx_ce W0 ρ n w a (1, N, lo, hi, fl, none)) (hx : lo ≤ x.toInt ∧ x.toInt ≤ hi) (hv : sx_V x.toInt) : sx_ce W0 ρ n (mxpj w a j x) a (1, N, lo, hi, fl, none) := by
  obtain ⟨p1, p2, p3⟩ := sx_pj_el (w := w) (a := a) (j := j) (x := x)
  refine ⟨h.1, h.2.1, fun k hk => ?_⟩
  show lo ≤ sx_nu _ a 1 k ∧ sx_nu _ a 1 k ≤ hi ∧ (fl % 2 = 1 → sx_V (sx_nu _ a 1 k))
  by_cases hkj : k = j
  · subst hkj
    rw [p2]
    exact ⟨hx.1, hx.2, fun _ => hv⟩
  · rw [(p3 k hkj).2]
    exact h.2.2 k hk
/-- what meets makes of the ghosts: nothing, or one state more -/
def me_G (w w' : mxW) (f : Int32) : Prop := w' = w ∨ ((w.2.1 9 28).toInt ≤ 20000 ∧ (w'.2.1 9 28).toInt = (w.2.1 9 28).toInt + 1 ∧ cz (w'.2.1 24) 65536 ≤ cz (w.2.1 24) 65536 + 1 ∧ (∀ j, j ≠ (w.2.1 9 28).toInt.toNat → w'.2.1 22 j = w.2.1 22 j) ∧ w'.2.1 22 (w.2.1 9 28).toInt.toNat = f)

set_option maxHeartbeats 1000000 in
theorem me_w {w : mxW} (hs25 : w.1[25]? = some (0, 10)) (hq30 : w.2.2.2 9 30 = .ref 25) (hz : cz (w.2.1 24) 65536 < 65536) (W0 : Nat) (S : Nat → Prop) (ρ : Nat → Int) : sx_Cw 116 k_me W0 S ρ w ∧ (sx_γ W0 S ρ (k_me.1, sx_la 0 k_me.2.1, [], k_me.2.2.1, 1000) (lv_args 0 (k_me.2.1.map (sx_val W0 ρ))) [] w → ∃ w1, mxRn 116 0 (lv_args 0 (k_me.2.1.map (sx_val W0 ρ))) [] w (none, w1) ∧ me_G w w1 (Int32.ofInt (ρ 2 + 0))) := by
  suffices hmain : sx_γ W0 S ρ (k_me.1, sx_la 0 k_me.2.1, [], k_me.2.2.1, 1000) (lv_args 0 (k_me.2.1.map (sx_val W0 ρ))) [] w → ∃ w1, mxRn 116 0 (lv_args 0 (k_me.2.1.map (sx_val W0 ρ))) [] w (none, w1) ∧ me_G w w1 (Int32.ofInt (ρ 2 + 0)) ∧ ∃ p ∈ k_me.2.2.2, p.2.1 = none ∧ k_me.1.length ≤ p.1.length ∧ sx_γ W0 S ρ (p.1, [], [], p.2.2, 1000) [] [] w1 ∧ sx_Fr S w w1 by
    refine ⟨fun hγ => ?_, fun hγ => ?_⟩
    · obtain ⟨w1, h1, -, p, h3, h4, h5, h6, h7⟩ := hmain hγ
      refine ⟨p, h3, ρ, w1, fun _ _ => rfl, h5, ?_, ?_, h7⟩
      · rw [h4]; exact h1
      · rw [h4]; exact h6
    · obtain ⟨w1, h1, h2, -⟩ := hmain hγ
      exact ⟨w1, h1, h2⟩
  intro hγ
  obtain ⟨shw, I, J, Q⟩ := w
  obtain ⟨g1, g2, g3, g4, g5⟩ := hγ
  have hm9 := g4 _ (List.mem_of_getElem? (i := 0) rfl)
  have hc9 := hm9.1
  dsimp only at hc9
  rw [sx_ad_lt (show 9 < 1000 by decide)] at hc9
  have hm21 := g4 _ (List.mem_of_getElem? (i := 1) rfl)
  have hc21 := hm21.1
  dsimp only at hc21
  rw [sx_ad_lt (show 21 < 1000 by decide)] at hc21
  have hm22 := g4 _ (List.mem_of_getElem? (i := 2) rfl)
  have hc22 := hm22.1
  dsimp only at hc22
  rw [sx_ad_lt (show 22 < 1000 by decide)] at hc22
  have hm23 := g4 _ (List.mem_of_getElem? (i := 3) rfl)
  have hc23 := hm23.1
  dsimp only at hc23
  rw [sx_ad_lt (show 23 < 1000 by decide)] at hc23
  have hm24 := g4 _ (List.mem_of_getElem? (i := 4) rfl)
  have hc24 := hm24.1
  dsimp only at hc24
  rw [sx_ad_lt (show 24 < 1000 by decide)] at hc24
  have hs9 : shw[9]? = some (8, 37) := hc9.1
  have hs21 : shw[21]? = some (1, 20001) := hc21.1
  have hs22 : shw[22]? = some (0, 20001) := hc22.1
  have hs23 : shw[23]? = some (0, 20001) := hc23.1
  have hs24 : shw[24]? = some (0, 65536) := hc24.1
  obtain ⟨a, sh, rfl⟩ := shW_ex shw hs9 hs21 hs22 hs23 hs24 hs25
  have hq24 : Q 9 24 = .ref 21 := (hc9.2 24 (2, 21, 0) rfl).2.trans (congrArg Value.ref (sx_ad_lt (show 21 < 1000 by decide)))
  have hq25 : Q 9 25 = .ref 22 := (hc9.2 25 (2, 22, 0) rfl).2.trans (congrArg Value.ref (sx_ad_lt (show 22 < 1000 by decide)))
  have hq26 : Q 9 26 = .ref 23 := (hc9.2 26 (2, 23, 0) rfl).2.trans (congrArg Value.ref (sx_ad_lt (show 23 < 1000 by decide)))
  have hq27 : Q 9 27 = .ref 24 := (hc9.2 27 (2, 24, 0) rfl).2.trans (congrArg Value.ref (sx_ad_lt (show 24 < 1000 by decide)))
  have hQ : QW Q = Q := QW_eq hq24 hq25 hq26 hq27 hq30
  have bS := g1.2.2 17 _ rfl
  have bS2 : (0 : Int) ≤ ρ 17 ∧ ρ 17 ≤ 20001 := ⟨bS.1, bS.2.1⟩
  have vS : (I 9 28).toInt = ρ 17 := sx_ofi (hc9.2 28 (0, 17, 0) rfl).2 (by omega) (by omega)
  have bV := g1.2.2 1 _ rfl
  have bV2 : (0 : Int) ≤ ρ 1 ∧ ρ 1 ≤ 9223372036854775807 := ⟨bV.1, bV.2.1⟩
  have vV : (Int64.ofInt (ρ 1 + 0)).toInt = ρ 1 := by rw [Int.add_zero]; exact Int64.toInt_ofInt_of_le (by omega) (by omega)
  have bF := g1.2.2 2 _ rfl
  have bF2 : (-1 : Int) ≤ ρ 2 ∧ ρ 2 ≤ 20000 := ⟨bF.1, bF.2.1⟩
  have vF : (Int32.ofInt (ρ 2 + 0)).toInt = ρ 2 := by rw [Int.add_zero]; exact Int32.toInt_ofInt_of_le (by omega) (by omega)
  have hb : ∀ j, j < 65536 → 0 ≤ (I 24 j).toInt ∧ (I 24 j).toInt ≤ 20001 := fun j hj => ⟨(hc24.2.2 j hj).1, (hc24.2.2 j hj).2.1⟩
  have ea : lv_args 0 (k_me.2.1.map (sx_val W0 ρ)) = [(0, .ref 9), (1, .long (Int64.ofInt (ρ 1 + 0))), (3, .int (Int32.ofInt (ρ 2 + 0))), (4, .int (Int32.ofInt (ρ 3 + 0)))] := by
    show [(0, Value.ref (sx_ad W0 9)), (1, Value.long (Int64.ofInt (ρ 1 + 0))), (3, Value.int (Int32.ofInt (ρ 2 + 0))), (4, Value.int (Int32.ofInt (ρ 3 + 0)))] = _
    rw [sx_ad_lt (show 9 < 1000 by decide)]
  rw [ea]
  have hm := me_C (a := a) (sh := sh) (I := I) (J := J) (Q := Q) (v := Int64.ofInt (ρ 1 + 0)) (f := Int32.ofInt (ρ 2 + 0)) (l := Int32.ofInt (ρ 3 + 0)) hz hb (by omega)
  rw [hQ] at hm
  have γ0 : sx_γ W0 S ρ (k_me.1, [], [], k_me.2.2.1, 1000) [] [] (shW a sh, I, J, Q) := ⟨g1, ⟨rfl, fun q hq => absurd hq List.not_mem_nil⟩, g3, g4, g5⟩
  rcases hm with hm | ⟨hle, h, h0, h1, h24, hm⟩
  · exact ⟨_, hm, Or.inl rfl, _, List.mem_of_getElem? (i := 0) rfl, rfl, Nat.le_refl _, γ0, sx_Fr.rf⟩
  · have e1 : (I 9 28 + 1).toInt = (I 9 28).toInt + 1 := by
      have c1 : (1 : Int32).toInt = 1 := rfl
      rw [Int32.toInt_add, c1]
      exact Int.bmod_eq_of_le (by omega) (by omega)
    have q0 : sx_ce W0 ρ k_me.1.length (shW a sh, I, J, Q) (sx_ad W0 21) (1, 20001, 0, 9223372036854775807, 1, none) := (γ0.2.2.2.1 (21, (1, 20001, 0, 9223372036854775807, 1, none)) (List.mem_of_getElem? (i := 1) rfl)).1
    rw [sx_ad_lt (show 21 < 1000 by decide)] at q0
    obtain ⟨γ1, f0⟩ := sx_γ_wr (k := 21) (w' := (mxpj (shW a sh, I, J, Q) 21 (I 9 28).toNatClampNeg (Int64.ofInt (ρ 1 + 0)))) γ0 rfl (by decide) rfl (fun a ha => ⟨rfl, if_neg (by rw [sx_ad_lt (show 21 < 1000 by decide)] at ha; exact ha), rfl⟩) (by rw [sx_ad_lt (show 21 < 1000 by decide)]; exact ce_pj q0 ⟨by rw [vV]; omega, by rw [vV]; omega⟩ (by rw [vV]; exact bV.2.2.1 rfl))
    have q1 : sx_ce W0 ρ k_me.1.length (mxpj (shW a sh, I, J, Q) 21 (I 9 28).toNatClampNeg (Int64.ofInt (ρ 1 + 0))) (sx_ad W0 22) (0, 20001, (-1), 20000, 0, none) := (γ1.2.2.2.1 (22, (0, 20001, (-1), 20000, 0, none)) (List.mem_of_getElem? (i := 2) rfl)).1
    rw [sx_ad_lt (show 22 < 1000 by decide)] at q1
    obtain ⟨γ2, f1⟩ := sx_γ_wr (k := 22) (w' := (mxpi (mxpj (shW a sh, I, J, Q) 21 (I 9 28).toNatClampNeg (Int64.ofInt (ρ 1 + 0))) 22 (I 9 28).toNatClampNeg (Int32.ofInt (ρ 2 + 0)))) γ1 rfl (by decide) rfl (fun a ha => ⟨if_neg (by rw [sx_ad_lt (show 22 < 1000 by decide)] at ha; exact ha), rfl, rfl⟩) (by rw [sx_ad_lt (show 22 < 1000 by decide)]; exact ce_pi q1 ⟨by rw [vF]; omega, by rw [vF]; omega⟩ rfl)
    have q2 : sx_ce W0 ρ k_me.1.length (mxpi (mxpj (shW a sh, I, J, Q) 21 (I 9 28).toNatClampNeg (Int64.ofInt (ρ 1 + 0))) 22 (I 9 28).toNatClampNeg (Int32.ofInt (ρ 2 + 0))) (sx_ad W0 23) (0, 20001, (-2147483648), 2147483647, 0, none) := (γ2.2.2.2.1 (23, (0, 20001, (-2147483648), 2147483647, 0, none)) (List.mem_of_getElem? (i := 3) rfl)).1
    rw [sx_ad_lt (show 23 < 1000 by decide)] at q2
    obtain ⟨γ3, f2⟩ := sx_γ_wr (k := 23) (w' := (mxpi (mxpi (mxpj (shW a sh, I, J, Q) 21 (I 9 28).toNatClampNeg (Int64.ofInt (ρ 1 + 0))) 22 (I 9 28).toNatClampNeg (Int32.ofInt (ρ 2 + 0))) 23 (I 9 28).toNatClampNeg (Int32.ofInt (ρ 3 + 0)))) γ2 rfl (by decide) rfl (fun a ha => ⟨if_neg (by rw [sx_ad_lt (show 23 < 1000 by decide)] at ha; exact ha), rfl, rfl⟩) (by rw [sx_ad_lt (show 23 < 1000 by decide)]; exact ce_pi q2 (sx_top_ok _) rfl)
    have q3 : sx_ce W0 ρ k_me.1.length (mxpi (mxpi (mxpj (shW a sh, I, J, Q) 21 (I 9 28).toNatClampNeg (Int64.ofInt (ρ 1 + 0))) 22 (I 9 28).toNatClampNeg (Int32.ofInt (ρ 2 + 0))) 23 (I 9 28).toNatClampNeg (Int32.ofInt (ρ 3 + 0))) (sx_ad W0 9) (8, 37, 0, 0, 0, some [(0, 4, 0), (2, 10, 0), (0, 5, 0), (0, 6, 0), (0, 7, 0), (0, 8, 0), (2, 11, 0), (2, 12, 0), (2, 13, 0), (2, 14, 0), (2, 15, 0), (2, 16, 0), (2, 17, 0), (2, 18, 0), (0, 9, 0), (0, 10, 0), (0, 11, 0), (1, 12, 0), (0, 13, 0), (0, 14, 0), (0, 15, 0), (0, 16, 0), (2, 19, 0), (2, 20, 0), (2, 21, 0), (2, 22, 0), (2, 23, 0), (2, 24, 0), (0, 17, 0), (0, 18, 0), (2, 25, 0), (0, 19, 0), (0, 20, 0), (0, 21, 0), (0, 22, 0), (2, 26, 0), (2, 27, 0)]) := (γ3.2.2.2.1 (9, (8, 37, 0, 0, 0, some [(0, 4, 0), (2, 10, 0), (0, 5, 0), (0, 6, 0), (0, 7, 0), (0, 8, 0), (2, 11, 0), (2, 12, 0), (2, 13, 0), (2, 14, 0), (2, 15, 0), (2, 16, 0), (2, 17, 0), (2, 18, 0), (0, 9, 0), (0, 10, 0), (0, 11, 0), (1, 12, 0), (0, 13, 0), (0, 14, 0), (0, 15, 0), (0, 16, 0), (2, 19, 0), (2, 20, 0), (2, 21, 0), (2, 22, 0), (2, 23, 0), (2, 24, 0), (0, 17, 0), (0, 18, 0), (2, 25, 0), (0, 19, 0), (0, 20, 0), (0, 21, 0), (0, 22, 0), (2, 26, 0), (2, 27, 0)])) (List.mem_of_getElem? (i := 0) rfl)).1
    rw [sx_ad_lt (show 9 < 1000 by decide)] at q3
    obtain ⟨γ4, f3⟩ := sx_γ_wr (k := 9) (w' := (mxpi (mxpi (mxpi (mxpj (shW a sh, I, J, Q) 21 (I 9 28).toNatClampNeg (Int64.ofInt (ρ 1 + 0))) 22 (I 9 28).toNatClampNeg (Int32.ofInt (ρ 2 + 0))) 23 (I 9 28).toNatClampNeg (Int32.ofInt (ρ 3 + 0))) 9 28 (I 9 28 + 1))) γ3 rfl (by decide) rfl (fun a ha => ⟨if_neg (by rw [sx_ad_lt (show 9 < 1000 by decide)] at ha; exact ha), rfl, rfl⟩) (by rw [sx_ad_lt (show 9 < 1000 by decide)]; exact sx_fw (v := (0, 17, 1)) (j := 28) q3 rfl (fun _ => (by decide)) (by rw [sx_v0 rfl]; show Value.int (I 9 28 + 1) = _; congr 1; rw [← vS]; exact (Int32.toInt_inj.mp (by rw [e1]; exact (Int32.toInt_ofInt_of_le (by show -2147483648 ≤ (I 9 28).toInt + 1; omega) (by show (I 9 28).toInt + 1 < 2147483648; omega)).symm))) (fun k hk => mxgf_pi 4 k hk))
    have q4 : sx_ce W0 ρ k_me.1.length (mxpi (mxpi (mxpi (mxpj (shW a sh, I, J, Q) 21 (I 9 28).toNatClampNeg (Int64.ofInt (ρ 1 + 0))) 22 (I 9 28).toNatClampNeg (Int32.ofInt (ρ 2 + 0))) 23 (I 9 28).toNatClampNeg (Int32.ofInt (ρ 3 + 0))) 9 28 (I 9 28 + 1)) (sx_ad W0 24) (0, 65536, 0, 20001, 0, none) := (γ4.2.2.2.1 (24, (0, 65536, 0, 20001, 0, none)) (List.mem_of_getElem? (i := 4) rfl)).1
    rw [sx_ad_lt (show 24 < 1000 by decide)] at q4
    obtain ⟨γ5, f4⟩ := sx_γ_wr (k := 24) (w' := (mxpi (mxpi (mxpi (mxpi (mxpj (shW a sh, I, J, Q) 21 (I 9 28).toNatClampNeg (Int64.ofInt (ρ 1 + 0))) 22 (I 9 28).toNatClampNeg (Int32.ofInt (ρ 2 + 0))) 23 (I 9 28).toNatClampNeg (Int32.ofInt (ρ 3 + 0))) 9 28 (I 9 28 + 1)) 24 h.toNatClampNeg (I 9 28 + 1))) γ4 rfl (by decide) rfl (fun a ha => ⟨if_neg (by rw [sx_ad_lt (show 24 < 1000 by decide)] at ha; exact ha), rfl, rfl⟩) (by rw [sx_ad_lt (show 24 < 1000 by decide)]; exact ce_pi q4 ⟨by rw [e1]; omega, by rw [e1]; omega⟩ rfl)
    refine ⟨_, hm, Or.inr ⟨hle, e1, ?_, fun j hj => ?_, ?_⟩, _, List.mem_of_getElem? (i := 1) rfl, rfl, Nat.le_refl _, ⟨?_, γ5.2⟩, (((f0.tr f1).tr f2).tr f3).tr f4⟩
    · have hu := cz_upd (f := I 24) (g := upd (I 24) h.toNatClampNeg (I 9 28 + 1)) (h := h.toNatClampNeg) (fun j hj => if_neg hj) 65536
      refine Nat.le_trans hu ?_
      show cz (I 24) 65536 + _ ≤ cz (I 24) 65536 + 1
      split <;> omega
    · show upd (I 22) (I 9 28).toNatClampNeg _ j = I 22 j
      exact if_neg hj
    · show upd (I 22) (I 9 28).toNatClampNeg _ (I 9 28).toInt.toNat = _
      exact if_pos rfl
    · have hE : (match k_me.2.2.2 with | _ :: p :: _ => p.1 | _ => []) = k_me.1.set 17 (0, 20000, 0, 0) := rfl
      show sx_env (match k_me.2.2.2 with | _ :: p :: _ => p.1 | _ => []) ρ
      rw [hE]
      refine ⟨g1.1, by rw [List.length_set]; exact g1.2.1, fun i q hq => ?_⟩
      rw [List.length_set]
      by_cases hi : i = 17
      · subst hi
        rw [List.getElem?_set_self (by decide)] at hq
        cases hq
        exact ⟨bS2.1, by show ρ 17 ≤ 20000; omega, bS.2.2⟩
      · rw [List.getElem?_set_ne (Ne.symm hi)] at hq
        exact g1.2.2 i q hq
theorem le_w {w : mxW} (hs21 : w.1[21]? = some (1, 20001)) (hs24 : w.1[24]? = some (0, 65536)) (hq24 : w.2.2.2 9 24 = .ref 21) (hq27 : w.2.2.2 9 27 = .ref 24) (W0 : Nat) (S : Nat → Prop) (ρ : Nat → Int) (hd : dpt (w.2.1 22) (ρ 3 - 1).toNat (ρ 1).toNat) : sx_Cw 118 k_le W0 S ρ w := by
  intro hγ
  obtain ⟨shw, I, J, Q⟩ := w
  obtain ⟨g1, g2, g3, g4, g5⟩ := hγ
  have hm9 := g4 _ (List.mem_of_getElem? (i := 0) rfl)
  have hc9 := hm9.1
  dsimp only at hc9
  rw [sx_ad_lt (show 9 < 1000 by decide)] at hc9
  have hm22 := g4 _ (List.mem_of_getElem? (i := 1) rfl)
  have hc22 := hm22.1
  dsimp only at hc22
  rw [sx_ad_lt (show 22 < 1000 by decide)] at hc22
  have hm23 := g4 _ (List.mem_of_getElem? (i := 2) rfl)
  have hc23 := hm23.1
  dsimp only at hc23
  rw [sx_ad_lt (show 23 < 1000 by decide)] at hc23
  have hm25 := g4 _ (List.mem_of_getElem? (i := 3) rfl)
  have hc25 := hm25.1
  dsimp only at hc25
  rw [sx_ad_lt (show 25 < 1000 by decide)] at hc25
  have hs9 : shw[9]? = some (8, 37) := hc9.1
  have hs22 : shw[22]? = some (0, 20001) := hc22.1
  have hs23 : shw[23]? = some (0, 20001) := hc23.1
  have hs25 : shw[25]? = some (0, 10) := hc25.1
  obtain ⟨a, sh, rfl⟩ := shW_ex shw hs9 hs21 hs22 hs23 hs24 hs25
  have hq25 : Q 9 25 = .ref 22 := (hc9.2 25 (2, 22, 0) rfl).2.trans (congrArg Value.ref (sx_ad_lt (show 22 < 1000 by decide)))
  have hq26 : Q 9 26 = .ref 23 := (hc9.2 26 (2, 23, 0) rfl).2.trans (congrArg Value.ref (sx_ad_lt (show 23 < 1000 by decide)))
  have hq30 : Q 9 30 = .ref 25 := (hc9.2 30 (2, 25, 0) rfl).2.trans (congrArg Value.ref (sx_ad_lt (show 25 < 1000 by decide)))
  have hQ : QW Q = Q := QW_eq hq24 hq25 hq26 hq27 hq30
  have bk := g1.2.2 1 _ rfl
  have bk2 : (0 : Int) ≤ ρ 1 ∧ ρ 1 ≤ 20000 := ⟨bk.1, bk.2.1⟩
  have vk : (Int32.ofInt (ρ 1 + 0)).toInt = ρ 1 := by rw [Int.add_zero]; exact Int32.toInt_ofInt_of_le (by omega) (by omega)
  have bd := g1.2.2 3 _ rfl
  have bd2 : (1 : Int) ≤ ρ 3 ∧ ρ 3 ≤ 10 := ⟨bd.1, bd.2.1⟩
  have vd : (Int32.ofInt (ρ 3 + 0)).toInt = ρ 3 := by rw [Int.add_zero]; exact Int32.toInt_ofInt_of_le (by omega) (by omega)
  obtain ⟨I', h1, h2⟩ := le_C (a := a) (sh := sh) (I := I) (J := J) (Q := Q) (k := Int32.ofInt (ρ 1 + 0)) (l := Int32.ofInt (ρ 2 + 0)) (dp := Int32.ofInt (ρ 3 + 0)) (by rw [vd]; omega) (by rw [vk]; omega) (by rw [vd, vk]; exact hd)
  rw [hQ] at h2
  refine ⟨_, List.mem_singleton.mpr rfl, ρ, (shW a sh, I', J, Q), fun _ _ => rfl, Nat.le_refl _, ?_, ⟨g1, ⟨rfl, fun q hq => absurd hq List.not_mem_nil⟩, ⟨rfl, fun v hv => absurd hv List.not_mem_nil⟩, fun q hq => ?_, g5⟩, ⟨[], (List.append_nil _).symm⟩, fun x hx => ⟨h1 x (fun e => hx ?_), rfl, rfl⟩⟩
  · show mxRn 118 0 [(0, .ref (sx_ad W0 9)), (1, .int (Int32.ofInt (ρ 1 + 0))), (2, .int (Int32.ofInt (ρ 2 + 0))), (3, .int (Int32.ofInt (ρ 3 + 0)))] [] _ _
    rw [sx_ad_lt (show 9 < 1000 by decide)]
    exact h2
  · cases List.mem_singleton.mp hq
    refine ⟨?_, hm25.2⟩
    dsimp only
    rw [sx_ad_lt (show 25 < 1000 by decide)]
    exact ⟨hc25.1, hc25.2.1, fun j hj => ⟨(sx_top_ok _).1, (sx_top_ok _).2, fun q => absurd q (by decide)⟩⟩
  · rw [e]
    have q := hm25.2.1 (by decide)
    dsimp only at q
    rw [sx_ad_lt (show 25 < 1000 by decide)] at q
    exact q
