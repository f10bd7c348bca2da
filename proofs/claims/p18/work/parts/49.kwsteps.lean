/-! walks: the lengths, and the inductions -/
theorem γ_len {W0 W1 : Nat} {S S' : Nat → Prop} {ρ ρ' : Nat → Int} {A A' : sxA} {lv lv' : mxV} {st st' : List Value} {w w' : mxW} (h : sx_γ W0 S ρ A lv st w) (h' : sx_γ W0 S' ρ' A' lv' st' w') (e : A'.2.2.2.2 = A.2.2.2.2) : w'.1.length = w.1.length := by
  rw [h.2.2.2.2.1, h'.2.2.2.2.1, e]
/-- the ghosts, after a block -/
theorem G75.cg {ρ0 ρ ρ' : Nat → Int} {w w' : mxW} (h : G75 ρ0 ρ w) (hl : w'.1.length = w.1.length) (e22 : w'.2.1 22 = w.2.1 22) (e24 : w'.2.1 24 = w.2.1 24) (h17 : ρ' 17 = ρ 17) (h42 : ρ' 42 = ρ 42) (h43 : ρ' 43 = ρ 43) (hkp : ∀ i ∈ KP, ρ' i = ρ i) : G75 ρ0 ρ' w' := by
  obtain ⟨a1, a2, a3, a4, a5, a6⟩ := h
  refine ⟨by rw [hl]; exact a1, ?_, a3.cg e22 h43 (by rw [h42]), a4.cg e22 h17 h42, by rw [h43, h17]; exact a5, fun i hi => (hkp i hi).trans (a6 i hi)⟩
  unfold wG
  rw [e24, h17]
  exact a2

theorem f85a {W0 : Nat} {S : Nat → Prop} (hS : ∀ k, 21 ≤ k → k ≤ 25 → S k) {ρ0 ρ : Nat → Int} {lv : mxV} {w : mxW} (hγ : sx_γ W0 S ρ v85a lv [] w) (hG : G75 ρ0 ρ w) (hk : ρ 44 < ρ 43) (h85 : ∀ (ρ1 : Nat → Int) (lv1 : mxV) (w1 : mxW), sx_γ W0 S ρ1 v85b lv1 [] w1 → G75 ρ0 ρ1 w1 → ρ1 44 < ρ1 43 → ρ1 42 = ρ 42 → ρ1 43 = ρ 43 → ρ1 44 = ρ 44 → wFIN W0 S ρ0 85 lv1 [] w1) : wFIN W0 S ρ0 85 lv [] w := by
  obtain ⟨y, hy, ρ1, lv1, st1, w1, a1, a2, a3, a4, a5, a6, a7⟩ := wblk b85a (by decide) (by decide) hS hG.1 hγ
  simp only [Y85a, List.mem_cons, List.not_mem_nil, or_false] at hy
  rcases hy with rfl | rfl | rfl
  · have g := (sx_sub_ok a2 s85a_0_ok).1
    have e := g.2.2.1.1
    replace e : st1 = [] := e
    subst e
    refine wFIN.go a7 a3 (h85 _ _ _ g (hG.cg a4 a5 a6 (show ρ1 17 + 0 = ρ 17 by rw [Int.add_zero, a1 17 (by decide)]) (show ρ1 42 + 0 = ρ 42 by rw [Int.add_zero, a1 42 (by decide)]) (show ρ1 43 + 0 = ρ 43 by rw [Int.add_zero, a1 43 (by decide)]) (fun i hi => (kps_ok s85a_0_kp i hi).trans (a1 i (Nat.lt_trans (KP_lt i hi) (by decide))))) ?_ (show ρ1 42 + 0 = ρ 42 by rw [Int.add_zero, a1 42 (by decide)]) (show ρ1 43 + 0 = ρ 43 by rw [Int.add_zero, a1 43 (by decide)]) (show ρ1 44 + 0 = ρ 44 by rw [Int.add_zero, a1 44 (by decide)]))
    show ρ1 44 + 0 < ρ1 43 + 0
    rw [a1 43 (by decide), a1 44 (by decide)]
    omega
  · obtain ⟨g0, g1, g2, g3, g4, g5⟩ : G75 ρ0 ρ1 w1 := hG.cg a4 a5 a6 (a1 17 (by decide)) (a1 42 (by decide)) (a1 43 (by decide)) (fun i hi => a1 i (Nat.lt_trans (KP_lt i hi) (by decide)))
    have b17 : (0 : Int) ≤ ρ1 17 ∧ ρ1 17 ≤ 20001 := ⟨(a2.1.2.2 17 _ rfl).1, (a2.1.2.2 17 _ rfl).2.1⟩
    have b42 : (1 : Int) ≤ ρ1 42 ∧ ρ1 42 ≤ 10 := ⟨(a2.1.2.2 42 _ rfl).1, (a2.1.2.2 42 _ rfl).2.1⟩
    have b44 : (0 : Int) ≤ ρ1 44 ∧ ρ1 44 ≤ 20000 := ⟨(a2.1.2.2 44 _ rfl).1, (a2.1.2.2 44 _ rfl).2.1⟩
    have hk1 : ρ1 44 < ρ1 43 := by rw [a1 44 (by decide), a1 43 (by decide)]; exact hk
    obtain ⟨hs, hq, hbz⟩ := wshp a2 rfl rfl rfl rfl rfl rfl rfl rfl rfl rfl rfl
    obtain rfl : lv1 = y85a_1.2.1.map (sx_lv W0 ρ1) := a2.2.1.1
    obtain rfl : st1 = y85a_1.2.2.1.map (sx_val W0 ρ1) := a2.2.2.1.1
    have hst : (w1.2.1 9 28).toInt = ρ1 17 := (stv (t := 8) (s := 17) (o := 0) a2 rfl rfl rfl (by decide)).trans (Int.add_zero _)
    have hz : cz (w1.2.1 24) 65536 < 65536 := by unfold wG at g1; omega
    obtain ⟨y2, hy2, ρ2, w2, rv, c1, c2, c3, c4, c5⟩ := wcall (fun W1 S1 => (me_w hs.2.2.2.2.2 hq.2.2.2.2 hz W1 S1 _).1) rma a2
    have run : ∀ res, mxRn 117 174 (y85a_1.2.1.map (sx_lv W0 ρ1)) (rv.toList ++ []) w2 res → mxRn 117 171 (y85a_1.2.1.map (sx_lv W0 ρ1)) (y85a_1.2.2.1.map (sx_val W0 ρ1)) w1 res := fun res H =>
      wvir (pc := 171) (n := 238) (len := 3) (z := 116) (zi := miX5_meets) (E := y85a_1.1) (la := y85a_1.2.1) (sa := y85a_1.2.2.1) (r := []) (H := y85a_1.2.2.2.1) (c := y85a_1.2.2.2.2) (v := (2, 9, 0)) rfl rfl rfl rfl rfl rfl (by decide +kernel) a2 c3 H
    have hme := me_D (me_G2 (v := Int64.ofInt (ρ1 48 + 0)) (f := Int32.ofInt (ρ1 44 + 0)) (l := Int32.ofInt (ρ1 0 + 0)) hs hq hbz hz (by rw [hst]; exact b17.1) c3) hst b17.1 b42.1 (k := ρ1 44) (by rw [Int.add_zero]; exact Int32.toInt_ofInt_of_le (by omega) (by omega)) (Or.inl ⟨b44.1, hk1⟩) g4 g1 g2 g3
    obtain ⟨m1, m2, m3, m4⟩ := hme
    simp only [List.mem_cons, List.not_mem_nil, or_false] at hy2
    rcases hy2 with rfl | rfl
    · have hst2 : (w2.2.1 9 28).toInt = ρ2 17 + 0 := stv (t := 8) (s := 17) (o := 0) c4 rfl rfl rfl (by decide)
      rw [hst2] at m1 m3 m4
      have hl2 : w2.1.length = w1.1.length := γ_len (W1 := W0) a2 c4 rfl
      obtain ⟨y3, hy3, ρ3, lv3, st3, w3, d1, d2, d3, d4, d5, d6, d7⟩ := wblk b174a0 (by decide) (by decide) hS (by rw [hl2]; exact g0) c4
      simp only [Y174a0, List.mem_cons, List.not_mem_nil, or_false] at hy3
      subst hy3
      have g := (sx_sub_ok d2 s174a0_0_ok).1
      have e := g.2.2.1.1
      replace e : st3 = [] := e
      subst e
      have z17 : ρ3 17 = ρ2 17 := d1 17 (by decide)
      have z42 : ρ3 42 = ρ 42 := (d1 42 (by decide)).trans ((c1 42 (by decide)).trans (a1 42 (by decide)))
      have z43 : ρ3 43 = ρ 43 := (d1 43 (by decide)).trans ((c1 43 (by decide)).trans (a1 43 (by decide)))
      have z44 : ρ3 44 = ρ 44 := (d1 44 (by decide)).trans ((c1 44 (by decide)).trans (a1 44 (by decide)))
      have z45 : ρ3 45 = ρ 45 := (d1 45 (by decide)).trans ((c1 45 (by decide)).trans (a1 45 (by decide)))
      have y42 : ρ1 42 = ρ 42 := a1 42 (by decide)
      have y43 : ρ1 43 = ρ 43 := a1 43 (by decide)
      refine wFIN.go (fun res H => a7 res (run res (d7 res H))) ((a3.tr c5).tr d3) (h85 _ _ _ g ⟨by rw [d4, hl2]; exact g0, ?_, m2.cg d5 (show ρ3 43 + 0 = ρ1 43 by rw [z43, y43, Int.add_zero]) (show ρ3 42 + 0 - 1 = ρ1 42 - 1 by rw [z42, y42, Int.add_zero]), m3.cg d5 (show ρ3 17 + 0 = ρ2 17 + 0 by rw [z17]) (show ρ3 42 + 0 = ρ1 42 by rw [z42, y42, Int.add_zero]), ?_, fun i hi => (kps_ok s174a0_0_kp i hi).trans ((d1 i (Nat.lt_trans (KP_lt i hi) (by decide))).trans ((c1 i (Nat.lt_trans (KP_lt i hi) (by decide))).trans (g5 i hi)))⟩ ?_ (show ρ3 42 + 0 = ρ 42 by rw [z42, Int.add_zero]) (show ρ3 43 + 0 = ρ 43 by rw [z43, Int.add_zero]) (show ρ3 44 + 0 = ρ 44 by rw [z44, Int.add_zero]))
      · show wG w3 (ρ3 17 + 0)
        unfold wG at m1 ⊢
        rw [d6, z17]
        exact m1
      · show ρ3 43 + 0 ≤ ρ3 17 + 0
        rw [z17, z43, Int.add_zero, ← y43]
        exact m4
      · show ρ3 44 + 0 < ρ3 43 + 0
        rw [z43, z44]
        omega
    · have hst2 : (w2.2.1 9 28).toInt = ρ2 17 + 1 := stv (t := 8) (s := 17) (o := 1) c4 rfl rfl rfl (by decide)
      rw [hst2] at m1 m3 m4
      have hl2 : w2.1.length = w1.1.length := γ_len (W1 := W0) a2 c4 rfl
      obtain ⟨y3, hy3, ρ3, lv3, st3, w3, d1, d2, d3, d4, d5, d6, d7⟩ := wblk b174a1 (by decide) (by decide) hS (by rw [hl2]; exact g0) c4
      simp only [Y174a1, List.mem_cons, List.not_mem_nil, or_false] at hy3
      subst hy3
      have g := (sx_sub_ok d2 s174a1_0_ok).1
      have e := g.2.2.1.1
      replace e : st3 = [] := e
      subst e
      have z17 : ρ3 17 = ρ2 17 := d1 17 (by decide)
      have z42 : ρ3 42 = ρ 42 := (d1 42 (by decide)).trans ((c1 42 (by decide)).trans (a1 42 (by decide)))
      have z43 : ρ3 43 = ρ 43 := (d1 43 (by decide)).trans ((c1 43 (by decide)).trans (a1 43 (by decide)))
      have z44 : ρ3 44 = ρ 44 := (d1 44 (by decide)).trans ((c1 44 (by decide)).trans (a1 44 (by decide)))
      have z45 : ρ3 45 = ρ 45 := (d1 45 (by decide)).trans ((c1 45 (by decide)).trans (a1 45 (by decide)))
      have y42 : ρ1 42 = ρ 42 := a1 42 (by decide)
      have y43 : ρ1 43 = ρ 43 := a1 43 (by decide)
      refine wFIN.go (fun res H => a7 res (run res (d7 res H))) ((a3.tr c5).tr d3) (h85 _ _ _ g ⟨by rw [d4, hl2]; exact g0, ?_, m2.cg d5 (show ρ3 43 + 0 = ρ1 43 by rw [z43, y43, Int.add_zero]) (show ρ3 42 + 0 - 1 = ρ1 42 - 1 by rw [z42, y42, Int.add_zero]), m3.cg d5 (show ρ3 17 + 1 = ρ2 17 + 1 by rw [z17]) (show ρ3 42 + 0 = ρ1 42 by rw [z42, y42, Int.add_zero]), ?_, fun i hi => (kps_ok s174a1_0_kp i hi).trans ((d1 i (Nat.lt_trans (KP_lt i hi) (by decide))).trans ((c1 i (Nat.lt_trans (KP_lt i hi) (by decide))).trans (g5 i hi)))⟩ ?_ (show ρ3 42 + 0 = ρ 42 by rw [z42, Int.add_zero]) (show ρ3 43 + 0 = ρ 43 by rw [z43, Int.add_zero]) (show ρ3 44 + 0 = ρ 44 by rw [z44, Int.add_zero]))
      · show wG w3 (ρ3 17 + 1)
        unfold wG at m1 ⊢
        rw [d6, z17]
        exact m1
      · show ρ3 43 + 0 ≤ ρ3 17 + 1
        rw [z17, z43, Int.add_zero, ← y43]
        exact m4
      · show ρ3 44 + 0 < ρ3 43 + 0
        rw [z43, z44]
        omega
  · obtain ⟨g0, g1, g2, g3, g4, g5⟩ : G75 ρ0 ρ1 w1 := hG.cg a4 a5 a6 (a1 17 (by decide)) (a1 42 (by decide)) (a1 43 (by decide)) (fun i hi => a1 i (Nat.lt_trans (KP_lt i hi) (by decide)))
    have b17 : (0 : Int) ≤ ρ1 17 ∧ ρ1 17 ≤ 20001 := ⟨(a2.1.2.2 17 _ rfl).1, (a2.1.2.2 17 _ rfl).2.1⟩
    have b42 : (1 : Int) ≤ ρ1 42 ∧ ρ1 42 ≤ 10 := ⟨(a2.1.2.2 42 _ rfl).1, (a2.1.2.2 42 _ rfl).2.1⟩
    have b44 : (0 : Int) ≤ ρ1 44 ∧ ρ1 44 ≤ 20000 := ⟨(a2.1.2.2 44 _ rfl).1, (a2.1.2.2 44 _ rfl).2.1⟩
    have hk1 : ρ1 44 < ρ1 43 := by rw [a1 44 (by decide), a1 43 (by decide)]; exact hk
    obtain ⟨hs, hq, hbz⟩ := wshp a2 rfl rfl rfl rfl rfl rfl rfl rfl rfl rfl rfl
    obtain rfl : lv1 = y85a_2.2.1.map (sx_lv W0 ρ1) := a2.2.1.1
    obtain rfl : st1 = y85a_2.2.2.1.map (sx_val W0 ρ1) := a2.2.2.1.1
    have hd : dpt (w1.2.1 22) (ρ1 42 + 0 - 1).toNat (ρ1 44 + 0).toNat := by
      rw [Int.add_zero, Int.add_zero]
      exact g2 _ (by omega)
    obtain ⟨y2, hy2, ρ2, w2, rv, c1, c2, c3, c4, c5⟩ := wcall (σ := gla) (ρ := ρ1) (fun W1 S1 => le_w hs.2.1 hs.2.2.2.2.1 hq.1 hq.2.2.2.1 W1 S1 _ hd) rla a2
    have run : ∀ res, mxRn 117 153 (y85a_2.2.1.map (sx_lv W0 ρ1)) (rv.toList ++ []) w2 res → mxRn 117 150 (y85a_2.2.1.map (sx_lv W0 ρ1)) (y85a_2.2.2.1.map (sx_val W0 ρ1)) w1 res := fun res H =>
      wvir (pc := 150) (n := 242) (len := 3) (z := 118) (zi := miX5_leads) (E := y85a_2.1) (la := y85a_2.2.1) (sa := y85a_2.2.2.1) (r := []) (H := y85a_2.2.2.2.1) (c := y85a_2.2.2.2.2) (v := (2, 9, 0)) rfl rfl rfl rfl rfl rfl (by decide +kernel) a2 c3 H
    simp only [List.mem_cons, List.not_mem_nil, or_false] at hy2
    subst hy2
    have hl2 : w2.1.length = w1.1.length := γ_len (W1 := W0) a2 c4 rfl
    obtain ⟨y3, hy3, ρ3, lv3, st3, w3, d1, d2, d3, d4, d5, d6, d7⟩ := wblk b153a0 (by decide) (by decide) hS (by rw [hl2]; exact g0) c4
    simp only [Y153a0, List.mem_cons, List.not_mem_nil, or_false] at hy3
    subst hy3
    have z42 : ρ3 42 = ρ1 42 := (d1 42 (by decide)).trans (c1 42 (by decide))
    refine wFIN.go (fun res H => a7 res (run res (d7 res H))) ((a3.tr c5).tr d3) ⟨ρ3 42 + 0, w3, sx_ρ s153a0_0 ρ3, ?_, by omega, by omega, fun i hi => (kps_ok s153a0_0_kp i hi).trans ((d1 i (Nat.lt_trans (KP_lt i hi) (by decide))).trans ((c1 i (Nat.lt_trans (KP_lt i hi) (by decide))).trans (g5 i hi))), (sx_sub_ok (A := d153a0_0) (γ_drop d2) s153a0_0_ok).1, sx_Fr.rf⟩
    have e := d2.2.2.1.1
    replace e : st3 = [.int (Int32.ofInt (ρ3 42 + 0))] := e
    rw [e]
    exact mxRn.ret 1 (fun n => rfl)
theorem f85b {W0 : Nat} {S : Nat → Prop} (hS : ∀ k, 21 ≤ k → k ≤ 25 → S k) {ρ0 ρ : Nat → Int} {lv : mxV} {w : mxW} (hγ : sx_γ W0 S ρ v85b lv [] w) (hG : G75 ρ0 ρ w) (hk : ρ 44 < ρ 43) (h75 : ∀ (ρ1 : Nat → Int) (lv1 : mxV) (w1 : mxW), sx_γ W0 S ρ1 v75b lv1 [] w1 → G75 ρ0 ρ1 w1 → ρ1 42 = ρ 42 → ρ1 43 = ρ 43 → ρ1 44 = ρ 44 + 1 → wFIN W0 S ρ0 75 lv1 [] w1) (h85 : ∀ (ρ1 : Nat → Int) (lv1 : mxV) (w1 : mxW), sx_γ W0 S ρ1 v85b lv1 [] w1 → G75 ρ0 ρ1 w1 → ρ1 44 < ρ1 43 → ρ1 42 = ρ 42 → ρ1 43 = ρ 43 → ρ1 44 = ρ 44 → ρ1 45 = ρ 45 + 1 → wFIN W0 S ρ0 85 lv1 [] w1) : wFIN W0 S ρ0 85 lv [] w := by
  obtain ⟨y, hy, ρ1, lv1, st1, w1, a1, a2, a3, a4, a5, a6, a7⟩ := wblk b85b (by decide) (by decide) hS hG.1 hγ
  simp only [Y85b, List.mem_cons, List.not_mem_nil, or_false] at hy
  rcases hy with rfl | rfl | rfl | rfl
  · have g := (sx_sub_ok a2 s85b_0_ok).1
    have e := g.2.2.1.1
    replace e : st1 = [] := e
    subst e
    exact wFIN.go a7 a3 (h75 _ _ _ g (hG.cg a4 a5 a6 (show ρ1 17 + 0 = ρ 17 by rw [Int.add_zero, a1 17 (by decide)]) (show ρ1 42 + 0 = ρ 42 by rw [Int.add_zero, a1 42 (by decide)]) (show ρ1 43 + 0 = ρ 43 by rw [Int.add_zero, a1 43 (by decide)]) (fun i hi => (kps_ok s85b_0_kp i hi).trans (a1 i (Nat.lt_trans (KP_lt i hi) (by decide))))) (show ρ1 42 + 0 = ρ 42 by rw [Int.add_zero, a1 42 (by decide)]) (show ρ1 43 + 0 = ρ 43 by rw [Int.add_zero, a1 43 (by decide)]) (show ρ1 44 + 1 = ρ 44 + 1 by rw [a1 44 (by decide)]))
  · have g := (sx_sub_ok a2 s85b_1_ok).1
    have e := g.2.2.1.1
    replace e : st1 = [] := e
    subst e
    refine wFIN.go a7 a3 (h85 _ _ _ g (hG.cg a4 a5 a6 (show ρ1 17 + 0 = ρ 17 by rw [Int.add_zero, a1 17 (by decide)]) (show ρ1 42 + 0 = ρ 42 by rw [Int.add_zero, a1 42 (by decide)]) (show ρ1 43 + 0 = ρ 43 by rw [Int.add_zero, a1 43 (by decide)]) (fun i hi => (kps_ok s85b_1_kp i hi).trans (a1 i (Nat.lt_trans (KP_lt i hi) (by decide))))) ?_ (show ρ1 42 + 0 = ρ 42 by rw [Int.add_zero, a1 42 (by decide)]) (show ρ1 43 + 0 = ρ 43 by rw [Int.add_zero, a1 43 (by decide)]) (show ρ1 44 + 0 = ρ 44 by rw [Int.add_zero, a1 44 (by decide)]) (show ρ1 45 + 1 = ρ 45 + 1 by rw [a1 45 (by decide)]))
    show ρ1 44 + 0 < ρ1 43 + 0
    rw [a1 43 (by decide), a1 44 (by decide)]
    omega
  · obtain ⟨g0, g1, g2, g3, g4, g5⟩ : G75 ρ0 ρ1 w1 := hG.cg a4 a5 a6 (a1 17 (by decide)) (a1 42 (by decide)) (a1 43 (by decide)) (fun i hi => a1 i (Nat.lt_trans (KP_lt i hi) (by decide)))
    have b17 : (0 : Int) ≤ ρ1 17 ∧ ρ1 17 ≤ 20001 := ⟨(a2.1.2.2 17 _ rfl).1, (a2.1.2.2 17 _ rfl).2.1⟩
    have b42 : (1 : Int) ≤ ρ1 42 ∧ ρ1 42 ≤ 10 := ⟨(a2.1.2.2 42 _ rfl).1, (a2.1.2.2 42 _ rfl).2.1⟩
    have b44 : (0 : Int) ≤ ρ1 44 ∧ ρ1 44 ≤ 20000 := ⟨(a2.1.2.2 44 _ rfl).1, (a2.1.2.2 44 _ rfl).2.1⟩
    have hk1 : ρ1 44 < ρ1 43 := by rw [a1 44 (by decide), a1 43 (by decide)]; exact hk
    obtain ⟨hs, hq, hbz⟩ := wshp a2 rfl rfl rfl rfl rfl rfl rfl rfl rfl rfl rfl
    obtain rfl : lv1 = y85b_2.2.1.map (sx_lv W0 ρ1) := a2.2.1.1
    obtain rfl : st1 = y85b_2.2.2.1.map (sx_val W0 ρ1) := a2.2.2.1.1
    have hst : (w1.2.1 9 28).toInt = ρ1 17 := (stv (t := 8) (s := 17) (o := 0) a2 rfl rfl rfl (by decide)).trans (Int.add_zero _)
    have hz : cz (w1.2.1 24) 65536 < 65536 := by unfold wG at g1; omega
    obtain ⟨y2, hy2, ρ2, w2, rv, c1, c2, c3, c4, c5⟩ := wcall (fun W1 S1 => (me_w hs.2.2.2.2.2 hq.2.2.2.2 hz W1 S1 _).1) rmb a2
    have run : ∀ res, mxRn 117 174 (y85b_2.2.1.map (sx_lv W0 ρ1)) (rv.toList ++ []) w2 res → mxRn 117 171 (y85b_2.2.1.map (sx_lv W0 ρ1)) (y85b_2.2.2.1.map (sx_val W0 ρ1)) w1 res := fun res H =>
      wvir (pc := 171) (n := 238) (len := 3) (z := 116) (zi := miX5_meets) (E := y85b_2.1) (la := y85b_2.2.1) (sa := y85b_2.2.2.1) (r := []) (H := y85b_2.2.2.2.1) (c := y85b_2.2.2.2.2) (v := (2, 9, 0)) rfl rfl rfl rfl rfl rfl (by decide +kernel) a2 c3 H
    have hme := me_D (me_G2 (v := Int64.ofInt (ρ1 48 + 0)) (f := Int32.ofInt (ρ1 44 + 0)) (l := Int32.ofInt (ρ1 45 + 0)) hs hq hbz hz (by rw [hst]; exact b17.1) c3) hst b17.1 b42.1 (k := ρ1 44) (by rw [Int.add_zero]; exact Int32.toInt_ofInt_of_le (by omega) (by omega)) (Or.inl ⟨b44.1, hk1⟩) g4 g1 g2 g3
    obtain ⟨m1, m2, m3, m4⟩ := hme
    simp only [List.mem_cons, List.not_mem_nil, or_false] at hy2
    rcases hy2 with rfl | rfl
    · have hst2 : (w2.2.1 9 28).toInt = ρ2 17 + 0 := stv (t := 8) (s := 17) (o := 0) c4 rfl rfl rfl (by decide)
      rw [hst2] at m1 m3 m4
      have hl2 : w2.1.length = w1.1.length := γ_len (W1 := W0) a2 c4 rfl
      obtain ⟨y3, hy3, ρ3, lv3, st3, w3, d1, d2, d3, d4, d5, d6, d7⟩ := wblk b174b0 (by decide) (by decide) hS (by rw [hl2]; exact g0) c4
      simp only [Y174b0, List.mem_cons, List.not_mem_nil, or_false] at hy3
      subst hy3
      have g := (sx_sub_ok d2 s174b0_0_ok).1
      have e := g.2.2.1.1
      replace e : st3 = [] := e
      subst e
      have z17 : ρ3 17 = ρ2 17 := d1 17 (by decide)
      have z42 : ρ3 42 = ρ 42 := (d1 42 (by decide)).trans ((c1 42 (by decide)).trans (a1 42 (by decide)))
      have z43 : ρ3 43 = ρ 43 := (d1 43 (by decide)).trans ((c1 43 (by decide)).trans (a1 43 (by decide)))
      have z44 : ρ3 44 = ρ 44 := (d1 44 (by decide)).trans ((c1 44 (by decide)).trans (a1 44 (by decide)))
      have z45 : ρ3 45 = ρ 45 := (d1 45 (by decide)).trans ((c1 45 (by decide)).trans (a1 45 (by decide)))
      have y42 : ρ1 42 = ρ 42 := a1 42 (by decide)
      have y43 : ρ1 43 = ρ 43 := a1 43 (by decide)
      refine wFIN.go (fun res H => a7 res (run res (d7 res H))) ((a3.tr c5).tr d3) (h85 _ _ _ g ⟨by rw [d4, hl2]; exact g0, ?_, m2.cg d5 (show ρ3 43 + 0 = ρ1 43 by rw [z43, y43, Int.add_zero]) (show ρ3 42 + 0 - 1 = ρ1 42 - 1 by rw [z42, y42, Int.add_zero]), m3.cg d5 (show ρ3 17 + 0 = ρ2 17 + 0 by rw [z17]) (show ρ3 42 + 0 = ρ1 42 by rw [z42, y42, Int.add_zero]), ?_, fun i hi => (kps_ok s174b0_0_kp i hi).trans ((d1 i (Nat.lt_trans (KP_lt i hi) (by decide))).trans ((c1 i (Nat.lt_trans (KP_lt i hi) (by decide))).trans (g5 i hi)))⟩ ?_ (show ρ3 42 + 0 = ρ 42 by rw [z42, Int.add_zero]) (show ρ3 43 + 0 = ρ 43 by rw [z43, Int.add_zero]) (show ρ3 44 + 0 = ρ 44 by rw [z44, Int.add_zero]) (show ρ3 45 + 1 = ρ 45 + 1 by rw [z45]))
      · show wG w3 (ρ3 17 + 0)
        unfold wG at m1 ⊢
        rw [d6, z17]
        exact m1
      · show ρ3 43 + 0 ≤ ρ3 17 + 0
        rw [z17, z43, Int.add_zero, ← y43]
        exact m4
      · show ρ3 44 + 0 < ρ3 43 + 0
        rw [z43, z44]
        omega
    · have hst2 : (w2.2.1 9 28).toInt = ρ2 17 + 1 := stv (t := 8) (s := 17) (o := 1) c4 rfl rfl rfl (by decide)
      rw [hst2] at m1 m3 m4
      have hl2 : w2.1.length = w1.1.length := γ_len (W1 := W0) a2 c4 rfl
      obtain ⟨y3, hy3, ρ3, lv3, st3, w3, d1, d2, d3, d4, d5, d6, d7⟩ := wblk b174b1 (by decide) (by decide) hS (by rw [hl2]; exact g0) c4
      simp only [Y174b1, List.mem_cons, List.not_mem_nil, or_false] at hy3
      subst hy3
      have g := (sx_sub_ok d2 s174b1_0_ok).1
      have e := g.2.2.1.1
      replace e : st3 = [] := e
      subst e
      have z17 : ρ3 17 = ρ2 17 := d1 17 (by decide)
      have z42 : ρ3 42 = ρ 42 := (d1 42 (by decide)).trans ((c1 42 (by decide)).trans (a1 42 (by decide)))
      have z43 : ρ3 43 = ρ 43 := (d1 43 (by decide)).trans ((c1 43 (by decide)).trans (a1 43 (by decide)))
      have z44 : ρ3 44 = ρ 44 := (d1 44 (by decide)).trans ((c1 44 (by decide)).trans (a1 44 (by decide)))
      have z45 : ρ3 45 = ρ 45 := (d1 45 (by decide)).trans ((c1 45 (by decide)).trans (a1 45 (by decide)))
      have y42 : ρ1 42 = ρ 42 := a1 42 (by decide)
      have y43 : ρ1 43 = ρ 43 := a1 43 (by decide)
      refine wFIN.go (fun res H => a7 res (run res (d7 res H))) ((a3.tr c5).tr d3) (h85 _ _ _ g ⟨by rw [d4, hl2]; exact g0, ?_, m2.cg d5 (show ρ3 43 + 0 = ρ1 43 by rw [z43, y43, Int.add_zero]) (show ρ3 42 + 0 - 1 = ρ1 42 - 1 by rw [z42, y42, Int.add_zero]), m3.cg d5 (show ρ3 17 + 1 = ρ2 17 + 1 by rw [z17]) (show ρ3 42 + 0 = ρ1 42 by rw [z42, y42, Int.add_zero]), ?_, fun i hi => (kps_ok s174b1_0_kp i hi).trans ((d1 i (Nat.lt_trans (KP_lt i hi) (by decide))).trans ((c1 i (Nat.lt_trans (KP_lt i hi) (by decide))).trans (g5 i hi)))⟩ ?_ (show ρ3 42 + 0 = ρ 42 by rw [z42, Int.add_zero]) (show ρ3 43 + 0 = ρ 43 by rw [z43, Int.add_zero]) (show ρ3 44 + 0 = ρ 44 by rw [z44, Int.add_zero]) (show ρ3 45 + 1 = ρ 45 + 1 by rw [z45]))
      · show wG w3 (ρ3 17 + 1)
        unfold wG at m1 ⊢
        rw [d6, z17]
        exact m1
      · show ρ3 43 + 0 ≤ ρ3 17 + 1
        rw [z17, z43, Int.add_zero, ← y43]
        exact m4
      · show ρ3 44 + 0 < ρ3 43 + 0
        rw [z43, z44]
        omega
  · obtain ⟨g0, g1, g2, g3, g4, g5⟩ : G75 ρ0 ρ1 w1 := hG.cg a4 a5 a6 (a1 17 (by decide)) (a1 42 (by decide)) (a1 43 (by decide)) (fun i hi => a1 i (Nat.lt_trans (KP_lt i hi) (by decide)))
    have b17 : (0 : Int) ≤ ρ1 17 ∧ ρ1 17 ≤ 20001 := ⟨(a2.1.2.2 17 _ rfl).1, (a2.1.2.2 17 _ rfl).2.1⟩
    have b42 : (1 : Int) ≤ ρ1 42 ∧ ρ1 42 ≤ 10 := ⟨(a2.1.2.2 42 _ rfl).1, (a2.1.2.2 42 _ rfl).2.1⟩
    have b44 : (0 : Int) ≤ ρ1 44 ∧ ρ1 44 ≤ 20000 := ⟨(a2.1.2.2 44 _ rfl).1, (a2.1.2.2 44 _ rfl).2.1⟩
    have hk1 : ρ1 44 < ρ1 43 := by rw [a1 44 (by decide), a1 43 (by decide)]; exact hk
    obtain ⟨hs, hq, hbz⟩ := wshp a2 rfl rfl rfl rfl rfl rfl rfl rfl rfl rfl rfl
    obtain rfl : lv1 = y85b_3.2.1.map (sx_lv W0 ρ1) := a2.2.1.1
    obtain rfl : st1 = y85b_3.2.2.1.map (sx_val W0 ρ1) := a2.2.2.1.1
    have hd : dpt (w1.2.1 22) (ρ1 42 + 0 - 1).toNat (ρ1 44 + 0).toNat := by
      rw [Int.add_zero, Int.add_zero]
      exact g2 _ (by omega)
    obtain ⟨y2, hy2, ρ2, w2, rv, c1, c2, c3, c4, c5⟩ := wcall (σ := glb) (ρ := ρ1) (fun W1 S1 => le_w hs.2.1 hs.2.2.2.2.1 hq.1 hq.2.2.2.1 W1 S1 _ hd) rlb a2
    have run : ∀ res, mxRn 117 153 (y85b_3.2.1.map (sx_lv W0 ρ1)) (rv.toList ++ []) w2 res → mxRn 117 150 (y85b_3.2.1.map (sx_lv W0 ρ1)) (y85b_3.2.2.1.map (sx_val W0 ρ1)) w1 res := fun res H =>
      wvir (pc := 150) (n := 242) (len := 3) (z := 118) (zi := miX5_leads) (E := y85b_3.1) (la := y85b_3.2.1) (sa := y85b_3.2.2.1) (r := []) (H := y85b_3.2.2.2.1) (c := y85b_3.2.2.2.2) (v := (2, 9, 0)) rfl rfl rfl rfl rfl rfl (by decide +kernel) a2 c3 H
    simp only [List.mem_cons, List.not_mem_nil, or_false] at hy2
    subst hy2
    have hl2 : w2.1.length = w1.1.length := γ_len (W1 := W0) a2 c4 rfl
    obtain ⟨y3, hy3, ρ3, lv3, st3, w3, d1, d2, d3, d4, d5, d6, d7⟩ := wblk b153b0 (by decide) (by decide) hS (by rw [hl2]; exact g0) c4
    simp only [Y153b0, List.mem_cons, List.not_mem_nil, or_false] at hy3
    subst hy3
    have z42 : ρ3 42 = ρ1 42 := (d1 42 (by decide)).trans (c1 42 (by decide))
    refine wFIN.go (fun res H => a7 res (run res (d7 res H))) ((a3.tr c5).tr d3) ⟨ρ3 42 + 0, w3, sx_ρ s153b0_0 ρ3, ?_, by omega, by omega, fun i hi => (kps_ok s153b0_0_kp i hi).trans ((d1 i (Nat.lt_trans (KP_lt i hi) (by decide))).trans ((c1 i (Nat.lt_trans (KP_lt i hi) (by decide))).trans (g5 i hi))), (sx_sub_ok (A := d153b0_0) (γ_drop d2) s153b0_0_ok).1, sx_Fr.rf⟩
    have e := d2.2.2.1.1
    replace e : st3 = [.int (Int32.ofInt (ρ3 42 + 0))] := e
    rw [e]
    exact mxRn.ret 1 (fun n => rfl)
theorem w85b {W0 : Nat} {S : Nat → Prop} (hS : ∀ k, 21 ≤ k → k ≤ 25 → S k) {ρ0 : Nat → Int} {D L K : Int} (h75 : ∀ (ρ1 : Nat → Int) (lv1 : mxV) (w1 : mxW), sx_γ W0 S ρ1 v75b lv1 [] w1 → G75 ρ0 ρ1 w1 → ρ1 42 = D → ρ1 43 = L → ρ1 44 = K + 1 → wFIN W0 S ρ0 75 lv1 [] w1) : ∀ (n : Nat) {ρ : Nat → Int} {lv : mxV} {w : mxW}, (12 - ρ 45).toNat ≤ n → sx_γ W0 S ρ v85b lv [] w → G75 ρ0 ρ w → ρ 44 < ρ 43 → ρ 42 = D → ρ 43 = L → ρ 44 = K → wFIN W0 S ρ0 85 lv [] w := by
  intro n
  induction n with
  | zero =>
    intro ρ lv w hn hγ
    have b : ρ 45 ≤ 11 := (hγ.1.2.2 45 _ rfl).2.1
    omega
  | succ n ih =>
    intro ρ lv w hn hγ hG hk e42 e43 e44
    have b : ρ 45 ≤ 11 := (hγ.1.2.2 45 _ rfl).2.1
    refine f85b hS hγ hG hk (fun ρ1 lv1 w1 k1 k2 k3 k4 k5 => h75 ρ1 lv1 w1 k1 k2 (k3.trans e42) (k4.trans e43) (by rw [k5, e44])) (fun ρ1 lv1 w1 k1 k2 k3 k4 k5 k6 k7 => ih (by omega) k1 k2 k3 (k4.trans e42) (k5.trans e43) (k6.trans e44))
theorem w75b {W0 : Nat} {S : Nat → Prop} (hS : ∀ k, 21 ≤ k → k ≤ 25 → S k) {ρ0 : Nat → Int} {D L : Int} (h59 : ∀ (ρ1 : Nat → Int) (lv1 : mxV) (w1 : mxW), sx_γ W0 S ρ1 v59b lv1 [] w1 → G59 ρ0 ρ1 w1 → ρ1 42 = D + 1 → wFIN W0 S ρ0 59 lv1 [] w1) : ∀ (n : Nat) {ρ : Nat → Int} {lv : mxV} {w : mxW}, (ρ 43 - ρ 44).toNat ≤ n → sx_γ W0 S ρ v75b lv [] w → G75 ρ0 ρ w → ρ 42 = D → ρ 43 = L → wFIN W0 S ρ0 75 lv [] w := by
  intro n
  induction n with
  | zero =>
    intro ρ lv w hn hγ hG e42 e43
    exact f75b hS hγ hG (fun ρ1 lv1 w1 k1 k2 k3 k4 k5 k6 => by omega) (fun ρ1 lv1 w1 k1 k2 k3 => h59 ρ1 lv1 w1 k1 k2 (by rw [k3, e42]))
  | succ n ih =>
    intro ρ lv w hn hγ hG e42 e43
    exact f75b hS hγ hG (fun ρ1 lv1 w1 k1 k2 k3 k4 k5 k6 => w85b hS (D := D) (L := L) (K := ρ1 44) (fun ρ2 lv2 w2 j1 j2 j3 j4 j5 => ih (by omega) j1 j2 j3 j4) _ (Nat.le_refl _) k1 k2 k3 (k4.trans e42) (k5.trans e43) rfl) (fun ρ1 lv1 w1 k1 k2 k3 => h59 ρ1 lv1 w1 k1 k2 (by rw [k3, e42]))
theorem w75a {W0 : Nat} {S : Nat → Prop} (hS : ∀ k, 21 ≤ k → k ≤ 25 → S k) {ρ0 : Nat → Int} {ρ : Nat → Int} {lv : mxV} {w : mxW} (h59b : ∀ (ρ1 : Nat → Int) (lv1 : mxV) (w1 : mxW), sx_γ W0 S ρ1 v59b lv1 [] w1 → G59 ρ0 ρ1 w1 → ρ1 42 = ρ 42 + 1 → wFIN W0 S ρ0 59 lv1 [] w1) (h59c : ∀ (ρ1 : Nat → Int) (lv1 : mxV) (w1 : mxW), sx_γ W0 S ρ1 v59c lv1 [] w1 → G59 ρ0 ρ1 w1 → ρ1 42 = ρ 42 + 1 → wFIN W0 S ρ0 59 lv1 [] w1) (hγ : sx_γ W0 S ρ v75a lv [] w) (hG : G75 ρ0 ρ w) : wFIN W0 S ρ0 75 lv [] w := by
  refine f75a hS hγ hG (fun ρ1 lv1 w1 k1 k2 k3 k4 k5 k6 => f85a hS k1 k2 k3 (fun ρ2 lv2 w2 j1 j2 j3 j4 j5 j6 => ?_)) h59c
  exact w85b hS (D := ρ 42) (L := ρ 43) (K := ρ 44) (fun ρ3 lv3 w3 i1 i2 i3 i4 i5 => w75b hS (D := ρ 42) (L := ρ 43) h59b _ (Nat.le_refl _) i1 i2 i3 i4) _ (Nat.le_refl _) j1 j2 j3 (j4.trans k4) (j5.trans k5) (j6.trans k6)
theorem w59 {W0 : Nat} {S : Nat → Prop} (hS : ∀ k, 21 ≤ k → k ≤ 25 → S k) {ρ0 : Nat → Int} : ∀ (n : Nat) {ρ : Nat → Int} {lv : mxV} {w : mxW}, (12 - ρ 42).toNat ≤ n → G59 ρ0 ρ w → (sx_γ W0 S ρ v59a lv [] w ∨ sx_γ W0 S ρ v59b lv [] w ∨ sx_γ W0 S ρ v59c lv [] w) → wFIN W0 S ρ0 59 lv [] w := by
  intro n
  induction n with
  | zero =>
    intro ρ lv w hn hG hγ
    have b : ρ 42 ≤ 11 := by
      rcases hγ with hγ | hγ | hγ
      · exact (hγ.1.2.2 42 _ rfl).2.1
      · exact (hγ.1.2.2 42 _ rfl).2.1
      · exact (hγ.1.2.2 42 _ rfl).2.1
    omega
  | succ n ih =>
    intro ρ lv w hn hG hγ
    have hb : ∀ (ρ1 : Nat → Int) (lv1 : mxV) (w1 : mxW), sx_γ W0 S ρ1 v59b lv1 [] w1 → G59 ρ0 ρ1 w1 → ρ1 42 = ρ 42 + 1 → wFIN W0 S ρ0 59 lv1 [] w1 := fun ρ1 lv1 w1 k1 k2 k3 => by
      have b : ρ1 42 ≤ 11 := (k1.1.2.2 42 _ rfl).2.1
      exact ih (by omega) k2 (Or.inr (Or.inl k1))
    have hc : ∀ (ρ1 : Nat → Int) (lv1 : mxV) (w1 : mxW), sx_γ W0 S ρ1 v59c lv1 [] w1 → G59 ρ0 ρ1 w1 → ρ1 42 = ρ 42 + 1 → wFIN W0 S ρ0 59 lv1 [] w1 := fun ρ1 lv1 w1 k1 k2 k3 => by
      have b : ρ1 42 ≤ 11 := (k1.1.2.2 42 _ rfl).2.1
      exact ih (by omega) k2 (Or.inr (Or.inr k1))
    rcases hγ with hγ | hγ | hγ
    · exact f59a hS hγ hG (fun ρ1 lv1 w1 k1 k2 k3 => w75a hS (fun ρ2 lv2 w2 j1 j2 j3 => hb ρ2 lv2 w2 j1 j2 (by rw [j3, k3])) (fun ρ2 lv2 w2 j1 j2 j3 => hc ρ2 lv2 w2 j1 j2 (by rw [j3, k3])) k1 k2)
    · exact f59b hS hγ hG (fun ρ1 lv1 w1 k1 k2 k3 => w75b hS (D := ρ 42) (L := ρ1 43) hb _ (Nat.le_refl _) k1 k2 k3 rfl)
    · exact f59c hS hγ hG (fun ρ1 lv1 w1 k1 k2 k3 => w75a hS (fun ρ2 lv2 w2 j1 j2 j3 => hb ρ2 lv2 w2 j1 j2 (by rw [j3, k3])) (fun ρ2 lv2 w2 j1 j2 j3 => hc ρ2 lv2 w2 j1 j2 (by rw [j3, k3])) k1 k2)

