/-! walk and mend without a Search, together -/
theorem wka_ok {S : Nat → Prop} {ρ : Nat → Int} {w : mxW} (hγ : sx_γ 28 S ρ e_wka (e_wka.2.1.map (sx_lv 28 ρ)) [] w) : ∃ (rv : Option Value) (w' : mxW) (ρ' : Nat → Int), mxRn 69 0 (e_wka.2.1.map (sx_lv 28 ρ)) [] w (rv, w') ∧ (sx_γ 28 S ρ' La [] [] w' ∨ sx_γ 32 S ρ' Lb [] [] w') ∧ sx_Fr S w w' := by
  obtain ⟨y, hy, ρ1, lv1, st1, w1, a1, a2, a3, a4⟩ := sx_bk_ok (sx_Ev_m (z := 69) (i := miX4_walk) rfl rfl) hT_wka b_wka hγ
  simp only [List.mem_cons, List.not_mem_nil, or_false] at hy
  rcases hy with rfl | rfl
  · have e := a2.2.2.1.1
    replace e : st1 = [.int (Int32.ofInt (ρ1 0 + (-1)))] := e
    subst e
    exact ⟨_, w1, _, a4 _ (mxRn.ret 1 (fun n => rfl)), Or.inl (sx_sub_ok (A := sx_dr y_wka_0) (γ_drop a2) (show sx_sub _ (sx_mA 1 La (sx_dr y_wka_0)) (sx_dr y_wka_0) La = true by decide +kernel)).1, a3⟩
  · obtain rfl : lv1 = y_wka_1.2.1.map (sx_lv 28 ρ1) := a2.2.1.1
    obtain rfl : st1 = y_wka_1.2.2.1.map (sx_val 28 ρ1) := a2.2.2.1.1
    obtain ⟨w2, r1, g1, g2⟩ := γ_srch (E := y_wka_1.1) (la := y_wka_1.2.1) (sa := y_wka_1.2.2.1) (H := y_wka_1.2.2.2.1) a2 (by decide +kernel) (by decide +kernel) rfl (by decide) rfl
    have g3 : sx_γ 32 S ρ1 a_wka (y_wka_1.2.1.map (sx_lv 28 ρ1)) [.ref 28] w2 := ⟨g1.1, g1.2.1, ⟨rfl, fun v hv => by
      replace hv : v ∈ [((2 : Nat), (28 : Nat), (0 : Int))] := hv
      rw [List.mem_singleton] at hv
      subst hv
      exact fun q => absurd q (by decide)⟩, g1.2.2.2⟩
    obtain ⟨p, hp, ρ2, w3, b1, b2, b3, b4, b5⟩ := sx_chk_ok (sx_Ev_m (z := 69) (i := miX4_walk) rfl rfl) hT_wka k_wka2 _ (21, a_wka, (1000000000, [])) List.mem_cons_self ρ1 _ _ _ (Nat.le_refl _) g3
    have run := gvir (Z := 69) (iz := miX4_walk) rfl rfl (pc := 18) (n := 148) (len := 3) (z := 70) (zi := miX4_searcher) (E := y_wka_1.1) (la := y_wka_1.2.1) (sa := y_wka_1.2.2.1) (r := []) (H := y_wka_1.2.2.2.1) (c := 1000) (v := (2, 0, 0)) rfl rfl rfl rfl rfl rfl (by decide +kernel) a2 r1 b3
    exact ⟨_, w3, _, a4 _ run, Or.inr (sx_sub_ok (A := (p.1, [], [], p.2.2, 1000)) (γ_drop b4) (List.all_eq_true.mp p_wka p hp)).1, (a3.tr g2).tr b5⟩
theorem mda_ok {S : Nat → Prop} {ρ : Nat → Int} {w : mxW} (hγ : sx_γ 28 S ρ e_mda (e_mda.2.1.map (sx_lv 28 ρ)) [] w) : ∃ (rv : Option Value) (w' : mxW) (ρ' : Nat → Int), mxRn 75 0 (e_mda.2.1.map (sx_lv 28 ρ)) [] w (rv, w') ∧ (sx_γ 28 S ρ' La [] [] w' ∨ sx_γ 32 S ρ' Lb [] [] w') ∧ sx_Fr S w w' := by
  obtain ⟨y, hy, ρ1, lv1, st1, w1, a1, a2, a3, a4⟩ := sx_bk_ok (sx_Ev_m (z := 75) (i := miX4_mend) rfl rfl) hT_mda b_mda hγ
  simp only [List.mem_cons, List.not_mem_nil, or_false] at hy
  rcases hy with rfl | rfl
  · have e := a2.2.2.1.1
    replace e : st1 = [.int (Int32.ofInt (ρ1 0 + (-1)))] := e
    subst e
    exact ⟨_, w1, _, a4 _ (mxRn.ret 1 (fun n => rfl)), Or.inl (sx_sub_ok (A := sx_dr y_mda_0) (γ_drop a2) (show sx_sub _ (sx_mA 1 La (sx_dr y_mda_0)) (sx_dr y_mda_0) La = true by decide +kernel)).1, a3⟩
  · obtain rfl : lv1 = y_mda_1.2.1.map (sx_lv 28 ρ1) := a2.2.1.1
    obtain rfl : st1 = y_mda_1.2.2.1.map (sx_val 28 ρ1) := a2.2.2.1.1
    obtain ⟨w2, r1, g1, g2⟩ := γ_srch (E := y_mda_1.1) (la := y_mda_1.2.1) (sa := y_mda_1.2.2.1) (H := y_mda_1.2.2.2.1) a2 (by decide +kernel) (by decide +kernel) rfl (by decide) rfl
    have g3 : sx_γ 32 S ρ1 a_mda (y_mda_1.2.1.map (sx_lv 28 ρ1)) [.ref 28] w2 := ⟨g1.1, g1.2.1, ⟨rfl, fun v hv => by
      replace hv : v ∈ [((2 : Nat), (28 : Nat), (0 : Int))] := hv
      rw [List.mem_singleton] at hv
      subst hv
      exact fun q => absurd q (by decide)⟩, g1.2.2.2⟩
    obtain ⟨p, hp, ρ2, w3, b1, b2, b3, b4, b5⟩ := sx_chk_ok (sx_Ev_m (z := 75) (i := miX4_mend) rfl rfl) hT_mda k_mda2 _ (14, a_mda, (1000000000, [])) List.mem_cons_self ρ1 _ _ _ (Nat.le_refl _) g3
    have run := gvir (Z := 75) (iz := miX4_mend) rfl rfl (pc := 11) (n := 148) (len := 3) (z := 70) (zi := miX4_searcher) (E := y_mda_1.1) (la := y_mda_1.2.1) (sa := y_mda_1.2.2.1) (r := []) (H := y_mda_1.2.2.2.1) (c := 1000) (v := (2, 0, 0)) rfl rfl rfl rfl rfl rfl (by decide +kernel) a2 r1 b3
    exact ⟨_, w3, _, a4 _ run, Or.inr (sx_sub_ok (A := (p.1, [], [], p.2.2, 1000)) (γ_drop b4) (List.all_eq_true.mp p_mda p hp)).1, (a3.tr g2).tr b5⟩
