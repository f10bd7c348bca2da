/-! walk and mend without a Search, together; mend of the model -/
theorem some_int {W0 : Nat} {ρ : Nat → Int} {o : Option sxv} (h : (match o with
  | some v => Nat.beq v.1 0
  | none => false) = true) : ∃ x : Int32, o.map (sx_val W0 ρ) = some (.int x) := by
  cases o with
  | none => cases h
  | some v => exact ⟨_, congrArg some (sx_v0 (sx_bq h))⟩
theorem wka_ok {S : Nat → Prop} {ρ : Nat → Int} {w : mxW} (hγ : sx_γ 28 S ρ e_wka (e_wka.2.1.map (sx_lv 28 ρ)) [] w) : ∃ (x : Int32) (w' : mxW) (ρ' : Nat → Int), mxRn 69 0 (e_wka.2.1.map (sx_lv 28 ρ)) [] w (some (.int x), w') ∧ ((sx_γ 28 S ρ' La [] [] w' ∧ w'.1 = w.1) ∨ sx_γ 32 S ρ' Lb [] [] w') := by
  obtain ⟨y, hy, ρ1, lv1, st1, w1, a1, a2, a3, a4⟩ := sx_bk_ok (sx_Ev_m (z := 69) (i := miX4_walk) rfl rfl) hT_wka b_wka hγ
  simp only [List.mem_cons, List.not_mem_nil, or_false] at hy
  rcases hy with rfl | rfl
  · have e := a2.2.2.1.1
    replace e : st1 = [.int (Int32.ofInt (ρ1 0 + (-1)))] := e
    subst e
    exact ⟨_, w1, _, a4 _ (mxRn.ret 1 (fun n => rfl)), Or.inl ⟨(sx_sub_ok (A := sx_dr y_wka_0) (γ_drop a2) (show sx_sub _ (sx_mA 1 La (sx_dr y_wka_0)) (sx_dr y_wka_0) La = true by decide +kernel)).1, Fr_len a3 (by rw [a2.2.2.2.2.1, hγ.2.2.2.2.1]; rfl)⟩⟩
  · obtain rfl : lv1 = y_wka_1.2.1.map (sx_lv 28 ρ1) := a2.2.1.1
    obtain rfl : st1 = y_wka_1.2.2.1.map (sx_val 28 ρ1) := a2.2.2.1.1
    obtain ⟨w2, r1, g1, g2⟩ := γ_srch (E := y_wka_1.1) (la := y_wka_1.2.1) (sa := y_wka_1.2.2.1) (H := y_wka_1.2.2.2.1) a2 (by decide +kernel) (by decide +kernel) rfl (by decide) rfl
    have g3 : sx_γ 32 S ρ1 a_wka (y_wka_1.2.1.map (sx_lv 28 ρ1)) [.ref 28] w2 := ⟨g1.1, g1.2.1, ⟨rfl, fun v hv => by
      replace hv : v ∈ [((2 : Nat), (28 : Nat), (0 : Int))] := hv
      rw [List.mem_singleton] at hv
      subst hv
      exact fun q => absurd q (by decide)⟩, g1.2.2.2⟩
    obtain ⟨p, hp, ρ2, w3, b1, b2, b3, b4, b5⟩ := sx_chk_ok (sx_Ev_m (z := 69) (i := miX4_walk) rfl rfl) hT_wka k_wka2 _ (21, a_wka, (1000000000, [])) List.mem_cons_self ρ1 _ _ _ (Nat.le_refl _) g3
    have run := gvir (Z := 69) (iz := miX4_walk) rfl rfl (pc := 18) (n := 148) (len := 3) (z := 70) (zi := miX4_searcher) (E := y_wka_1.1) (la := y_wka_1.2.1) (sa := y_wka_1.2.2.1) (r := []) (H := y_wka_1.2.2.2.1) (c := 1000) (v := (2, 0, 0)) rfl rfl rfl rfl rfl rfl (by decide +kernel) a2 r1 b3
    have hp2 := List.all_eq_true.mp p_wka p hp
    rw [Bool.and_eq_true] at hp2
    obtain ⟨x, hx⟩ := some_int (W0 := 32) (ρ := ρ2) hp2.1
    rw [hx] at run
    exact ⟨_, w3, _, a4 _ run, Or.inr (sx_sub_ok (A := (p.1, [], [], p.2.2, 1000)) (γ_drop b4) hp2.2).1⟩
theorem wf3 {n : Nat} {l : List (Nat × sxv)} (hw : l.all (fun q => !(Nat.blt q.2.1 2) || Nat.blt q.2.2.1 n) = true) : ∀ q ∈ l, sx_wf n q.2 := fun q hq hu => by
  have t := List.all_eq_true.mp hw q hq
  rw [Nat.blt_eq.mpr hu] at t
  exact Nat.blt_eq.mp (by simpa using t)
theorem mda_ok {S : Nat → Prop} {ρ : Nat → Int} {w : mxW} (hγ : sx_γ 28 S ρ e_mda (e_mda.2.1.map (sx_lv 28 ρ)) [] w) : (∃ (x y : Int32) (w1 w2 : mxW) (ρ' : Nat → Int), mxRn 75 0 (e_mda.2.1.map (sx_lv 28 ρ)) [] w (some (.int x), w1) ∧ mxRn 123 0 (e_rma_0.2.1.map (sx_lv 28 ρ)) [] w1 (some (.int y), w2) ∧ sx_γ 28 S ρ' La [] [] w2 ∧ w1.1 = w.1 ∧ w2.1 = w.1) ∨ (∃ (x : Int32) (w1 : mxW) (ρ' : Nat → Int), mxRn 75 0 (e_mda.2.1.map (sx_lv 28 ρ)) [] w (some (.int x), w1) ∧ sx_γ 32 S ρ' Lb [] [] w1) := by
  obtain ⟨y, hy, ρ1, lv1, st1, w1, a1, a2, a3, a4⟩ := sx_bk_ok (sx_Ev_m (z := 75) (i := miX4_mend) rfl rfl) hT_mda b_mda hγ
  simp only [List.mem_cons, List.not_mem_nil, or_false] at hy
  rcases hy with rfl | rfl | rfl | rfl | rfl
  · have e := a2.2.2.1.1
    replace e : st1 = [.int (Int32.ofInt (ρ1 0 + (-1)))] := e
    subst e
    have hm := lv_ag (W0 := 28) (k := 82) (l := e_rma_0.2.1) (by decide +kernel) a1
    have g0 : sx_γ 28 S ρ1 e_rma_0 (e_rma_0.2.1.map (sx_lv 28 ρ1)) [] w1 := ⟨a2.1, ⟨rfl, wf3 (n := 82) (by decide +kernel)⟩, ⟨rfl, fun q hq => absurd hq List.not_mem_nil⟩, a2.2.2.2⟩
    obtain ⟨y, hy, ρ2, lv2, st2, w2, c1, c2, c3, c4⟩ := sx_bk_ok (sx_Ev_m (z := 123) (i := miX5_mend) rfl rfl) hT_rma b_rma_0 g0
    rw [List.mem_singleton] at hy
    subst hy
    have e := c2.2.2.1.1
    replace e : st2 = [.int (Int32.ofInt (ρ2 0 + (-1)))] := e
    subst e
    rw [hm] at c4
    have l1 : w1.1 = w.1 := Fr_len a3 (by rw [a2.2.2.2.2.1, hγ.2.2.2.2.1]; rfl)
    exact Or.inl ⟨_, _, w1, w2, _, a4 _ (mxRn.ret 1 (fun n => rfl)), c4 _ (mxRn.ret 1 (fun n => rfl)), (sx_sub_ok (A := sx_dr z_rma_0) (γ_drop c2) s_rma_0).1, l1, (Fr_len c3 (by rw [c2.2.2.2.2.1, g0.2.2.2.2.1]; rfl)).trans l1⟩
  · have e := a2.2.2.1.1
    replace e : st1 = [.int (Int32.ofInt (ρ1 0 + (-1)))] := e
    subst e
    have hm := lv_ag (W0 := 28) (k := 82) (l := e_rma_1.2.1) (by decide +kernel) a1
    have g0 : sx_γ 28 S ρ1 e_rma_1 (e_rma_1.2.1.map (sx_lv 28 ρ1)) [] w1 := ⟨a2.1, ⟨rfl, wf3 (n := 82) (by decide +kernel)⟩, ⟨rfl, fun q hq => absurd hq List.not_mem_nil⟩, a2.2.2.2⟩
    obtain ⟨y, hy, ρ2, lv2, st2, w2, c1, c2, c3, c4⟩ := sx_bk_ok (sx_Ev_m (z := 123) (i := miX5_mend) rfl rfl) hT_rma b_rma_1 g0
    rw [List.mem_singleton] at hy
    subst hy
    have e := c2.2.2.1.1
    replace e : st2 = [.int (Int32.ofInt (ρ2 0 + (-1)))] := e
    subst e
    rw [hm] at c4
    have l1 : w1.1 = w.1 := Fr_len a3 (by rw [a2.2.2.2.2.1, hγ.2.2.2.2.1]; rfl)
    exact Or.inl ⟨_, _, w1, w2, _, a4 _ (mxRn.ret 1 (fun n => rfl)), c4 _ (mxRn.ret 1 (fun n => rfl)), (sx_sub_ok (A := sx_dr z_rma_1) (γ_drop c2) s_rma_1).1, l1, (Fr_len c3 (by rw [c2.2.2.2.2.1, g0.2.2.2.2.1]; rfl)).trans l1⟩
  · have e := a2.2.2.1.1
    replace e : st1 = [.int (Int32.ofInt (ρ1 0 + (-1)))] := e
    subst e
    have hm := lv_ag (W0 := 28) (k := 82) (l := e_rma_2.2.1) (by decide +kernel) a1
    have g0 : sx_γ 28 S ρ1 e_rma_2 (e_rma_2.2.1.map (sx_lv 28 ρ1)) [] w1 := ⟨a2.1, ⟨rfl, wf3 (n := 82) (by decide +kernel)⟩, ⟨rfl, fun q hq => absurd hq List.not_mem_nil⟩, a2.2.2.2⟩
    obtain ⟨y, hy, ρ2, lv2, st2, w2, c1, c2, c3, c4⟩ := sx_bk_ok (sx_Ev_m (z := 123) (i := miX5_mend) rfl rfl) hT_rma b_rma_2 g0
    rw [List.mem_singleton] at hy
    subst hy
    have e := c2.2.2.1.1
    replace e : st2 = [.int (Int32.ofInt (ρ2 0 + (-1)))] := e
    subst e
    rw [hm] at c4
    have l1 : w1.1 = w.1 := Fr_len a3 (by rw [a2.2.2.2.2.1, hγ.2.2.2.2.1]; rfl)
    exact Or.inl ⟨_, _, w1, w2, _, a4 _ (mxRn.ret 1 (fun n => rfl)), c4 _ (mxRn.ret 1 (fun n => rfl)), (sx_sub_ok (A := sx_dr z_rma_2) (γ_drop c2) s_rma_2).1, l1, (Fr_len c3 (by rw [c2.2.2.2.2.1, g0.2.2.2.2.1]; rfl)).trans l1⟩
  · have e := a2.2.2.1.1
    replace e : st1 = [.int (Int32.ofInt (ρ1 0 + (-1)))] := e
    subst e
    have hm := lv_ag (W0 := 28) (k := 82) (l := e_rma_3.2.1) (by decide +kernel) a1
    have g0 : sx_γ 28 S ρ1 e_rma_3 (e_rma_3.2.1.map (sx_lv 28 ρ1)) [] w1 := ⟨a2.1, ⟨rfl, wf3 (n := 82) (by decide +kernel)⟩, ⟨rfl, fun q hq => absurd hq List.not_mem_nil⟩, a2.2.2.2⟩
    obtain ⟨y, hy, ρ2, lv2, st2, w2, c1, c2, c3, c4⟩ := sx_bk_ok (sx_Ev_m (z := 123) (i := miX5_mend) rfl rfl) hT_rma b_rma_3 g0
    rw [List.mem_singleton] at hy
    subst hy
    have e := c2.2.2.1.1
    replace e : st2 = [.int (Int32.ofInt (ρ2 0 + (-1)))] := e
    subst e
    rw [hm] at c4
    have l1 : w1.1 = w.1 := Fr_len a3 (by rw [a2.2.2.2.2.1, hγ.2.2.2.2.1]; rfl)
    exact Or.inl ⟨_, _, w1, w2, _, a4 _ (mxRn.ret 1 (fun n => rfl)), c4 _ (mxRn.ret 1 (fun n => rfl)), (sx_sub_ok (A := sx_dr z_rma_3) (γ_drop c2) s_rma_3).1, l1, (Fr_len c3 (by rw [c2.2.2.2.2.1, g0.2.2.2.2.1]; rfl)).trans l1⟩
  · obtain rfl : lv1 = y_mda_4.2.1.map (sx_lv 28 ρ1) := a2.2.1.1
    obtain rfl : st1 = y_mda_4.2.2.1.map (sx_val 28 ρ1) := a2.2.2.1.1
    obtain ⟨w2, r1, g1, g2⟩ := γ_srch (E := y_mda_4.1) (la := y_mda_4.2.1) (sa := y_mda_4.2.2.1) (H := y_mda_4.2.2.2.1) a2 (by decide +kernel) (by decide +kernel) rfl (by decide) rfl
    have g3 : sx_γ 32 S ρ1 a_mda (y_mda_4.2.1.map (sx_lv 28 ρ1)) [.ref 28] w2 := ⟨g1.1, g1.2.1, ⟨rfl, fun v hv => by
      replace hv : v ∈ [((2 : Nat), (28 : Nat), (0 : Int))] := hv
      rw [List.mem_singleton] at hv
      subst hv
      exact fun q => absurd q (by decide)⟩, g1.2.2.2⟩
    obtain ⟨p, hp, ρ2, w3, b1, b2, b3, b4, b5⟩ := sx_chk_ok (sx_Ev_m (z := 75) (i := miX4_mend) rfl rfl) hT_mda k_mda2 _ (14, a_mda, (1000000000, [])) List.mem_cons_self ρ1 _ _ _ (Nat.le_refl _) g3
    have run := gvir (Z := 75) (iz := miX4_mend) rfl rfl (pc := 11) (n := 148) (len := 3) (z := 70) (zi := miX4_searcher) (E := y_mda_4.1) (la := y_mda_4.2.1) (sa := y_mda_4.2.2.1) (r := []) (H := y_mda_4.2.2.2.1) (c := 1000) (v := (2, 0, 0)) rfl rfl rfl rfl rfl rfl (by decide +kernel) a2 r1 b3
    have hp2 := List.all_eq_true.mp p_mda p hp
    rw [Bool.and_eq_true] at hp2
    obtain ⟨x, hx⟩ := some_int (W0 := 32) (ρ := ρ2) hp2.1
    rw [hx] at run
    exact Or.inr ⟨_, w3, _, a4 _ run, (sx_sub_ok (A := (p.1, [], [], p.2.2, 1000)) (γ_drop b4) hp2.2).1⟩
theorem rmb_ok {W0 : Nat} {S : Nat → Prop} {ρ : Nat → Int} {w : mxW} (hγ : sx_γ W0 S ρ e_rmb (e_rmb.2.1.map (sx_lv W0 ρ)) [] w) : ∃ (x : Int32) (w' : mxW) (ρ' : Nat → Int) (W1 : Nat), mxRn 123 0 (e_rmb.2.1.map (sx_lv W0 ρ)) [] w (some (.int x), w') ∧ sx_γ W1 S ρ' Lb [] [] w' ∧ (w'.1 = w.1 ∨ w'.1 = w.1 ++ [(3, 6)]) := by
  obtain ⟨y, hy, ρ1, lv1, st1, w1, a1, a2, a3, a4⟩ := sx_bk_ok (sx_Ev_m (z := 123) (i := miX5_mend) rfl rfl) hT_rma b_rmb hγ
  have l1 : y.2.2.2.2.2 = 1000 → w1.1 = w.1 := fun hc => Fr_len a3 (by rw [a2.2.2.2.2.1, hγ.2.2.2.2.1, hc]; rfl)
  simp only [List.mem_cons, List.not_mem_nil, or_false] at hy
  rcases hy with rfl | rfl
  · have e := a2.2.2.1.1
    replace e : st1 = [.int (Int32.ofInt (ρ1 0 + (-1)))] := e
    subst e
    exact ⟨_, w1, _, W0, a4 _ (mxRn.ret 1 (fun n => rfl)), (sx_sub_ok (A := sx_dr z_rmb_21) (γ_drop a2) s_rmb).1, Or.inl (l1 rfl)⟩
  · have e := a2.2.2.1.1
    replace e : st1 = [.int (Int32.ofInt (ρ1 0 + 6))] := e
    have z0 : ρ1 0 = 0 := a2.1.1
    have e6 : Int32.ofInt (ρ1 0 + 6) = 6 := by rw [z0]; rfl
    rw [e6] at e
    subst e
    obtain ⟨g1, g2⟩ := γ_new (E := z_rmb_24.1) (la := z_rmb_24.2.1) (sa := z_rmb_24.2.2.1) (H := z_rmb_24.2.2.2.1) 3 6 (lo := 0) (hi := 1) a2 (by decide) (by decide) (by decide)
    obtain ⟨p, hp, ρ2, w2, b1, b2, b3, b4, b5⟩ := sx_chk_ok (sx_Ev_m (z := 123) (i := miX5_mend) rfl rfl) hT_rma k_rmb2 _ s_rmb_0 List.mem_cons_self ρ1 _ _ _ (Nat.le_refl _) g1
    have hr : ∀ res, mxRn 123 26 lv1 [.ref w1.1.length] (mxne0 w1 3 6) res → mxRn 123 24 lv1 [.int 6] w1 res := fun res H => mxRn.g2 1 0 (fun n => rfl) H
    have hp2 := List.all_eq_true.mp p_rmb p hp
    rw [Bool.and_eq_true, Bool.and_eq_true] at hp2
    obtain ⟨⟨q1, q2⟩, q3⟩ := hp2
    obtain ⟨x, hx⟩ := some_int (W0 := W0) (ρ := ρ2) q1
    rw [hx] at b3
    have hl : w2.1 = (mxne0 w1 3 6).1 := Fr_len b5 (by rw [b4.2.2.2.2.1, g1.2.2.2.2.1]; rfl)
    refine ⟨x, w2, _, _, a4 _ (hr _ b3), (sx_sub_ok (γ_reb (A := (p.1, [], [], p.2.2, 1001)) (γ_drop b4) q2) q3).1, Or.inr ?_⟩
    rw [hl]
    show w1.1 ++ [(3, 6)] = _
    rw [l1 rfl]
