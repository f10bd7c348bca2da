/-! isWord: where the lengths fit, by the executor; where they don't, by hand -/
theorem sx_env_w {E F : List sxe} {ρ : Nat → Int} (h : sx_env E ρ) (hl : sx_all2 (fun (e f : sxe) => decide (f.1 ≤ e.1) && decide (e.2.1 ≤ f.2.1) && Nat.beq f.2.2.1 0 && Nat.beq f.2.2.2 0) E F = true) : sx_env F ρ := by
  obtain ⟨h1, h2⟩ := sx_all2_at hl
  refine ⟨h.1, by rw [← h1]; exact h.2.1, fun i f hf => ?_⟩
  obtain ⟨e, he⟩ : ∃ e, E[i]? = some e := ⟨_, List.getElem?_eq_getElem (by rw [h1]; exact (List.getElem?_eq_some_iff.mp hf).1)⟩
  have g := h2 i e f he hf
  simp only [Bool.and_eq_true, decide_eq_true_eq] at g
  obtain ⟨⟨⟨g1, g2⟩, g3⟩, g4⟩ := g
  have b := h.2.2 i e he
  refine ⟨Int.le_trans g1 b.1, Int.le_trans b.2.1 g2, fun q => ?_, ?_, fun q => absurd (sx_bq g4) q⟩
  · rw [sx_bq g3] at q
    cases q
  · rw [sx_bq g4, ← h1]
    exact h.2.1
def kb_W (j : Nat) : sxK := ([(0, 0, 0, 0), (0, 200, 0, 0), (0, 200, 0, 0)], [(2, 1, 0), (0, 1, 0), (0, 2, 0), (3, 3 + j, 0)], [(1, (0, 200, 0, 255, 2, none))], [([(0, 0, 0, 0), (0, 200, 0, 0), (0, 200, 0, 0), (0, 1, 0, 0)], some (0, 3, 0), [])])
def ka_W (j l : Nat) (h : Int) : sxK := ([(0, 0, 0, 0), (0, h, 0, 0), (0, 200, 0, 0)], [(2, 1, 0), (0, 1, 0), (0, 1, (l : Int)), (3, 3 + j, 0)], [(1, (0, 200, 0, 255, 2, none))], [([(0, 0, 0, 0), (0, h, 0, 0), (0, 200, 0, 0), (0, 1, 0, 0)], some (0, 3, 0), [])])
theorem isW_no {j : Nat} {x y ℓ : Int32} {w : mxW} (hs : w.1[1]? = some (0, 200)) (hx : 0 ≤ x.toInt) (hy : y.toInt ≤ 200) (hne : ¬ (y - x) = ℓ) (hL : mxRn 127 0 [(0, .retAddr (3 + j))] [] w (some (.int ℓ), w)) (hj : (Nat.ble 3 (3 + j) && Nat.blt (3 + j) 10) = true) : mxRn 10 0 [(0, .ref 1), (1, .int x), (2, .int y), (3, .retAddr (3 + j))] [] w (some (.int 0), w) := by
  refine mxRn.if2 2 0 (bb := Op.ifCond.holds .lt x) (pc' := 4) (lv' := [(0, .ref 1), (1, .int x), (2, .int y), (3, .retAddr (3 + j))]) (st' := []) (w' := w) (X := fun n => mxev n 10 20 [(0, .ref 1), (1, .int x), (2, .int y), (3, .retAddr (3 + j))] [] w) (fun n => rfl) (hd_lt_f (by omega)) ?_
  refine mxRn.g2 2 0 (pc' := 6) (lv' := [(0, .ref 1), (1, .int x), (2, .int y), (3, .retAddr (3 + j))]) (st' := [.ref 1, .int y]) (w' := w) (fun n => rfl) ?_
  refine mxRn.g2 1 0 (pc' := 7) (lv' := [(0, .ref 1), (1, .int x), (2, .int y), (3, .retAddr (3 + j))]) (st' := [.int 200, .int y]) (w' := w) (fun n => ?_) ?_
  · refine (sx_Ev_m (z := 10) (i := miX0_isWord) rfl rfl n 6 [(0, .ref 1), (1, .int x), (2, .int y), (3, .retAddr (3 + j))] [.ref 1, .int y] w .arraylength 1 rfl rfl).trans ?_
    simp only [mxS, hs]
    rfl
  refine mxRn.if2 1 0 (bb := Op.if_icmp.holds .gt y 200) (pc' := 10) (lv' := [(0, .ref 1), (1, .int x), (2, .int y), (3, .retAddr (3 + j))]) (st' := []) (w' := w) (X := fun n => mxev n 10 20 [(0, .ref 1), (1, .int x), (2, .int y), (3, .retAddr (3 + j))] [] w) (fun n => rfl) (hc_gt_f 200 rfl (by omega)) ?_
  refine mxRn.g2 4 0 (pc' := 14) (lv' := [(0, .ref 1), (1, .int x), (2, .int y), (3, .retAddr (3 + j))]) (st' := [.retAddr (3 + j), .int (y - x)]) (w' := w) (fun n => rfl) ?_
  refine mxRn.c2 1 0 (z := 127) (pc' := 17) (lz := [(0, .retAddr (3 + j))]) (lv' := [(0, .ref 1), (1, .int x), (2, .int y), (3, .retAddr (3 + j))]) (r := [.int (y - x)]) (w1 := w) (wz := w) (rz := some (.int ℓ)) (fun n => ?_) hL ?_
  · refine (sx_Ev_m (z := 10) (i := miX0_isWord) rfl rfl n 14 [(0, .ref 1), (1, .int x), (2, .int y), (3, .retAddr (3 + j))] [.retAddr (3 + j), .int (y - x)] w (.invokevirtual 71) 3 rfl rfl).trans ?_
    have e : (!(mxi_s miJ0_length_8abf5) && !(mxi_I miJ0_length_8abf5) && Nat.beq (mxi_o miJ0_length_8abf5) 9 && Nat.ble 3 (3 + j) && Nat.blt (3 + j) 10 && Nat.ble (mxsum [Value.int (y - x)]) 8) = true := by
      rw [Bool.and_eq_true] at hj
      rw [hj.1, hj.2]
      rfl
    show cond (!(mxi_s miJ0_length_8abf5) && !(mxi_I miJ0_length_8abf5) && Nat.beq (mxi_o miJ0_length_8abf5) 9 && Nat.ble 3 (3 + j) && Nat.blt (3 + j) 10 && Nat.ble (mxsum [Value.int (y - x)]) 8) _ none = _
    rw [e]
    rfl
  have hne2 : ¬ (y - x).toInt = ℓ.toInt := fun q => hne (Int32.toInt_inj.mp q)
  refine mxRn.if2 1 0 (bb := Op.if_icmp.holds .eq (y - x) ℓ) (pc' := 20) (lv' := [(0, .ref 1), (1, .int x), (2, .int y), (3, .retAddr (3 + j))]) (st' := []) (w' := w) (X := fun n => mxev n 10 22 [(0, .ref 1), (1, .int x), (2, .int y), (3, .retAddr (3 + j))] [] w) (fun n => rfl) (hc_eq_f ℓ.toInt rfl hne2) ?_
  exact mxRn.ret 2 (fun n => rfl)
theorem isW_C {j l : Nat} {h : Int} (hh : h = 200 - (l : Int)) (hl : l ≤ 8) (hj : j < 7) (hA : sx_C 10 (ka_W j l h)) (hL : ∀ w, mxRn 127 0 [(0, .retAddr (3 + j))] [] w (some (.int (Int32.ofInt l)), w)) : sx_C 10 (kb_W j) := by
  intro W0 S ρ w hγ
  obtain ⟨g1, g2, g3, g4, g5⟩ := hγ
  have r1 := g1.2.2 1 (0, 200, 0, 0) rfl
  have r2 := g1.2.2 2 (0, 200, 0, 0) rfl
  have h1 : (0 : Int) ≤ ρ 1 ∧ ρ 1 ≤ 200 := ⟨r1.1, r1.2.1⟩
  have h2 : (0 : Int) ≤ ρ 2 ∧ ρ 2 ≤ 200 := ⟨r2.1, r2.2.1⟩
  have hc := g4 _ (List.mem_singleton.mpr rfl)
  have had : sx_ad W0 1 = 1 := sx_ad_lt (by decide)
  have hs : w.1[1]? = some (0, 200) := by
    have := hc.1.1
    dsimp only at this
    rw [had] at this
    exact this
  by_cases e : ρ 2 = ρ 1 + l
  · have ea : lv_args 0 ((kb_W j).2.1.map (sx_val W0 ρ)) = lv_args 0 ((ka_W j l h).2.1.map (sx_val W0 ρ)) := by
      show [(0, Value.ref (sx_ad W0 1)), (1, Value.int (Int32.ofInt (ρ 1 + 0))), (2, Value.int (Int32.ofInt (ρ 2 + 0))), (3, Value.retAddr (3 + j))] = [(0, Value.ref (sx_ad W0 1)), (1, Value.int (Int32.ofInt (ρ 1 + 0))), (2, Value.int (Int32.ofInt (ρ 1 + (l : Int)))), (3, Value.retAddr (3 + j))]
      rw [e, Int.add_zero (ρ 1 + (l : Int))]
    have hE : sx_env (ka_W j l h).1 ρ := by
      refine ⟨g1.1, Nat.succ_pos _, fun i q hq => ?_⟩
      match i, hq with
      | 0, hq => cases hq; exact g1.2.2 0 (0, 0, 0, 0) rfl
      | 1, hq => cases hq; exact ⟨h1.1, by show ρ 1 ≤ h; omega, r1.2.2⟩
      | 2, hq => cases hq; exact r2
      | i + 3, hq => cases hq
    have hwf : ∀ q ∈ sx_la 0 (ka_W j l h).2.1, sx_wf 3 q.2 := by
        intro q hq
        replace hq : q ∈ [(0, ((2, 1, 0) : sxv)), (1, (0, 1, 0)), (2, (0, 1, (l : Int))), (3, (3, 3 + j, 0))] := hq
        simp only [List.mem_cons, List.not_mem_nil, or_false] at hq
        rcases hq with rfl | rfl | rfl | rfl
        · exact fun q => absurd (show (2 : Nat) < 2 from q) (by decide)
        · exact fun _ => show 1 < 3 by decide
        · exact fun _ => show 1 < 3 by decide
        · exact fun q => absurd (show (3 : Nat) < 2 from q) (by decide)
    obtain ⟨p, hp, ρ', w', a1, a2, a3, a4, a5⟩ := hA W0 S ρ w ⟨hE, ⟨(sx_la_args _ _).symm, hwf⟩, ⟨rfl, fun v hv => absurd hv List.not_mem_nil⟩, g4, g5⟩
    · cases List.mem_singleton.mp hp
      refine ⟨_, List.mem_singleton.mpr rfl, ρ', w', a1, a2, by rw [ea]; exact a3, ⟨sx_env_w a4.1 ?_, a4.2⟩, a5⟩
      have hh2 : decide (h ≤ 200) = true := decide_eq_true (by omega)
      show (_ && _ && _ && _ && (_ && decide (h ≤ 200) && _ && _ && _)) = true
      rw [hh2]
      rfl
  · have e1 : (Int32.ofInt (ρ 1 + 0)).toInt = ρ 1 := by rw [Int.add_zero]; exact Int32.toInt_ofInt_of_le (by omega) (by omega)
    have e2 : (Int32.ofInt (ρ 2 + 0)).toInt = ρ 2 := by rw [Int.add_zero]; exact Int32.toInt_ofInt_of_le (by omega) (by omega)
    have hne : ¬ (Int32.ofInt (ρ 2 + 0) - Int32.ofInt (ρ 1 + 0)) = Int32.ofInt l := by
      rw [← Int32.ofInt_sub]
      intro q
      have q2 := congrArg Int32.toInt q
      rw [Int32.toInt_ofInt_of_le (by omega) (by omega), Int32.toInt_ofInt_of_le (by omega) (by omega)] at q2
      omega
    have hrun := isW_no (j := j) hs (x := Int32.ofInt (ρ 1 + 0)) (y := Int32.ofInt (ρ 2 + 0)) (ℓ := Int32.ofInt l) (by rw [e1]; omega) (by rw [e2]; omega) hne (hL w) (by
      rw [Bool.and_eq_true, Nat.ble_eq, Nat.blt_eq]
      omega)
    have hE3 := sx_env_new (z := 0) (lo := 0) (hi := 1) (fl := 0) g1 (by decide) (by decide) (fun q => absurd q (by decide))
    refine ⟨_, List.mem_singleton.mpr rfl, sx_up ρ 3 0, w, fun i hi => sx_up_lt hi, Nat.le_succ _, ?_, ⟨hE3, ⟨rfl, fun q hq => absurd hq List.not_mem_nil⟩, ⟨rfl, fun v hv => ?_⟩, fun q hq => absurd hq List.not_mem_nil, g5⟩, sx_Fr.rf⟩
    · show mxRn 10 0 [(0, .ref (sx_ad W0 1)), (1, .int (Int32.ofInt (ρ 1 + 0))), (2, .int (Int32.ofInt (ρ 2 + 0))), (3, .retAddr (3 + j))] [] w (some (.int (Int32.ofInt (sx_up ρ 3 0 3 + 0))), w)
      rw [had, sx_up_eq]
      exact hrun
    · cases List.mem_singleton.mp hv
      exact fun _ => Nat.lt_succ_self 3
def k_isWord0 : sxK := ([(0, 0, 0, 0), (0, 200, 0, 0), (0, 200, 0, 0)], [(2, 1, 0), (0, 1, 0), (0, 2, 0), (3, 3, 0)], [(1, (0, 200, 0, 255, 2, none))], [([(0, 0, 0, 0), (0, 200, 0, 0), (0, 200, 0, 0), (0, 1, 0, 0)], some (0, 3, 0), [])])
theorem c_isWord0 : sx_C 10 k_isWord0 := isW_C (j := 0) (l := 5) (h := 195) (by decide) (by decide) (by decide) c_isWordA0 (fun w => ⟨60, fun n => rfl⟩)
def k_isWord1 : sxK := ([(0, 0, 0, 0), (0, 200, 0, 0), (0, 200, 0, 0)], [(2, 1, 0), (0, 1, 0), (0, 2, 0), (3, 4, 0)], [(1, (0, 200, 0, 255, 2, none))], [([(0, 0, 0, 0), (0, 200, 0, 0), (0, 200, 0, 0), (0, 1, 0, 0)], some (0, 3, 0), [])])
theorem c_isWord1 : sx_C 10 k_isWord1 := isW_C (j := 1) (l := 5) (h := 195) (by decide) (by decide) (by decide) c_isWordA1 (fun w => ⟨60, fun n => rfl⟩)
def k_isWord2 : sxK := ([(0, 0, 0, 0), (0, 200, 0, 0), (0, 200, 0, 0)], [(2, 1, 0), (0, 1, 0), (0, 2, 0), (3, 5, 0)], [(1, (0, 200, 0, 255, 2, none))], [([(0, 0, 0, 0), (0, 200, 0, 0), (0, 200, 0, 0), (0, 1, 0, 0)], some (0, 3, 0), [])])
theorem c_isWord2 : sx_C 10 k_isWord2 := isW_C (j := 2) (l := 4) (h := 196) (by decide) (by decide) (by decide) c_isWordA2 (fun w => ⟨60, fun n => rfl⟩)
def k_isWord3 : sxK := ([(0, 0, 0, 0), (0, 200, 0, 0), (0, 200, 0, 0)], [(2, 1, 0), (0, 1, 0), (0, 2, 0), (3, 6, 0)], [(1, (0, 200, 0, 255, 2, none))], [([(0, 0, 0, 0), (0, 200, 0, 0), (0, 200, 0, 0), (0, 1, 0, 0)], some (0, 3, 0), [])])
theorem c_isWord3 : sx_C 10 k_isWord3 := isW_C (j := 3) (l := 4) (h := 196) (by decide) (by decide) (by decide) c_isWordA3 (fun w => ⟨60, fun n => rfl⟩)
def k_isWord4 : sxK := ([(0, 0, 0, 0), (0, 200, 0, 0), (0, 200, 0, 0)], [(2, 1, 0), (0, 1, 0), (0, 2, 0), (3, 7, 0)], [(1, (0, 200, 0, 255, 2, none))], [([(0, 0, 0, 0), (0, 200, 0, 0), (0, 200, 0, 0), (0, 1, 0, 0)], some (0, 3, 0), [])])
theorem c_isWord4 : sx_C 10 k_isWord4 := isW_C (j := 4) (l := 4) (h := 196) (by decide) (by decide) (by decide) c_isWordA4 (fun w => ⟨60, fun n => rfl⟩)
def k_isWord5 : sxK := ([(0, 0, 0, 0), (0, 200, 0, 0), (0, 200, 0, 0)], [(2, 1, 0), (0, 1, 0), (0, 2, 0), (3, 8, 0)], [(1, (0, 200, 0, 255, 2, none))], [([(0, 0, 0, 0), (0, 200, 0, 0), (0, 200, 0, 0), (0, 1, 0, 0)], some (0, 3, 0), [])])
theorem c_isWord5 : sx_C 10 k_isWord5 := isW_C (j := 5) (l := 5) (h := 195) (by decide) (by decide) (by decide) c_isWordA5 (fun w => ⟨60, fun n => rfl⟩)
def k_isWord6 : sxK := ([(0, 0, 0, 0), (0, 200, 0, 0), (0, 200, 0, 0)], [(2, 1, 0), (0, 1, 0), (0, 2, 0), (3, 9, 0)], [(1, (0, 200, 0, 255, 2, none))], [([(0, 0, 0, 0), (0, 200, 0, 0), (0, 200, 0, 0), (0, 1, 0, 0)], some (0, 3, 0), [])])
theorem c_isWord6 : sx_C 10 k_isWord6 := isW_C (j := 6) (l := 4) (h := 196) (by decide) (by decide) (by decide) c_isWordA6 (fun w => ⟨60, fun n => rfl⟩)
