/-! the invariant of the law's loop, op by op -/
def Inv (w : mxW) (B : Nat) : Prop := ((∃ ρ : Nat → Int, sx_γ 28 TT ρ La [] [] w) ∨ (∃ (W0 : Nat) (ρ : Nat → Int), sx_γ W0 TT ρ Lb [] [] w)) ∧ w.1.length ≤ 32 + B ∧ mxsl w ≤ 1000000 + 6 * B
theorem HDa {W0 : Nat} {S : Nat → Prop} {ρ : Nat → Int} {w : mxW} (h : sx_γ W0 S ρ La [] [] w) : HD w := HD_of (h.2.2.2.1 _ (sx_hl (show La.2.2.2.1.lookup 0 = some _ from rfl))).1.1 (h.2.2.2.1 _ (sx_hl (show La.2.2.2.1.lookup 9 = some _ from rfl))).1.1
theorem HDb {W0 : Nat} {S : Nat → Prop} {ρ : Nat → Int} {w : mxW} (h : sx_γ W0 S ρ Lb [] [] w) : HD w := HD_of (h.2.2.2.1 _ (sx_hl (show Lb.2.2.2.1.lookup 0 = some _ from rfl))).1.1 (h.2.2.2.1 _ (sx_hl (show Lb.2.2.2.1.lookup 9 = some _ from rfl))).1.1
theorem HD_cg {w w' : mxW} (h : w'.1 = w.1) (hd : HD w) : HD w' := by
  obtain ⟨a, t, e⟩ := hd
  exact ⟨a, t, h.trans e⟩
theorem sl_cg {w w' : mxW} (h : w'.1 = w.1) : mxsl w' = mxsl w := by
  unfold mxsl
  rw [h]
theorem sl_app {w w' : mxW} (h : w'.1 = w.1 ++ [(3, 6)]) : mxsl w' = mxsl w + 6 := by
  unfold mxsl
  rw [h]
  simp
theorem γ_sh {W0 : Nat} {S : Nat → Prop} {ρ : Nat → Int} {A : sxA} {lv : mxV} {st : List Value} {w : mxW} (h : sx_γ W0 S ρ A lv st w) (l : List (Nat × Nat)) (hl : w.1.length = l.length) (hc : (List.range l.length).all (fun k => match A.2.2.2.1.lookup k with
  | some c => decide (l[k]? = some (c.1, c.2.1)) && Nat.blt k 1000
  | none => false) = true) : w.1 = l := by
  refine List.ext_getElem? (fun k => ?_)
  rcases Nat.lt_or_ge k l.length with hk | hk
  · have g := List.all_eq_true.mp hc k (List.mem_range.mpr hk)
    split at g
    · rename_i c hcl
      rw [Bool.and_eq_true, decide_eq_true_eq] at g
      have e := (h.2.2.2.1 _ (sx_hl hcl)).1.1
      replace e : w.1[sx_ad W0 k]? = some (c.1, c.2.1) := e
      rw [sx_ad_lt (Nat.blt_eq.mp g.2)] at e
      rw [e, g.1]
    · cases g
  · rw [List.getElem?_eq_none (by rw [hl]; exact hk), List.getElem?_eq_none hk]
def shB : List (Nat × Nat) := shA ++ [(5, 9), (1, 20000), (0, 20000), (0, 32768)]
theorem Inv32 {ρ : Nat → Int} {w : mxW} (h : sx_γ 32 TT ρ Lb [] [] w) (B : Nat) : Inv w B := by
  have hl : w.1.length = 32 := h.2.2.2.2.1.trans (sx_ad_1000 32)
  have e := γ_sh h shB (hl.trans rfl) (by decide +kernel)
  refine ⟨Or.inr ⟨32, ρ, h⟩, by omega, ?_⟩
  have : mxsl w ≤ 1000000 := by
    unfold mxsl
    rw [e]
    exact Nat.le_of_ble_eq_true rfl
  omega
theorem Inv_a {ρ : Nat → Int} {w w' : mxW} {B : Nat} (h : sx_γ 28 TT ρ La [] [] w') (e : w'.1 = w.1) (h1 : w.1.length ≤ 32 + B) (h2 : mxsl w ≤ 1000000 + 6 * B) : Inv w' (B + 1) := ⟨Or.inl ⟨ρ, h⟩, by rw [e]; omega, by rw [sl_cg e]; omega⟩
theorem Inv_b {W0 : Nat} {ρ : Nat → Int} {w w' : mxW} {B : Nat} (h : sx_γ W0 TT ρ Lb [] [] w') (e : w'.1 = w.1) (h1 : w.1.length ≤ 32 + B) (h2 : mxsl w ≤ 1000000 + 6 * B) : Inv w' (B + 1) := ⟨Or.inr ⟨W0, ρ, h⟩, by rw [e]; omega, by rw [sl_cg e]; omega⟩
theorem op_feed {L : Nat} {xs : Nat → Int32} {i : Int32} {w : mxW} {B : Nat} (hi : ∀ c : Int, 1 ≤ c → c ≤ 5 → mxin (i + Int32.ofInt c) L = true) (hI : Inv w B) (H : ∀ w' : mxW, Inv w' (B + 1) → mxOk L xs 627 (LV i) [] w') : mxOk L xs 116 (LV i) [] w := by
  obtain ⟨hI, hl, hs⟩ := hI
  rcases hI with ⟨ρ, g⟩ | ⟨W0, ρ, g⟩
  · obtain ⟨ρ1, g1, e1, e2, e3, e4, e5⟩ := ga_5 g (xs (i + Int32.ofInt 1).toNatClampNeg) (xs (i + Int32.ofInt 2).toNatClampNeg) (xs (i + Int32.ofInt 3).toNatClampNeg) (xs (i + Int32.ofInt 4).toNatClampNeg) (xs (i + Int32.ofInt 5).toNatClampNeg)
    obtain ⟨ρ2, w1, w2, x, y, r1, r2, g2, l1, l2, hxy⟩ := lpair c_feeda c_rfeed pa_feed g1
    have ea : [(2, 0, 0), (0, 80, 0), (0, 81, 0), (0, 82, 0), (0, 83, 0), (0, 84, 0)].map (sx_val 28 ρ1) = [.ref 0, .int (xs (i + Int32.ofInt 1).toNatClampNeg), .int (xs (i + Int32.ofInt 2).toNatClampNeg), .int (xs (i + Int32.ofInt 3).toNatClampNeg), .int (xs (i + Int32.ofInt 4).toNatClampNeg), .int (xs (i + Int32.ofInt 5).toNatClampNeg)] := by
      show [sx_val 28 ρ1 (2, 0, 0), sx_val 28 ρ1 (0, 80, 0), sx_val 28 ρ1 (0, 81, 0), sx_val 28 ρ1 (0, 82, 0), sx_val 28 ρ1 (0, 83, 0), sx_val 28 ρ1 (0, 84, 0)] = _
      rw [vl_int e1, vl_int e2, vl_int e3, vl_int e4, vl_int e5]
      rfl
    have eb : [(2, 9, 0), (0, 80, 0), (0, 81, 0), (0, 82, 0), (0, 83, 0), (0, 84, 0)].map (sx_val 28 ρ1) = [.ref 9, .int (xs (i + Int32.ofInt 1).toNatClampNeg), .int (xs (i + Int32.ofInt 2).toNatClampNeg), .int (xs (i + Int32.ofInt 3).toNatClampNeg), .int (xs (i + Int32.ofInt 4).toNatClampNeg), .int (xs (i + Int32.ofInt 5).toNatClampNeg)] := by
      show [sx_val 28 ρ1 (2, 9, 0), sx_val 28 ρ1 (0, 80, 0), sx_val 28 ρ1 (0, 81, 0), sx_val 28 ρ1 (0, 82, 0), sx_val 28 ρ1 (0, 83, 0), sx_val 28 ρ1 (0, 84, 0)] = _
      rw [vl_int e1, vl_int e2, vl_int e3, vl_int e4, vl_int e5]
      rfl
    rw [ea] at r1
    rw [eb] at r2
    exact lr_feed (HDa g) (HD_cg l1 (HDa g)) hi r1 r2 (H w2 (Inv_a g2 l2 hl hs))
  · obtain ⟨ρ1, g1, e1, e2, e3, e4, e5⟩ := gb_5 g (xs (i + Int32.ofInt 1).toNatClampNeg) (xs (i + Int32.ofInt 2).toNatClampNeg) (xs (i + Int32.ofInt 3).toNatClampNeg) (xs (i + Int32.ofInt 4).toNatClampNeg) (xs (i + Int32.ofInt 5).toNatClampNeg)
    obtain ⟨ρ2, w1, w2, x, y, r1, r2, g2, l1, l2, hxy⟩ := lpair c_feedb c_rfeed pb_feed g1
    have ea : [(2, 0, 0), (0, 86, 0), (0, 87, 0), (0, 88, 0), (0, 89, 0), (0, 90, 0)].map (sx_val W0 ρ1) = [.ref 0, .int (xs (i + Int32.ofInt 1).toNatClampNeg), .int (xs (i + Int32.ofInt 2).toNatClampNeg), .int (xs (i + Int32.ofInt 3).toNatClampNeg), .int (xs (i + Int32.ofInt 4).toNatClampNeg), .int (xs (i + Int32.ofInt 5).toNatClampNeg)] := by
      show [sx_val W0 ρ1 (2, 0, 0), sx_val W0 ρ1 (0, 86, 0), sx_val W0 ρ1 (0, 87, 0), sx_val W0 ρ1 (0, 88, 0), sx_val W0 ρ1 (0, 89, 0), sx_val W0 ρ1 (0, 90, 0)] = _
      rw [vl_int e1, vl_int e2, vl_int e3, vl_int e4, vl_int e5]
      rfl
    have eb : [(2, 9, 0), (0, 86, 0), (0, 87, 0), (0, 88, 0), (0, 89, 0), (0, 90, 0)].map (sx_val W0 ρ1) = [.ref 9, .int (xs (i + Int32.ofInt 1).toNatClampNeg), .int (xs (i + Int32.ofInt 2).toNatClampNeg), .int (xs (i + Int32.ofInt 3).toNatClampNeg), .int (xs (i + Int32.ofInt 4).toNatClampNeg), .int (xs (i + Int32.ofInt 5).toNatClampNeg)] := by
      show [sx_val W0 ρ1 (2, 9, 0), sx_val W0 ρ1 (0, 86, 0), sx_val W0 ρ1 (0, 87, 0), sx_val W0 ρ1 (0, 88, 0), sx_val W0 ρ1 (0, 89, 0), sx_val W0 ρ1 (0, 90, 0)] = _
      rw [vl_int e1, vl_int e2, vl_int e3, vl_int e4, vl_int e5]
      rfl
    rw [ea] at r1
    rw [eb] at r2
    exact lr_feed (HDb g) (HD_cg l1 (HDb g)) hi r1 r2 (H w2 (Inv_b g2 l2 hl hs))
theorem op_end {L : Nat} {xs : Nat → Int32} {i : Int32} {w : mxW} {B : Nat} (hi : ∀ c : Int, 1 ≤ c → c ≤ 5 → mxin (i + Int32.ofInt c) L = true) (hI : Inv w B) (H : ∀ w' : mxW, Inv w' (B + 1) → mxOk L xs 627 (LV i) [] w') : mxOk L xs 179 (LV i) [] w := by
  obtain ⟨hI, hl, hs⟩ := hI
  rcases hI with ⟨ρ, g⟩ | ⟨W0, ρ, g⟩
  · obtain ⟨ρ1, g1, e1⟩ := ga_1 g (xs (i + Int32.ofInt 1).toNatClampNeg)
    obtain ⟨ρ2, w1, w2, x, y, r1, r2, g2, l1, l2, hxy⟩ := pa_end g1
    have r1' : mxRn 56 0 [(0, .ref 0), (1, .int (xs (i + Int32.ofInt 1).toNatClampNeg))] [] w (some (.int x), w1) := by
      have ev : e4Na.2.1.map (sx_lv 28 ρ1) = [(0, .ref 0), (1, .int (xs (i + Int32.ofInt 1).toNatClampNeg))] := by
        show [(0, sx_val 28 ρ1 (2, 0, 0)), (1, sx_val 28 ρ1 (0, 80, 0))] = _
        rw [vl_int e1]
        rfl
      rw [ev] at r1
      exact r1
    have r2' : mxRn 84 0 [(0, .ref 9), (1, .int (xs (i + Int32.ofInt 1).toNatClampNeg))] [] w1 (some (.int y), w2) := by
      have ev : e13Na.2.1.map (sx_lv 28 ρ1) = [(0, .ref 9), (1, .int (xs (i + Int32.ofInt 1).toNatClampNeg))] := by
        show [(0, sx_val 28 ρ1 (2, 9, 0)), (1, sx_val 28 ρ1 (0, 80, 0))] = _
        rw [vl_int e1]
        rfl
      rw [ev] at r2
      exact r2
    exact lr_end (HDa g) (HD_cg l1 (HDa g)) hi r1' r2' (H w2 (Inv_a g2 l2 hl hs))
  · obtain ⟨ρ1, g1, e1⟩ := gb_1 g (xs (i + Int32.ofInt 1).toNatClampNeg)
    obtain ⟨ρ2, w1, w2, x, y, r1, r2, g2, l1, l2, hxy⟩ := pb_end g1
    have r1' : mxRn 56 0 [(0, .ref 0), (1, .int (xs (i + Int32.ofInt 1).toNatClampNeg))] [] w (some (.int x), w1) := by
      have ev : e4Nb.2.1.map (sx_lv W0 ρ1) = [(0, .ref 0), (1, .int (xs (i + Int32.ofInt 1).toNatClampNeg))] := by
        show [(0, sx_val W0 ρ1 (2, 0, 0)), (1, sx_val W0 ρ1 (0, 86, 0))] = _
        rw [vl_int e1]
        rfl
      rw [ev] at r1
      exact r1
    have r2' : mxRn 84 0 [(0, .ref 9), (1, .int (xs (i + Int32.ofInt 1).toNatClampNeg))] [] w1 (some (.int y), w2) := by
      have ev : e13Nb.2.1.map (sx_lv W0 ρ1) = [(0, .ref 9), (1, .int (xs (i + Int32.ofInt 1).toNatClampNeg))] := by
        show [(0, sx_val W0 ρ1 (2, 9, 0)), (1, sx_val W0 ρ1 (0, 86, 0))] = _
        rw [vl_int e1]
        rfl
      rw [ev] at r2
      exact r2
    exact lr_end (HDb g) (HD_cg l1 (HDb g)) hi r1' r2' (H w2 (Inv_b g2 l2 hl hs))
theorem op_house {L : Nat} {xs : Nat → Int32} {i : Int32} {w : mxW} {B : Nat} (hi : ∀ c : Int, 1 ≤ c → c ≤ 5 → mxin (i + Int32.ofInt c) L = true) (hI : Inv w B) (H : ∀ w' : mxW, Inv w' (B + 1) → mxOk L xs 627 (LV i) [] w') : mxOk L xs 202 (LV i) [] w := by
  obtain ⟨hI, hl, hs⟩ := hI
  rcases hI with ⟨ρ, g⟩ | ⟨W0, ρ, g⟩
  · have g1 := g
    obtain ⟨ρ2, w1, w2, x, y, r1, r2, g2, l1, l2, hxy⟩ := lpair c_housea c_rhouse2 pa_house g1
    have ea : [(2, 0, 0)].map (sx_val 28 ρ) = [.ref 0] := by
      show [sx_val 28 ρ (2, 0, 0)] = _
      rfl
    have eb : [(2, 9, 0)].map (sx_val 28 ρ) = [.ref 9] := by
      show [sx_val 28 ρ (2, 9, 0)] = _
      rfl
    rw [ea] at r1
    rw [eb] at r2
    exact lr_house (HDa g) (HD_cg l1 (HDa g)) hi r1 r2 (H w2 (Inv_a g2 l2 hl hs))
  · have g1 := g
    obtain ⟨ρ2, w1, w2, x, y, r1, r2, g2, l1, l2, hxy⟩ := lpair c_houseb c_rhouse2 pb_house g1
    have ea : [(2, 0, 0)].map (sx_val W0 ρ) = [.ref 0] := by
      show [sx_val W0 ρ (2, 0, 0)] = _
      rfl
    have eb : [(2, 9, 0)].map (sx_val W0 ρ) = [.ref 9] := by
      show [sx_val W0 ρ (2, 9, 0)] = _
      rfl
    rw [ea] at r1
    rw [eb] at r2
    exact lr_house (HDb g) (HD_cg l1 (HDb g)) hi r1 r2 (H w2 (Inv_b g2 l2 hl hs))
theorem op_has {L : Nat} {xs : Nat → Int32} {i : Int32} {w : mxW} {B : Nat} (hi : ∀ c : Int, 1 ≤ c → c ≤ 5 → mxin (i + Int32.ofInt c) L = true) (hI : Inv w B) (H : ∀ w' : mxW, Inv w' (B + 1) → mxOk L xs 627 (LV i) [] w') : mxOk L xs 215 (LV i) [] w := by
  obtain ⟨hI, hl, hs⟩ := hI
  rcases hI with ⟨ρ, g⟩ | ⟨W0, ρ, g⟩
  · obtain ⟨ρ1, g1, e1⟩ := ga_1 g (xs (i + Int32.ofInt 1).toNatClampNeg)
    obtain ⟨ρ2, w1, w2, x, y, r1, r2, g2, l1, l2, hxy⟩ := lpair c_hasa c_rhas pa_has g1
    have ea : [(2, 0, 0), (0, 80, 0)].map (sx_val 28 ρ1) = [.ref 0, .int (xs (i + Int32.ofInt 1).toNatClampNeg)] := by
      show [sx_val 28 ρ1 (2, 0, 0), sx_val 28 ρ1 (0, 80, 0)] = _
      rw [vl_int e1]
      rfl
    have eb : [(2, 9, 0), (0, 80, 0)].map (sx_val 28 ρ1) = [.ref 9, .int (xs (i + Int32.ofInt 1).toNatClampNeg)] := by
      show [sx_val 28 ρ1 (2, 9, 0), sx_val 28 ρ1 (0, 80, 0)] = _
      rw [vl_int e1]
      rfl
    rw [ea] at r1
    rw [eb] at r2
    exact lr_has (HDa g) (HD_cg l1 (HDa g)) hi r1 r2 (H w2 (Inv_a g2 l2 hl hs))
  · obtain ⟨ρ1, g1, e1⟩ := gb_1 g (xs (i + Int32.ofInt 1).toNatClampNeg)
    obtain ⟨ρ2, w1, w2, x, y, r1, r2, g2, l1, l2, hxy⟩ := lpair c_hasb c_rhas pb_has g1
    have ea : [(2, 0, 0), (0, 86, 0)].map (sx_val W0 ρ1) = [.ref 0, .int (xs (i + Int32.ofInt 1).toNatClampNeg)] := by
      show [sx_val W0 ρ1 (2, 0, 0), sx_val W0 ρ1 (0, 86, 0)] = _
      rw [vl_int e1]
      rfl
    have eb : [(2, 9, 0), (0, 86, 0)].map (sx_val W0 ρ1) = [.ref 9, .int (xs (i + Int32.ofInt 1).toNatClampNeg)] := by
      show [sx_val W0 ρ1 (2, 9, 0), sx_val W0 ρ1 (0, 86, 0)] = _
      rw [vl_int e1]
      rfl
    rw [ea] at r1
    rw [eb] at r2
    exact lr_has (HDb g) (HD_cg l1 (HDb g)) hi r1 r2 (H w2 (Inv_b g2 l2 hl hs))
theorem op_cost {L : Nat} {xs : Nat → Int32} {i : Int32} {w : mxW} {B : Nat} (hi : ∀ c : Int, 1 ≤ c → c ≤ 5 → mxin (i + Int32.ofInt c) L = true) (hI : Inv w B) (H : ∀ w' : mxW, Inv w' (B + 1) → mxOk L xs 627 (LV i) [] w') : mxOk L xs 238 (LV i) [] w := by
  obtain ⟨hI, hl, hs⟩ := hI
  rcases hI with ⟨ρ, g⟩ | ⟨W0, ρ, g⟩
  · obtain ⟨ρ1, g1, e1, e2⟩ := ga_2 g (xs (i + Int32.ofInt 1).toNatClampNeg) (xs (i + Int32.ofInt 2).toNatClampNeg)
    obtain ⟨ρ2, w1, w2, x, y, r1, r2, g2, l1, l2, hxy⟩ := lpair c_costa c_rcost pa_cost g1
    have ea : [(2, 0, 0), (0, 80, 0), (0, 81, 0)].map (sx_val 28 ρ1) = [.ref 0, .int (xs (i + Int32.ofInt 1).toNatClampNeg), .int (xs (i + Int32.ofInt 2).toNatClampNeg)] := by
      show [sx_val 28 ρ1 (2, 0, 0), sx_val 28 ρ1 (0, 80, 0), sx_val 28 ρ1 (0, 81, 0)] = _
      rw [vl_int e1, vl_int e2]
      rfl
    have eb : [(2, 9, 0), (0, 80, 0), (0, 81, 0)].map (sx_val 28 ρ1) = [.ref 9, .int (xs (i + Int32.ofInt 1).toNatClampNeg), .int (xs (i + Int32.ofInt 2).toNatClampNeg)] := by
      show [sx_val 28 ρ1 (2, 9, 0), sx_val 28 ρ1 (0, 80, 0), sx_val 28 ρ1 (0, 81, 0)] = _
      rw [vl_int e1, vl_int e2]
      rfl
    rw [ea] at r1
    rw [eb] at r2
    exact lr_cost (HDa g) (HD_cg l1 (HDa g)) hi r1 r2 (H w2 (Inv_a g2 l2 hl hs))
  · obtain ⟨ρ1, g1, e1, e2⟩ := gb_2 g (xs (i + Int32.ofInt 1).toNatClampNeg) (xs (i + Int32.ofInt 2).toNatClampNeg)
    obtain ⟨ρ2, w1, w2, x, y, r1, r2, g2, l1, l2, hxy⟩ := lpair c_costb c_rcost pb_cost g1
    have ea : [(2, 0, 0), (0, 86, 0), (0, 87, 0)].map (sx_val W0 ρ1) = [.ref 0, .int (xs (i + Int32.ofInt 1).toNatClampNeg), .int (xs (i + Int32.ofInt 2).toNatClampNeg)] := by
      show [sx_val W0 ρ1 (2, 0, 0), sx_val W0 ρ1 (0, 86, 0), sx_val W0 ρ1 (0, 87, 0)] = _
      rw [vl_int e1, vl_int e2]
      rfl
    have eb : [(2, 9, 0), (0, 86, 0), (0, 87, 0)].map (sx_val W0 ρ1) = [.ref 9, .int (xs (i + Int32.ofInt 1).toNatClampNeg), .int (xs (i + Int32.ofInt 2).toNatClampNeg)] := by
      show [sx_val W0 ρ1 (2, 9, 0), sx_val W0 ρ1 (0, 86, 0), sx_val W0 ρ1 (0, 87, 0)] = _
      rw [vl_int e1, vl_int e2]
      rfl
    rw [ea] at r1
    rw [eb] at r2
    exact lr_cost (HDb g) (HD_cg l1 (HDb g)) hi r1 r2 (H w2 (Inv_b g2 l2 hl hs))
theorem op_task {L : Nat} {xs : Nat → Int32} {i : Int32} {w : mxW} {B : Nat} (hi : ∀ c : Int, 1 ≤ c → c ≤ 5 → mxin (i + Int32.ofInt c) L = true) (hI : Inv w B) (H : ∀ w' : mxW, Inv w' (B + 1) → mxOk L xs 627 (LV i) [] w') : mxOk L xs 271 (LV i) [] w := by
  obtain ⟨hI, hl, hs⟩ := hI
  rcases hI with ⟨ρ, g⟩ | ⟨W0, ρ, g⟩
  · obtain ⟨ρ1, g1, e1, e2⟩ := ga_T g (xs (i + Int32.ofInt 1).toNatClampNeg) ((((xs (i + Int32.ofInt 2).toNatClampNeg)).toInt64 <<< ((Int8.ofInt 32).toInt32.toInt64 &&& 63)) ||| (((xs (i + Int32.ofInt 3).toNatClampNeg)).toInt64 &&& (4294967295 : Int64)))
    obtain ⟨ρ2, w1, w2, x, y, r1, r2, g2, l1, l2, hxy⟩ := pa_task g1
    have r1' : mxRn 60 0 [(0, .ref 0), (1, .int (xs (i + Int32.ofInt 1).toNatClampNeg)), (2, .long ((((xs (i + Int32.ofInt 2).toNatClampNeg)).toInt64 <<< ((Int8.ofInt 32).toInt32.toInt64 &&& 63)) ||| (((xs (i + Int32.ofInt 3).toNatClampNeg)).toInt64 &&& (4294967295 : Int64))))] [] w (some (.int x), w1) := by
      have ev : e4Ta.2.1.map (sx_lv 28 ρ1) = [(0, .ref 0), (1, .int (xs (i + Int32.ofInt 1).toNatClampNeg)), (2, .long ((((xs (i + Int32.ofInt 2).toNatClampNeg)).toInt64 <<< ((Int8.ofInt 32).toInt32.toInt64 &&& 63)) ||| (((xs (i + Int32.ofInt 3).toNatClampNeg)).toInt64 &&& (4294967295 : Int64))))] := by
        show [(0, sx_val 28 ρ1 (2, 0, 0)), (1, sx_val 28 ρ1 (0, 80, 0)), (2, sx_val 28 ρ1 (1, 81, 0))] = _
        rw [vl_int e1, vl_long e2]
        rfl
      rw [ev] at r1
      exact r1
    have r2' : mxRn 111 0 [(0, .ref 9), (1, .int (xs (i + Int32.ofInt 1).toNatClampNeg)), (2, .long ((((xs (i + Int32.ofInt 2).toNatClampNeg)).toInt64 <<< ((Int8.ofInt 32).toInt32.toInt64 &&& 63)) ||| (((xs (i + Int32.ofInt 3).toNatClampNeg)).toInt64 &&& (4294967295 : Int64))))] [] w1 (some (.int y), w2) := by
      have ev : ey25Ta.2.1.map (sx_lv 28 ρ1) = [(0, .ref 9), (1, .int (xs (i + Int32.ofInt 1).toNatClampNeg)), (2, .long ((((xs (i + Int32.ofInt 2).toNatClampNeg)).toInt64 <<< ((Int8.ofInt 32).toInt32.toInt64 &&& 63)) ||| (((xs (i + Int32.ofInt 3).toNatClampNeg)).toInt64 &&& (4294967295 : Int64))))] := by
        show [(0, sx_val 28 ρ1 (2, 9, 0)), (1, sx_val 28 ρ1 (0, 80, 0)), (2, sx_val 28 ρ1 (1, 81, 0))] = _
        rw [vl_int e1, vl_long e2]
        rfl
      rw [ev] at r2
      exact r2
    exact lr_task (HDa g) (HD_cg l1 (HDa g)) hi r1' r2' (H w2 (Inv_a g2 l2 hl hs))
  · obtain ⟨ρ1, g1, e1, e2⟩ := gb_T g (xs (i + Int32.ofInt 1).toNatClampNeg) ((((xs (i + Int32.ofInt 2).toNatClampNeg)).toInt64 <<< ((Int8.ofInt 32).toInt32.toInt64 &&& 63)) ||| (((xs (i + Int32.ofInt 3).toNatClampNeg)).toInt64 &&& (4294967295 : Int64)))
    obtain ⟨ρ2, w1, w2, x, y, r1, r2, g2, l1, l2, hxy⟩ := pb_task g1
    have r1' : mxRn 60 0 [(0, .ref 0), (1, .int (xs (i + Int32.ofInt 1).toNatClampNeg)), (2, .long ((((xs (i + Int32.ofInt 2).toNatClampNeg)).toInt64 <<< ((Int8.ofInt 32).toInt32.toInt64 &&& 63)) ||| (((xs (i + Int32.ofInt 3).toNatClampNeg)).toInt64 &&& (4294967295 : Int64))))] [] w (some (.int x), w1) := by
      have ev : e4Tb.2.1.map (sx_lv W0 ρ1) = [(0, .ref 0), (1, .int (xs (i + Int32.ofInt 1).toNatClampNeg)), (2, .long ((((xs (i + Int32.ofInt 2).toNatClampNeg)).toInt64 <<< ((Int8.ofInt 32).toInt32.toInt64 &&& 63)) ||| (((xs (i + Int32.ofInt 3).toNatClampNeg)).toInt64 &&& (4294967295 : Int64))))] := by
        show [(0, sx_val W0 ρ1 (2, 0, 0)), (1, sx_val W0 ρ1 (0, 86, 0)), (2, sx_val W0 ρ1 (1, 87, 0))] = _
        rw [vl_int e1, vl_long e2]
        rfl
      rw [ev] at r1
      exact r1
    have r2' : mxRn 111 0 [(0, .ref 9), (1, .int (xs (i + Int32.ofInt 1).toNatClampNeg)), (2, .long ((((xs (i + Int32.ofInt 2).toNatClampNeg)).toInt64 <<< ((Int8.ofInt 32).toInt32.toInt64 &&& 63)) ||| (((xs (i + Int32.ofInt 3).toNatClampNeg)).toInt64 &&& (4294967295 : Int64))))] [] w1 (some (.int y), w2) := by
      have ev : ey25Tb.2.1.map (sx_lv W0 ρ1) = [(0, .ref 9), (1, .int (xs (i + Int32.ofInt 1).toNatClampNeg)), (2, .long ((((xs (i + Int32.ofInt 2).toNatClampNeg)).toInt64 <<< ((Int8.ofInt 32).toInt32.toInt64 &&& 63)) ||| (((xs (i + Int32.ofInt 3).toNatClampNeg)).toInt64 &&& (4294967295 : Int64))))] := by
        show [(0, sx_val W0 ρ1 (2, 9, 0)), (1, sx_val W0 ρ1 (0, 86, 0)), (2, sx_val W0 ρ1 (1, 87, 0))] = _
        rw [vl_int e1, vl_long e2]
        rfl
      rw [ev] at r2
      exact r2
    exact lr_task (HDb g) (HD_cg l1 (HDb g)) hi r1' r2' (H w2 (Inv_b g2 l2 hl hs))
theorem op_goes {L : Nat} {xs : Nat → Int32} {i : Int32} {w : mxW} {B : Nat} (hi : ∀ c : Int, 1 ≤ c → c ≤ 5 → mxin (i + Int32.ofInt c) L = true) (hI : Inv w B) (H : ∀ w' : mxW, Inv w' (B + 1) → mxOk L xs 627 (LV i) [] w') : mxOk L xs 334 (LV i) [] w := by
  obtain ⟨hI, hl, hs⟩ := hI
  rcases hI with ⟨ρ, g⟩ | ⟨W0, ρ, g⟩
  · obtain ⟨ρ1, g1, e1, e2⟩ := ga_2 g (xs (i + Int32.ofInt 1).toNatClampNeg) (xs (i + Int32.ofInt 2).toNatClampNeg)
    obtain ⟨ρ2, w1, w2, x, y, r1, r2, g2, l1, l2, hxy⟩ := lpair c_goesa c_rgoes pa_goes g1
    have ea : [(2, 0, 0), (0, 80, 0), (0, 81, 0)].map (sx_val 28 ρ1) = [.ref 0, .int (xs (i + Int32.ofInt 1).toNatClampNeg), .int (xs (i + Int32.ofInt 2).toNatClampNeg)] := by
      show [sx_val 28 ρ1 (2, 0, 0), sx_val 28 ρ1 (0, 80, 0), sx_val 28 ρ1 (0, 81, 0)] = _
      rw [vl_int e1, vl_int e2]
      rfl
    have eb : [(2, 9, 0), (0, 80, 0), (0, 81, 0)].map (sx_val 28 ρ1) = [.ref 9, .int (xs (i + Int32.ofInt 1).toNatClampNeg), .int (xs (i + Int32.ofInt 2).toNatClampNeg)] := by
      show [sx_val 28 ρ1 (2, 9, 0), sx_val 28 ρ1 (0, 80, 0), sx_val 28 ρ1 (0, 81, 0)] = _
      rw [vl_int e1, vl_int e2]
      rfl
    rw [ea] at r1
    rw [eb] at r2
    exact lr_goes (HDa g) (HD_cg l1 (HDa g)) hi r1 r2 (H w2 (Inv_a g2 l2 hl hs))
  · obtain ⟨ρ1, g1, e1, e2⟩ := gb_2 g (xs (i + Int32.ofInt 1).toNatClampNeg) (xs (i + Int32.ofInt 2).toNatClampNeg)
    obtain ⟨ρ2, w1, w2, x, y, r1, r2, g2, l1, l2, hxy⟩ := lpair c_goesb c_rgoes pb_goes g1
    have ea : [(2, 0, 0), (0, 86, 0), (0, 87, 0)].map (sx_val W0 ρ1) = [.ref 0, .int (xs (i + Int32.ofInt 1).toNatClampNeg), .int (xs (i + Int32.ofInt 2).toNatClampNeg)] := by
      show [sx_val W0 ρ1 (2, 0, 0), sx_val W0 ρ1 (0, 86, 0), sx_val W0 ρ1 (0, 87, 0)] = _
      rw [vl_int e1, vl_int e2]
      rfl
    have eb : [(2, 9, 0), (0, 86, 0), (0, 87, 0)].map (sx_val W0 ρ1) = [.ref 9, .int (xs (i + Int32.ofInt 1).toNatClampNeg), .int (xs (i + Int32.ofInt 2).toNatClampNeg)] := by
      show [sx_val W0 ρ1 (2, 9, 0), sx_val W0 ρ1 (0, 86, 0), sx_val W0 ρ1 (0, 87, 0)] = _
      rw [vl_int e1, vl_int e2]
      rfl
    rw [ea] at r1
    rw [eb] at r2
    exact lr_goes (HDb g) (HD_cg l1 (HDb g)) hi r1 r2 (H w2 (Inv_b g2 l2 hl hs))
theorem op_drop {L : Nat} {xs : Nat → Int32} {i : Int32} {w : mxW} {B : Nat} (hi : ∀ c : Int, 1 ≤ c → c ≤ 5 → mxin (i + Int32.ofInt c) L = true) (hI : Inv w B) (H : ∀ w' : mxW, Inv w' (B + 1) → mxOk L xs 627 (LV i) [] w') : mxOk L xs 367 (LV i) [] w := by
  obtain ⟨hI, hl, hs⟩ := hI
  rcases hI with ⟨ρ, g⟩ | ⟨W0, ρ, g⟩
  · have g1 := g
    obtain ⟨ρ2, w1, w2, x, y, r1, r2, g2, l1, l2, hxy⟩ := lpair c_dropa c_rdrop pa_drop g1
    have ea : [(2, 0, 0)].map (sx_val 28 ρ) = [.ref 0] := by
      show [sx_val 28 ρ (2, 0, 0)] = _
      rfl
    have eb : [(2, 9, 0)].map (sx_val 28 ρ) = [.ref 9] := by
      show [sx_val 28 ρ (2, 9, 0)] = _
      rfl
    rw [ea] at r1
    rw [eb] at r2
    exact lr_drop (HDa g) (HD_cg l1 (HDa g)) hi r1 r2 (H w2 (Inv_a g2 l2 hl hs))
  · have g1 := g
    obtain ⟨ρ2, w1, w2, x, y, r1, r2, g2, l1, l2, hxy⟩ := lpair c_dropb c_rdrop pb_drop g1
    have ea : [(2, 0, 0)].map (sx_val W0 ρ) = [.ref 0] := by
      show [sx_val W0 ρ (2, 0, 0)] = _
      rfl
    have eb : [(2, 9, 0)].map (sx_val W0 ρ) = [.ref 9] := by
      show [sx_val W0 ρ (2, 9, 0)] = _
      rfl
    rw [ea] at r1
    rw [eb] at r2
    exact lr_drop (HDb g) (HD_cg l1 (HDb g)) hi r1 r2 (H w2 (Inv_b g2 l2 hl hs))
theorem op_begin {L : Nat} {xs : Nat → Int32} {i : Int32} {w : mxW} {B : Nat} (hi : ∀ c : Int, 1 ≤ c → c ≤ 5 → mxin (i + Int32.ofInt c) L = true) (hI : Inv w B) (H : ∀ w' : mxW, Inv w' (B + 1) → mxOk L xs 627 (LV i) [] w') : mxOk L xs 380 (LV i) [] w := by
  obtain ⟨hI, hl, hs⟩ := hI
  rcases hI with ⟨ρ, g⟩ | ⟨W0, ρ, g⟩
  · obtain ⟨ρ1, g1, e1⟩ := ga_1 g (xs (i + Int32.ofInt 1).toNatClampNeg)
    obtain ⟨ρ2, w1, w2, x, y, r1, r2, g2, l1, l2, hxy⟩ := lpair c_begina c_rbegin pa_begin g1
    have ea : [(2, 0, 0), (0, 80, 0)].map (sx_val 28 ρ1) = [.ref 0, .int (xs (i + Int32.ofInt 1).toNatClampNeg)] := by
      show [sx_val 28 ρ1 (2, 0, 0), sx_val 28 ρ1 (0, 80, 0)] = _
      rw [vl_int e1]
      rfl
    have eb : [(2, 9, 0), (0, 80, 0)].map (sx_val 28 ρ1) = [.ref 9, .int (xs (i + Int32.ofInt 1).toNatClampNeg)] := by
      show [sx_val 28 ρ1 (2, 9, 0), sx_val 28 ρ1 (0, 80, 0)] = _
      rw [vl_int e1]
      rfl
    rw [ea] at r1
    rw [eb] at r2
    exact lr_begin (HDa g) (HD_cg l1 (HDa g)) hi r1 r2 (H w2 (Inv_a g2 l2 hl hs))
  · obtain ⟨ρ1, g1, e1⟩ := gb_1 g (xs (i + Int32.ofInt 1).toNatClampNeg)
    obtain ⟨ρ2, w1, w2, x, y, r1, r2, g2, l1, l2, hxy⟩ := lpair c_beginb c_rbegin pb_begin g1
    have ea : [(2, 0, 0), (0, 86, 0)].map (sx_val W0 ρ1) = [.ref 0, .int (xs (i + Int32.ofInt 1).toNatClampNeg)] := by
      show [sx_val W0 ρ1 (2, 0, 0), sx_val W0 ρ1 (0, 86, 0)] = _
      rw [vl_int e1]
      rfl
    have eb : [(2, 9, 0), (0, 86, 0)].map (sx_val W0 ρ1) = [.ref 9, .int (xs (i + Int32.ofInt 1).toNatClampNeg)] := by
      show [sx_val W0 ρ1 (2, 9, 0), sx_val W0 ρ1 (0, 86, 0)] = _
      rw [vl_int e1]
      rfl
    rw [ea] at r1
    rw [eb] at r2
    exact lr_begin (HDb g) (HD_cg l1 (HDb g)) hi r1 r2 (H w2 (Inv_b g2 l2 hl hs))
theorem op_letter {L : Nat} {xs : Nat → Int32} {i : Int32} {w : mxW} {B : Nat} (hi : ∀ c : Int, 1 ≤ c → c ≤ 5 → mxin (i + Int32.ofInt c) L = true) (hI : Inv w B) (H : ∀ w' : mxW, Inv w' (B + 1) → mxOk L xs 627 (LV i) [] w') : mxOk L xs 403 (LV i) [] w := by
  obtain ⟨hI, hl, hs⟩ := hI
  rcases hI with ⟨ρ, g⟩ | ⟨W0, ρ, g⟩
  · obtain ⟨ρ1, g1, e1⟩ := ga_1 g (xs (i + Int32.ofInt 1).toNatClampNeg)
    obtain ⟨ρ2, w1, w2, x, y, r1, r2, g2, l1, l2, hxy⟩ := lpair c_lettera c_rletter pa_letter g1
    have ea : [(2, 0, 0), (0, 80, 0)].map (sx_val 28 ρ1) = [.ref 0, .int (xs (i + Int32.ofInt 1).toNatClampNeg)] := by
      show [sx_val 28 ρ1 (2, 0, 0), sx_val 28 ρ1 (0, 80, 0)] = _
      rw [vl_int e1]
      rfl
    have eb : [(2, 9, 0), (0, 80, 0)].map (sx_val 28 ρ1) = [.ref 9, .int (xs (i + Int32.ofInt 1).toNatClampNeg)] := by
      show [sx_val 28 ρ1 (2, 9, 0), sx_val 28 ρ1 (0, 80, 0)] = _
      rw [vl_int e1]
      rfl
    rw [ea] at r1
    rw [eb] at r2
    exact lr_letter (HDa g) (HD_cg l1 (HDa g)) hi r1 r2 (H w2 (Inv_a g2 l2 hl hs))
  · obtain ⟨ρ1, g1, e1⟩ := gb_1 g (xs (i + Int32.ofInt 1).toNatClampNeg)
    obtain ⟨ρ2, w1, w2, x, y, r1, r2, g2, l1, l2, hxy⟩ := lpair c_letterb c_rletter pb_letter g1
    have ea : [(2, 0, 0), (0, 86, 0)].map (sx_val W0 ρ1) = [.ref 0, .int (xs (i + Int32.ofInt 1).toNatClampNeg)] := by
      show [sx_val W0 ρ1 (2, 0, 0), sx_val W0 ρ1 (0, 86, 0)] = _
      rw [vl_int e1]
      rfl
    have eb : [(2, 9, 0), (0, 86, 0)].map (sx_val W0 ρ1) = [.ref 9, .int (xs (i + Int32.ofInt 1).toNatClampNeg)] := by
      show [sx_val W0 ρ1 (2, 9, 0), sx_val W0 ρ1 (0, 86, 0)] = _
      rw [vl_int e1]
      rfl
    rw [ea] at r1
    rw [eb] at r2
    exact lr_letter (HDb g) (HD_cg l1 (HDb g)) hi r1 r2 (H w2 (Inv_b g2 l2 hl hs))
theorem op_row {L : Nat} {xs : Nat → Int32} {i : Int32} {w : mxW} {B : Nat} (hi : ∀ c : Int, 1 ≤ c → c ≤ 5 → mxin (i + Int32.ofInt c) L = true) (hI : Inv w B) (H : ∀ w' : mxW, Inv w' (B + 1) → mxOk L xs 627 (LV i) [] w') : mxOk L xs 426 (LV i) [] w := by
  obtain ⟨hI, hl, hs⟩ := hI
  rcases hI with ⟨ρ, g⟩ | ⟨W0, ρ, g⟩
  · obtain ⟨ρ1, g1, e1⟩ := ga_1 g (xs (i + Int32.ofInt 1).toNatClampNeg)
    obtain ⟨ρ2, w1, w2, x, y, r1, r2, g2, l1, l2, hxy⟩ := lpair c_rowa c_rrow pa_row g1
    have ea : [(2, 0, 0), (0, 80, 0)].map (sx_val 28 ρ1) = [.ref 0, .int (xs (i + Int32.ofInt 1).toNatClampNeg)] := by
      show [sx_val 28 ρ1 (2, 0, 0), sx_val 28 ρ1 (0, 80, 0)] = _
      rw [vl_int e1]
      rfl
    have eb : [(2, 9, 0), (0, 80, 0)].map (sx_val 28 ρ1) = [.ref 9, .int (xs (i + Int32.ofInt 1).toNatClampNeg)] := by
      show [sx_val 28 ρ1 (2, 9, 0), sx_val 28 ρ1 (0, 80, 0)] = _
      rw [vl_int e1]
      rfl
    rw [ea] at r1
    rw [eb] at r2
    exact lr_row (HDa g) (HD_cg l1 (HDa g)) hi r1 r2 (H w2 (Inv_a g2 l2 hl hs))
  · obtain ⟨ρ1, g1, e1⟩ := gb_1 g (xs (i + Int32.ofInt 1).toNatClampNeg)
    obtain ⟨ρ2, w1, w2, x, y, r1, r2, g2, l1, l2, hxy⟩ := lpair c_rowb c_rrow pb_row g1
    have ea : [(2, 0, 0), (0, 86, 0)].map (sx_val W0 ρ1) = [.ref 0, .int (xs (i + Int32.ofInt 1).toNatClampNeg)] := by
      show [sx_val W0 ρ1 (2, 0, 0), sx_val W0 ρ1 (0, 86, 0)] = _
      rw [vl_int e1]
      rfl
    have eb : [(2, 9, 0), (0, 86, 0)].map (sx_val W0 ρ1) = [.ref 9, .int (xs (i + Int32.ofInt 1).toNatClampNeg)] := by
      show [sx_val W0 ρ1 (2, 9, 0), sx_val W0 ρ1 (0, 86, 0)] = _
      rw [vl_int e1]
      rfl
    rw [ea] at r1
    rw [eb] at r2
    exact lr_row (HDb g) (HD_cg l1 (HDb g)) hi r1 r2 (H w2 (Inv_b g2 l2 hl hs))
theorem op_ticket {L : Nat} {xs : Nat → Int32} {i : Int32} {w : mxW} {B : Nat} (hi : ∀ c : Int, 1 ≤ c → c ≤ 5 → mxin (i + Int32.ofInt c) L = true) (hI : Inv w B) (H : ∀ w' : mxW, Inv w' (B + 1) → mxOk L xs 627 (LV i) [] w') : mxOk L xs 449 (LV i) [] w := by
  obtain ⟨hI, hl, hs⟩ := hI
  rcases hI with ⟨ρ, g⟩ | ⟨W0, ρ, g⟩
  · obtain ⟨ρ1, g1, e1, e2⟩ := ga_2 g (xs (i + Int32.ofInt 1).toNatClampNeg) (xs (i + Int32.ofInt 2).toNatClampNeg)
    obtain ⟨ρ2, w1, w2, x, y, r1, r2, g2, l1, l2, hxy⟩ := lpair c_ticketa c_rticket pa_ticket g1
    have ea : [(2, 0, 0), (0, 80, 0), (0, 81, 0)].map (sx_val 28 ρ1) = [.ref 0, .int (xs (i + Int32.ofInt 1).toNatClampNeg), .int (xs (i + Int32.ofInt 2).toNatClampNeg)] := by
      show [sx_val 28 ρ1 (2, 0, 0), sx_val 28 ρ1 (0, 80, 0), sx_val 28 ρ1 (0, 81, 0)] = _
      rw [vl_int e1, vl_int e2]
      rfl
    have eb : [(2, 9, 0), (0, 80, 0), (0, 81, 0)].map (sx_val 28 ρ1) = [.ref 9, .int (xs (i + Int32.ofInt 1).toNatClampNeg), .int (xs (i + Int32.ofInt 2).toNatClampNeg)] := by
      show [sx_val 28 ρ1 (2, 9, 0), sx_val 28 ρ1 (0, 80, 0), sx_val 28 ρ1 (0, 81, 0)] = _
      rw [vl_int e1, vl_int e2]
      rfl
    rw [ea] at r1
    rw [eb] at r2
    exact lr_ticket (HDa g) (HD_cg l1 (HDa g)) hi r1 r2 (H w2 (Inv_a g2 l2 hl hs))
  · obtain ⟨ρ1, g1, e1, e2⟩ := gb_2 g (xs (i + Int32.ofInt 1).toNatClampNeg) (xs (i + Int32.ofInt 2).toNatClampNeg)
    obtain ⟨ρ2, w1, w2, x, y, r1, r2, g2, l1, l2, hxy⟩ := lpair c_ticketb c_rticket pb_ticket g1
    have ea : [(2, 0, 0), (0, 86, 0), (0, 87, 0)].map (sx_val W0 ρ1) = [.ref 0, .int (xs (i + Int32.ofInt 1).toNatClampNeg), .int (xs (i + Int32.ofInt 2).toNatClampNeg)] := by
      show [sx_val W0 ρ1 (2, 0, 0), sx_val W0 ρ1 (0, 86, 0), sx_val W0 ρ1 (0, 87, 0)] = _
      rw [vl_int e1, vl_int e2]
      rfl
    have eb : [(2, 9, 0), (0, 86, 0), (0, 87, 0)].map (sx_val W0 ρ1) = [.ref 9, .int (xs (i + Int32.ofInt 1).toNatClampNeg), .int (xs (i + Int32.ofInt 2).toNatClampNeg)] := by
      show [sx_val W0 ρ1 (2, 9, 0), sx_val W0 ρ1 (0, 86, 0), sx_val W0 ρ1 (0, 87, 0)] = _
      rw [vl_int e1, vl_int e2]
      rfl
    rw [ea] at r1
    rw [eb] at r2
    exact lr_ticket (HDb g) (HD_cg l1 (HDb g)) hi r1 r2 (H w2 (Inv_b g2 l2 hl hs))
theorem op_walk {L : Nat} {xs : Nat → Int32} {i : Int32} {w : mxW} {B : Nat} (hi : ∀ c : Int, 1 ≤ c → c ≤ 5 → mxin (i + Int32.ofInt c) L = true) (hI : Inv w B) (H : ∀ w' : mxW, Inv w' (B + 1) → mxOk L xs 627 (LV i) [] w') : mxOk L xs 482 (LV i) [] w := by
  obtain ⟨hI, hl, hs⟩ := hI
  rcases hI with ⟨ρ, g⟩ | ⟨W0, ρ, g⟩
  · obtain ⟨ρ1, g1, e1, e2, e3⟩ := ga_3 g (xs (i + Int32.ofInt 1).toNatClampNeg) (xs (i + Int32.ofInt 2).toNatClampNeg) (xs (i + Int32.ofInt 3).toNatClampNeg)
    have g2 : sx_γ 28 TT ρ1 e_wka (e_wka.2.1.map (sx_lv 28 ρ1)) [] w := ⟨g1.1, ⟨rfl, wf3 (n := 83) (by decide +kernel)⟩, ⟨rfl, fun q hq => absurd hq List.not_mem_nil⟩, g1.2.2.2⟩
    have ev : e_wka.2.1.map (sx_lv 28 ρ1) = [(0, .ref 0), (1, .int (xs (i + Int32.ofInt 1).toNatClampNeg)), (2, .int (xs (i + Int32.ofInt 2).toNatClampNeg)), (3, .int (xs (i + Int32.ofInt 3).toNatClampNeg))] := by
      show [(0, sx_val 28 ρ1 (2, 0, 0)), (1, sx_val 28 ρ1 (0, 80, 0)), (2, sx_val 28 ρ1 (0, 81, 0)), (3, sx_val 28 ρ1 (0, 82, 0))] = _
      rw [vl_int e1, vl_int e2, vl_int e3]
      rfl
    obtain ⟨x, w1, ρ2, r1, hw⟩ := wka_ok g2
    rw [ev] at r1
    rcases hw with ⟨g3, l1⟩ | g3
    · obtain ⟨ρ3, g4, f1, f2, f3⟩ := ga_3 g3 (xs (i + Int32.ofInt 1).toNatClampNeg) (xs (i + Int32.ofInt 2).toNatClampNeg) (xs (i + Int32.ofInt 3).toNatClampNeg)
      obtain ⟨ρ5, w2, y, r2, g5, l2⟩ := lcall c_rwalk la_rwalk g4
      have ea : [(2, 9, 0), (0, 80, 0), (0, 81, 0), (0, 82, 0)].map (sx_val 28 ρ3) = [.ref 9, .int (xs (i + Int32.ofInt 1).toNatClampNeg), .int (xs (i + Int32.ofInt 2).toNatClampNeg), .int (xs (i + Int32.ofInt 3).toNatClampNeg)] := by
        show [sx_val 28 ρ3 (2, 9, 0), sx_val 28 ρ3 (0, 80, 0), sx_val 28 ρ3 (0, 81, 0), sx_val 28 ρ3 (0, 82, 0)] = _
        rw [vl_int f1, vl_int f2, vl_int f3]
        rfl
      rw [ea] at r2
      exact lr_walk (HDa g) (HDa g3) hi r1 r2 (H w2 (Inv_a g5 (l2.trans l1) hl hs))
    · obtain ⟨ρ3, g4, f1, f2, f3⟩ := gb_3 g3 (xs (i + Int32.ofInt 1).toNatClampNeg) (xs (i + Int32.ofInt 2).toNatClampNeg) (xs (i + Int32.ofInt 3).toNatClampNeg)
      obtain ⟨ρ5, w2, y, r2, g5, l2⟩ := lcall c_rwalk lb_rwalk g4
      have ea : [(2, 9, 0), (0, 86, 0), (0, 87, 0), (0, 88, 0)].map (sx_val 32 ρ3) = [.ref 9, .int (xs (i + Int32.ofInt 1).toNatClampNeg), .int (xs (i + Int32.ofInt 2).toNatClampNeg), .int (xs (i + Int32.ofInt 3).toNatClampNeg)] := by
        show [sx_val 32 ρ3 (2, 9, 0), sx_val 32 ρ3 (0, 86, 0), sx_val 32 ρ3 (0, 87, 0), sx_val 32 ρ3 (0, 88, 0)] = _
        rw [vl_int f1, vl_int f2, vl_int f3]
        rfl
      rw [ea] at r2
      exact lr_walk (HDa g) (HDb g3) hi r1 r2 (H w2 (Inv32 g5 (B + 1)))
  · obtain ⟨ρ1, g1, e1, e2, e3⟩ := gb_3 g (xs (i + Int32.ofInt 1).toNatClampNeg) (xs (i + Int32.ofInt 2).toNatClampNeg) (xs (i + Int32.ofInt 3).toNatClampNeg)
    obtain ⟨ρ2, w1, x, r1, g2, l1⟩ := lcall c_walkb lb_walkb g1
    have ea : [(2, 0, 0), (0, 86, 0), (0, 87, 0), (0, 88, 0)].map (sx_val W0 ρ1) = [.ref 0, .int (xs (i + Int32.ofInt 1).toNatClampNeg), .int (xs (i + Int32.ofInt 2).toNatClampNeg), .int (xs (i + Int32.ofInt 3).toNatClampNeg)] := by
      show [sx_val W0 ρ1 (2, 0, 0), sx_val W0 ρ1 (0, 86, 0), sx_val W0 ρ1 (0, 87, 0), sx_val W0 ρ1 (0, 88, 0)] = _
      rw [vl_int e1, vl_int e2, vl_int e3]
      rfl
    rw [ea] at r1
    obtain ⟨ρ3, g4, f1, f2, f3⟩ := gb_3 g2 (xs (i + Int32.ofInt 1).toNatClampNeg) (xs (i + Int32.ofInt 2).toNatClampNeg) (xs (i + Int32.ofInt 3).toNatClampNeg)
    obtain ⟨ρ5, w2, y, r2, g5, l2⟩ := lcall c_rwalk lb_rwalk g4
    have eb : [(2, 9, 0), (0, 86, 0), (0, 87, 0), (0, 88, 0)].map (sx_val W0 ρ3) = [.ref 9, .int (xs (i + Int32.ofInt 1).toNatClampNeg), .int (xs (i + Int32.ofInt 2).toNatClampNeg), .int (xs (i + Int32.ofInt 3).toNatClampNeg)] := by
      show [sx_val W0 ρ3 (2, 9, 0), sx_val W0 ρ3 (0, 86, 0), sx_val W0 ρ3 (0, 87, 0), sx_val W0 ρ3 (0, 88, 0)] = _
      rw [vl_int f1, vl_int f2, vl_int f3]
      rfl
    rw [eb] at r2
    exact lr_walk (HDb g) (HDb g2) hi r1 r2 (H w2 (Inv_b g5 (l2.trans l1) hl hs))
theorem mend_b {L : Nat} {xs : Nat → Int32} {i : Int32} {w w1 : mxW} {x : Int32} {W0 : Nat} {ρ : Nat → Int} (hi : ∀ c : Int, 1 ≤ c → c ≤ 5 → mxin (i + Int32.ofInt c) L = true) (hd : HD w) (g : sx_γ W0 TT ρ Lb [] [] w1) (r1 : mxRn 75 0 [(0, .ref 0), (1, .int (xs (i + Int32.ofInt 1).toNatClampNeg)), (2, .int (xs (i + Int32.ofInt 2).toNatClampNeg))] [] w (some (.int x), w1)) (H : ∀ w2 : mxW, (∀ B, w1.1.length ≤ 32 + B → mxsl w1 ≤ 1000000 + 6 * B → Inv w2 (B + 1)) → mxOk L xs 627 (LV i) [] w2) : mxOk L xs 571 (LV i) [] w := by
  obtain ⟨ρ1, g1, e1, e2⟩ := gb_2 g (xs (i + Int32.ofInt 1).toNatClampNeg) (xs (i + Int32.ofInt 2).toNatClampNeg)
  have g2 : sx_γ W0 TT ρ1 e_rmb (e_rmb.2.1.map (sx_lv W0 ρ1)) [] w1 := ⟨g1.1, ⟨rfl, wf3 (n := 88) (by decide +kernel)⟩, ⟨rfl, fun q hq => absurd hq List.not_mem_nil⟩, g1.2.2.2⟩
  have ev : e_rmb.2.1.map (sx_lv W0 ρ1) = [(0, .ref 9), (1, .int (xs (i + Int32.ofInt 1).toNatClampNeg)), (2, .int (xs (i + Int32.ofInt 2).toNatClampNeg))] := by
    show [(0, sx_val W0 ρ1 (2, 9, 0)), (1, sx_val W0 ρ1 (0, 86, 0)), (2, sx_val W0 ρ1 (0, 87, 0))] = _
    rw [vl_int e1, vl_int e2]
    rfl
  obtain ⟨y, w2, ρ2, W1, r2, g3, hw⟩ := rmb_ok g2
  rw [ev] at r2
  refine lr_mend hd (HDb g) hi r1 r2 (H w2 (fun B h1 h2 => ⟨Or.inr ⟨W1, ρ2, g3⟩, ?_, ?_⟩))
  · rcases hw with e | e
    · rw [e]; omega
    · rw [e, List.length_append]
      show w1.1.length + 1 ≤ _
      omega
  · rcases hw with e | e
    · rw [sl_cg e]; omega
    · rw [sl_app e]; omega
theorem op_least {L : Nat} {xs : Nat → Int32} {i : Int32} {w : mxW} {B : Nat} (hi : ∀ c : Int, 1 ≤ c → c ≤ 5 → mxin (i + Int32.ofInt c) L = true) (hI : Inv w B) (H : ∀ w' : mxW, Inv w' (B + 1) → mxOk L xs 627 (LV i) [] w') : mxOk L xs 525 (LV i) [] w := by
  obtain ⟨hI, hl, hs⟩ := hI
  rcases hI with ⟨ρ, g⟩ | ⟨W0, ρ, g⟩
  · obtain ⟨ρ1, g1, e1⟩ := ga_1 g (xs (i + Int32.ofInt 1).toNatClampNeg)
    obtain ⟨ρ2, w1, w2, x, y, r1, r2, g2, l1, l2, hxy⟩ := lpair c_leasta c_rleast pa_least g1
    have ea : [(2, 0, 0), (0, 80, 0)].map (sx_val 28 ρ1) = [.ref 0, .int (xs (i + Int32.ofInt 1).toNatClampNeg)] := by
      show [sx_val 28 ρ1 (2, 0, 0), sx_val 28 ρ1 (0, 80, 0)] = _
      rw [vl_int e1]
      rfl
    have eb : [(2, 9, 0), (0, 80, 0)].map (sx_val 28 ρ1) = [.ref 9, .int (xs (i + Int32.ofInt 1).toNatClampNeg)] := by
      show [sx_val 28 ρ1 (2, 9, 0), sx_val 28 ρ1 (0, 80, 0)] = _
      rw [vl_int e1]
      rfl
    rw [ea] at r1
    rw [eb] at r2
    exact lr_least (HDa g) (HD_cg l1 (HDa g)) hi r1 r2 (H w2 (Inv_a g2 l2 hl hs))
  · obtain ⟨ρ1, g1, e1⟩ := gb_1 g (xs (i + Int32.ofInt 1).toNatClampNeg)
    obtain ⟨ρ2, w1, w2, x, y, r1, r2, g2, l1, l2, hxy⟩ := lpair c_leastb c_rleast pb_least g1
    have ea : [(2, 0, 0), (0, 86, 0)].map (sx_val W0 ρ1) = [.ref 0, .int (xs (i + Int32.ofInt 1).toNatClampNeg)] := by
      show [sx_val W0 ρ1 (2, 0, 0), sx_val W0 ρ1 (0, 86, 0)] = _
      rw [vl_int e1]
      rfl
    have eb : [(2, 9, 0), (0, 86, 0)].map (sx_val W0 ρ1) = [.ref 9, .int (xs (i + Int32.ofInt 1).toNatClampNeg)] := by
      show [sx_val W0 ρ1 (2, 9, 0), sx_val W0 ρ1 (0, 86, 0)] = _
      rw [vl_int e1]
      rfl
    rw [ea] at r1
    rw [eb] at r2
    exact lr_least (HDb g) (HD_cg l1 (HDb g)) hi r1 r2 (H w2 (Inv_b g2 l2 hl hs))
theorem op_walked {L : Nat} {xs : Nat → Int32} {i : Int32} {w : mxW} {B : Nat} (hi : ∀ c : Int, 1 ≤ c → c ≤ 5 → mxin (i + Int32.ofInt c) L = true) (hI : Inv w B) (H : ∀ w' : mxW, Inv w' (B + 1) → mxOk L xs 627 (LV i) [] w') : mxOk L xs 548 (LV i) [] w := by
  obtain ⟨hI, hl, hs⟩ := hI
  rcases hI with ⟨ρ, g⟩ | ⟨W0, ρ, g⟩
  · obtain ⟨ρ1, g1, e1⟩ := ga_1 g (xs (i + Int32.ofInt 1).toNatClampNeg)
    obtain ⟨ρ2, w1, w2, x, y, r1, r2, g2, l1, l2, hxy⟩ := lpair c_walkeda c_rwalked pa_walked g1
    have ea : [(2, 0, 0), (0, 80, 0)].map (sx_val 28 ρ1) = [.ref 0, .int (xs (i + Int32.ofInt 1).toNatClampNeg)] := by
      show [sx_val 28 ρ1 (2, 0, 0), sx_val 28 ρ1 (0, 80, 0)] = _
      rw [vl_int e1]
      rfl
    have eb : [(2, 9, 0), (0, 80, 0)].map (sx_val 28 ρ1) = [.ref 9, .int (xs (i + Int32.ofInt 1).toNatClampNeg)] := by
      show [sx_val 28 ρ1 (2, 9, 0), sx_val 28 ρ1 (0, 80, 0)] = _
      rw [vl_int e1]
      rfl
    rw [ea] at r1
    rw [eb] at r2
    exact lr_walked (HDa g) (HD_cg l1 (HDa g)) hi r1 r2 (H w2 (Inv_a g2 l2 hl hs))
  · obtain ⟨ρ1, g1, e1⟩ := gb_1 g (xs (i + Int32.ofInt 1).toNatClampNeg)
    obtain ⟨ρ2, w1, w2, x, y, r1, r2, g2, l1, l2, hxy⟩ := lpair c_walkedb c_rwalked pb_walked g1
    have ea : [(2, 0, 0), (0, 86, 0)].map (sx_val W0 ρ1) = [.ref 0, .int (xs (i + Int32.ofInt 1).toNatClampNeg)] := by
      show [sx_val W0 ρ1 (2, 0, 0), sx_val W0 ρ1 (0, 86, 0)] = _
      rw [vl_int e1]
      rfl
    have eb : [(2, 9, 0), (0, 86, 0)].map (sx_val W0 ρ1) = [.ref 9, .int (xs (i + Int32.ofInt 1).toNatClampNeg)] := by
      show [sx_val W0 ρ1 (2, 9, 0), sx_val W0 ρ1 (0, 86, 0)] = _
      rw [vl_int e1]
      rfl
    rw [ea] at r1
    rw [eb] at r2
    exact lr_walked (HDb g) (HD_cg l1 (HDb g)) hi r1 r2 (H w2 (Inv_b g2 l2 hl hs))
theorem op_mend {L : Nat} {xs : Nat → Int32} {i : Int32} {w : mxW} {B : Nat} (hi : ∀ c : Int, 1 ≤ c → c ≤ 5 → mxin (i + Int32.ofInt c) L = true) (hI : Inv w B) (H : ∀ w' : mxW, Inv w' (B + 1) → mxOk L xs 627 (LV i) [] w') : mxOk L xs 571 (LV i) [] w := by
  obtain ⟨hI, hl, hs⟩ := hI
  rcases hI with ⟨ρ, g⟩ | ⟨W0, ρ, g⟩
  · obtain ⟨ρ1, g1, e1, e2⟩ := ga_2 g (xs (i + Int32.ofInt 1).toNatClampNeg) (xs (i + Int32.ofInt 2).toNatClampNeg)
    have g2 : sx_γ 28 TT ρ1 e_mda (e_mda.2.1.map (sx_lv 28 ρ1)) [] w := ⟨g1.1, ⟨rfl, wf3 (n := 82) (by decide +kernel)⟩, ⟨rfl, fun q hq => absurd hq List.not_mem_nil⟩, g1.2.2.2⟩
    have ev : e_mda.2.1.map (sx_lv 28 ρ1) = [(0, .ref 0), (1, .int (xs (i + Int32.ofInt 1).toNatClampNeg)), (2, .int (xs (i + Int32.ofInt 2).toNatClampNeg))] := by
      show [(0, sx_val 28 ρ1 (2, 0, 0)), (1, sx_val 28 ρ1 (0, 80, 0)), (2, sx_val 28 ρ1 (0, 81, 0))] = _
      rw [vl_int e1, vl_int e2]
      rfl
    have ev9 : e_rma_0.2.1.map (sx_lv 28 ρ1) = [(0, .ref 9), (1, .int (xs (i + Int32.ofInt 1).toNatClampNeg)), (2, .int (xs (i + Int32.ofInt 2).toNatClampNeg))] := by
      show [(0, sx_val 28 ρ1 (2, 9, 0)), (1, sx_val 28 ρ1 (0, 80, 0)), (2, sx_val 28 ρ1 (0, 81, 0))] = _
      rw [vl_int e1, vl_int e2]
      rfl
    have hm := mda_ok g2
    rw [ev, ev9] at hm
    rcases hm with ⟨x, y, w1, w2, ρ2, r1, r2, g3, l1, l2⟩ | ⟨x, w1, ρ2, r1, g3⟩
    · exact lr_mend (HDa g) (HD_cg l1 (HDa g)) hi r1 r2 (H w2 (Inv_a g3 l2 hl hs))
    · exact mend_b hi (HDa g) g3 r1 (fun w2 hw2 => by
        obtain ⟨-, hl3, hs3⟩ := Inv32 g3 B
        exact H w2 (hw2 B hl3 hs3))
  · obtain ⟨ρ1, g1, e1, e2⟩ := gb_2 g (xs (i + Int32.ofInt 1).toNatClampNeg) (xs (i + Int32.ofInt 2).toNatClampNeg)
    obtain ⟨ρ2, w1, x, r1, g2, l1⟩ := lcall c_mendb lb_mendb g1
    have ea : [(2, 0, 0), (0, 86, 0), (0, 87, 0)].map (sx_val W0 ρ1) = [.ref 0, .int (xs (i + Int32.ofInt 1).toNatClampNeg), .int (xs (i + Int32.ofInt 2).toNatClampNeg)] := by
      show [sx_val W0 ρ1 (2, 0, 0), sx_val W0 ρ1 (0, 86, 0), sx_val W0 ρ1 (0, 87, 0)] = _
      rw [vl_int e1, vl_int e2]
      rfl
    rw [ea] at r1
    exact mend_b hi (HDb g) g2 r1 (fun w2 hw2 => H w2 (hw2 B (by rw [l1]; exact hl) (by rw [sl_cg l1]; exact hs)))
theorem op_count {L : Nat} {xs : Nat → Int32} {i : Int32} {w : mxW} {B : Nat} (hi : ∀ c : Int, 1 ≤ c → c ≤ 5 → mxin (i + Int32.ofInt c) L = true) (hI : Inv w B) (H : ∀ w' : mxW, Inv w' (B + 1) → mxOk L xs 627 (LV i) [] w') : mxOk L xs 604 (LV i) [] w := by
  obtain ⟨hI, hl, hs⟩ := hI
  rcases hI with ⟨ρ, g⟩ | ⟨W0, ρ, g⟩
  · obtain ⟨ρ1, g1, e1⟩ := ga_1 g (xs (i + Int32.ofInt 1).toNatClampNeg)
    obtain ⟨ρ2, w1, w2, x, y, r1, r2, g2, l1, l2, hxy⟩ := pa_count g1
    have ea : [(2, 0, 0), (0, 80, 0)].map (sx_val 28 ρ1) = [.ref 0, .int (xs (i + Int32.ofInt 1).toNatClampNeg)] := by
      show [sx_val 28 ρ1 (2, 0, 0), sx_val 28 ρ1 (0, 80, 0)] = _
      rw [vl_int e1]
      rfl
    have eb : [(2, 9, 0), (0, 80, 0)].map (sx_val 28 ρ1) = [.ref 9, .int (xs (i + Int32.ofInt 1).toNatClampNeg)] := by
      show [sx_val 28 ρ1 (2, 9, 0), sx_val 28 ρ1 (0, 80, 0)] = _
      rw [vl_int e1]
      rfl
    rw [ea] at r1
    rw [eb] at r2
    exact lr_count (HDa g) (HD_cg l1 (HDa g)) hi r1 r2 (hxy rfl) (H w2 (Inv_a g2 l2 hl hs))
  · obtain ⟨ρ1, g1, e1⟩ := gb_1 g (xs (i + Int32.ofInt 1).toNatClampNeg)
    obtain ⟨ρ2, w1, w2, x, y, r1, r2, g2, l1, l2, hxy⟩ := pb_count g1
    have ea : [(2, 0, 0), (0, 86, 0)].map (sx_val W0 ρ1) = [.ref 0, .int (xs (i + Int32.ofInt 1).toNatClampNeg)] := by
      show [sx_val W0 ρ1 (2, 0, 0), sx_val W0 ρ1 (0, 86, 0)] = _
      rw [vl_int e1]
      rfl
    have eb : [(2, 9, 0), (0, 86, 0)].map (sx_val W0 ρ1) = [.ref 9, .int (xs (i + Int32.ofInt 1).toNatClampNeg)] := by
      show [sx_val W0 ρ1 (2, 9, 0), sx_val W0 ρ1 (0, 86, 0)] = _
      rw [vl_int e1]
      rfl
    rw [ea] at r1
    rw [eb] at r2
    exact lr_count (HDb g) (HD_cg l1 (HDb g)) hi r1 r2 (hxy rfl) (H w2 (Inv_b g2 l2 hl hs))
