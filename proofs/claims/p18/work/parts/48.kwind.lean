/-! walks: the inductions -/
def wFIN (W0 : Nat) (S : Nat → Prop) (ρ0 : Nat → Int) (pc : Nat) (lv : mxV) (st : List Value) (w : mxW) : Prop := ∃ (ret : Int) (w' : mxW) (ρ' : Nat → Int), mxRn 117 pc lv st w (some (.int (Int32.ofInt ret)), w') ∧ -2 ≤ ret ∧ ret ≤ 10 ∧ (∀ i ∈ KP, ρ' i = ρ0 i) ∧ sx_γ W0 S ρ' vHP [] [] w' ∧ sx_Fr S w w'
theorem wFIN.go {W0 : Nat} {S : Nat → Prop} {ρ0 : Nat → Int} {pc pc' : Nat} {lv lv' : mxV} {st st' : List Value} {w w' : mxW} (h : ∀ res, mxRn 117 pc' lv' st' w' res → mxRn 117 pc lv st w res) (f : sx_Fr S w w') (F : wFIN W0 S ρ0 pc' lv' st' w') : wFIN W0 S ρ0 pc lv st w := by
  obtain ⟨r, w2, ρ', a1, a2, a3, a4, a5, a6⟩ := F
  exact ⟨r, w2, ρ', h _ a1, a2, a3, a4, a5, f.tr a6⟩
theorem γ_drop {W0 : Nat} {S : Nat → Prop} {ρ : Nat → Int} {A : sxA} {lv : mxV} {st : List Value} {w : mxW} (h : sx_γ W0 S ρ A lv st w) : sx_γ W0 S ρ (A.1, [], [], A.2.2.2.1, A.2.2.2.2) [] [] w := ⟨h.1, ⟨rfl, fun q hq => absurd hq List.not_mem_nil⟩, ⟨rfl, fun q hq => absurd hq List.not_mem_nil⟩, h.2.2.2⟩
theorem env_set {E : List sxe} {ρ : Nat → Int} (h : sx_env E ρ) {i : Nat} {e : sxe} {lo hi : Int} (he : E[i]? = some e) (h1 : lo ≤ ρ i) (h2 : ρ i ≤ hi) : sx_env (E.set i (lo, hi, e.2.2)) ρ := by
  refine ⟨h.1, by rw [List.length_set]; exact h.2.1, fun j q hq => ?_⟩
  rw [List.length_set]
  by_cases hj : j = i
  · subst hj
    rw [List.getElem?_set_self (List.getElem?_eq_some_iff.mp he).1] at hq
    cases hq
    exact ⟨h1, h2, (h.2.2 j e he).2.2⟩
  · rw [List.getElem?_set_ne (Ne.symm hj)] at hq
    exact h.2.2 j q hq
theorem KP_lt : ∀ i ∈ KP, i < 41 := by decide
def wG (w : mxW) (n : Int) : Prop := cz (w.2.1 24) 65536 ≤ n.toNat
def wD (w : mxW) (L d : Int) : Prop := ∀ x : Nat, (x : Int) < L → dpt (w.2.1 22) d.toNat x
theorem wD.cg {w w' : mxW} {L d L' d' : Int} (h : wD w L d) (e : w'.2.1 22 = w.2.1 22) (hL : L' = L) (hd : d' = d) : wD w' L' d' := by
  subst hL
  subst hd
  intro x hx
  rw [e]
  exact h x hx
theorem wD.up {w : mxW} {L d : Int} (h : wD w L (d - 1)) (hd : 1 ≤ d) : wD w L d := by
  intro x hx
  have := dpt_up (h x hx)
  rw [show (d - 1).toNat + 1 = d.toNat by omega] at this
  exact this
def G59 (ρ0 ρ : Nat → Int) (w : mxW) : Prop := 26 ≤ w.1.length ∧ wG w (ρ 17) ∧ wD w (ρ 17) (ρ 42 - 1) ∧ ∀ i ∈ KP, ρ i = ρ0 i
def G75 (ρ0 ρ : Nat → Int) (w : mxW) : Prop := 26 ≤ w.1.length ∧ wG w (ρ 17) ∧ wD w (ρ 43) (ρ 42 - 1) ∧ wD w (ρ 17) (ρ 42) ∧ ρ 43 ≤ ρ 17 ∧ ∀ i ∈ KP, ρ i = ρ0 i
theorem wshp {W0 : Nat} {S : Nat → Prop} {ρ : Nat → Int} {A : sxA} {lv : mxV} {st : List Value} {w : mxW} (h : sx_γ W0 S ρ A lv st w) {vs : List sxv} (h9 : A.2.2.2.1.lookup 9 = some (8, 37, 0, 0, 0, some vs)) (v24 : vs[24]? = some (2, 21, 0)) (v25 : vs[25]? = some (2, 22, 0)) (v26 : vs[26]? = some (2, 23, 0)) (v27 : vs[27]? = some (2, 24, 0)) (v30 : vs[30]? = some (2, 25, 0)) (h21 : A.2.2.2.1.lookup 21 = some (1, 20001, 0, 9223372036854775807, 1, none)) (h22 : A.2.2.2.1.lookup 22 = some (0, 20001, -1, 20000, 0, none)) (h23 : A.2.2.2.1.lookup 23 = some (0, 20001, -2147483648, 2147483647, 0, none)) (h24 : A.2.2.2.1.lookup 24 = some (0, 65536, 0, 20001, 0, none)) (h25 : A.2.2.2.1.lookup 25 = some (0, 10, -2147483648, 2147483647, 0, none)) : (w.1[9]? = some (8, 37) ∧ w.1[21]? = some (1, 20001) ∧ w.1[22]? = some (0, 20001) ∧ w.1[23]? = some (0, 20001) ∧ w.1[24]? = some (0, 65536) ∧ w.1[25]? = some (0, 10)) ∧ (w.2.2.2 9 24 = .ref 21 ∧ w.2.2.2 9 25 = .ref 22 ∧ w.2.2.2 9 26 = .ref 23 ∧ w.2.2.2 9 27 = .ref 24 ∧ w.2.2.2 9 30 = .ref 25) ∧ ∀ j, j < 65536 → 0 ≤ (w.2.1 24 j).toInt ∧ (w.2.1 24 j).toInt ≤ 20001 := by
  have c9 := (h.2.2.2.1 _ (sx_hl h9)).1
  have c21 := (h.2.2.2.1 _ (sx_hl h21)).1
  have c22 := (h.2.2.2.1 _ (sx_hl h22)).1
  have c23 := (h.2.2.2.1 _ (sx_hl h23)).1
  have c24 := (h.2.2.2.1 _ (sx_hl h24)).1
  have c25 := (h.2.2.2.1 _ (sx_hl h25)).1
  dsimp only at c9 c21 c22 c23 c24 c25
  rw [sx_ad_lt (show 9 < 1000 by decide)] at c9
  rw [sx_ad_lt (show 21 < 1000 by decide)] at c21
  rw [sx_ad_lt (show 22 < 1000 by decide)] at c22
  rw [sx_ad_lt (show 23 < 1000 by decide)] at c23
  rw [sx_ad_lt (show 24 < 1000 by decide)] at c24
  rw [sx_ad_lt (show 25 < 1000 by decide)] at c25
  exact ⟨⟨c9.1, c21.1, c22.1, c23.1, c24.1, c25.1⟩, ⟨(c9.2 24 _ v24).2.trans (congrArg Value.ref (sx_ad_lt (show 21 < 1000 by decide))), (c9.2 25 _ v25).2.trans (congrArg Value.ref (sx_ad_lt (show 22 < 1000 by decide))), (c9.2 26 _ v26).2.trans (congrArg Value.ref (sx_ad_lt (show 23 < 1000 by decide))), (c9.2 27 _ v27).2.trans (congrArg Value.ref (sx_ad_lt (show 24 < 1000 by decide))), (c9.2 30 _ v30).2.trans (congrArg Value.ref (sx_ad_lt (show 25 < 1000 by decide)))⟩, fun j hj => ⟨(c24.2.2 j hj).1, (c24.2.2 j hj).2.1⟩⟩
theorem me_G2 {w : mxW} (hs : w.1[9]? = some (8, 37) ∧ w.1[21]? = some (1, 20001) ∧ w.1[22]? = some (0, 20001) ∧ w.1[23]? = some (0, 20001) ∧ w.1[24]? = some (0, 65536) ∧ w.1[25]? = some (0, 10)) (hq : w.2.2.2 9 24 = .ref 21 ∧ w.2.2.2 9 25 = .ref 22 ∧ w.2.2.2 9 26 = .ref 23 ∧ w.2.2.2 9 27 = .ref 24 ∧ w.2.2.2 9 30 = .ref 25) (hb : ∀ j, j < 65536 → 0 ≤ (w.2.1 24 j).toInt ∧ (w.2.1 24 j).toInt ≤ 20001) (hz : cz (w.2.1 24) 65536 < 65536) (hn : 0 ≤ (w.2.1 9 28).toInt) {v : Int64} {f l : Int32} {rv : Option Value} {w' : mxW} (hr : mxRn 116 0 [(0, .ref 9), (1, .long v), (3, .int f), (4, .int l)] [] w (rv, w')) : me_G w w' f := by
  obtain ⟨shw, I, J, Q⟩ := w
  obtain ⟨a, sh, rfl⟩ := shW_ex shw hs.1 hs.2.1 hs.2.2.1 hs.2.2.2.1 hs.2.2.2.2.1 hs.2.2.2.2.2
  have hQ : QW Q = Q := QW_eq hq.1 hq.2.1 hq.2.2.1 hq.2.2.2.1 hq.2.2.2.2
  have hm := me_C (a := a) (sh := sh) (I := I) (J := J) (Q := Q) (v := v) (f := f) (l := l) hz hb hn
  rw [hQ] at hm
  rcases hm with hm | ⟨hle, h, h0, h1, h24, hm⟩
  · have e := mxRn_det hr hm
    cases e
    exact Or.inl rfl
  · have e := mxRn_det hr hm
    cases e
    refine Or.inr ⟨hle, ?_, ?_, fun j hj => ?_, ?_⟩
    · have c1 : (1 : Int32).toInt = 1 := rfl
      have hle : (I 9 28).toInt ≤ 20000 := hle
      have hn : 0 ≤ (I 9 28).toInt := hn
      show (I 9 28 + 1).toInt = _
      rw [Int32.toInt_add, c1]
      exact Int.bmod_eq_of_le (by omega) (by omega)
    · have hu := cz_upd (f := I 24) (g := upd (I 24) h.toNatClampNeg (I 9 28 + 1)) (h := h.toNatClampNeg) (fun j hj => if_neg hj) 65536
      refine Nat.le_trans hu ?_
      show cz (I 24) 65536 + _ ≤ cz (I 24) 65536 + 1
      split <;> omega
    · show upd (I 22) (I 9 28).toNatClampNeg _ j = I 22 j
      exact if_neg hj
    · show upd (I 22) (I 9 28).toNatClampNeg _ (I 9 28).toInt.toNat = _
      exact if_pos rfl
/-- the ghosts behind meets -/
theorem me_D {w w' : mxW} {f : Int32} (h : me_G w w' f) {n d L k : Int} (hst : (w.2.1 9 28).toInt = n) (hn0 : 0 ≤ n) (hd : 1 ≤ d) (hk : f.toInt = k) (hkL : (0 ≤ k ∧ k < L) ∨ k = -1) (hLn : L ≤ n) (g1 : wG w n) (g2 : wD w L (d - 1)) (g3 : wD w n d) : wG w' (w'.2.1 9 28).toInt ∧ wD w' L (d - 1) ∧ wD w' (w'.2.1 9 28).toInt d ∧ L ≤ (w'.2.1 9 28).toInt := by
  rcases h with rfl | ⟨h1, h2, h3, h4, h5⟩
  · rw [hst]
    exact ⟨g1, g2, g3, hLn⟩
  · rw [hst] at h1 h2 h4 h5
    rw [h2]
    have cg : ∀ j, j < n.toNat → w'.2.1 22 j = w.2.1 22 j := fun j hj => h4 j (by omega)
    refine ⟨?_, fun x hx => dpt_cg cg (by omega) (g2 x hx), fun x hx => ?_, by omega⟩
    · unfold wG at g1 ⊢
      omega
    · rcases Int.lt_or_le (x : Int) n with hx2 | hx2
      · exact dpt_cg cg (by omega) (g3 x hx2)
      · have ex : x = n.toNat := by omega
        subst ex
        obtain ⟨e, he⟩ : ∃ e, d.toNat = e + 1 := ⟨d.toNat - 1, by omega⟩
        rw [he]
        rcases hkL with hk1 | hk1
        · refine Or.inr ⟨k.toNat, by omega, by rw [h5, hk]; omega, dpt_cg cg (by omega) ?_⟩
          have := g2 k.toNat (by omega)
          rw [show (d - 1).toNat = e by omega] at this
          exact this
        · refine Or.inl ?_
          rw [h5]
          exact Int32.toInt_inj.mp (by rw [hk, hk1]; rfl)

theorem f59a {W0 : Nat} {S : Nat → Prop} (hS : ∀ k, 21 ≤ k → k ≤ 25 → S k) {ρ0 ρ : Nat → Int} {lv : mxV} {w : mxW} (hγ : sx_γ W0 S ρ v59a lv [] w) (hG : G59 ρ0 ρ w) (hc : ∀ (ρ1 : Nat → Int) (lv1 : mxV) (w1 : mxW), sx_γ W0 S ρ1 v75a lv1 [] w1 → G75 ρ0 ρ1 w1 → ρ1 42 = ρ 42 → wFIN W0 S ρ0 75 lv1 [] w1) : wFIN W0 S ρ0 59 lv [] w := by
  obtain ⟨hl, hg1, hg2, hkp⟩ := hG
  obtain ⟨y, hy, ρ1, lv1, st1, w1, a1, a2, a3, a4, a5, a6, a7⟩ := wblk b59a (by decide) (by decide) hS hl hγ
  simp only [Y59a, List.mem_cons, List.not_mem_nil, or_false] at hy
  rcases hy with rfl | rfl
  · refine wFIN.go a7 a3 ⟨0, w1, sx_ρ s59a_0 ρ1, ?_, by decide, by decide, fun i hi => (kps_ok s59a_0_kp i hi).trans ((a1 i (Nat.lt_trans (KP_lt i hi) (by decide))).trans (hkp i hi)), (sx_sub_ok (A := d59a_0) (γ_drop a2) s59a_0_ok).1, sx_Fr.rf⟩
    have e := a2.2.2.1.1
    replace e : st1 = [.int (Int32.ofInt (ρ1 0 + 0))] := e
    rw [e, a2.1.1]
    exact mxRn.ret 1 (fun n => rfl)
  · have g := (sx_sub_ok a2 s59a_1_ok).1
    have e := g.2.2.1.1
    replace e : st1 = [] := e
    subst e
    refine wFIN.go a7 a3 (hc _ _ _ g ⟨by rw [a4]; exact hl, ?_, ?_, ?_, ?_, fun i hi => (kps_ok s59a_1_kp i hi).trans ((a1 i (Nat.lt_trans (KP_lt i hi) (by decide))).trans (hkp i hi))⟩ ?_)
    · show wG w1 (ρ1 17 + 0)
      unfold wG
      rw [a6, Int.add_zero, a1 17 (by decide)]
      exact hg1
    · exact hg2.cg a5 (show ρ1 17 + 0 = ρ 17 by rw [Int.add_zero, a1 17 (by decide)]) (show ρ1 42 + 0 - 1 = ρ 42 - 1 by rw [Int.add_zero, a1 42 (by decide)])
    · have hb := hγ.1.2.2 42 _ rfl
      have hb1 : (1 : Int) ≤ ρ 42 := hb.1
      exact (hg2.up hb1).cg a5 (show ρ1 17 + 0 = ρ 17 by rw [Int.add_zero, a1 17 (by decide)]) (show ρ1 42 + 0 = ρ 42 by rw [Int.add_zero, a1 42 (by decide)])
    · exact Int.le_refl (ρ1 17 + 0)
    · show ρ1 42 + 0 = ρ 42
      rw [Int.add_zero, a1 42 (by decide)]
theorem f59b {W0 : Nat} {S : Nat → Prop} (hS : ∀ k, 21 ≤ k → k ≤ 25 → S k) {ρ0 ρ : Nat → Int} {lv : mxV} {w : mxW} (hγ : sx_γ W0 S ρ v59b lv [] w) (hG : G59 ρ0 ρ w) (hc : ∀ (ρ1 : Nat → Int) (lv1 : mxV) (w1 : mxW), sx_γ W0 S ρ1 v75b lv1 [] w1 → G75 ρ0 ρ1 w1 → ρ1 42 = ρ 42 → wFIN W0 S ρ0 75 lv1 [] w1) : wFIN W0 S ρ0 59 lv [] w := by
  obtain ⟨hl, hg1, hg2, hkp⟩ := hG
  obtain ⟨y, hy, ρ1, lv1, st1, w1, a1, a2, a3, a4, a5, a6, a7⟩ := wblk b59b (by decide) (by decide) hS hl hγ
  simp only [Y59b, List.mem_cons, List.not_mem_nil, or_false] at hy
  rcases hy with rfl | rfl
  · refine wFIN.go a7 a3 ⟨0, w1, sx_ρ s59b_0 ρ1, ?_, by decide, by decide, fun i hi => (kps_ok s59b_0_kp i hi).trans ((a1 i (Nat.lt_trans (KP_lt i hi) (by decide))).trans (hkp i hi)), (sx_sub_ok (A := d59b_0) (γ_drop a2) s59b_0_ok).1, sx_Fr.rf⟩
    have e := a2.2.2.1.1
    replace e : st1 = [.int (Int32.ofInt (ρ1 0 + 0))] := e
    rw [e, a2.1.1]
    exact mxRn.ret 1 (fun n => rfl)
  · have g := (sx_sub_ok a2 s59b_1_ok).1
    have e := g.2.2.1.1
    replace e : st1 = [] := e
    subst e
    refine wFIN.go a7 a3 (hc _ _ _ g ⟨by rw [a4]; exact hl, ?_, ?_, ?_, ?_, fun i hi => (kps_ok s59b_1_kp i hi).trans ((a1 i (Nat.lt_trans (KP_lt i hi) (by decide))).trans (hkp i hi))⟩ ?_)
    · show wG w1 (ρ1 17 + 0)
      unfold wG
      rw [a6, Int.add_zero, a1 17 (by decide)]
      exact hg1
    · exact hg2.cg a5 (show ρ1 17 + 0 = ρ 17 by rw [Int.add_zero, a1 17 (by decide)]) (show ρ1 42 + 0 - 1 = ρ 42 - 1 by rw [Int.add_zero, a1 42 (by decide)])
    · have hb := hγ.1.2.2 42 _ rfl
      have hb1 : (1 : Int) ≤ ρ 42 := hb.1
      exact (hg2.up hb1).cg a5 (show ρ1 17 + 0 = ρ 17 by rw [Int.add_zero, a1 17 (by decide)]) (show ρ1 42 + 0 = ρ 42 by rw [Int.add_zero, a1 42 (by decide)])
    · exact Int.le_refl (ρ1 17 + 0)
    · show ρ1 42 + 0 = ρ 42
      rw [Int.add_zero, a1 42 (by decide)]
theorem f59c {W0 : Nat} {S : Nat → Prop} (hS : ∀ k, 21 ≤ k → k ≤ 25 → S k) {ρ0 ρ : Nat → Int} {lv : mxV} {w : mxW} (hγ : sx_γ W0 S ρ v59c lv [] w) (hG : G59 ρ0 ρ w) (hc : ∀ (ρ1 : Nat → Int) (lv1 : mxV) (w1 : mxW), sx_γ W0 S ρ1 v75a lv1 [] w1 → G75 ρ0 ρ1 w1 → ρ1 42 = ρ 42 → wFIN W0 S ρ0 75 lv1 [] w1) : wFIN W0 S ρ0 59 lv [] w := by
  obtain ⟨hl, hg1, hg2, hkp⟩ := hG
  obtain ⟨y, hy, ρ1, lv1, st1, w1, a1, a2, a3, a4, a5, a6, a7⟩ := wblk b59c (by decide) (by decide) hS hl hγ
  simp only [Y59c, List.mem_cons, List.not_mem_nil, or_false] at hy
  rcases hy with rfl | rfl
  · refine wFIN.go a7 a3 ⟨0, w1, sx_ρ s59c_0 ρ1, ?_, by decide, by decide, fun i hi => (kps_ok s59c_0_kp i hi).trans ((a1 i (Nat.lt_trans (KP_lt i hi) (by decide))).trans (hkp i hi)), (sx_sub_ok (A := d59c_0) (γ_drop a2) s59c_0_ok).1, sx_Fr.rf⟩
    have e := a2.2.2.1.1
    replace e : st1 = [.int (Int32.ofInt (ρ1 0 + 0))] := e
    rw [e, a2.1.1]
    exact mxRn.ret 1 (fun n => rfl)
  · have g := (sx_sub_ok a2 s59c_1_ok).1
    have e := g.2.2.1.1
    replace e : st1 = [] := e
    subst e
    refine wFIN.go a7 a3 (hc _ _ _ g ⟨by rw [a4]; exact hl, ?_, ?_, ?_, ?_, fun i hi => (kps_ok s59c_1_kp i hi).trans ((a1 i (Nat.lt_trans (KP_lt i hi) (by decide))).trans (hkp i hi))⟩ ?_)
    · show wG w1 (ρ1 17 + 0)
      unfold wG
      rw [a6, Int.add_zero, a1 17 (by decide)]
      exact hg1
    · exact hg2.cg a5 (show ρ1 17 + 0 = ρ 17 by rw [Int.add_zero, a1 17 (by decide)]) (show ρ1 42 + 0 - 1 = ρ 42 - 1 by rw [Int.add_zero, a1 42 (by decide)])
    · have hb := hγ.1.2.2 42 _ rfl
      have hb1 : (1 : Int) ≤ ρ 42 := hb.1
      exact (hg2.up hb1).cg a5 (show ρ1 17 + 0 = ρ 17 by rw [Int.add_zero, a1 17 (by decide)]) (show ρ1 42 + 0 = ρ 42 by rw [Int.add_zero, a1 42 (by decide)])
    · exact Int.le_refl (ρ1 17 + 0)
    · show ρ1 42 + 0 = ρ 42
      rw [Int.add_zero, a1 42 (by decide)]
theorem f75a {W0 : Nat} {S : Nat → Prop} (hS : ∀ k, 21 ≤ k → k ≤ 25 → S k) {ρ0 ρ : Nat → Int} {lv : mxV} {w : mxW} (hγ : sx_γ W0 S ρ v75a lv [] w) (hG : G75 ρ0 ρ w) (h85 : ∀ (ρ1 : Nat → Int) (lv1 : mxV) (w1 : mxW), sx_γ W0 S ρ1 v85a lv1 [] w1 → G75 ρ0 ρ1 w1 → ρ1 44 < ρ1 43 → ρ1 42 = ρ 42 → ρ1 43 = ρ 43 → ρ1 44 = ρ 44 → wFIN W0 S ρ0 85 lv1 [] w1) (h59 : ∀ (ρ1 : Nat → Int) (lv1 : mxV) (w1 : mxW), sx_γ W0 S ρ1 v59c lv1 [] w1 → G59 ρ0 ρ1 w1 → ρ1 42 = ρ 42 + 1 → wFIN W0 S ρ0 59 lv1 [] w1) : wFIN W0 S ρ0 75 lv [] w := by
  have hγ0 := hγ
  obtain ⟨hl, hg1, hg2, hg3, hle, hkp⟩ := hG
  have hb44 := hγ.1.2.2 44 _ rfl
  have b44 : (0 : Int) ≤ ρ 44 ∧ ρ 44 ≤ 20001 := ⟨hb44.1, hb44.2.1⟩
  have hb43 := hγ.1.2.2 43 _ rfl
  have b43 : (0 : Int) ≤ ρ 43 ∧ ρ 43 ≤ 20001 := ⟨hb43.1, hb43.2.1⟩
  have e44 : (Int32.ofInt (ρ 44 + 0)).toInt = ρ 44 := by rw [Int.add_zero]; exact Int32.toInt_ofInt_of_le (by omega) (by omega)
  have e43 : (Int32.ofInt (ρ 43 + 0)).toInt = ρ 43 := by rw [Int.add_zero]; exact Int32.toInt_ofInt_of_le (by omega) (by omega)
  have hlv := hγ.2.1.1
  by_cases hk : ρ 44 < ρ 43
  · have hγ2 : sx_γ W0 S ρ v82a lv [] w := ⟨env_set (i := 44) (e := (0, 20001, 0, 0)) (lo := 0) (hi := 20000) hγ.1 rfl b44.1 (by omega), hγ.2⟩
    have h1 : ∀ res, mxRn 117 82 lv [] w res → mxRn 117 75 lv [] w res := by
      intro res H
      rw [hlv] at H ⊢
      exact mxRn.if2 3 0 (bb := Op.if_icmp.holds .ge (Int32.ofInt (ρ 44 + 0)) (Int32.ofInt (ρ 43 + 0))) (X := fun n => mxev n 117 186 (v75a.2.1.map (sx_lv W0 ρ)) [] w) (fun n => rfl) (hc_ge_f (ρ 43) e43 (by rw [e44]; omega)) H
    obtain ⟨y, hy, ρ1, lv1, st1, w1, a1, a2, a3, a4, a5, a6, a7⟩ := wblk b82a (by decide) (by decide) hS hl hγ2
    simp only [Y82a, List.mem_cons, List.not_mem_nil, or_false] at hy
    subst hy
    have g := (sx_sub_ok a2 s82a_0_ok).1
    have e := g.2.2.1.1
    replace e : st1 = [] := e
    subst e
    refine wFIN.go (fun res H => h1 res (a7 res H)) a3 (h85 _ _ _ g ⟨by rw [a4]; exact hl, ?_, hg2.cg a5 (show ρ1 43 + 0 = ρ 43 by rw [Int.add_zero, a1 43 (by decide)]) (show ρ1 42 + 0 - 1 = ρ 42 - 1 by rw [Int.add_zero, a1 42 (by decide)]), hg3.cg a5 (show ρ1 17 + 0 = ρ 17 by rw [Int.add_zero, a1 17 (by decide)]) (show ρ1 42 + 0 = ρ 42 by rw [Int.add_zero, a1 42 (by decide)]), ?_, fun i hi => (kps_ok s82a_0_kp i hi).trans ((a1 i (Nat.lt_trans (KP_lt i hi) (by decide))).trans (hkp i hi))⟩ ?_ (show ρ1 42 + 0 = ρ 42 by rw [Int.add_zero, a1 42 (by decide)]) (show ρ1 43 + 0 = ρ 43 by rw [Int.add_zero, a1 43 (by decide)]) (show ρ1 44 + 0 = ρ 44 by rw [Int.add_zero, a1 44 (by decide)]))
    · show wG w1 (ρ1 17 + 0)
      unfold wG
      rw [a6, Int.add_zero, a1 17 (by decide)]
      exact hg1
    · show ρ1 43 + 0 ≤ ρ1 17 + 0
      rw [a1 43 (by decide), a1 17 (by decide)]
      omega
    · show ρ1 44 + 0 < ρ1 43 + 0
      rw [a1 43 (by decide), a1 44 (by decide)]
      omega
  · have h1 : ∀ res, mxRn 117 186 lv [] w res → mxRn 117 75 lv [] w res := by
      intro res H
      rw [hlv] at H ⊢
      exact mxRn.it2 3 0 (bb := Op.if_icmp.holds .ge (Int32.ofInt (ρ 44 + 0)) (Int32.ofInt (ρ 43 + 0))) (X := fun n => mxev n 117 82 (v75a.2.1.map (sx_lv W0 ρ)) [] w) (fun n => rfl) (hc_ge_t (ρ 43) e43 (by rw [e44]; omega)) H
    obtain ⟨y, hy, ρ1, lv1, st1, w1, a1, a2, a3, a4, a5, a6, a7⟩ := wblk b186a (by decide) (by decide) hS hl hγ0
    simp only [Y186a, List.mem_cons, List.not_mem_nil, or_false] at hy
    rcases hy with rfl | rfl
    · have g := (sx_sub_ok a2 s186a_0_ok).1
      have e := g.2.2.1.1
      replace e : st1 = [] := e
      subst e
      refine wFIN.go (fun res H => h1 res (a7 res H)) a3 (h59 _ _ _ g ⟨by rw [a4]; exact hl, ?_, hg3.cg a5 (show ρ1 17 + 0 = ρ 17 by rw [Int.add_zero, a1 17 (by decide)]) (show ρ1 42 + 1 - 1 = ρ 42 by rw [a1 42 (by decide)]; omega), fun i hi => (kps_ok s186a_0_kp i hi).trans ((a1 i (Nat.lt_trans (KP_lt i hi) (by decide))).trans (hkp i hi))⟩ (show ρ1 42 + 1 = ρ 42 + 1 by rw [a1 42 (by decide)]))
      show wG w1 (ρ1 17 + 0)
      unfold wG
      rw [a6, Int.add_zero, a1 17 (by decide)]
      exact hg1
    · refine wFIN.go (fun res H => h1 res (a7 res H)) a3 ⟨-2, w1, sx_ρ s186a_1 ρ1, ?_, by decide, by decide, fun i hi => (kps_ok s186a_1_kp i hi).trans ((a1 i (Nat.lt_trans (KP_lt i hi) (by decide))).trans (hkp i hi)), (sx_sub_ok (A := d186a_1) (γ_drop a2) s186a_1_ok).1, sx_Fr.rf⟩
      have e := a2.2.2.1.1
      replace e : st1 = [.int (Int32.ofInt (ρ1 0 + (-2)))] := e
      rw [e, a2.1.1]
      exact mxRn.ret 1 (fun n => rfl)
theorem f75b {W0 : Nat} {S : Nat → Prop} (hS : ∀ k, 21 ≤ k → k ≤ 25 → S k) {ρ0 ρ : Nat → Int} {lv : mxV} {w : mxW} (hγ : sx_γ W0 S ρ v75b lv [] w) (hG : G75 ρ0 ρ w) (h85 : ∀ (ρ1 : Nat → Int) (lv1 : mxV) (w1 : mxW), sx_γ W0 S ρ1 v85b lv1 [] w1 → G75 ρ0 ρ1 w1 → ρ1 44 < ρ1 43 → ρ1 42 = ρ 42 → ρ1 43 = ρ 43 → ρ1 44 = ρ 44 → wFIN W0 S ρ0 85 lv1 [] w1) (h59 : ∀ (ρ1 : Nat → Int) (lv1 : mxV) (w1 : mxW), sx_γ W0 S ρ1 v59b lv1 [] w1 → G59 ρ0 ρ1 w1 → ρ1 42 = ρ 42 + 1 → wFIN W0 S ρ0 59 lv1 [] w1) : wFIN W0 S ρ0 75 lv [] w := by
  have hγ0 := hγ
  obtain ⟨hl, hg1, hg2, hg3, hle, hkp⟩ := hG
  have hb44 := hγ.1.2.2 44 _ rfl
  have b44 : (0 : Int) ≤ ρ 44 ∧ ρ 44 ≤ 20001 := ⟨hb44.1, hb44.2.1⟩
  have hb43 := hγ.1.2.2 43 _ rfl
  have b43 : (0 : Int) ≤ ρ 43 ∧ ρ 43 ≤ 20001 := ⟨hb43.1, hb43.2.1⟩
  have e44 : (Int32.ofInt (ρ 44 + 0)).toInt = ρ 44 := by rw [Int.add_zero]; exact Int32.toInt_ofInt_of_le (by omega) (by omega)
  have e43 : (Int32.ofInt (ρ 43 + 0)).toInt = ρ 43 := by rw [Int.add_zero]; exact Int32.toInt_ofInt_of_le (by omega) (by omega)
  have hlv := hγ.2.1.1
  by_cases hk : ρ 44 < ρ 43
  · have hγ2 : sx_γ W0 S ρ v82b lv [] w := ⟨env_set (i := 44) (e := (0, 20001, 0, 0)) (lo := 0) (hi := 20000) hγ.1 rfl b44.1 (by omega), hγ.2⟩
    have h1 : ∀ res, mxRn 117 82 lv [] w res → mxRn 117 75 lv [] w res := by
      intro res H
      rw [hlv] at H ⊢
      exact mxRn.if2 3 0 (bb := Op.if_icmp.holds .ge (Int32.ofInt (ρ 44 + 0)) (Int32.ofInt (ρ 43 + 0))) (X := fun n => mxev n 117 186 (v75b.2.1.map (sx_lv W0 ρ)) [] w) (fun n => rfl) (hc_ge_f (ρ 43) e43 (by rw [e44]; omega)) H
    obtain ⟨y, hy, ρ1, lv1, st1, w1, a1, a2, a3, a4, a5, a6, a7⟩ := wblk b82b (by decide) (by decide) hS hl hγ2
    simp only [Y82b, List.mem_cons, List.not_mem_nil, or_false] at hy
    subst hy
    have g := (sx_sub_ok a2 s82b_0_ok).1
    have e := g.2.2.1.1
    replace e : st1 = [] := e
    subst e
    refine wFIN.go (fun res H => h1 res (a7 res H)) a3 (h85 _ _ _ g ⟨by rw [a4]; exact hl, ?_, hg2.cg a5 (show ρ1 43 + 0 = ρ 43 by rw [Int.add_zero, a1 43 (by decide)]) (show ρ1 42 + 0 - 1 = ρ 42 - 1 by rw [Int.add_zero, a1 42 (by decide)]), hg3.cg a5 (show ρ1 17 + 0 = ρ 17 by rw [Int.add_zero, a1 17 (by decide)]) (show ρ1 42 + 0 = ρ 42 by rw [Int.add_zero, a1 42 (by decide)]), ?_, fun i hi => (kps_ok s82b_0_kp i hi).trans ((a1 i (Nat.lt_trans (KP_lt i hi) (by decide))).trans (hkp i hi))⟩ ?_ (show ρ1 42 + 0 = ρ 42 by rw [Int.add_zero, a1 42 (by decide)]) (show ρ1 43 + 0 = ρ 43 by rw [Int.add_zero, a1 43 (by decide)]) (show ρ1 44 + 0 = ρ 44 by rw [Int.add_zero, a1 44 (by decide)]))
    · show wG w1 (ρ1 17 + 0)
      unfold wG
      rw [a6, Int.add_zero, a1 17 (by decide)]
      exact hg1
    · show ρ1 43 + 0 ≤ ρ1 17 + 0
      rw [a1 43 (by decide), a1 17 (by decide)]
      omega
    · show ρ1 44 + 0 < ρ1 43 + 0
      rw [a1 43 (by decide), a1 44 (by decide)]
      omega
  · have h1 : ∀ res, mxRn 117 186 lv [] w res → mxRn 117 75 lv [] w res := by
      intro res H
      rw [hlv] at H ⊢
      exact mxRn.it2 3 0 (bb := Op.if_icmp.holds .ge (Int32.ofInt (ρ 44 + 0)) (Int32.ofInt (ρ 43 + 0))) (X := fun n => mxev n 117 82 (v75b.2.1.map (sx_lv W0 ρ)) [] w) (fun n => rfl) (hc_ge_t (ρ 43) e43 (by rw [e44]; omega)) H
    obtain ⟨y, hy, ρ1, lv1, st1, w1, a1, a2, a3, a4, a5, a6, a7⟩ := wblk b186b (by decide) (by decide) hS hl hγ0
    simp only [Y186b, List.mem_cons, List.not_mem_nil, or_false] at hy
    rcases hy with rfl | rfl
    · have g := (sx_sub_ok a2 s186b_0_ok).1
      have e := g.2.2.1.1
      replace e : st1 = [] := e
      subst e
      refine wFIN.go (fun res H => h1 res (a7 res H)) a3 (h59 _ _ _ g ⟨by rw [a4]; exact hl, ?_, hg3.cg a5 (show ρ1 17 + 0 = ρ 17 by rw [Int.add_zero, a1 17 (by decide)]) (show ρ1 42 + 1 - 1 = ρ 42 by rw [a1 42 (by decide)]; omega), fun i hi => (kps_ok s186b_0_kp i hi).trans ((a1 i (Nat.lt_trans (KP_lt i hi) (by decide))).trans (hkp i hi))⟩ (show ρ1 42 + 1 = ρ 42 + 1 by rw [a1 42 (by decide)]))
      show wG w1 (ρ1 17 + 0)
      unfold wG
      rw [a6, Int.add_zero, a1 17 (by decide)]
      exact hg1
    · refine wFIN.go (fun res H => h1 res (a7 res H)) a3 ⟨-2, w1, sx_ρ s186b_1 ρ1, ?_, by decide, by decide, fun i hi => (kps_ok s186b_1_kp i hi).trans ((a1 i (Nat.lt_trans (KP_lt i hi) (by decide))).trans (hkp i hi)), (sx_sub_ok (A := d186b_1) (γ_drop a2) s186b_1_ok).1, sx_Fr.rf⟩
      have e := a2.2.2.1.1
      replace e : st1 = [.int (Int32.ofInt (ρ1 0 + (-2)))] := e
      rw [e, a2.1.1]
      exact mxRn.ret 1 (fun n => rfl)
