/-! a state with 28 cells, after a new Search -/
def cS : List (Nat × sxc) := [(28, (5, 9, 0, 0, 0, some [(2, 29, 0), (2, 30, 0), (2, 31, 0), (0, 0, 1), (0, 0, 0), (0, 0, 0), (0, 0, 0), (0, 0, 0), (0, 0, 0)])), (29, (1, 20000, (-9223372036854775808), 9223372036854775807, 0, none)), (30, (0, 20000, (-2147483648), 2147483647, 0, none)), (31, (0, 32768, 0, 2000020000, 0, none))]
theorem srch_eq {I : Nat → Nat → Int32} {J : Nat → Nat → Int64} {Q : Nat → Nat → Value} {c : Nat} (h : c < 28) : IS (mxI0 I 28) c = I c ∧ JS (mxJ0 J 28) c = J c ∧ (c ≠ 0 → QS1 Q c = Q c) := by
  have n28 : c ≠ 28 := by omega
  have n29 : c ≠ 29 := by omega
  have n30 : c ≠ 30 := by omega
  have n31 : c ≠ 31 := by omega
  refine ⟨?_, ?_, fun n0 => ?_⟩
  · simp only [IS, mxI, mxI0, if_neg n28, if_neg n29, if_neg n30, if_neg n31]
  · simp only [JS, mxJ0, if_neg n28, if_neg n29, if_neg n30, if_neg n31]
  · simp only [QS1, QS0, mxQ, mxQ0, if_neg n28, if_neg n29, if_neg n30, if_neg n31, if_neg n0]
theorem srch_q0 {Q : Nat → Nat → Value} {j : Nat} (hj : j ≠ 12) : QS1 Q 0 j = Q 0 j := by
  have n28 : (0 : Nat) ≠ 28 := by decide
  have n29 : (0 : Nat) ≠ 29 := by decide
  have n30 : (0 : Nat) ≠ 30 := by decide
  have n31 : (0 : Nat) ≠ 31 := by decide
  simp only [QS1, QS0, mxQ, mxQ0, if_neg n28, if_neg n29, if_neg n30, if_neg n31, if_true, if_neg hj]
theorem γ_srch {S : Nat → Prop} {ρ : Nat → Int} {E : List sxe} {la : List (Nat × sxv)} {sa : List sxv} {H : List (Nat × sxc)} {lv : mxV} {st : List Value} {w : mxW} {fl : Nat} {els : List sxv} (h : sx_γ 28 S ρ (E, la, sa, H, 1000) lv st w) (hlo : sx_lo (E, la, sa, H, 1000) = true) (hk : H.all (fun q => Nat.blt q.1 28) = true) (h0 : H.lookup 0 = some (7, 18, 0, 0, fl, some els)) (hf : fl < 2) (h12 : els[12]? = some (4, 0, 0)) : ∃ w', mxRn 70 0 [(0, .ref 0)] [] w (some (.ref 28), w') ∧ sx_γ 32 S ρ (E, la, sa, sx_hset H 0 (7, 18, 0, 0, fl, some (els.set 12 (2, 28, 0))) ++ cS, 1000) lv st w' ∧ sx_Fr S w w' := by
  have hl : w.1.length = 28 := h.2.2.2.2.1.trans (sx_ad_1000 28)
  have hc0 := h.2.2.2.1 _ (sx_hl h0)
  have hS0 : S 0 := hc0.2.1 hf
  have hcl := h.2.2.2.2.2
  rw [hl] at hcl
  have z0 : ρ 0 = 0 := h.1.1
  unfold sx_lo at hlo
  rw [Bool.and_eq_true, Bool.and_eq_true] at hlo
  obtain ⟨⟨k1, k2⟩, k3⟩ := hlo
  obtain ⟨shw, I, J, Q⟩ := w
  obtain ⟨a, rfl⟩ := sh0_ex shw hl hc0.1.1
  have hQ12 : Q 0 12 = .null := (hc0.1.2 12 _ h12).2
  have hQ : mxQ Q 0 12 .null = Q := mxQ_self hQ12
  have hrun := se_run (a := a) (I := I) (J := J) (Q := Q)
  rw [hQ] at hrun
  refine ⟨_, hrun, ⟨h.1, ⟨h.2.1.1.trans (List.map_congr_left (fun q hq => ?_)), h.2.1.2⟩, ⟨h.2.2.1.1.trans (List.map_congr_left (fun v hv => sx_vk_val (List.all_eq_true.mp k2 v hv))), h.2.2.1.2⟩, fun q hq => ?_, (sx_ad_1000 32).symm, fun c hc => hcl c (Nat.le_trans (show 28 ≤ 32 by decide) hc)⟩, ⟨_, rfl⟩, fun c hc => ?_⟩
  · show (q.1, sx_val 28 ρ q.2) = (q.1, sx_val 32 ρ q.2)
    rw [sx_vk_val (List.all_eq_true.mp k1 q hq)]
  · have hq : q ∈ sx_hset H 0 (7, 18, 0, 0, fl, some (els.set 12 (2, 28, 0))) ++ cS := hq
    rcases List.mem_append.mp hq with hq | hq
    · unfold sx_hset at hq
      obtain ⟨q0, hq0, e⟩ := List.mem_map.mp hq
      cases hb : Nat.beq q0.1 0 with
      | true =>
        rw [hb] at e
        rw [← e]
        refine ⟨⟨rfl, fun j v hv => ?_⟩, fun _ => hS0, fun _ => by show 0 < 32; decide⟩
        by_cases hj : j = 12
        · subst hj
          rw [List.getElem?_set_self (List.getElem?_eq_some_iff.mp h12).1] at hv
          cases hv
          exact ⟨fun q => absurd q (show ¬ 2 < 2 by decide), rfl⟩
        · rw [List.getElem?_set_ne (Ne.symm hj)] at hv
          have g := hc0.1.2 j v hv
          have hvk : sx_vk v = true := by
            have e1 := List.all_eq_true.mp k3 _ (sx_hl h0)
            rw [Bool.and_eq_true] at e1
            exact List.all_eq_true.mp e1.2 v (List.mem_of_getElem? hv)
          refine ⟨g.1, ?_⟩
          rw [← sx_vk_val (W0 := 28) hvk, ← g.2]
          show mxgf _ 0 3 j = mxgf _ 0 3 j
          have i1 : IS (mxI0 I 28) 0 = I 0 := (srch_eq (I := I) (J := J) (Q := Q) (by decide)).1
          have i2 : JS (mxJ0 J 28) 0 = J 0 := (srch_eq (I := I) (J := J) (Q := Q) (by decide)).2.1
          have i3 : QS1 Q 0 j = Q 0 j := srch_q0 hj
          unfold mxgf
          dsimp only
          rw [i1, i2, i3]
      | false =>
        rw [hb] at e
        replace e : q0 = q := e
        subst e
        have hne : q0.1 ≠ 0 := fun e => by rw [e] at hb; cases hb
        have hlt := Nat.blt_eq.mp (List.all_eq_true.mp hk q0 hq0)
        have g := h.2.2.2.1 q0 hq0
        have e1 := List.all_eq_true.mp k3 q0 hq0
        rw [Bool.and_eq_true] at e1
        obtain ⟨g1, g2, -⟩ := g
        have had : ∀ W, sx_ad W q0.1 = q0.1 := fun W => sx_ad_lt (by omega)
        rw [had] at g1 g2
        obtain ⟨i1, i2, i3⟩ := srch_eq (I := I) (J := J) (Q := Q) hlt
        unfold sx_cq
        rw [had]
        refine ⟨sx_ce_cg (sx_ce_lo e1.2 g1) ?_ ⟨i1, i2, i3 hne⟩, g2, fun _ => by omega⟩
        show (sh0 a [] ++ [(5, 9), (1, 20000), (0, 20000), (0, 32768)])[q0.1]? = (sh0 a [])[q0.1]?
        exact List.getElem?_append_left (by rw [show (sh0 a []).length = 28 from rfl]; exact hlt)
    · have o0 : Int32.ofInt (ρ 0 + 0) = 0 := by rw [z0]; rfl
      have o1 : Int32.ofInt (ρ 0 + 1) = 1 := by rw [z0]; rfl
      simp only [cS, List.mem_cons, List.not_mem_nil, or_false] at hq
      rcases hq with rfl | rfl | rfl | rfl
      · refine ⟨⟨rfl, fun j v hv => ?_⟩, fun _ => hcl 28 (by decide), fun _ => by show 28 < 32; decide⟩
        match j, hv with
        | 0, hv => cases hv; exact ⟨fun q => absurd q (show ¬ 2 < 2 by decide), rfl⟩
        | 1, hv => cases hv; exact ⟨fun q => absurd q (show ¬ 2 < 2 by decide), rfl⟩
        | 2, hv => cases hv; exact ⟨fun q => absurd q (show ¬ 2 < 2 by decide), rfl⟩
        | 3, hv => cases hv; exact ⟨fun _ => h.1.2.1, congrArg Value.int o1.symm⟩
        | 4, hv => cases hv; exact ⟨fun _ => h.1.2.1, congrArg Value.int o0.symm⟩
        | 5, hv => cases hv; exact ⟨fun _ => h.1.2.1, congrArg Value.int o0.symm⟩
        | 6, hv => cases hv; exact ⟨fun _ => h.1.2.1, congrArg Value.int o0.symm⟩
        | 7, hv => cases hv; exact ⟨fun _ => h.1.2.1, congrArg Value.int o0.symm⟩
        | 8, hv => cases hv; exact ⟨fun _ => h.1.2.1, congrArg Value.int o0.symm⟩
        | j + 9, hv => cases hv
      · refine ⟨⟨rfl, by decide, fun j hj => ?_⟩, fun _ => hcl 29 (by decide), fun _ => by show 29 < 32; decide⟩
        have e : sx_nu (sh0 a [(5, 9), (1, 20000), (0, 20000), (0, 32768)], IS (mxI0 I 28), JS (mxJ0 J 28), QS1 Q) (sx_ad 32 29) 1 j = 0 := rfl
        dsimp only
        rw [e]
        exact ⟨by decide, by decide, fun q => absurd q (by decide)⟩
      · refine ⟨⟨rfl, by decide, fun j hj => ?_⟩, fun _ => hcl 30 (by decide), fun _ => by show 30 < 32; decide⟩
        have e : sx_nu (sh0 a [(5, 9), (1, 20000), (0, 20000), (0, 32768)], IS (mxI0 I 28), JS (mxJ0 J 28), QS1 Q) (sx_ad 32 30) 0 j = 0 := rfl
        dsimp only
        rw [e]
        exact ⟨by decide, by decide, fun q => absurd q (by decide)⟩
      · refine ⟨⟨rfl, by decide, fun j hj => ?_⟩, fun _ => hcl 31 (by decide), fun _ => by show 31 < 32; decide⟩
        have e : sx_nu (sh0 a [(5, 9), (1, 20000), (0, 20000), (0, 32768)], IS (mxI0 I 28), JS (mxJ0 J 28), QS1 Q) (sx_ad 32 31) 0 j = 0 := rfl
        dsimp only
        rw [e]
        exact ⟨by decide, by decide, fun q => absurd q (by decide)⟩
  · have hlt : c < 28 := by
      rcases Nat.lt_or_ge c 28 with q | q
      · exact q
      · exact absurd (hcl c q) hc
    obtain ⟨i1, i2, i3⟩ := srch_eq (I := I) (J := J) (Q := Q) hlt
    exact ⟨i1, i2, i3 (fun e => hc (by rw [e]; exact hS0))⟩
