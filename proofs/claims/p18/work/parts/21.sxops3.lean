theorem sxo_iinc {W0 : Nat} {S : Nat → Prop} {i : mxi} {pc : Nat} {ρ : Nat → Int} {E : List sxe} {la : List (Nat × sxv)} {sa : List sxv} {H : List (Nat × sxc)} {c : Nat} {w : mxW} {R : List (Nat × sxA)} {j : Nat} {n : Int} (hR : sx_o_iinc i j (Int32.ofInt n).toInt (pc + 3) E la sa H c = some R) (h : sx_γ W0 S ρ (E, la, sa, H, c) (la.map (sx_lv W0 ρ)) (sa.map (sx_val W0 ρ)) w) : sx_Ok W0 S i pc (.iinc j n) ρ E.length (la.map (sx_lv W0 ρ)) (sa.map (sx_val W0 ρ)) w R := by
  unfold sx_o_iinc at hR
  split at hR
  · rename_i v hv
    obtain ⟨ht, hR⟩ := sx_cd hR
    rw [Bool.and_eq_true] at ht
    have e : mxg (la.map (sx_lv W0 ρ)) j = some (.int (Int32.ofInt (ρ v.2.1 + v.2.2))) := by
      rw [sx_look, hv, ← sx_v0 (W0 := W0) (sx_bq ht.1)]
      rfl
    have hk : ∀ (k : Nat → mxV → List Value → mxW → Option mxR) (call : Nat → List Value → mxW → Option mxR), mxS i pc (.iinc j n) (la.map (sx_lv W0 ρ)) (sa.map (sx_val W0 ρ)) w k call = k (pc + 3) (mxs1 (la.map (sx_lv W0 ρ)) j (.int (Int32.ofInt (ρ v.2.1 + v.2.2) + Int32.ofInt n))) (sa.map (sx_val W0 ρ)) w := by
      intro k call
      show (match mxg (la.map (sx_lv W0 ρ)) j with | some (.int x) => cond (Nat.blt j (mxi_L i)) (k (pc + 3) (mxs1 _ j (.int (x + Int32.ofInt n))) _ w) none | _ => none) = _
      rw [e]
      show cond (Nat.blt j (mxi_L i)) _ _ = _
      rw [ht.2]
      rfl
    split at hR
    · rename_i u hu
      cases hR
      obtain ⟨hw, hval⟩ := sx_add_ok (W0 := W0) (ρ := ρ) hu
      refine sx_ok1 h (sx_s1_wf h.2.1.2 hw) h.2.2.1.2 (fun k call => ?_)
      rw [hk, sx_s1_map, hval, Int32.ofInt_toInt]
    · cases hR
      have hX := sx_top_ok (Int32.ofInt (ρ v.2.1 + v.2.2) + Int32.ofInt n)
      have hg := sx_γ_ag h (sx_env_new h.1 (fl := 0) hX.1 hX.2 (fun q => by cases q)) (by rw [List.length_append]; exact Nat.le_add_right _ _) (fun j hj => sx_up_lt hj)
      refine ⟨_, List.mem_singleton.mpr rfl, _, _, _, w, fun j hj => sx_up_lt hj, by show E.length ≤ (E ++ _).length; rw [List.length_append]; exact Nat.le_add_right _ _, ⟨hg.1, ⟨rfl, sx_s1_wf hg.2.1.2 (fun _ => ?_)⟩, hg.2.2⟩, sx_Fr.rf, fun k call => ?_⟩
      · show E.length < (E ++ _).length
        rw [List.length_append]
        exact Nat.lt_succ_self _
      · rw [hk, sx_s1_map, ← hg.2.1.1, sx_v0 rfl]
        dsimp only
        rw [sx_up_eq, Int.add_zero, Int32.ofInt_toInt]
  · cases hR
theorem sxo_iadd {W0 : Nat} {S : Nat → Prop} {i : mxi} {pc : Nat} {ρ : Nat → Int} {E : List sxe} {la : List (Nat × sxv)} {sa : List sxv} {H : List (Nat × sxc)} {c : Nat} {w : mxW} {R : List (Nat × sxA)} (hR : sx_o_iadd (pc + 1) E la sa H c = some R) (h : sx_γ W0 S ρ (E, la, sa, H, c) (la.map (sx_lv W0 ρ)) (sa.map (sx_val W0 ρ)) w) : sx_Ok W0 S i pc .iadd ρ E.length (la.map (sx_lv W0 ρ)) (sa.map (sx_val W0 ρ)) w R := by
  unfold sx_o_iadd at hR
  split at hR
  · rename_i y x r
    obtain ⟨ht, hR⟩ := sx_cd hR
    rw [Bool.and_eq_true] at ht
    have hy : sx_val W0 ρ y = .int (Int32.ofInt (ρ y.2.1 + y.2.2)) := sx_v0 (sx_bq ht.1)
    have hx : sx_val W0 ρ x = .int (Int32.ofInt (ρ x.2.1 + x.2.2)) := sx_v0 (sx_bq ht.2)
    have ws := h.2.2.1.2
    have wr : ∀ v ∈ r, sx_wf E.length v := sx_tl_wf (sx_tl_wf ws)
    have hk : ∀ (k : Nat → mxV → List Value → mxW → Option mxR) (call : Nat → List Value → mxW → Option mxR), mxS i pc .iadd (la.map (sx_lv W0 ρ)) ((y :: x :: r).map (sx_val W0 ρ)) w k call = k (pc + 1) (la.map (sx_lv W0 ρ)) (.int (Int32.ofInt (ρ x.2.1 + x.2.2) + Int32.ofInt (ρ y.2.1 + y.2.2)) :: r.map (sx_val W0 ρ)) w := by
      intro k call
      rw [List.map_cons, List.map_cons, hy, hx]
      rfl
    cases hb : Nat.beq y.2.1 0 with
    | true =>
      rw [hb] at hR
      replace hR : (match sx_add E x y.2.2 with | some v => some [(pc + 1, (E, la, v :: r, H, c))] | none => sx_ni 0 sx_top E la r H c (pc + 1)) = some R := hR
      split at hR
      · rename_i u hu
        cases hR
        obtain ⟨hw, hval⟩ := sx_add_ok (W0 := W0) (ρ := ρ) hu
        refine sx_ok1 h h.2.1.2 (sx_cons_wf hw wr) (fun k call => ?_)
        rw [hk, List.map_cons, hval, sx_pr h.1 (d := y.2.2) (sx_bq hb)]
      · exact sx_okni h _ hR (sx_top_ok _) wr hk
    | false =>
      rw [hb] at hR
      cases ha : Nat.beq x.2.1 0 with
      | true =>
        rw [ha] at hR
        replace hR : (match sx_add E y x.2.2 with | some v => some [(pc + 1, (E, la, v :: r, H, c))] | none => sx_ni 0 sx_top E la r H c (pc + 1)) = some R := hR
        split at hR
        · rename_i u hu
          cases hR
          obtain ⟨hw, hval⟩ := sx_add_ok (W0 := W0) (ρ := ρ) hu
          refine sx_ok1 h h.2.1.2 (sx_cons_wf hw wr) (fun k call => ?_)
          rw [hk, List.map_cons, hval, sx_pr h.1 (d := x.2.2) (sx_bq ha), Int32.add_comm]
        · exact sx_okni h _ hR (sx_top_ok _) wr hk
      | false =>
        rw [ha] at hR
        replace hR : (match sx_rg E x, sx_rg E y with | some q1, some q2 => sx_ni 0 (sx_cl (q1.1 + q2.1, q1.2 + q2.2)) E la r H c (pc + 1) | _, _ => none) = some R := hR
        split at hR
        · rename_i q1 q2 h1 h2
          have a := sx_rg_ok h.1 h1
          have b := sx_rg_ok h.1 h2
          refine sx_okni h _ hR ?_ wr hk
          rw [← Int32.ofInt_add]
          exact sx_cl_ok (by dsimp only; omega) (by dsimp only; omega)
        · cases hR
  · cases hR
theorem sxo_isub {W0 : Nat} {S : Nat → Prop} {i : mxi} {pc : Nat} {ρ : Nat → Int} {E : List sxe} {la : List (Nat × sxv)} {sa : List sxv} {H : List (Nat × sxc)} {c : Nat} {w : mxW} {R : List (Nat × sxA)} (hR : sx_o_isub (pc + 1) E la sa H c = some R) (h : sx_γ W0 S ρ (E, la, sa, H, c) (la.map (sx_lv W0 ρ)) (sa.map (sx_val W0 ρ)) w) : sx_Ok W0 S i pc .isub ρ E.length (la.map (sx_lv W0 ρ)) (sa.map (sx_val W0 ρ)) w R := by
  unfold sx_o_isub at hR
  split at hR
  · rename_i y x r
    obtain ⟨ht, hR⟩ := sx_cd hR
    rw [Bool.and_eq_true] at ht
    have hy : sx_val W0 ρ y = .int (Int32.ofInt (ρ y.2.1 + y.2.2)) := sx_v0 (sx_bq ht.1)
    have hx : sx_val W0 ρ x = .int (Int32.ofInt (ρ x.2.1 + x.2.2)) := sx_v0 (sx_bq ht.2)
    have ws := h.2.2.1.2
    have wr : ∀ v ∈ r, sx_wf E.length v := sx_tl_wf (sx_tl_wf ws)
    have hk : ∀ (k : Nat → mxV → List Value → mxW → Option mxR) (call : Nat → List Value → mxW → Option mxR), mxS i pc .isub (la.map (sx_lv W0 ρ)) ((y :: x :: r).map (sx_val W0 ρ)) w k call = k (pc + 1) (la.map (sx_lv W0 ρ)) (.int (Int32.ofInt (ρ x.2.1 + x.2.2) - Int32.ofInt (ρ y.2.1 + y.2.2)) :: r.map (sx_val W0 ρ)) w := by
      intro k call
      rw [List.map_cons, List.map_cons, hy, hx]
      rfl
    cases hb : Nat.beq y.2.1 0 with
    | true =>
      rw [hb] at hR
      replace hR : (match sx_add E x (-y.2.2) with | some v => some [(pc + 1, (E, la, v :: r, H, c))] | none => sx_ni 0 sx_top E la r H c (pc + 1)) = some R := hR
      split at hR
      · rename_i u hu
        cases hR
        obtain ⟨hw, hval⟩ := sx_add_ok (W0 := W0) (ρ := ρ) hu
        refine sx_ok1 h h.2.1.2 (sx_cons_wf hw wr) (fun k call => ?_)
        rw [hk, List.map_cons, hval, sx_pr h.1 (d := y.2.2) (sx_bq hb), ← Int32.ofInt_add, ← Int32.ofInt_sub]
        rfl
      · exact sx_okni h _ hR (sx_top_ok _) wr hk
    | false =>
      rw [hb] at hR
      replace hR : (match sx_rg E x, sx_rg E y with | some q1, some q2 => sx_ni 0 (sx_cl (q1.1 - q2.2, q1.2 - q2.1)) E la r H c (pc + 1) | _, _ => none) = some R := hR
      split at hR
      · rename_i q1 q2 h1 h2
        have a := sx_rg_ok h.1 h1
        have b := sx_rg_ok h.1 h2
        refine sx_okni h _ hR ?_ wr hk
        rw [← Int32.ofInt_sub]
        exact sx_cl_ok (by dsimp only; omega) (by dsimp only; omega)
      · cases hR
  · cases hR
theorem sxo_irem {W0 : Nat} {S : Nat → Prop} {i : mxi} {pc : Nat} {ρ : Nat → Int} {E : List sxe} {la : List (Nat × sxv)} {sa : List sxv} {H : List (Nat × sxc)} {c : Nat} {w : mxW} {R : List (Nat × sxA)} (hR : sx_o_irem (pc + 1) E la sa H c = some R) (h : sx_γ W0 S ρ (E, la, sa, H, c) (la.map (sx_lv W0 ρ)) (sa.map (sx_val W0 ρ)) w) : sx_Ok W0 S i pc .irem ρ E.length (la.map (sx_lv W0 ρ)) (sa.map (sx_val W0 ρ)) w R := by
  unfold sx_o_irem at hR
  split at hR
  · rename_i y x r
    obtain ⟨ht, hR⟩ := sx_cd hR
    rw [Bool.and_eq_true] at ht
    have hy : sx_val W0 ρ y = .int (Int32.ofInt (ρ y.2.1 + y.2.2)) := sx_v0 (sx_bq ht.1)
    have hx : sx_val W0 ρ x = .int (Int32.ofInt (ρ x.2.1 + x.2.2)) := sx_v0 (sx_bq ht.2)
    have ws := h.2.2.1.2
    have wr : ∀ v ∈ r, sx_wf E.length v := sx_tl_wf (sx_tl_wf ws)
    split at hR
    · rename_i q2 h2
      obtain ⟨hq, hR⟩ := sx_cd hR
      have b := sx_in_ok hq (sx_rg_ok h.1 h2)
      have e2 : (Int32.ofInt (ρ y.2.1 + y.2.2)).toInt = ρ y.2.1 + y.2.2 := Int32.toInt_ofInt_of_le (by omega) (by omega)
      have e3 : (Int32.ofInt (ρ y.2.1 + y.2.2) == 0) = false := by
        apply beq_eq_false_iff_ne.mpr
        intro q
        rw [q] at e2
        have e4 : (0 : Int32).toInt = 0 := rfl
        omega
      refine sx_okni h (Int32.ofInt (ρ x.2.1 + x.2.2) - Int32.ofInt (ρ x.2.1 + x.2.2) / Int32.ofInt (ρ y.2.1 + y.2.2) * Int32.ofInt (ρ y.2.1 + y.2.2)) hR (sx_top_ok _) wr (fun k call => ?_)
      rw [List.map_cons, List.map_cons, hy, hx]
      show cond (Int32.ofInt (ρ y.2.1 + y.2.2) == 0) none (k _ _ (.int (_ - _ / _ * _) :: _) w) = _
      rw [e3]
      rfl
    · cases hR
  · cases hR
theorem sxo_i2l {W0 : Nat} {S : Nat → Prop} {i : mxi} {pc : Nat} {ρ : Nat → Int} {E : List sxe} {la : List (Nat × sxv)} {sa : List sxv} {H : List (Nat × sxc)} {c : Nat} {w : mxW} {R : List (Nat × sxA)} (hR : sx_o_i2l (pc + 1) E la sa H c = some R) (h : sx_γ W0 S ρ (E, la, sa, H, c) (la.map (sx_lv W0 ρ)) (sa.map (sx_val W0 ρ)) w) : sx_Ok W0 S i pc .i2l ρ E.length (la.map (sx_lv W0 ρ)) (sa.map (sx_val W0 ρ)) w R := by
  unfold sx_o_i2l at hR
  split at hR
  · rename_i x r
    obtain ⟨ht, hR⟩ := sx_cd hR
    have wr : ∀ v ∈ r, sx_wf E.length v := sx_tl_wf h.2.2.1.2
    have hx : sx_val W0 ρ x = .int (Int32.ofInt (ρ x.2.1 + x.2.2)) := sx_v0 (sx_bq ht)
    split at hR
    · rename_i q hq
      obtain ⟨h32, hR⟩ := sx_cd hR
      cases hR
      have a := sx_rg_ok h.1 hq
      unfold sx_i32 at h32
      simp only [Bool.and_eq_true, decide_eq_true_eq] at h32
      refine sx_ok1 h h.2.1.2 (sx_cons_wf (fun _ => (show x.2.1 < E.length from sx_rg_wf hq)) wr) (fun k call => ?_)
      rw [List.map_cons, List.map_cons, hx, sx_v1 rfl]
      show k (pc + 1) _ (.long (Int32.ofInt (ρ x.2.1 + x.2.2)).toInt64 :: _) w = _
      rw [Int32.toInt64_ofInt (by show (-2147483648 : Int) ≤ _; omega) (by show _ ≤ (2147483647 : Int); omega)]
    · cases hR
  · cases hR
theorem sxo_l2i {W0 : Nat} {S : Nat → Prop} {i : mxi} {pc : Nat} {ρ : Nat → Int} {E : List sxe} {la : List (Nat × sxv)} {sa : List sxv} {H : List (Nat × sxc)} {c : Nat} {w : mxW} {R : List (Nat × sxA)} (hR : sx_o_l2i (pc + 1) E la sa H c = some R) (h : sx_γ W0 S ρ (E, la, sa, H, c) (la.map (sx_lv W0 ρ)) (sa.map (sx_val W0 ρ)) w) : sx_Ok W0 S i pc .l2i ρ E.length (la.map (sx_lv W0 ρ)) (sa.map (sx_val W0 ρ)) w R := by
  unfold sx_o_l2i at hR
  split at hR
  · rename_i x r
    obtain ⟨ht, hR⟩ := sx_cd hR
    have wr : ∀ v ∈ r, sx_wf E.length v := sx_tl_wf h.2.2.1.2
    have hx : sx_val W0 ρ x = .long (Int64.ofInt (ρ x.2.1 + x.2.2)) := sx_v1 (sx_bq ht)
    have hk : ∀ (k : Nat → mxV → List Value → mxW → Option mxR) (call : Nat → List Value → mxW → Option mxR), mxS i pc .l2i (la.map (sx_lv W0 ρ)) ((x :: r).map (sx_val W0 ρ)) w k call = k (pc + 1) (la.map (sx_lv W0 ρ)) (.int (Int32.ofInt (ρ x.2.1 + x.2.2)) :: r.map (sx_val W0 ρ)) w := by
      intro k call
      rw [List.map_cons, hx, ← Int64.toInt32_ofInt]
      rfl
    split at hR
    · rename_i q hq
      cases h32 : sx_i32 q with
      | true =>
        rw [h32] at hR
        cases hR
        refine sx_ok1 h h.2.1.2 (sx_cons_wf (fun _ => (show x.2.1 < E.length from sx_rg_wf hq)) wr) (fun k call => ?_)
        rw [hk, List.map_cons, sx_v0 rfl]
      | false =>
        rw [h32] at hR
        exact sx_okni h _ hR (sx_top_ok _) wr hk
    · cases hR
  · cases hR
theorem sxo_i2b {W0 : Nat} {S : Nat → Prop} {i : mxi} {pc : Nat} {ρ : Nat → Int} {E : List sxe} {la : List (Nat × sxv)} {sa : List sxv} {H : List (Nat × sxc)} {c : Nat} {w : mxW} {R : List (Nat × sxA)} (hR : sx_o_i2b (pc + 1) E la sa H c = some R) (h : sx_γ W0 S ρ (E, la, sa, H, c) (la.map (sx_lv W0 ρ)) (sa.map (sx_val W0 ρ)) w) : sx_Ok W0 S i pc .i2b ρ E.length (la.map (sx_lv W0 ρ)) (sa.map (sx_val W0 ρ)) w R := by
  unfold sx_o_i2b at hR
  split at hR
  · rename_i x r
    obtain ⟨ht, hR⟩ := sx_cd hR
    have wr : ∀ v ∈ r, sx_wf E.length v := sx_tl_wf h.2.2.1.2
    have hx : sx_val W0 ρ x = .int (Int32.ofInt (ρ x.2.1 + x.2.2)) := sx_v0 (sx_bq ht)
    refine sx_okni h (Int32.ofInt (ρ x.2.1 + x.2.2)).toInt8.toInt32 hR ?_ wr (fun k call => ?_)
    · rw [Int8.toInt_toInt32]
      have a := Int8.le_toInt (Int32.ofInt (ρ x.2.1 + x.2.2)).toInt8
      have b := Int8.toInt_lt (Int32.ofInt (ρ x.2.1 + x.2.2)).toInt8
      constructor
      · show (-128 : Int) ≤ _
        omega
      · show _ ≤ (127 : Int)
        omega
    · rw [List.map_cons, hx]
      rfl
  · cases hR
theorem sxo_dup {W0 : Nat} {S : Nat → Prop} {i : mxi} {pc : Nat} {ρ : Nat → Int} {E : List sxe} {la : List (Nat × sxv)} {sa : List sxv} {H : List (Nat × sxc)} {c : Nat} {w : mxW} {R : List (Nat × sxA)} (hR : sx_o_dup (pc + 1) E la sa H c = some R) (h : sx_γ W0 S ρ (E, la, sa, H, c) (la.map (sx_lv W0 ρ)) (sa.map (sx_val W0 ρ)) w) : sx_Ok W0 S i pc .dup ρ E.length (la.map (sx_lv W0 ρ)) (sa.map (sx_val W0 ρ)) w R := by
  unfold sx_o_dup at hR
  split at hR
  · rename_i x r
    obtain ⟨ht, hR⟩ := sx_cd hR
    have wr : ∀ v ∈ r, sx_wf E.length v := sx_tl_wf h.2.2.1.2
    cases hR
    have hw := sx_hd_wf h.2.2.1.2
    refine sx_ok1 h h.2.1.2 (sx_cons_wf hw (sx_cons_wf hw wr)) (fun k call => ?_)
    rw [List.map_cons, List.map_cons, List.map_cons]
    rcases Bool.or_eq_true _ _ ▸ ht with q | q
    · rw [sx_v0 (sx_bq q)]
      rfl
    · rw [sx_v2 (sx_bq q)]
      rfl
  · cases hR
theorem sxo_pop {W0 : Nat} {S : Nat → Prop} {i : mxi} {pc : Nat} {ρ : Nat → Int} {E : List sxe} {la : List (Nat × sxv)} {sa : List sxv} {H : List (Nat × sxc)} {c : Nat} {w : mxW} {R : List (Nat × sxA)} (hR : sx_o_pop (pc + 1) E la sa H c = some R) (h : sx_γ W0 S ρ (E, la, sa, H, c) (la.map (sx_lv W0 ρ)) (sa.map (sx_val W0 ρ)) w) : sx_Ok W0 S i pc .pop ρ E.length (la.map (sx_lv W0 ρ)) (sa.map (sx_val W0 ρ)) w R := by
  unfold sx_o_pop at hR
  split at hR
  · rename_i x r
    obtain ⟨ht, hR⟩ := sx_cd hR
    have wr : ∀ v ∈ r, sx_wf E.length v := sx_tl_wf h.2.2.1.2
    cases hR
    refine sx_ok1 h h.2.1.2 wr (fun k call => ?_)
    rw [List.map_cons, sx_v0 (sx_bq ht)]
    rfl
  · cases hR
theorem sxo_dup2 {W0 : Nat} {S : Nat → Prop} {i : mxi} {pc : Nat} {ρ : Nat → Int} {E : List sxe} {la : List (Nat × sxv)} {sa : List sxv} {H : List (Nat × sxc)} {c : Nat} {w : mxW} {R : List (Nat × sxA)} (hR : sx_o_dup2 (pc + 1) E la sa H c = some R) (h : sx_γ W0 S ρ (E, la, sa, H, c) (la.map (sx_lv W0 ρ)) (sa.map (sx_val W0 ρ)) w) : sx_Ok W0 S i pc .dup2 ρ E.length (la.map (sx_lv W0 ρ)) (sa.map (sx_val W0 ρ)) w R := by
  unfold sx_o_dup2 at hR
  split at hR
  · rename_i y x r
    obtain ⟨ht, hR⟩ := sx_cd hR
    rw [Bool.and_eq_true] at ht
    cases hR
    have w1 := sx_hd_wf h.2.2.1.2
    have w2 := sx_hd_wf (sx_tl_wf h.2.2.1.2)
    refine sx_ok1 h h.2.1.2 (sx_cons_wf w1 (sx_cons_wf w2 h.2.2.1.2)) (fun k call => ?_)
    simp only [List.map_cons, sx_v0 (sx_bq ht.1), sx_v2 (sx_bq ht.2)]
    rfl
  · cases hR
theorem sx_j_ok {pc : Nat} {off : Int} {t : Nat} (h : sx_j pc off = some t) (f : Nat → Option mxR) : mxj pc off f = f t := by
  unfold sx_j at h
  unfold mxj
  split at h
  · rename_i u hu
    cases h
    rw [hu]
  · cases h
theorem sx_rf_ok {cd : ClassFile.Cond} {X Y : Int} {qx qy : Int × Int} (h : sx_cmp cd X Y = true) (hx : qx.1 ≤ X ∧ X ≤ qx.2) (hy : qy.1 ≤ Y ∧ Y ≤ qy.2) : ((sx_rf cd qx qy).1.1 ≤ X ∧ X ≤ (sx_rf cd qx qy).1.2) ∧ ((sx_rf cd qx qy).2.1 ≤ Y ∧ Y ≤ (sx_rf cd qx qy).2.2) := by
  cases cd <;> simp only [sx_cmp, decide_eq_true_eq] at h <;> simp only [sx_rf]
  · omega
  · refine ⟨⟨?_, ?_⟩, hy⟩
    · cases hd : decide (qy.1 = qy.2 ∧ qx.1 = qy.1) with
      | true =>
        have := of_decide_eq_true hd
        show qx.1 + 1 ≤ X
        omega
      | false => exact hx.1
    · cases hd : decide (qy.1 = qy.2 ∧ qx.2 = qy.1) with
      | true =>
        have := of_decide_eq_true hd
        show X ≤ qx.2 - 1
        omega
      | false => exact hx.2
  · omega
  · omega
  · omega
  · omega
theorem sx_on_ok {E : List sxe} {ρ : Nat → Int} (hE : sx_env E ρ) {cd : ClassFile.Cond} {x y : sxv} {qx qy : Int × Int} (h : sx_cmp cd (ρ x.2.1 + x.2.2) (ρ y.2.1 + y.2.2) = true) (hx : sx_rg E x = some qx) (hy : sx_rg E y = some qy) : ∃ E', sx_on E cd x y qx qy = some E' ∧ sx_env E' ρ ∧ E'.length = E.length := by
  unfold sx_on
  cases hb : Nat.beq x.2.1 y.2.1 with
  | true =>
    have e := sx_bq hb
    have hc : sx_cmp cd x.2.2 y.2.2 = true := by
      rw [e] at h
      cases cd <;> simp only [sx_cmp, decide_eq_true_eq] at h ⊢ <;> omega
    rw [hc]
    exact ⟨E, rfl, hE, rfl⟩
  | false =>
    obtain ⟨a, b⟩ := sx_rf_ok h (sx_rg_ok hE hx) (sx_rg_ok hE hy)
    obtain ⟨E1, e1, hE1, l1⟩ := sx_meet_ok hE a.1 a.2
    obtain ⟨E2, e2, hE2, l2⟩ := sx_meet_ok hE1 b.1 b.2
    refine ⟨E2, ?_, hE2, by omega⟩
    show (match sx_meet E x (sx_rf cd qx qy).1.1 (sx_rf cd qx qy).1.2 with | some E1 => sx_meet E1 y (sx_rf cd qx qy).2.1 (sx_rf cd qx qy).2.2 | none => none) = _
    rw [e1]
    exact e2
theorem sx_neg_ok {cd : ClassFile.Cond} {X Y : Int} (h : sx_cmp cd X Y = false) : sx_cmp (sx_neg cd) X Y = true := by
  cases cd <;> simp only [sx_cmp, sx_neg, decide_eq_true_eq, decide_eq_false_iff_not] at h ⊢ <;> omega
theorem sx_hold {cd : ClassFile.Cond} {x y : Int32} : Op.if_icmp.holds cd x y = sx_cmp cd x.toInt y.toInt := by
  apply Bool.eq_iff_iff.mpr
  cases cd
  · rw [hk_eq]; simp [sx_cmp]
  · rw [hk_ne]; simp [sx_cmp]
  · rw [hk_lt]; simp [sx_cmp]
  · rw [hk_ge]; simp [sx_cmp]
  · rw [hk_gt]; simp [sx_cmp]
  · rw [hk_le]; simp [sx_cmp]
theorem sx_hold0 {cd : ClassFile.Cond} {x : Int32} : Op.ifCond.holds cd x = sx_cmp cd x.toInt 0 := by
  apply Bool.eq_iff_iff.mpr
  have e0 : (0 : Int32).toInt = 0 := rfl
  cases cd
  · rw [hj_eq, e0]; simp [sx_cmp]
  · rw [hj_ne, e0]; simp [sx_cmp]
  · rw [hj_lt, e0]; simp [sx_cmp]
  · rw [hj_ge, e0]; simp [sx_cmp]
  · rw [hj_gt, e0]; simp [sx_cmp]
  · rw [hj_le, e0]; simp [sx_cmp]
/-- the state under better bounds -/
theorem sx_γ_E {W0 : Nat} {S : Nat → Prop} {ρ : Nat → Int} {E E' : List sxe} {la : List (Nat × sxv)} {sa r : List sxv} {H : List (Nat × sxc)} {c : Nat} {lv : mxV} {st : List Value} {w : mxW} (h : sx_γ W0 S ρ (E, la, sa, H, c) lv st w) (ws : ∀ v ∈ r, sx_wf E.length v) (hE : sx_env E' ρ) (hl : E'.length = E.length) : sx_γ W0 S ρ (E', la, r, H, c) lv (r.map (sx_val W0 ρ)) w :=
  sx_γ_ag (sa := r) ⟨h.1, h.2.1, ⟨rfl, ws⟩, h.2.2.2⟩ hE (by omega) (fun _ _ => rfl)
theorem sx_cj_ok {W0 : Nat} {S : Nat → Prop} {i : mxi} {pc : Nat} {op : Instr} {ρ : Nat → Int} {E : List sxe} {la : List (Nat × sxv)} {sa r : List sxv} {H : List (Nat × sxc)} {c : Nat} {lv : mxV} {st : List Value} {w : mxW} {R : List (Nat × sxA)} (h : sx_γ W0 S ρ (E, la, sa, H, c) lv st w) {cd : ClassFile.Cond} {x y : sxv} {t e : Nat} (hR : sx_cj E cd x y t e la r H c = some R) (ws : ∀ v ∈ r, sx_wf E.length v) (hk : ∀ (k : Nat → mxV → List Value → mxW → Option mxR) (call : Nat → List Value → mxW → Option mxR), mxS i pc op lv st w k call = cond (sx_cmp cd (Int32.ofInt (ρ x.2.1 + x.2.2)).toInt (Int32.ofInt (ρ y.2.1 + y.2.2)).toInt) (k t lv (r.map (sx_val W0 ρ)) w) (k e lv (r.map (sx_val W0 ρ)) w)) : sx_Ok W0 S i pc op ρ E.length lv st w R := by
  unfold sx_cj at hR
  split at hR
  · rename_i qx qy hx hy
    obtain ⟨ht, hR⟩ := sx_cd hR
    rw [Bool.and_eq_true] at ht
    cases hR
    have a := sx_rg_ok h.1 hx
    have b := sx_rg_ok h.1 hy
    rw [sx_i32_ok ht.1 a.1 a.2, sx_i32_ok ht.2 b.1 b.2] at hk
    cases hc : sx_cmp cd (ρ x.2.1 + x.2.2) (ρ y.2.1 + y.2.2) with
    | true =>
      obtain ⟨E', e1, hE', hl⟩ := sx_on_ok h.1 hc hx hy
      refine ⟨(t, (E', la, r, H, c)), List.mem_append_left _ ?_, ρ, lv, _, w, fun _ _ => rfl, Nat.le_of_eq hl.symm, sx_γ_E h ws hE' hl, sx_Fr.rf, fun k call => by rw [hk, hc]; rfl⟩
      rw [e1]
      exact List.mem_singleton.mpr rfl
    | false =>
      obtain ⟨E', e1, hE', hl⟩ := sx_on_ok h.1 (sx_neg_ok hc) hx hy
      refine ⟨(e, (E', la, r, H, c)), List.mem_append_right _ ?_, ρ, lv, _, w, fun _ _ => rfl, Nat.le_of_eq hl.symm, sx_γ_E h ws hE' hl, sx_Fr.rf, fun k call => by rw [hk, hc]; rfl⟩
      rw [e1]
      exact List.mem_singleton.mpr rfl
  · cases hR
theorem sxo_ifCond {W0 : Nat} {S : Nat → Prop} {i : mxi} {pc : Nat} {ρ : Nat → Int} {E : List sxe} {la : List (Nat × sxv)} {sa : List sxv} {H : List (Nat × sxc)} {c : Nat} {w : mxW} {R : List (Nat × sxA)} {cd : ClassFile.Cond} {off : Int} (hR : sx_o_ifCond cd off (pc) E la sa H c = some R) (h : sx_γ W0 S ρ (E, la, sa, H, c) (la.map (sx_lv W0 ρ)) (sa.map (sx_val W0 ρ)) w) : sx_Ok W0 S i pc (.ifCond cd off) ρ E.length (la.map (sx_lv W0 ρ)) (sa.map (sx_val W0 ρ)) w R := by
  unfold sx_o_ifCond at hR
  split at hR
  · rename_i x r
    obtain ⟨ht, hR⟩ := sx_cd hR
    split at hR
    · rename_i t hj
      refine sx_cj_ok h hR (sx_tl_wf h.2.2.1.2) (fun k call => ?_)
      rw [List.map_cons, sx_v0 (sx_bq ht)]
      show mxj pc off (fun t => cond (Op.ifCond.holds cd _) (k t _ _ w) (k (pc + 3) _ _ w)) = _
      rw [sx_j_ok hj, sx_hold0]
      dsimp only
      rw [h.1.1]
      rfl
    · cases hR
  · cases hR
theorem sxo_icmp {W0 : Nat} {S : Nat → Prop} {i : mxi} {pc : Nat} {ρ : Nat → Int} {E : List sxe} {la : List (Nat × sxv)} {sa : List sxv} {H : List (Nat × sxc)} {c : Nat} {w : mxW} {R : List (Nat × sxA)} {cd : ClassFile.Cond} {off : Int} (hR : sx_o_icmp cd off (pc) E la sa H c = some R) (h : sx_γ W0 S ρ (E, la, sa, H, c) (la.map (sx_lv W0 ρ)) (sa.map (sx_val W0 ρ)) w) : sx_Ok W0 S i pc (.if_icmp cd off) ρ E.length (la.map (sx_lv W0 ρ)) (sa.map (sx_val W0 ρ)) w R := by
  unfold sx_o_icmp at hR
  split at hR
  · rename_i y x r
    obtain ⟨ht, hR⟩ := sx_cd hR
    rw [Bool.and_eq_true] at ht
    split at hR
    · rename_i t hj
      refine sx_cj_ok h hR (sx_tl_wf (sx_tl_wf h.2.2.1.2)) (fun k call => ?_)
      rw [List.map_cons, List.map_cons, sx_v0 (sx_bq ht.1), sx_v0 (sx_bq ht.2)]
      show mxj pc off (fun t => cond (Op.if_icmp.holds cd _ _) (k t _ _ w) (k (pc + 3) _ _ w)) = _
      rw [sx_j_ok hj, sx_hold]
    · cases hR
  · cases hR
theorem sxo_nonnull {W0 : Nat} {S : Nat → Prop} {i : mxi} {pc : Nat} {ρ : Nat → Int} {E : List sxe} {la : List (Nat × sxv)} {sa : List sxv} {H : List (Nat × sxc)} {c : Nat} {w : mxW} {R : List (Nat × sxA)} {off : Int} (hR : sx_o_nonnull off (pc) E la sa H c = some R) (h : sx_γ W0 S ρ (E, la, sa, H, c) (la.map (sx_lv W0 ρ)) (sa.map (sx_val W0 ρ)) w) : sx_Ok W0 S i pc (.ifnonnull off) ρ E.length (la.map (sx_lv W0 ρ)) (sa.map (sx_val W0 ρ)) w R := by
  unfold sx_o_nonnull at hR
  split at hR
  · rename_i x r
    have wr := sx_tl_wf h.2.2.1.2
    cases h2 : Nat.beq x.1 2 with
    | true =>
      rw [h2] at hR
      replace hR : (match sx_j pc off with | some t => some [(t, (E, la, r, H, c))] | none => none) = some R := hR
      split at hR
      · rename_i t hj
        cases hR
        refine sx_ok1 h h.2.1.2 wr (fun k call => ?_)
        rw [List.map_cons, sx_v2 (sx_bq h2)]
        show mxj pc off (fun t => k t _ _ w) = _
        rw [sx_j_ok hj]
      · cases hR
    | false =>
      rw [h2] at hR
      obtain ⟨h4, hR⟩ := sx_cd hR
      cases hR
      refine sx_ok1 h h.2.1.2 wr (fun k call => ?_)
      rw [List.map_cons, sx_v4 (sx_bq h4)]
      rfl
  · cases hR
theorem sxo_goto {W0 : Nat} {S : Nat → Prop} {i : mxi} {pc : Nat} {ρ : Nat → Int} {E : List sxe} {la : List (Nat × sxv)} {sa : List sxv} {H : List (Nat × sxc)} {c : Nat} {w : mxW} {R : List (Nat × sxA)} {off : Int} (hR : sx_o_goto off (pc) E la sa H c = some R) (h : sx_γ W0 S ρ (E, la, sa, H, c) (la.map (sx_lv W0 ρ)) (sa.map (sx_val W0 ρ)) w) : sx_Ok W0 S i pc (.goto off) ρ E.length (la.map (sx_lv W0 ρ)) (sa.map (sx_val W0 ρ)) w R := by
  unfold sx_o_goto at hR
  split at hR
  · rename_i t hj
    cases hR
    refine sx_ok1 h h.2.1.2 h.2.2.1.2 (fun k call => ?_)
    show mxj pc off (fun t => k t _ _ w) = _
    rw [sx_j_ok hj]
  · cases hR
