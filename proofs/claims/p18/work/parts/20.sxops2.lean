/-! locals -/
theorem sx_cat_v {W0 : Nat} {ρ : Nat → Int} (v : sxv) : (sx_val W0 ρ v).category = sx_cat v := by
  obtain ⟨t, s, d⟩ := v
  match t with
  | 0 => rfl
  | 1 => rfl
  | 2 => rfl
  | 3 => rfl
  | t + 4 => rfl
theorem sx_look {W0 : Nat} {ρ : Nat → Int} (la : List (Nat × sxv)) (j : Nat) : mxg (la.map (sx_lv W0 ρ)) j = (sx_g la j).map (sx_val W0 ρ) := by
  unfold mxg sx_g
  induction la with
  | nil => rfl
  | cons q l ih =>
    obtain ⟨a, v⟩ := q
    rw [List.map_cons]
    show List.lookup j ((a, sx_val W0 ρ v) :: _) = _
    rw [List.lookup_cons, List.lookup_cons]
    cases j == a with
    | true => rfl
    | false => exact ih
theorem sx_g_mem {la : List (Nat × sxv)} {j : Nat} {v : sxv} (h : sx_g la j = some v) : ∃ a, (a, v) ∈ la := by
  unfold sx_g at h
  induction la with
  | nil => cases h
  | cons q l ih =>
    obtain ⟨a, u⟩ := q
    rw [List.lookup_cons] at h
    cases hb : j == a with
    | true =>
      rw [hb] at h
      cases h
      exact ⟨a, List.mem_cons_self⟩
    | false =>
      rw [hb] at h
      obtain ⟨b, hb⟩ := ih h
      exact ⟨b, List.mem_cons_of_mem _ hb⟩
theorem sx_s1_map {W0 : Nat} {ρ : Nat → Int} (la : List (Nat × sxv)) (j : Nat) (v : sxv) : (sx_s1 la j v).map (sx_lv W0 ρ) = mxs1 (la.map (sx_lv W0 ρ)) j (sx_val W0 ρ v) := by
  unfold sx_s1 mxs1
  rw [List.map_append, List.map_cons, List.filter_map, List.filter_map]
  congr 2
  refine List.filter_congr (fun q _ => ?_)
  show _ = (Nat.blt (q.1 + 1) j || (q.1 + 1 == j && (sx_val W0 ρ q.2).category == 1))
  rw [sx_cat_v]
theorem sx_s2_map {W0 : Nat} {ρ : Nat → Int} (la : List (Nat × sxv)) (j : Nat) (v : sxv) : (sx_s2 la j v).map (sx_lv W0 ρ) = mxs2 (la.map (sx_lv W0 ρ)) j (sx_val W0 ρ v) := by
  unfold sx_s2 mxs2
  rw [List.map_append, List.map_cons, List.filter_map, List.filter_map]
  congr 2
  refine List.filter_congr (fun q _ => ?_)
  show _ = (Nat.blt (q.1 + 1) j || (q.1 + 1 == j && (sx_val W0 ρ q.2).category == 1))
  rw [sx_cat_v]
theorem sx_s1_wf {n : Nat} {la : List (Nat × sxv)} {j : Nat} {v : sxv} (h : ∀ q ∈ la, sx_wf n q.2) (hv : sx_wf n v) : ∀ q ∈ sx_s1 la j v, sx_wf n q.2 := by
  intro q hq
  unfold sx_s1 at hq
  rcases List.mem_append.mp hq with hq | hq
  · exact h q (List.mem_filter.mp hq).1
  · rcases List.mem_cons.mp hq with hq | hq
    · subst hq
      exact hv
    · exact h q (List.mem_filter.mp hq).1
theorem sx_s2_wf {n : Nat} {la : List (Nat × sxv)} {j : Nat} {v : sxv} (h : ∀ q ∈ la, sx_wf n q.2) (hv : sx_wf n v) : ∀ q ∈ sx_s2 la j v, sx_wf n q.2 := by
  intro q hq
  unfold sx_s2 at hq
  rcases List.mem_append.mp hq with hq | hq
  · exact h q (List.mem_filter.mp hq).1
  · rcases List.mem_cons.mp hq with hq | hq
    · subst hq
      exact hv
    · exact h q (List.mem_filter.mp hq).1
theorem sx_cons_wf {n : Nat} {v : sxv} {r : List sxv} (hv : sx_wf n v) (h : ∀ u ∈ r, sx_wf n u) : ∀ u ∈ v :: r, sx_wf n u := by
  intro u hu
  rcases List.mem_cons.mp hu with q | q
  · subst q
    exact hv
  · exact h u q
theorem sx_tl_wf {n : Nat} {v : sxv} {r : List sxv} (h : ∀ u ∈ v :: r, sx_wf n u) : ∀ u ∈ r, sx_wf n u := fun u q => h u (List.mem_cons_of_mem _ q)
theorem sx_hd_wf {n : Nat} {v : sxv} {r : List sxv} (h : ∀ u ∈ v :: r, sx_wf n u) : sx_wf n v := h v List.mem_cons_self
/-- a constant or a reference is pushed -/
theorem sxo_push {W0 : Nat} {S : Nat → Prop} {i : mxi} {pc : Nat} {ρ : Nat → Int} {E : List sxe} {la : List (Nat × sxv)} {sa : List sxv} {H : List (Nat × sxc)} {c : Nat} {w : mxW} {R : List (Nat × sxA)} {op : Instr} {v : sxv} {pc1 : Nat} (hR : sx_o_push v pc1 E la sa H c = some R) (h : sx_γ W0 S ρ (E, la, sa, H, c) (la.map (sx_lv W0 ρ)) (sa.map (sx_val W0 ρ)) w) (hv : v.1 < 2 → v.2.1 = 0) (hk : ∀ (k : Nat → mxV → List Value → mxW → Option mxR) (call : Nat → List Value → mxW → Option mxR), mxS i pc op (la.map (sx_lv W0 ρ)) (sa.map (sx_val W0 ρ)) w k call = k pc1 (la.map (sx_lv W0 ρ)) (sx_val W0 ρ v :: sa.map (sx_val W0 ρ)) w) : sx_Ok W0 S i pc op ρ E.length (la.map (sx_lv W0 ρ)) (sa.map (sx_val W0 ρ)) w R := by
  unfold sx_o_push at hR
  cases hR
  exact sx_ok1 h h.2.1.2 (sx_cons_wf (fun q => by rw [hv q]; exact h.1.2.1) h.2.2.1.2) (fun k call => hk k call)
theorem sx_k0 {W0 : Nat} {ρ : Nat → Int} (h : ρ 0 = 0) (x : Int32) : sx_val W0 ρ (0, 0, x.toInt) = .int x := by
  rw [sx_v0 rfl]
  dsimp only
  rw [h, Int.zero_add, Int32.ofInt_toInt]
theorem sx_k1 {W0 : Nat} {ρ : Nat → Int} (h : ρ 0 = 0) (x : Int64) : sx_val W0 ρ (1, 0, x.toInt) = .long x := by
  rw [sx_v1 rfl]
  dsimp only
  rw [h, Int.zero_add, Int64.ofInt_toInt]
theorem sxo_iload_n {W0 : Nat} {S : Nat → Prop} {i : mxi} {pc : Nat} {ρ : Nat → Int} {E : List sxe} {la : List (Nat × sxv)} {sa : List sxv} {H : List (Nat × sxc)} {c : Nat} {w : mxW} {R : List (Nat × sxA)} {j : Fin 4} (hR : sx_o_load 0 j.val (pc + 1) E la sa H c = some R) (h : sx_γ W0 S ρ (E, la, sa, H, c) (la.map (sx_lv W0 ρ)) (sa.map (sx_val W0 ρ)) w) : sx_Ok W0 S i pc (.iload_n j) ρ E.length (la.map (sx_lv W0 ρ)) (sa.map (sx_val W0 ρ)) w R := by
  unfold sx_o_load at hR
  split at hR
  · rename_i v hv
    obtain ⟨ht, hR⟩ := sx_cd hR
    cases hR
    obtain ⟨a, ha⟩ := sx_g_mem hv
    refine sx_ok1 h h.2.1.2 (sx_cons_wf (h.2.1.2 _ ha) h.2.2.1.2) (fun k call => ?_)
    have e : mxg (la.map (sx_lv W0 ρ)) j.val = some (sx_val W0 ρ v) := by rw [sx_look, hv]; rfl
    rw [List.map_cons, sx_v0 (sx_bq ht)]
    rw [sx_v0 (sx_bq ht)] at e
    show (match mxg (la.map (sx_lv W0 ρ)) j.val with | some (.int x) => k (pc + 1) _ (.int x :: _) w | _ => none) = _
    rw [e]
  · cases hR
theorem sxo_iload {W0 : Nat} {S : Nat → Prop} {i : mxi} {pc : Nat} {ρ : Nat → Int} {E : List sxe} {la : List (Nat × sxv)} {sa : List sxv} {H : List (Nat × sxc)} {c : Nat} {w : mxW} {R : List (Nat × sxA)} {j : Nat} (hR : sx_o_load 0 j (pc + 2) E la sa H c = some R) (h : sx_γ W0 S ρ (E, la, sa, H, c) (la.map (sx_lv W0 ρ)) (sa.map (sx_val W0 ρ)) w) : sx_Ok W0 S i pc (.iload j) ρ E.length (la.map (sx_lv W0 ρ)) (sa.map (sx_val W0 ρ)) w R := by
  unfold sx_o_load at hR
  split at hR
  · rename_i v hv
    obtain ⟨ht, hR⟩ := sx_cd hR
    cases hR
    obtain ⟨a, ha⟩ := sx_g_mem hv
    refine sx_ok1 h h.2.1.2 (sx_cons_wf (h.2.1.2 _ ha) h.2.2.1.2) (fun k call => ?_)
    have e : mxg (la.map (sx_lv W0 ρ)) j = some (sx_val W0 ρ v) := by rw [sx_look, hv]; rfl
    rw [List.map_cons, sx_v0 (sx_bq ht)]
    rw [sx_v0 (sx_bq ht)] at e
    show (match mxg (la.map (sx_lv W0 ρ)) j with | some (.int x) => k (pc + 2) _ (.int x :: _) w | _ => none) = _
    rw [e]
  · cases hR
theorem sxo_lload_n {W0 : Nat} {S : Nat → Prop} {i : mxi} {pc : Nat} {ρ : Nat → Int} {E : List sxe} {la : List (Nat × sxv)} {sa : List sxv} {H : List (Nat × sxc)} {c : Nat} {w : mxW} {R : List (Nat × sxA)} {j : Fin 4} (hR : sx_o_load 1 j.val (pc + 1) E la sa H c = some R) (h : sx_γ W0 S ρ (E, la, sa, H, c) (la.map (sx_lv W0 ρ)) (sa.map (sx_val W0 ρ)) w) : sx_Ok W0 S i pc (.lload_n j) ρ E.length (la.map (sx_lv W0 ρ)) (sa.map (sx_val W0 ρ)) w R := by
  unfold sx_o_load at hR
  split at hR
  · rename_i v hv
    obtain ⟨ht, hR⟩ := sx_cd hR
    cases hR
    obtain ⟨a, ha⟩ := sx_g_mem hv
    refine sx_ok1 h h.2.1.2 (sx_cons_wf (h.2.1.2 _ ha) h.2.2.1.2) (fun k call => ?_)
    have e : mxg (la.map (sx_lv W0 ρ)) j.val = some (sx_val W0 ρ v) := by rw [sx_look, hv]; rfl
    rw [List.map_cons, sx_v1 (sx_bq ht)]
    rw [sx_v1 (sx_bq ht)] at e
    show (match mxg (la.map (sx_lv W0 ρ)) j.val with | some (.long x) => k (pc + 1) _ (.long x :: _) w | _ => none) = _
    rw [e]
  · cases hR
theorem sxo_lload {W0 : Nat} {S : Nat → Prop} {i : mxi} {pc : Nat} {ρ : Nat → Int} {E : List sxe} {la : List (Nat × sxv)} {sa : List sxv} {H : List (Nat × sxc)} {c : Nat} {w : mxW} {R : List (Nat × sxA)} {j : Nat} (hR : sx_o_load 1 j (pc + 2) E la sa H c = some R) (h : sx_γ W0 S ρ (E, la, sa, H, c) (la.map (sx_lv W0 ρ)) (sa.map (sx_val W0 ρ)) w) : sx_Ok W0 S i pc (.lload j) ρ E.length (la.map (sx_lv W0 ρ)) (sa.map (sx_val W0 ρ)) w R := by
  unfold sx_o_load at hR
  split at hR
  · rename_i v hv
    obtain ⟨ht, hR⟩ := sx_cd hR
    cases hR
    obtain ⟨a, ha⟩ := sx_g_mem hv
    refine sx_ok1 h h.2.1.2 (sx_cons_wf (h.2.1.2 _ ha) h.2.2.1.2) (fun k call => ?_)
    have e : mxg (la.map (sx_lv W0 ρ)) j = some (sx_val W0 ρ v) := by rw [sx_look, hv]; rfl
    rw [List.map_cons, sx_v1 (sx_bq ht)]
    rw [sx_v1 (sx_bq ht)] at e
    show (match mxg (la.map (sx_lv W0 ρ)) j with | some (.long x) => k (pc + 2) _ (.long x :: _) w | _ => none) = _
    rw [e]
  · cases hR
theorem sxo_aload_n {W0 : Nat} {S : Nat → Prop} {i : mxi} {pc : Nat} {ρ : Nat → Int} {E : List sxe} {la : List (Nat × sxv)} {sa : List sxv} {H : List (Nat × sxc)} {c : Nat} {w : mxW} {R : List (Nat × sxA)} {j : Fin 4} (hR : sx_o_aload j.val (pc + 1) E la sa H c = some R) (h : sx_γ W0 S ρ (E, la, sa, H, c) (la.map (sx_lv W0 ρ)) (sa.map (sx_val W0 ρ)) w) : sx_Ok W0 S i pc (.aload_n j) ρ E.length (la.map (sx_lv W0 ρ)) (sa.map (sx_val W0 ρ)) w R := by
  unfold sx_o_aload at hR
  split at hR
  · rename_i v hv
    obtain ⟨ht, hR⟩ := sx_cd hR
    cases hR
    obtain ⟨a, ha⟩ := sx_g_mem hv
    refine sx_ok1 h h.2.1.2 (sx_cons_wf (h.2.1.2 _ ha) h.2.2.1.2) (fun k call => ?_)
    have e : mxg (la.map (sx_lv W0 ρ)) j.val = some (sx_val W0 ρ v) := by rw [sx_look, hv]; rfl
    rw [List.map_cons]
    show (match mxg (la.map (sx_lv W0 ρ)) j.val with | some (.ref x) => k (pc + 1) _ (.ref x :: _) w | some (.retAddr x) => k (pc + 1) _ (.retAddr x :: _) w | _ => none) = _
    rcases Bool.or_eq_true _ _ ▸ ht with q | q
    · rw [sx_v2 (sx_bq q)] at e ⊢
      rw [e]
    · rw [sx_v3 (sx_bq q)] at e ⊢
      rw [e]
  · cases hR
theorem sxo_aload {W0 : Nat} {S : Nat → Prop} {i : mxi} {pc : Nat} {ρ : Nat → Int} {E : List sxe} {la : List (Nat × sxv)} {sa : List sxv} {H : List (Nat × sxc)} {c : Nat} {w : mxW} {R : List (Nat × sxA)} {j : Nat} (hR : sx_o_aload j (pc + 2) E la sa H c = some R) (h : sx_γ W0 S ρ (E, la, sa, H, c) (la.map (sx_lv W0 ρ)) (sa.map (sx_val W0 ρ)) w) : sx_Ok W0 S i pc (.aload j) ρ E.length (la.map (sx_lv W0 ρ)) (sa.map (sx_val W0 ρ)) w R := by
  unfold sx_o_aload at hR
  split at hR
  · rename_i v hv
    obtain ⟨ht, hR⟩ := sx_cd hR
    cases hR
    obtain ⟨a, ha⟩ := sx_g_mem hv
    refine sx_ok1 h h.2.1.2 (sx_cons_wf (h.2.1.2 _ ha) h.2.2.1.2) (fun k call => ?_)
    have e : mxg (la.map (sx_lv W0 ρ)) j = some (sx_val W0 ρ v) := by rw [sx_look, hv]; rfl
    rw [List.map_cons]
    show (match mxg (la.map (sx_lv W0 ρ)) j with | some (.ref x) => k (pc + 2) _ (.ref x :: _) w | some (.retAddr x) => k (pc + 2) _ (.retAddr x :: _) w | _ => none) = _
    rcases Bool.or_eq_true _ _ ▸ ht with q | q
    · rw [sx_v2 (sx_bq q)] at e ⊢
      rw [e]
    · rw [sx_v3 (sx_bq q)] at e ⊢
      rw [e]
  · cases hR
theorem sxo_istore_n {W0 : Nat} {S : Nat → Prop} {i : mxi} {pc : Nat} {ρ : Nat → Int} {E : List sxe} {la : List (Nat × sxv)} {sa : List sxv} {H : List (Nat × sxc)} {c : Nat} {w : mxW} {R : List (Nat × sxA)} {j : Fin 4} (hR : sx_o_istore i j.val (pc + 1) E la sa H c = some R) (h : sx_γ W0 S ρ (E, la, sa, H, c) (la.map (sx_lv W0 ρ)) (sa.map (sx_val W0 ρ)) w) : sx_Ok W0 S i pc (.istore_n j) ρ E.length (la.map (sx_lv W0 ρ)) (sa.map (sx_val W0 ρ)) w R := by
  unfold sx_o_istore at hR
  split at hR
  · rename_i v r
    obtain ⟨ht, hR⟩ := sx_cd hR
    rw [Bool.and_eq_true] at ht
    cases hR
    refine sx_ok1 h (sx_s1_wf h.2.1.2 (sx_hd_wf h.2.2.1.2)) (sx_tl_wf h.2.2.1.2) (fun k call => ?_)
    rw [sx_s1_map, List.map_cons, sx_v0 (sx_bq ht.1)]
    show cond (Nat.blt j.val (mxi_L i)) (k (pc + 1) (mxs1 _ _ (.int _)) _ w) none = _
    rw [ht.2]
    rfl
  · cases hR
theorem sxo_istore {W0 : Nat} {S : Nat → Prop} {i : mxi} {pc : Nat} {ρ : Nat → Int} {E : List sxe} {la : List (Nat × sxv)} {sa : List sxv} {H : List (Nat × sxc)} {c : Nat} {w : mxW} {R : List (Nat × sxA)} {j : Nat} (hR : sx_o_istore i j (pc + 2) E la sa H c = some R) (h : sx_γ W0 S ρ (E, la, sa, H, c) (la.map (sx_lv W0 ρ)) (sa.map (sx_val W0 ρ)) w) : sx_Ok W0 S i pc (.istore j) ρ E.length (la.map (sx_lv W0 ρ)) (sa.map (sx_val W0 ρ)) w R := by
  unfold sx_o_istore at hR
  split at hR
  · rename_i v r
    obtain ⟨ht, hR⟩ := sx_cd hR
    rw [Bool.and_eq_true] at ht
    cases hR
    refine sx_ok1 h (sx_s1_wf h.2.1.2 (sx_hd_wf h.2.2.1.2)) (sx_tl_wf h.2.2.1.2) (fun k call => ?_)
    rw [sx_s1_map, List.map_cons, sx_v0 (sx_bq ht.1)]
    show cond (Nat.blt j (mxi_L i)) (k (pc + 2) (mxs1 _ _ (.int _)) _ w) none = _
    rw [ht.2]
    rfl
  · cases hR
theorem sxo_lstore_n {W0 : Nat} {S : Nat → Prop} {i : mxi} {pc : Nat} {ρ : Nat → Int} {E : List sxe} {la : List (Nat × sxv)} {sa : List sxv} {H : List (Nat × sxc)} {c : Nat} {w : mxW} {R : List (Nat × sxA)} {j : Fin 4} (hR : sx_o_lstore i j.val (pc + 1) E la sa H c = some R) (h : sx_γ W0 S ρ (E, la, sa, H, c) (la.map (sx_lv W0 ρ)) (sa.map (sx_val W0 ρ)) w) : sx_Ok W0 S i pc (.lstore_n j) ρ E.length (la.map (sx_lv W0 ρ)) (sa.map (sx_val W0 ρ)) w R := by
  unfold sx_o_lstore at hR
  split at hR
  · rename_i v r
    obtain ⟨ht, hR⟩ := sx_cd hR
    rw [Bool.and_eq_true] at ht
    cases hR
    refine sx_ok1 h (sx_s2_wf h.2.1.2 (sx_hd_wf h.2.2.1.2)) (sx_tl_wf h.2.2.1.2) (fun k call => ?_)
    rw [sx_s2_map, List.map_cons, sx_v1 (sx_bq ht.1)]
    show cond (Nat.blt (j.val + 1) (mxi_L i)) (k (pc + 1) (mxs2 _ _ (.long _)) _ w) none = _
    rw [ht.2]
    rfl
  · cases hR
theorem sxo_lstore {W0 : Nat} {S : Nat → Prop} {i : mxi} {pc : Nat} {ρ : Nat → Int} {E : List sxe} {la : List (Nat × sxv)} {sa : List sxv} {H : List (Nat × sxc)} {c : Nat} {w : mxW} {R : List (Nat × sxA)} {j : Nat} (hR : sx_o_lstore i j (pc + 2) E la sa H c = some R) (h : sx_γ W0 S ρ (E, la, sa, H, c) (la.map (sx_lv W0 ρ)) (sa.map (sx_val W0 ρ)) w) : sx_Ok W0 S i pc (.lstore j) ρ E.length (la.map (sx_lv W0 ρ)) (sa.map (sx_val W0 ρ)) w R := by
  unfold sx_o_lstore at hR
  split at hR
  · rename_i v r
    obtain ⟨ht, hR⟩ := sx_cd hR
    rw [Bool.and_eq_true] at ht
    cases hR
    refine sx_ok1 h (sx_s2_wf h.2.1.2 (sx_hd_wf h.2.2.1.2)) (sx_tl_wf h.2.2.1.2) (fun k call => ?_)
    rw [sx_s2_map, List.map_cons, sx_v1 (sx_bq ht.1)]
    show cond (Nat.blt (j + 1) (mxi_L i)) (k (pc + 2) (mxs2 _ _ (.long _)) _ w) none = _
    rw [ht.2]
    rfl
  · cases hR
theorem sxo_astore_n {W0 : Nat} {S : Nat → Prop} {i : mxi} {pc : Nat} {ρ : Nat → Int} {E : List sxe} {la : List (Nat × sxv)} {sa : List sxv} {H : List (Nat × sxc)} {c : Nat} {w : mxW} {R : List (Nat × sxA)} {j : Fin 4} (hR : sx_o_astore i j.val (pc + 1) E la sa H c = some R) (h : sx_γ W0 S ρ (E, la, sa, H, c) (la.map (sx_lv W0 ρ)) (sa.map (sx_val W0 ρ)) w) : sx_Ok W0 S i pc (.astore_n j) ρ E.length (la.map (sx_lv W0 ρ)) (sa.map (sx_val W0 ρ)) w R := by
  unfold sx_o_astore at hR
  split at hR
  · rename_i v r
    obtain ⟨ht, hR⟩ := sx_cd hR
    rw [Bool.and_eq_true] at ht
    cases hR
    refine sx_ok1 h (sx_s1_wf h.2.1.2 (sx_hd_wf h.2.2.1.2)) (sx_tl_wf h.2.2.1.2) (fun k call => ?_)
    rcases Bool.or_eq_true _ _ ▸ ht.1 with q | q
    · rw [sx_s1_map, List.map_cons, sx_v2 (sx_bq q)]
      show cond (Nat.blt j.val (mxi_L i)) (k (pc + 1) (mxs1 _ _ (.ref _)) _ w) none = _
      rw [ht.2]
      rfl
    · rw [sx_s1_map, List.map_cons, sx_v3 (sx_bq q)]
      show cond (Nat.blt j.val (mxi_L i)) (k (pc + 1) (mxs1 _ _ (.retAddr _)) _ w) none = _
      rw [ht.2]
      rfl
  · cases hR
theorem sxo_astore {W0 : Nat} {S : Nat → Prop} {i : mxi} {pc : Nat} {ρ : Nat → Int} {E : List sxe} {la : List (Nat × sxv)} {sa : List sxv} {H : List (Nat × sxc)} {c : Nat} {w : mxW} {R : List (Nat × sxA)} {j : Nat} (hR : sx_o_astore i j (pc + 2) E la sa H c = some R) (h : sx_γ W0 S ρ (E, la, sa, H, c) (la.map (sx_lv W0 ρ)) (sa.map (sx_val W0 ρ)) w) : sx_Ok W0 S i pc (.astore j) ρ E.length (la.map (sx_lv W0 ρ)) (sa.map (sx_val W0 ρ)) w R := by
  unfold sx_o_astore at hR
  split at hR
  · rename_i v r
    obtain ⟨ht, hR⟩ := sx_cd hR
    rw [Bool.and_eq_true] at ht
    cases hR
    refine sx_ok1 h (sx_s1_wf h.2.1.2 (sx_hd_wf h.2.2.1.2)) (sx_tl_wf h.2.2.1.2) (fun k call => ?_)
    rcases Bool.or_eq_true _ _ ▸ ht.1 with q | q
    · rw [sx_s1_map, List.map_cons, sx_v2 (sx_bq q)]
      show cond (Nat.blt j (mxi_L i)) (k (pc + 2) (mxs1 _ _ (.ref _)) _ w) none = _
      rw [ht.2]
      rfl
    · rw [sx_s1_map, List.map_cons, sx_v3 (sx_bq q)]
      show cond (Nat.blt j (mxi_L i)) (k (pc + 2) (mxs1 _ _ (.retAddr _)) _ w) none = _
      rw [ht.2]
      rfl
  · cases hR
