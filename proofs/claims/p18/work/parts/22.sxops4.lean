/-! ways by number; cells -/
theorem sx_sp_ok {E : List sxe} {ρ : Nat → Int} (hE : sx_env E ρ) {v : sxv} {f : Nat → List sxe → Option (Nat × sxA)} {j : Nat} (hj : ρ v.2.1 + v.2.2 = j) : ∀ {l : List Nat} {R : List (Nat × sxA)}, sx_sp E v f l = some R → j ∈ l → ∃ E1 q, f j E1 = some q ∧ q ∈ R ∧ sx_env E1 ρ ∧ E1.length = E.length
  | [], _, _, hm => by cases hm
  | a :: l, R, h, hm => by
    unfold sx_sp at h
    split at h
    · rename_i R1 h1
      rcases List.mem_cons.mp hm with q | q
      · subst q
        obtain ⟨E1, e1, hE1, l1⟩ := sx_meet_ok hE (v := v) (a := j) (b := j) (by omega) (by omega)
        rw [e1] at h
        replace h : (match f j E1 with | some q => some (q :: R1) | none => none) = some R := h
        split at h
        · rename_i q hq
          cases h
          exact ⟨E1, q, hq, List.mem_cons_self, hE1, l1⟩
        · cases h
      · obtain ⟨E1, q1, g1, g2, g3⟩ := sx_sp_ok hE hj h1 q
        refine ⟨E1, q1, g1, ?_, g3⟩
        split at h
        · split at h
          · cases h
            exact List.mem_cons_of_mem _ g2
          · cases h
        · cases h
          exact g2
    · cases h
theorem sx_rn_ok {q : Int × Int} {z : Int} (h0 : 0 ≤ q.1) (h : q.1 ≤ z ∧ z ≤ q.2) : z.toNat ∈ sx_rn q := by
  unfold sx_rn
  rw [List.mem_range'_1]
  omega
theorem sx_ix_ok {q : Int × Int} {n : Nat} {z : Int} (h : sx_ix q n = true) (h1 : q.1 ≤ z ∧ z ≤ q.2) : 0 ≤ q.1 ∧ 0 ≤ z ∧ z < n := by
  unfold sx_ix at h
  simp only [Bool.and_eq_true, decide_eq_true_eq] at h
  omega
/-- an index: as the machine tests it -/
theorem sx_mxin {z : Int} {n : Nat} (hz : (Int32.ofInt z).toInt = z) (h0 : 0 ≤ z) (h1 : z < n) : mxin (Int32.ofInt z) n = true ∧ (Int32.ofInt z).toNatClampNeg = z.toNat := by
  have e : (Int32.ofInt z).toNatClampNeg = z.toNat := by
    show (Int32.ofInt z).toInt.toNat = _
    rw [hz]
  refine ⟨?_, e⟩
  unfold mxin
  rw [e]
  have h2 : ¬ (Int32.ofInt z < 0) := by
    rw [Int32.lt_iff_toInt_lt, hz]
    show ¬ z < 0
    omega
  rw [decide_eq_false h2]
  show Nat.blt z.toNat n = true
  rw [Nat.blt_eq]
  omega
theorem sx_hl {H : List (Nat × sxc)} {k : Nat} {cl : sxc} (h : H.lookup k = some cl) : (k, cl) ∈ H := by
  induction H with
  | nil => cases h
  | cons q l ih =>
    obtain ⟨a, u⟩ := q
    rw [List.lookup_cons] at h
    cases hb : k == a with
    | true =>
      rw [hb] at h
      cases h
      have := eq_of_beq hb
      subst this
      exact List.mem_cons_self
    | false =>
      rw [hb] at h
      exact List.mem_cons_of_mem _ (ih h)
theorem sx_ad_inj {W0 a b : Nat} (ha : a < 1000 → a < W0) (hb : b < 1000 → b < W0) (h : sx_ad W0 a = sx_ad W0 b) : a = b := by
  unfold sx_ad at h
  cases h1 : Nat.blt a 1000 <;> cases h2 : Nat.blt b 1000 <;> rw [h1, h2] at h
  · have n1 : ¬ a < 1000 := fun q => by rw [← Nat.blt_eq] at q; rw [q] at h1; cases h1
    have n2 : ¬ b < 1000 := fun q => by rw [← Nat.blt_eq] at q; rw [q] at h2; cases h2
    replace h : W0 + (a - 1000) = W0 + (b - 1000) := h
    omega
  · have := hb (Nat.blt_eq.mp h2)
    replace h : W0 + (a - 1000) = b := h
    omega
  · have := ha (Nat.blt_eq.mp h1)
    replace h : a = W0 + (b - 1000) := h
    omega
  · exact h
theorem sx_el_cg {w w' : mxW} {a : Nat} (h : w'.2.1 a = w.2.1 a ∧ w'.2.2.1 a = w.2.2.1 a ∧ w'.2.2.2 a = w.2.2.2 a) (t j : Nat) : sx_el w' a t j = sx_el w a t j := by
  unfold sx_el
  rw [h.1, h.2.1]
  split <;> first | rfl | exact mxgf_congr h.1 h.2.1 h.2.2 _ _
theorem sx_nu_cg {w w' : mxW} {a : Nat} (h : w'.2.1 a = w.2.1 a ∧ w'.2.2.1 a = w.2.2.1 a ∧ w'.2.2.2 a = w.2.2.2 a) (t j : Nat) : sx_nu w' a t j = sx_nu w a t j := by
  unfold sx_nu
  rw [h.1, h.2.1]
theorem sx_ce_cg {W0 : Nat} {ρ : Nat → Int} {n : Nat} {w w' : mxW} {a : Nat} {cl : sxc} (hc : sx_ce W0 ρ n w a cl) (h1 : w'.1[a]? = w.1[a]?) (h : w'.2.1 a = w.2.1 a ∧ w'.2.2.1 a = w.2.2.1 a ∧ w'.2.2.2 a = w.2.2.2 a) : sx_ce W0 ρ n w' a cl := by
  obtain ⟨h2, h3⟩ := hc
  refine ⟨by rw [h1]; exact h2, ?_⟩
  obtain ⟨t, l, lo, hi, fl, els⟩ := cl
  cases els with
  | none =>
    refine ⟨h3.1, fun j hj => ?_⟩
    rw [sx_nu_cg h]
    exact h3.2 j hj
  | some vs =>
    intro j v hv
    rw [sx_el_cg h]
    exact h3 j v hv
/-- a write in one cell -/
theorem sx_wr {W0 : Nat} {S : Nat → Prop} {i : mxi} {pc : Nat} {op : Instr} {ρ : Nat → Int} {E E1 : List sxe} {la : List (Nat × sxv)} {sa r : List sxv} {H : List (Nat × sxc)} {c : Nat} {lv : mxV} {st : List Value} {w w' : mxW} {pc' k : Nat} {cl cl' : sxc} (h : sx_γ W0 S ρ (E, la, sa, H, c) lv st w) (hE : sx_env E1 ρ) (hl : E1.length = E.length) (hk : H.lookup k = some cl) (hf : cl.2.2.2.2.1 < 2) (ws : ∀ v ∈ r, sx_wf E.length v) (h1 : w'.1 = w.1) (ho : ∀ a, a ≠ sx_ad W0 k → w'.2.1 a = w.2.1 a ∧ w'.2.2.1 a = w.2.2.1 a ∧ w'.2.2.2 a = w.2.2.2 a) (hc : sx_ce W0 ρ E.length w' (sx_ad W0 k) cl') (hm : ∀ (k : Nat → mxV → List Value → mxW → Option mxR) (call : Nat → List Value → mxW → Option mxR), mxS i pc op lv st w k call = k pc' lv (r.map (sx_val W0 ρ)) w') {R : List (Nat × sxA)} (hin : (pc', (E1, la, r, sx_hset H k cl', c)) ∈ R) : sx_Ok W0 S i pc op ρ E.length lv st w R := by
  have hkm := h.2.2.2.1 _ (sx_hl hk)
  have hS := hkm.2.1 hf
  refine ⟨_, hin, ρ, lv, _, w', fun _ _ => rfl, Nat.le_of_eq hl.symm, ⟨hE, ⟨h.2.1.1, fun q hq => ?_⟩, ⟨rfl, fun v hv => ?_⟩, fun q hq => ?_, ?_, ?_⟩, ⟨⟨[], by rw [h1, List.append_nil]⟩, fun a ha => ho a (fun e => ha (by rw [e]; exact hS))⟩, hm⟩
  · show sx_wf E1.length q.2
    rw [hl]
    exact h.2.1.2 q hq
  · show sx_wf E1.length v
    rw [hl]
    exact ws v hv
  · show sx_cq W0 S ρ E1.length w' q
    rw [hl]
    have key : ∀ q0 ∈ H, q0.1 ≠ k → sx_cq W0 S ρ E.length w' q0 := by
      intro q0 hq0 hne
      have g := h.2.2.2.1 q0 hq0
      exact ⟨sx_ce_cg g.1 (by rw [h1]) (ho _ (fun e => hne (sx_ad_inj g.2.2 hkm.2.2 e))), g.2⟩
    have keyk : sx_cq W0 S ρ E.length w' (k, cl') := ⟨hc, fun _ => hS, hkm.2.2⟩
    unfold sx_hset at hq
    obtain ⟨q0, hq0, e⟩ := List.mem_map.mp hq
    cases hb : Nat.beq q0.1 k with
    | true =>
      rw [hb] at e
      rw [← e]
      exact keyk
    | false =>
      rw [hb] at e
      replace e : q0 = q := e
      rw [← e]
      exact key q0 hq0 (fun e => by rw [e, Nat.beq_refl] at hb; cases hb)
  · show w'.1.length = _
    rw [h1]
    exact h.2.2.2.2.1
  · show ∀ a, w'.1.length ≤ a → S a
    rw [h1]
    exact h.2.2.2.2.2
theorem sxo_getf {W0 : Nat} {S : Nat → Prop} {i : mxi} {pc : Nat} {ρ : Nat → Int} {E : List sxe} {la : List (Nat × sxv)} {sa : List sxv} {H : List (Nat × sxc)} {c : Nat} {w : mxW} {R : List (Nat × sxA)} {n : Nat} (hR : sx_o_getf i n (pc + 3) E la sa H c = some R) (h : sx_γ W0 S ρ (E, la, sa, H, c) (la.map (sx_lv W0 ρ)) (sa.map (sx_val W0 ρ)) w) : sx_Ok W0 S i pc (.getfield n) ρ E.length (la.map (sx_lv W0 ρ)) (sa.map (sx_val W0 ρ)) w R := by
  unfold sx_o_getf at hR
  split at hR
  · rename_i x r
    obtain ⟨h2, hR⟩ := sx_cd hR
    split at hR
    · rename_i cl j t m lo hi fl vs hl hk
      obtain ⟨ht, hR⟩ := sx_cd hR
      have ht := sx_bq ht
      split at hR
      · rename_i v hv
        cases hR
        have hq := (h.2.2.2.1 _ (sx_hl hk)).1
        obtain ⟨g1, g2⟩ := hq.2 j v hv
        have hw : w.1[sx_ad W0 x.2.1]? = some (t, m) := hq.1
        subst ht
        refine sx_ok1 h h.2.1.2 (sx_cons_wf g1 (sx_tl_wf h.2.2.1.2)) (fun k call => ?_)
        rw [List.map_cons, sx_v2 (sx_bq h2), List.map_cons, ← g2]
        simp only [mxS, hl, hw, beq_self_eq_true, cond_true]
        rfl
      · cases hR
    · cases hR
  · cases hR
theorem sx_pt_ok {E : List sxe} {ty : FieldType} {v : sxv} {W0 : Nat} {ρ : Nat → Int} (hE : sx_env E ρ) (h : sx_pt E ty v = true) : (ty = .long ∧ v.1 = 1) ∨ ((∃ o, ty = .object o) ∧ (v.1 = 2 ∨ v.1 = 4)) ∨ ((∃ o, ty = .array o) ∧ v.1 = 2) ∨ (ty = .int ∧ v.1 = 0) ∨ (ty = .boolean ∧ v.1 = 0 ∧ (Int32.ofInt (ρ v.2.1 + v.2.2) == 0 || Int32.ofInt (ρ v.2.1 + v.2.2) == 1) = true) := by
  unfold sx_pt at h
  split at h
  · exact Or.inl ⟨rfl, sx_bq h⟩
  · rw [Bool.or_eq_true] at h
    exact Or.inr (Or.inl ⟨⟨_, rfl⟩, h.imp sx_bq sx_bq⟩)
  · exact Or.inr (Or.inr (Or.inl ⟨⟨_, rfl⟩, sx_bq h⟩))
  · exact Or.inr (Or.inr (Or.inr (Or.inl ⟨rfl, sx_bq h⟩)))
  · rw [Bool.and_eq_true] at h
    refine Or.inr (Or.inr (Or.inr (Or.inr ⟨rfl, sx_bq h.1, ?_⟩)))
    have h2 := h.2
    split at h2
    · rename_i q hq
      have b := sx_in_ok h2 (sx_rg_ok hE hq)
      have hz : ρ v.2.1 + v.2.2 = 0 ∨ ρ v.2.1 + v.2.2 = 1 := by omega
      rcases hz with e | e <;> rw [e] <;> rfl
    · cases h2
  · cases h
/-- a field's cell behind a write -/
theorem sx_fw {W0 : Nat} {ρ : Nat → Int} {n : Nat} {w w' : mxW} {a cl m j : Nat} {lo hi : Int} {fl : Nat} {vs : List sxv} {v : sxv} (hc : sx_ce W0 ρ n w a (cl + 4, m, lo, hi, fl, some vs)) (h1 : w'.1 = w.1) (hv : sx_wf n v) (e : mxgf w' a cl j = sx_val W0 ρ v) (ho : ∀ k, k ≠ j → mxgf w' a cl k = mxgf w a cl k) : sx_ce W0 ρ n w' a (cl + 4, m, lo, hi, fl, some (vs.set j v)) := by
  refine ⟨by rw [h1]; exact hc.1, fun k u hu => ?_⟩
  by_cases hk : k = j
  · subst hk
    rcases Nat.lt_or_ge k vs.length with q | q
    · rw [List.getElem?_set_self q] at hu
      cases hu
      exact ⟨hv, e⟩
    · rw [List.getElem?_eq_none (by rw [List.length_set]; exact q)] at hu
      cases hu
  · rw [List.getElem?_set_ne (Ne.symm hk)] at hu
    obtain ⟨g1, g2⟩ := hc.2 k u hu
    refine ⟨g1, ?_⟩
    rw [← g2]
    exact ho k hk
theorem sxo_putf {W0 : Nat} {S : Nat → Prop} {i : mxi} {pc : Nat} {ρ : Nat → Int} {E : List sxe} {la : List (Nat × sxv)} {sa : List sxv} {H : List (Nat × sxc)} {c : Nat} {w : mxW} {R : List (Nat × sxA)} {n : Nat} (hR : sx_o_putf i n (pc + 3) E la sa H c = some R) (h : sx_γ W0 S ρ (E, la, sa, H, c) (la.map (sx_lv W0 ρ)) (sa.map (sx_val W0 ρ)) w) : sx_Ok W0 S i pc (.putfield n) ρ E.length (la.map (sx_lv W0 ρ)) (sa.map (sx_val W0 ρ)) w R := by
  unfold sx_o_putf at hR
  split at hR
  · rename_i v x r
    obtain ⟨h2, hR⟩ := sx_cd hR
    split at hR
    · rename_i cl j t m lo hi fl vs hl hk
      obtain ⟨ht, hR⟩ := sx_cd hR
      simp only [Bool.and_eq_true] at ht
      obtain ⟨⟨⟨ht, hfin⟩, hp⟩, hfl⟩ := ht
      have ht := sx_bq ht
      subst ht
      cases hR
      have hq := (h.2.2.2.1 _ (sx_hl hk)).1
      have hw : w.1[sx_ad W0 x.2.1]? = some (cl + 4, m) := hq.1
      have wv := sx_hd_wf h.2.2.1.2
      have wr := sx_tl_wf (sx_tl_wf h.2.2.1.2)
      have hx := sx_v2 (W0 := W0) (ρ := ρ) (sx_bq h2)
      have hfl : fl < 2 := Nat.blt_eq.mp hfl
      rcases sx_pt_ok (W0 := W0) h.1 hp with ⟨e, e1⟩ | ⟨⟨o, e⟩, e1 | e1⟩ | ⟨⟨o, e⟩, e1⟩ | ⟨e, e1⟩ | ⟨e, e1, e2⟩
      · have hv := sx_v1 (W0 := W0) (ρ := ρ) e1
        refine sx_wr (w' := mxpj w (sx_ad W0 x.2.1) j (Int64.ofInt (ρ v.2.1 + v.2.2))) h h.1 rfl hk hfl wr rfl (fun a ha => ⟨rfl, if_neg ha, rfl⟩) (sx_fw hq rfl wv (by rw [hv]; unfold mxgf; rw [e]; simp [mxpj, mxJ, vp_updL]) (fun k hk => mxgf_pj cl k hk)) (fun k call => ?_) List.mem_cons_self
        rw [List.map_cons, List.map_cons, hx, hv]
        simp only [mxS, hl, hw, beq_self_eq_true, Bool.true_and, hfin, e, cond_true]
      · have hv := sx_v2 (W0 := W0) (ρ := ρ) e1
        refine sx_wr (w' := mxpq w (sx_ad W0 x.2.1) j (.ref (sx_ad W0 v.2.1))) h h.1 rfl hk hfl wr rfl (fun a ha => ⟨rfl, rfl, if_neg ha⟩) (sx_fw hq rfl wv (by rw [hv]; unfold mxgf; rw [e]; simp [mxpq, mxQ]) (fun k hk => mxgf_pq cl k hk)) (fun k call => ?_) List.mem_cons_self
        rw [List.map_cons, List.map_cons, hx, hv]
        simp only [mxS, hl, hw, beq_self_eq_true, Bool.true_and, hfin, e, cond_true]
      · have hv := sx_v4 (W0 := W0) (ρ := ρ) e1
        refine sx_wr (w' := mxpq w (sx_ad W0 x.2.1) j .null) h h.1 rfl hk hfl wr rfl (fun a ha => ⟨rfl, rfl, if_neg ha⟩) (sx_fw hq rfl wv (by rw [hv]; unfold mxgf; rw [e]; simp [mxpq, mxQ]) (fun k hk => mxgf_pq cl k hk)) (fun k call => ?_) List.mem_cons_self
        rw [List.map_cons, List.map_cons, hx, hv]
        simp only [mxS, hl, hw, beq_self_eq_true, Bool.true_and, hfin, e, cond_true]
      · have hv := sx_v2 (W0 := W0) (ρ := ρ) e1
        refine sx_wr (w' := mxpq w (sx_ad W0 x.2.1) j (.ref (sx_ad W0 v.2.1))) h h.1 rfl hk hfl wr rfl (fun a ha => ⟨rfl, rfl, if_neg ha⟩) (sx_fw hq rfl wv (by rw [hv]; unfold mxgf; rw [e]; simp [mxpq, mxQ]) (fun k hk => mxgf_pq cl k hk)) (fun k call => ?_) List.mem_cons_self
        rw [List.map_cons, List.map_cons, hx, hv]
        simp only [mxS, hl, hw, beq_self_eq_true, Bool.true_and, hfin, e, cond_true]
      · have hv := sx_v0 (W0 := W0) (ρ := ρ) e1
        refine sx_wr (w' := mxpi w (sx_ad W0 x.2.1) j (Int32.ofInt (ρ v.2.1 + v.2.2))) h h.1 rfl hk hfl wr rfl (fun a ha => ⟨if_neg ha, rfl, rfl⟩) (sx_fw hq rfl wv (by rw [hv]; unfold mxgf; rw [e]; simp [mxpi, mxI, upd]) (fun k hk => mxgf_pi cl k hk)) (fun k call => ?_) List.mem_cons_self
        rw [List.map_cons, List.map_cons, hx, hv]
        simp only [mxS, hl, hw, beq_self_eq_true, Bool.true_and, hfin, e, cond_true]
      · have hv := sx_v0 (W0 := W0) (ρ := ρ) e1
        refine sx_wr (w' := mxpi w (sx_ad W0 x.2.1) j (Int32.ofInt (ρ v.2.1 + v.2.2))) h h.1 rfl hk hfl wr rfl (fun a ha => ⟨if_neg ha, rfl, rfl⟩) (sx_fw hq rfl wv (by rw [hv]; unfold mxgf; rw [e]; simp [mxpi, mxI, upd]) (fun k hk => mxgf_pi cl k hk)) (fun k call => ?_) List.mem_cons_self
        rw [List.map_cons, List.map_cons, hx, hv]
        simp only [mxS, hl, hw, beq_self_eq_true, Bool.true_and, hfin, e, e2, cond_true]
    · cases hR
  · cases hR
theorem sxo_alen {W0 : Nat} {S : Nat → Prop} {i : mxi} {pc : Nat} {ρ : Nat → Int} {E : List sxe} {la : List (Nat × sxv)} {sa : List sxv} {H : List (Nat × sxc)} {c : Nat} {w : mxW} {R : List (Nat × sxA)} (hR : sx_o_alen (pc + 1) E la sa H c = some R) (h : sx_γ W0 S ρ (E, la, sa, H, c) (la.map (sx_lv W0 ρ)) (sa.map (sx_val W0 ρ)) w) : sx_Ok W0 S i pc .arraylength ρ E.length (la.map (sx_lv W0 ρ)) (sa.map (sx_val W0 ρ)) w R := by
  unfold sx_o_alen at hR
  split at hR
  · rename_i x r
    have wr := sx_tl_wf h.2.2.1.2
    cases h2 : Nat.beq x.1 2 with
    | true =>
      rw [h2] at hR
      replace hR : (match H.lookup x.2.1 with | some (t, n, _) => cond (Nat.blt t 4) (some [(pc + 1, (E, la, (0, 0, (Int32.ofNat n).toInt) :: r, H, c))]) none | none => none) = some R := hR
      split at hR
      · rename_i t n u hk
        obtain ⟨ht, hR⟩ := sx_cd hR
        cases hR
        have hw : w.1[sx_ad W0 x.2.1]? = some (t, n) := (h.2.2.2.1 _ (sx_hl hk)).1.1
        refine sx_ok1 h h.2.1.2 (sx_cons_wf (fun _ => h.1.2.1) wr) (fun k call => ?_)
        rw [List.map_cons, sx_v2 (sx_bq h2), List.map_cons, sx_k0 h.1.1]
        simp only [mxS, hw, ht, cond_true]
      · cases hR
    | false =>
      rw [h2] at hR
      obtain ⟨h3, hR⟩ := sx_cd hR
      split at hR
      · rename_i n f hs
        cases hR
        refine sx_ok1 h h.2.1.2 (sx_cons_wf (fun _ => h.1.2.1) wr) (fun k call => ?_)
        rw [List.map_cons, sx_v3 (sx_bq h3), List.map_cons, sx_k0 h.1.1]
        simp only [mxS, hs]
      · cases hR
  · cases hR
