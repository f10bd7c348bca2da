/-! CONTRACTS: symbols of a callee in a caller's words -/
/-- (symbols, arguments, cells, ends: symbols, answer, cells) -/
abbrev sxK : Type := List sxe × List sxv × List (Nat × sxc) × List (List sxe × Option sxv × List (Nat × sxc))
def sx_la : Nat → List sxv → List (Nat × sxv)
  | _, [] => []
  | k, v :: t => (k, v) :: sx_la (k + sx_cat v) t
theorem sx_la_args {W0 : Nat} {ρ : Nat → Int} : ∀ (vs : List sxv) (k : Nat), (sx_la k vs).map (sx_lv W0 ρ) = lv_args k (vs.map (sx_val W0 ρ))
  | [], _ => rfl
  | v :: t, k => by
    show (k, sx_val W0 ρ v) :: (sx_la (k + sx_cat v) t).map (sx_lv W0 ρ) = (k, sx_val W0 ρ v) :: lv_args (if (sx_val W0 ρ v).category = 2 then k + 2 else k + 1) (t.map (sx_val W0 ρ))
    rw [sx_cat_v, sx_la_args t]
    congr 2
    unfold sx_cat
    split <;> rfl
/-- a callee's symbols in the caller's words -/
def sx_sb (σ : List (Nat × Int)) (v : sxv) : sxv := cond (Nat.blt v.1 2) (match σ[v.2.1]? with
  | some q => (v.1, q.1, q.2 + v.2.2)
  | none => v) v
def sx_ρ (σ : List (Nat × Int)) (ρ : Nat → Int) : Nat → Int := fun i => match σ[i]? with
  | some q => ρ q.1 + q.2
  | none => 0
theorem sx_ρ_at {σ : List (Nat × Int)} {ρ : Nat → Int} {i : Nat} {q : Nat × Int} (h : σ[i]? = some q) : sx_ρ σ ρ i = ρ q.1 + q.2 := by
  unfold sx_ρ
  rw [h]
/-- values whose cells have keys below 1000 do not depend on the world's base -/
def sx_vk (v : sxv) : Bool := !(Nat.beq v.1 2) || Nat.blt v.2.1 1000
theorem sx_ad_lt {W0 k : Nat} (h : k < 1000) : sx_ad W0 k = k := by
  unfold sx_ad
  rw [Nat.blt_eq.mpr h]
  rfl
theorem sx_sb_val {W0 W1 : Nat} {σ : List (Nat × Int)} {ρ : Nat → Int} {v : sxv} (hw : sx_wf σ.length v) (hk : W0 = W1 ∨ sx_vk v = true) : sx_val W0 ρ (sx_sb σ v) = sx_val W1 (sx_ρ σ ρ) v := by
  unfold sx_sb
  cases hb : Nat.blt v.1 2 with
  | false =>
    show sx_val W0 ρ v = _
    have hn : ¬ v.1 < 2 := fun q => by rw [← Nat.blt_eq] at q; rw [q] at hb; cases hb
    unfold sx_val
    split
    · omega
    · omega
    · rename_i e
      rcases hk with rfl | hk
      · rfl
      · unfold sx_vk at hk
        rw [e] at hk
        have : v.2.1 < 1000 := by simpa using hk
        rw [sx_ad_lt this, sx_ad_lt this]
    · rfl
    · rfl
  | true =>
    have hn : v.1 < 2 := Nat.blt_eq.mp hb
    have hl := hw hn
    obtain ⟨q, hq⟩ : ∃ q, σ[v.2.1]? = some q := ⟨_, List.getElem?_eq_getElem hl⟩
    show sx_val W0 ρ (match σ[v.2.1]? with | some q => (v.1, q.1, q.2 + v.2.2) | none => v) = _
    rw [hq]
    show sx_val W0 ρ (v.1, q.1, q.2 + v.2.2) = _
    have e : ρ q.1 + (q.2 + v.2.2) = sx_ρ σ ρ v.2.1 + v.2.2 := by rw [sx_ρ_at hq]; omega
    rcases (show v.1 = 0 ∨ v.1 = 1 by omega) with e0 | e0
    · rw [sx_v0 e0, sx_v0 (show (v.1, q.1, q.2 + v.2.2).1 = 0 from e0)]
      show Value.int (Int32.ofInt (ρ q.1 + (q.2 + v.2.2))) = _
      rw [e]
    · rw [sx_v1 e0, sx_v1 (show (v.1, q.1, q.2 + v.2.2).1 = 1 from e0)]
      show Value.long (Int64.ofInt (ρ q.1 + (q.2 + v.2.2))) = _
      rw [e]
/-- the same value -/
def sx_sm (E : List sxe) (a b : sxv) : Bool := Nat.beq a.1 b.1 && ((Nat.beq a.2.1 b.2.1 && decide (a.2.2 = b.2.2)) || (Nat.blt a.1 2 && (match sx_rg E a, sx_rg E b with
  | some q, some r => decide (q.1 = q.2) && decide (r.1 = r.2) && decide (q.1 = r.1)
  | _, _ => false)))
theorem sx_sm_ok {E : List sxe} {ρ : Nat → Int} (hE : sx_env E ρ) {W0 : Nat} {a b : sxv} (h : sx_sm E a b = true) : sx_val W0 ρ a = sx_val W0 ρ b := by
  unfold sx_sm at h
  rw [Bool.and_eq_true, Bool.or_eq_true] at h
  obtain ⟨h1, h2⟩ := h
  have h1 := sx_bq h1
  rcases h2 with h2 | h2
  · rw [Bool.and_eq_true, decide_eq_true_eq] at h2
    have : a = b := Prod.ext h1 (Prod.ext (sx_bq h2.1) h2.2)
    rw [this]
  · rw [Bool.and_eq_true] at h2
    obtain ⟨h3, h4⟩ := h2
    split at h4
    · rename_i q r hq hr
      simp only [Bool.and_eq_true, decide_eq_true_eq] at h4
      have ha := sx_rg_ok hE hq
      have hb := sx_rg_ok hE hr
      have e : ρ a.2.1 + a.2.2 = ρ b.2.1 + b.2.2 := by omega
      have hn := Nat.blt_eq.mp h3
      rcases (show a.1 = 0 ∨ a.1 = 1 by omega) with e0 | e0
      · rw [sx_v0 e0, sx_v0 (h1.symm.trans e0), e]
      · rw [sx_v1 e0, sx_v1 (h1.symm.trans e0), e]
    · cases h4
/-- a pattern's symbol i is met by what σ says -/
def sx_em (E : List sxe) (σ : List (Nat × Int)) (e : sxe) (q : Nat × Int) : Bool := match sx_rg E (0, q.1, q.2) with
  | some r => Nat.blt e.2.2.2 σ.length && decide (e.1 ≤ r.1) && decide (r.2 ≤ e.2.1) && (Nat.beq e.2.2.1 0 || sx_fl E (1, q.1, q.2)) && (Nat.beq e.2.2.2 0 || decide (r.2 ≤ 8) || (match σ[e.2.2.2]? with
    | some l => (match sx_rg E (0, l.1, l.2) with
      | some rl => decide (rl.2 < 1)
      | none => false) || (decide (q.2 = 0) && decide (l.2 = 0) && !(Nat.beq l.1 0) && (match E[q.1]? with
        | some f => Nat.beq f.2.2.2 l.1
        | none => false))
    | none => false))
  | none => false
def sx_all2 {α β : Type} (f : α → β → Bool) : List α → List β → Bool
  | [], [] => true
  | a :: l, b :: m => f a b && sx_all2 f l m
  | _, _ => false
theorem sx_all2_at {α β : Type} {f : α → β → Bool} : ∀ {l : List α} {m : List β}, sx_all2 f l m = true → l.length = m.length ∧ ∀ (i : Nat) (a : α) (b : β), l[i]? = some a → m[i]? = some b → f a b = true
  | [], [], _ => ⟨rfl, fun i a b h => by cases h⟩
  | [], _ :: _, h => by cases h
  | _ :: _, [], h => by cases h
  | a :: l, b :: m, h => by
    unfold sx_all2 at h
    rw [Bool.and_eq_true] at h
    obtain ⟨h1, h2⟩ := sx_all2_at h.2
    refine ⟨by rw [List.length_cons, List.length_cons, h1], fun i a' b' ha hb => ?_⟩
    cases i with
    | zero => cases ha; cases hb; exact h.1
    | succ i => exact h2 i a' b' ha hb
def sx_envm (E : List sxe) (σ : List (Nat × Int)) (EK : List sxe) : Bool := sx_all2 (sx_em E σ) EK σ && σ.all (fun q => Nat.blt q.1 E.length) && (match σ with
  | q :: _ => Nat.beq q.1 0 && decide (q.2 = 0)
  | [] => false)
theorem sx_envm_ok {E EK : List sxe} {σ : List (Nat × Int)} {ρ : Nat → Int} (hE : sx_env E ρ) (h : sx_envm E σ EK = true) : sx_env EK (sx_ρ σ ρ) ∧ σ.length = EK.length ∧ ∀ q ∈ σ, q.1 < E.length := by
  unfold sx_envm at h
  rw [Bool.and_eq_true, Bool.and_eq_true] at h
  obtain ⟨⟨h1, h2⟩, h3⟩ := h
  obtain ⟨hl, h1⟩ := sx_all2_at h1
  have h2 : ∀ q ∈ σ, q.1 < E.length := fun q hq => Nat.blt_eq.mp (List.all_eq_true.mp h2 q hq)
  have hat : ∀ i, i < EK.length → ∃ q, σ[i]? = some q := fun i hi => ⟨_, List.getElem?_eq_getElem (by rw [← hl]; exact hi)⟩
  have h0 : sx_ρ σ ρ 0 = 0 ∧ 0 < σ.length := by
    cases σ with
    | nil => cases h3
    | cons q t =>
      rw [Bool.and_eq_true, decide_eq_true_eq] at h3
      refine ⟨?_, Nat.succ_pos _⟩
      rw [sx_ρ_at (q := q) rfl, sx_bq h3.1, h3.2, hE.1]
      rfl
  refine ⟨⟨h0.1, by rw [hl]; exact h0.2, fun i e he => ?_⟩, hl.symm, h2⟩
  obtain ⟨q, hq⟩ := hat i (List.getElem?_eq_some_iff.mp he).1
  have hm := h1 i e q he hq
  unfold sx_em at hm
  split at hm
  · rename_i r hr
    simp only [Bool.and_eq_true, decide_eq_true_eq] at hm
    obtain ⟨⟨⟨⟨m0, m1⟩, m2⟩, m3⟩, m4⟩ := hm
    have hb := sx_rg_ok hE hr
    rw [sx_ρ_at hq]
    have hb1 : r.1 ≤ ρ q.1 + q.2 := hb.1
    have hb2 : ρ q.1 + q.2 ≤ r.2 := hb.2
    have hlk : e.2.2.2 < EK.length := by rw [hl]; exact Nat.blt_eq.mp m0
    refine ⟨by omega, by omega, fun hf => ?_, hlk, fun hn hg => ?_⟩
    · rw [hf] at m3
      rcases (Bool.or_eq_true _ _).mp m3 with g | g
      · cases g
      · exact sx_fl_ok hE (v := (1, q.1, q.2)) g
    · rw [Bool.or_eq_true, Bool.or_eq_true] at m4
      rcases m4 with (m4 | m4) | m4
      · exact absurd (sx_bq m4) hn
      · have := of_decide_eq_true m4
        omega
      · split at m4
        · rename_i l hl2
          rw [sx_ρ_at hl2] at hg
          rcases (Bool.or_eq_true _ _).mp m4 with g | g
          · split at g
            · rename_i rl hrl
              have := of_decide_eq_true g
              have hb3 : ρ l.1 + l.2 ≤ rl.2 := (sx_rg_ok hE hrl).2
              omega
            · cases g
          · simp only [Bool.and_eq_true, decide_eq_true_eq, Bool.not_eq_true'] at g
            obtain ⟨⟨⟨g1, g2⟩, g3⟩, g4⟩ := g
            split at g4
            · rename_i f hf
              have hfe := (hE.2.2 _ f hf).2.2.2.2
              have e4 := sx_bq g4
              rw [e4] at hfe
              rw [g2, Int.add_zero] at hg
              have := hfe (fun z => by rw [z] at g3; cases g3) hg
              omega
            · cases g4
        · cases m4
  · cases hm
