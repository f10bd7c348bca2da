/-! ways by number; cells -/
theorem sx_sp_ok {E : List sxe} {ρ : Nat → Int} (hE : sx_env E ρ) {v : sxv} {f : Nat → List sxe → Option (Nat × sxA)} {j : Nat} (hj : ρ v.2.1 + v.2.2 = j) : ∀ {l : List Nat} {R : List (Nat × sxA)}, sx_sp E v f l = some R → j ∈ l → ∃ E1 q, f j E1 = some q ∧ q ∈ R ∧ sx_env E1 ρ ∧ E1.length = E.length
  | [], _, _, hm => by cases hm
  | a :: l, R, h, hm => by
    unfold sx_sp at h
    split at h
    · rename_i R1 h1
      rcases List.mem_cons.mp hm with q | q
      · subst q
        obtain ⟨E1, e1, hE1, l1⟩ := sx_meet_ok hE (v := v) (a := j) (b := j) (by omega) (by omega)
        rw [e1] at h
        replace h : (match f j E1 with | some q => some (q :: R1) | none => none) = some R := h
        split at h
        · rename_i q hq
          cases h
          exact ⟨E1, q, hq, List.mem_cons_self, hE1, l1⟩
        · cases h
      · obtain ⟨E1, q1, g1, g2, g3⟩ := sx_sp_ok hE hj h1 q
        refine ⟨E1, q1, g1, ?_, g3⟩
        split at h
        · split at h
          · cases h
            exact List.mem_cons_of_mem _ g2
          · cases h
        · cases h
          exact g2
    · cases h
theorem sx_rn_ok {q : Int × Int} {z : Int} (h0 : 0 ≤ q.1) (h : q.1 ≤ z ∧ z ≤ q.2) : z.toNat ∈ sx_rn q := by
  unfold sx_rn
  rw [List.mem_range'_1]
  omega
theorem sx_ix_ok {q : Int × Int} {n : Nat} {z : Int} (h : sx_ix q n = true) (h1 : q.1 ≤ z ∧ z ≤ q.2) : 0 ≤ q.1 ∧ 0 ≤ z ∧ z < n := by
  unfold sx_ix at h
  simp only [Bool.and_eq_true, decide_eq_true_eq] at h
  omega
/-- an index: as the machine tests it -/
theorem sx_mxin {z : Int} {n : Nat} (hz : (Int32.ofInt z).toInt = z) (h0 : 0 ≤ z) (h1 : z < n) : mxin (Int32.ofInt z) n = true ∧ (Int32.ofInt z).toNatClampNeg = z.toNat := by
  have e : (Int32.ofInt z).toNatClampNeg = z.toNat := by
    show (Int32.ofInt z).toInt.toNat = _
    rw [hz]
  refine ⟨?_, e⟩
  unfold mxin
  rw [e]
  have h2 : ¬ (Int32.ofInt z < 0) := by
    rw [Int32.lt_iff_toInt_lt, hz]
    show ¬ z < 0
    omega
  rw [decide_eq_false h2]
  show Nat.blt z.toNat n = true
  rw [Nat.blt_eq]
  omega
theorem sx_hl {H : List (Nat × sxc)} {k : Nat} {cl : sxc} (h : H.lookup k = some cl) : (k, cl) ∈ H := by
  induction H with
  | nil => cases h
  | cons q l ih =>
    obtain ⟨a, u⟩ := q
    rw [List.lookup_cons] at h
    cases hb : k == a with
    | true =>
      rw [hb] at h
      cases h
      have := eq_of_beq hb
      subst this
      exact List.mem_cons_self
    | false =>
      rw [hb] at h
      exact List.mem_cons_of_mem _ (ih h)
theorem sx_ad_inj {W0 a b : Nat} (ha : a < 1000 → a < W0) (hb : b < 1000 → b < W0) (h : sx_ad W0 a = sx_ad W0 b) : a = b := by
  unfold sx_ad at h
  cases h1 : Nat.blt a 1000 <;> cases h2 : Nat.blt b 1000 <;> rw [h1, h2] at h
  · have n1 : ¬ a < 1000 := fun q => by rw [← Nat.blt_eq] at q; rw [q] at h1; cases h1
    have n2 : ¬ b < 1000 := fun q => by rw [← Nat.blt_eq] at q; rw [q] at h2; cases h2
    replace h : W0 + (a - 1000) = W0 + (b - 1000) := h
    omega
  · have := hb (Nat.blt_eq.mp h2)
    replace h : W0 + (a - 1000) = b := h
    omega
  · have := ha (Nat.blt_eq.mp h1)
    replace h : a = W0 + (b - 1000) := h
    omega
  · exact h
theorem sx_el_cg {w w' : mxW} {a : Nat} (h : w'.2.1 a = w.2.1 a ∧ w'.2.2.1 a = w.2.2.1 a ∧ w'.2.2.2 a = w.2.2.2 a) (t j : Nat) : sx_el w' a t j = sx_el w a t j := by
  unfold sx_el
  rw [h.1, h.2.1]
  split <;> first | rfl | exact mxgf_congr h.1 h.2.1 h.2.2 _ _
theorem sx_nu_cg {w w' : mxW} {a : Nat} (h : w'.2.1 a = w.2.1 a ∧ w'.2.2.1 a = w.2.2.1 a ∧ w'.2.2.2 a = w.2.2.2 a) (t j : Nat) : sx_nu w' a t j = sx_nu w a t j := by
  unfold sx_nu
  rw [h.1, h.2.1]
theorem sx_ce_cg {W0 : Nat} {ρ : Nat → Int} {n : Nat} {w w' : mxW} {a : Nat} {cl : sxc} (hc : sx_ce W0 ρ n w a cl) (h1 : w'.1[a]? = w.1[a]?) (h : w'.2.1 a = w.2.1 a ∧ w'.2.2.1 a = w.2.2.1 a ∧ w'.2.2.2 a = w.2.2.2 a) : sx_ce W0 ρ n w' a cl := by
  obtain ⟨h2, h3⟩ := hc
  refine ⟨by rw [h1]; exact h2, ?_⟩
  obtain ⟨t, l, lo, hi, fl, els⟩ := cl
  cases els with
  | none =>
    refine ⟨h3.1, fun j hj => ?_⟩
    rw [sx_nu_cg h]
    exact h3.2 j hj
  | some vs =>
    intro j v hv
    rw [sx_el_cg h]
    exact h3 j v hv
/-- a write in one cell -/
theorem sx_wr {W0 : Nat} {S : Nat → Prop} {i : mxi} {pc : Nat} {op : Instr} {ρ : Nat → Int} {E E1 : List sxe} {la : List (Nat × sxv)} {sa r : List sxv} {H : List (Nat × sxc)} {c : Nat} {lv : mxV} {st : List Value} {w w' : mxW} {pc' k : Nat} {cl cl' : sxc} (h : sx_γ W0 S ρ (E, la, sa, H, c) lv st w) (hE : sx_env E1 ρ) (hl : E1.length = E.length) (hk : H.lookup k = some cl) (ws : ∀ v ∈ r, sx_wf E.length v) (h1 : w'.1 = w.1) (ho : ∀ a, a ≠ sx_ad W0 k → w'.2.1 a = w.2.1 a ∧ w'.2.2.1 a = w.2.2.1 a ∧ w'.2.2.2 a = w.2.2.2 a) (hc : sx_ce W0 ρ E.length w' (sx_ad W0 k) cl') (hm : ∀ (k : Nat → mxV → List Value → mxW → Option mxR) (call : Nat → List Value → mxW → Option mxR), mxS i pc op lv st w k call = k pc' lv (r.map (sx_val W0 ρ)) w') {H' : List (Nat × sxc)} (hH : H' = sx_hset H k cl' ∨ (H' = H ∧ cl' = cl)) {R : List (Nat × sxA)} (hin : (pc', (E1, la, r, H', c)) ∈ R) : sx_Ok W0 S i pc op ρ E.length lv st w R := by
  have hkm := h.2.2.2.1 _ (sx_hl hk)
  refine ⟨_, hin, ρ, lv, _, w', fun _ _ => rfl, Nat.le_of_eq hl.symm, ⟨hE, ⟨h.2.1.1, fun q hq => ?_⟩, ⟨rfl, fun v hv => ?_⟩, fun q hq => ?_, ?_, ?_⟩, ⟨⟨[], by rw [h1, List.append_nil]⟩, fun a ha => ho a (fun e => ha (by rw [e]; exact hkm.2.1))⟩, hm⟩
  · show sx_wf E1.length q.2
    rw [hl]
    exact h.2.1.2 q hq
  · show sx_wf E1.length v
    rw [hl]
    exact ws v hv
  · show sx_cq W0 S ρ E1.length w' q
    rw [hl]
    have key : ∀ q0 ∈ H, q0.1 ≠ k → sx_cq W0 S ρ E.length w' q0 := by
      intro q0 hq0 hne
      have g := h.2.2.2.1 q0 hq0
      exact ⟨sx_ce_cg g.1 (by rw [h1]) (ho _ (fun e => hne (sx_ad_inj g.2.2 hkm.2.2 e))), g.2⟩
    have keyk : sx_cq W0 S ρ E.length w' (k, cl') := ⟨hc, hkm.2⟩
    rcases hH with e | ⟨e, e2⟩
    · subst e
      unfold sx_hset at hq
      obtain ⟨q0, hq0, e⟩ := List.mem_map.mp hq
      cases hb : Nat.beq q0.1 k with
      | true =>
        rw [hb] at e
        rw [← e]
        exact keyk
      | false =>
        rw [hb] at e
        replace e : q0 = q := e
        rw [← e]
        exact key q0 hq0 (fun e => by rw [e, Nat.beq_refl] at hb; cases hb)
    · subst e
      subst e2
      by_cases hne : q.1 = k
      · have g := h.2.2.2.1 q hq
        sorry
      · exact key q hq hne
  · show w'.1.length = _
    rw [h1]
    exact h.2.2.2.2.1
  · show ∀ a, w'.1.length ≤ a → S a
    rw [h1]
    exact h.2.2.2.2.2
