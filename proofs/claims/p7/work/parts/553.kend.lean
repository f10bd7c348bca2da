/-! end and task: blocks of the executor, and what it can't see by hand -/
theorem lv_ag {W0 : Nat} {ρ ρ' : Nat → Int} {k : Nat} {l : List (Nat × sxv)} (hw : l.all (fun q => !(Nat.blt q.2.1 2) || Nat.blt q.2.2.1 k) = true) (h : ∀ j, j < k → ρ' j = ρ j) : l.map (sx_lv W0 ρ') = l.map (sx_lv W0 ρ) := List.map_congr_left (fun q hq => by
  unfold sx_lv
  rw [sx_val_ag (n := k) (fun hu => by
    have t := List.all_eq_true.mp hw q hq
    rw [Nat.blt_eq.mpr hu] at t
    exact Nat.blt_eq.mp (by simpa using t)) h])
theorem γ_ls {W0 : Nat} {S : Nat → Prop} {ρ : Nat → Int} {A : sxA} {lv : mxV} {st : List Value} {w : mxW} (h : sx_γ W0 S ρ A lv st w) (l : List (Nat × sxv)) (s : List sxv) (h1 : l.all (fun q => !(Nat.blt q.2.1 2) || Nat.blt q.2.2.1 A.1.length) = true) (h2 : s.all (fun v => !(Nat.blt v.1 2) || Nat.blt v.2.1 A.1.length) = true) : sx_γ W0 S ρ (A.1, l, s, A.2.2.2.1, A.2.2.2.2) (l.map (sx_lv W0 ρ)) (s.map (sx_val W0 ρ)) w := by
  refine ⟨h.1, ⟨rfl, fun q hq hu => ?_⟩, ⟨rfl, fun q hq hu => ?_⟩, h.2.2.2⟩
  · have t := List.all_eq_true.mp h1 q hq
    rw [Nat.blt_eq.mpr hu] at t
    exact Nat.blt_eq.mp (by simpa using t)
  · have t := List.all_eq_true.mp h2 q hq
    rw [Nat.blt_eq.mpr hu] at t
    exact Nat.blt_eq.mp (by simpa using t)
theorem γ_nar {W0 : Nat} {S : Nat → Prop} {ρ : Nat → Int} {A : sxA} {lv : mxV} {st : List Value} {w : mxW} (h : sx_γ W0 S ρ A lv st w) {i : Nat} {lo hi : Int} {E : List sxe} (he : sx_meet A.1 (0, i, 0) lo hi = some E) (h1 : lo ≤ ρ i) (h2 : ρ i ≤ hi) : sx_γ W0 S ρ (E, A.2.1, A.2.2.1, A.2.2.2.1, A.2.2.2.2) lv st w := by
  obtain ⟨E2, k1, k2, k3⟩ := sx_meet_ok (v := (0, i, 0)) (a := lo) (b := hi) h.1 (by show lo ≤ ρ i + 0; omega) (by show ρ i + 0 ≤ hi; omega)
  rw [he] at k1
  cases k1
  exact sx_γ_ag (E := A.1) h k2 (Nat.le_of_eq k3.symm) (fun _ _ => rfl)
theorem bks {Z : Nat} {i : mxi} (hz : mxms[Z]? = some i) (hc : Nat.beq Z mxck = false) {T : List (Nat × sxK)} (hT : ∀ q ∈ T, sx_C q.1 q.2) {cuts : List Nat} {fuel pc : Nat} {A : sxA} {Y : List (Nat × sxA)} (h : sx_bk T i (mxi_t i) cuts fuel pc A Y = true) (hY : Y.all (fun y => Nat.beq y.2.2.2.2.2 A.2.2.2.2) = true) {W0 : Nat} {S : Nat → Prop} {ρ : Nat → Int} {w : mxW} (hγ : sx_γ W0 S ρ A (A.2.1.map (sx_lv W0 ρ)) (A.2.2.1.map (sx_val W0 ρ)) w) : ∃ y ∈ Y, ∃ (ρ' : Nat → Int) (w' : mxW), (∀ j, j < A.1.length → ρ' j = ρ j) ∧ sx_γ W0 S ρ' y.2 (y.2.2.1.map (sx_lv W0 ρ')) (y.2.2.2.1.map (sx_val W0 ρ')) w' ∧ w'.1 = w.1 ∧ ∀ res, mxRn Z y.1 (y.2.2.1.map (sx_lv W0 ρ')) (y.2.2.2.1.map (sx_val W0 ρ')) w' res → mxRn Z pc (A.2.1.map (sx_lv W0 ρ)) (A.2.2.1.map (sx_val W0 ρ)) w res := by
  obtain ⟨y, hy, ρ1, lv1, st1, w1, a1, a2, a3, a4⟩ := sx_bk_ok (sx_Ev_m hz hc) hT h hγ
  have e1 := a2.2.1.1
  have e2 := a2.2.2.1.1
  subst e1
  subst e2
  exact ⟨y, hy, ρ1, w1, a1, a2, Fr_len a3 (by rw [a2.2.2.2.2.1, hγ.2.2.2.2.1, sx_bq (List.all_eq_true.mp hY y hy)]), a4⟩
theorem noT : ∀ q ∈ ([] : List (Nat × sxK)), sx_C q.1 q.2 := fun q hq => absurd hq List.not_mem_nil
