/-! BLOCKS: the ends of a run, covered by given states -/
def sx_bk (T : List (Nat × sxK)) (i : mxi) (tb : List (Nat × Instr × Nat)) (cuts : List Nat) (fuel pc : Nat) (A : sxA) (Y : List (Nat × sxA)) : Bool := match sx_run T i tb cuts fuel pc A with
  | some X => X.all (fun q => Y.any (fun y => Nat.beq y.1 q.1 && sx_sub q.2.1 (sx_mA A.1.length y.2 q.2) q.2 y.2 && sx_idn A.1.length (sx_mA A.1.length y.2 q.2)))
  | none => false
theorem sx_bk_ok {ev : Nat → Nat → mxV → List Value → mxW → Option mxR} {i : mxi} {tb : List (Nat × Instr × Nat)} {T : List (Nat × sxK)} {cuts : List Nat} {fuel pc : Nat} {A : sxA} {Y : List (Nat × sxA)} (hev : sx_Ev ev i tb) (hT : ∀ q ∈ T, sx_C q.1 q.2) (h : sx_bk T i tb cuts fuel pc A Y = true) {W0 : Nat} {S : Nat → Prop} {ρ : Nat → Int} {lv : mxV} {st : List Value} {w : mxW} (hγ : sx_γ W0 S ρ A lv st w) : ∃ y ∈ Y, ∃ (ρ' : Nat → Int) (lv' : mxV) (st' : List Value) (w' : mxW), (∀ j, j < A.1.length → ρ' j = ρ j) ∧ sx_γ W0 S ρ' y.2 lv' st' w' ∧ sx_Fr S w w' ∧ ∀ res, sx_Rn ev y.1 lv' st' w' res → sx_Rn ev pc lv st w res := by
  unfold sx_bk at h
  split at h
  · rename_i X hX
    obtain ⟨q, hq, ρ1, lv1, st1, w1, a1, a2, a3, a4, a5⟩ := sx_run_ok hev hT fuel hX hγ
    obtain ⟨y, hy, g⟩ := List.any_eq_true.mp (List.all_eq_true.mp h q hq)
    rw [Bool.and_eq_true, Bool.and_eq_true] at g
    obtain ⟨⟨b1, b2⟩, b3⟩ := g
    obtain ⟨c1, -⟩ := sx_sub_ok a3 b2
    exact ⟨y, hy, _, lv1, st1, w1, fun j hj => (sx_idn_ok b3 j hj).trans (a1 j hj), c1, a4, fun res hr => a5 res (by rw [← sx_bq b1]; exact hr)⟩
  · cases h
/-! counting the places that are taken -/
def cz (f : Nat → Int32) : Nat → Nat
  | 0 => 0
  | k + 1 => cz f k + (if f k = 0 then 0 else 1)
theorem cz_le (f : Nat → Int32) : ∀ N, cz f N ≤ N
  | 0 => Nat.le_refl _
  | k + 1 => by
    have := cz_le f k
    unfold cz
    split <;> omega
theorem cz_free {f : Nat → Int32} : ∀ {N : Nat}, cz f N < N → ∃ z, z < N ∧ f z = 0
  | 0, h => by omega
  | k + 1, h => by
    unfold cz at h
    by_cases hf : f k = 0
    · exact ⟨k, Nat.lt_succ_self k, hf⟩
    · rw [if_neg hf] at h
      obtain ⟨z, h1, h2⟩ := cz_free (f := f) (N := k) (by omega)
      exact ⟨z, by omega, h2⟩
theorem cz_upd {f g : Nat → Int32} {h : Nat} (hg : ∀ j, j ≠ h → g j = f j) : ∀ N, cz g N ≤ cz f N + (if h < N then 1 else 0)
  | 0 => by unfold cz; omega
  | k + 1 => by
    have ih := cz_upd hg k
    unfold cz
    by_cases hk : k = h
    · subst hk
      rw [if_neg (Nat.lt_irrefl k)] at ih
      rw [if_pos (Nat.lt_succ_self k)]
      split <;> split <;> omega
    · rw [hg k hk]
      by_cases h1 : h < k
      · rw [if_pos h1] at ih
        rw [if_pos (show h < k + 1 by omega)]
        omega
      · rw [if_neg h1] at ih
        rw [if_neg (show ¬ h < k + 1 by omega)]
        omega
theorem cz_zero {f : Nat → Int32} : ∀ {N : Nat}, (∀ j, j < N → f j = 0) → cz f N = 0
  | 0, _ => rfl
  | k + 1, h => by
    unfold cz
    rw [cz_zero (fun j hj => h j (by omega)), if_pos (h k (Nat.lt_succ_self k))]
/-! chains of before: at most d steps to the first state -/
def dpt (B : Nat → Int32) : Nat → Nat → Prop
  | 0, s => B s = -1
  | d + 1, s => B s = -1 ∨ ∃ q, q < s ∧ (B s).toInt = (q : Int) ∧ dpt B d q
theorem dpt_up {B : Nat → Int32} : ∀ {d s : Nat}, dpt B d s → dpt B (d + 1) s
  | 0, _, h => Or.inl h
  | d + 1, s, h => by
    rcases h with h | ⟨q, h1, h2, h3⟩
    · exact Or.inl h
    · exact Or.inr ⟨q, h1, h2, dpt_up h3⟩
theorem dpt_cg {B B' : Nat → Int32} {n : Nat} (hB : ∀ j, j < n → B' j = B j) : ∀ {d s : Nat}, s < n → dpt B d s → dpt B' d s
  | 0, s, hs, h => by
    show B' s = -1
    rw [hB s hs]
    exact h
  | d + 1, s, hs, h => by
    rcases h with h | ⟨q, h1, h2, h3⟩
    · exact Or.inl (by rw [hB s hs]; exact h)
    · exact Or.inr ⟨q, h1, by rw [hB s hs]; exact h2, dpt_cg hB (by omega) h3⟩
