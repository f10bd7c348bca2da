/-! a new Search: cells 28 to 31 -/
def sh0 (a : Nat → Nat × Nat) (t : List (Nat × Nat)) : List (Nat × Nat) := (7, 18) :: a 1 :: a 2 :: a 3 :: a 4 :: a 5 :: a 6 :: a 7 :: a 8 :: a 9 :: a 10 :: a 11 :: a 12 :: a 13 :: a 14 :: a 15 :: a 16 :: a 17 :: a 18 :: a 19 :: a 20 :: a 21 :: a 22 :: a 23 :: a 24 :: a 25 :: a 26 :: a 27 :: t
theorem sh0_ex : ∀ (l : List (Nat × Nat)), l.length = 28 → l[0]? = some (7, 18) → ∃ a, l = sh0 a [] := by
  intro l hl h0
  rcases l with _ | ⟨x0, l⟩
  · cases hl
  rcases l with _ | ⟨x1, l⟩
  · cases hl
  rcases l with _ | ⟨x2, l⟩
  · cases hl
  rcases l with _ | ⟨x3, l⟩
  · cases hl
  rcases l with _ | ⟨x4, l⟩
  · cases hl
  rcases l with _ | ⟨x5, l⟩
  · cases hl
  rcases l with _ | ⟨x6, l⟩
  · cases hl
  rcases l with _ | ⟨x7, l⟩
  · cases hl
  rcases l with _ | ⟨x8, l⟩
  · cases hl
  rcases l with _ | ⟨x9, l⟩
  · cases hl
  rcases l with _ | ⟨x10, l⟩
  · cases hl
  rcases l with _ | ⟨x11, l⟩
  · cases hl
  rcases l with _ | ⟨x12, l⟩
  · cases hl
  rcases l with _ | ⟨x13, l⟩
  · cases hl
  rcases l with _ | ⟨x14, l⟩
  · cases hl
  rcases l with _ | ⟨x15, l⟩
  · cases hl
  rcases l with _ | ⟨x16, l⟩
  · cases hl
  rcases l with _ | ⟨x17, l⟩
  · cases hl
  rcases l with _ | ⟨x18, l⟩
  · cases hl
  rcases l with _ | ⟨x19, l⟩
  · cases hl
  rcases l with _ | ⟨x20, l⟩
  · cases hl
  rcases l with _ | ⟨x21, l⟩
  · cases hl
  rcases l with _ | ⟨x22, l⟩
  · cases hl
  rcases l with _ | ⟨x23, l⟩
  · cases hl
  rcases l with _ | ⟨x24, l⟩
  · cases hl
  rcases l with _ | ⟨x25, l⟩
  · cases hl
  rcases l with _ | ⟨x26, l⟩
  · cases hl
  rcases l with _ | ⟨x27, l⟩
  · cases hl
  rcases l with _ | ⟨x28, l⟩
  · cases h0
    exact ⟨fun k => [(0, 0), x1, x2, x3, x4, x5, x6, x7, x8, x9, x10, x11, x12, x13, x14, x15, x16, x17, x18, x19, x20, x21, x22, x23, x24, x25, x26, x27].getD k (0, 0), rfl⟩
  · exact absurd hl (by show ¬ l.length + 1 + 28 = 28; omega)
def IS (I : Nat → Nat → Int32) : Nat → Nat → Int32 := (mxI (mxI (mxI (mxI (mxI (mxI (mxI0 (mxI0 (mxI0 I 29) 30) 31) 28 3 1) 28 4 0) 28 5 0) 28 6 0) 28 7 0) 28 8 0)
def JS (J : Nat → Nat → Int64) : Nat → Nat → Int64 := (mxJ0 (mxJ0 (mxJ0 J 29) 30) 31)
def QS0 (Q : Nat → Nat → Value) : Nat → Nat → Value := (mxQ (mxQ0 (mxQ (mxQ0 (mxQ (mxQ0 Q 29) 28 0 (.ref 29)) 30) 28 1 (.ref 30)) 31) 28 2 (.ref 31))
set_option maxRecDepth 100000 in
theorem si_run {a : Nat → Nat × Nat} {I : Nat → Nat → Int32} {J : Nat → Nat → Int64} {Q : Nat → Nat → Value} : mxRn 12 0 [(0, .ref 28)] [] (sh0 a [(5, 9)], I, J, Q) (none, (sh0 a [(5, 9), (1, 20000), (0, 20000), (0, 32768)], IS I, JS J, QS0 Q)) := by
  refine mxRn.g2 5 0 (pc' := 10) (lv' := [(0, .ref 28)]) (st' := [.ref 29, .ref 28]) (w' := (sh0 a [(5, 9), (1, 20000)], (mxI0 I 29), (mxJ0 J 29), (mxQ0 Q 29))) (fun n => rfl) ?_
  refine mxRn.g2 4 0 (pc' := 19) (lv' := [(0, .ref 28)]) (st' := [.ref 30, .ref 28]) (w' := (sh0 a [(5, 9), (1, 20000), (0, 20000)], (mxI0 (mxI0 I 29) 30), (mxJ0 (mxJ0 J 29) 30), (mxQ0 (mxQ (mxQ0 Q 29) 28 0 (.ref 29)) 30))) (fun n => rfl) ?_
  refine mxRn.g2 4 0 (pc' := 27) (lv' := [(0, .ref 28)]) (st' := [.ref 31, .ref 28]) (w' := (sh0 a [(5, 9), (1, 20000), (0, 20000), (0, 32768)], (mxI0 (mxI0 (mxI0 I 29) 30) 31), (mxJ0 (mxJ0 (mxJ0 J 29) 30) 31), (mxQ0 (mxQ (mxQ0 (mxQ (mxQ0 Q 29) 28 0 (.ref 29)) 30) 28 1 (.ref 30)) 31))) (fun n => rfl) ?_
  refine mxRn.g2 4 0 (pc' := 35) (lv' := [(0, .ref 28)]) (st' := []) (w' := (sh0 a [(5, 9), (1, 20000), (0, 20000), (0, 32768)], (mxI (mxI0 (mxI0 (mxI0 I 29) 30) 31) 28 3 1), (mxJ0 (mxJ0 (mxJ0 J 29) 30) 31), (mxQ (mxQ0 (mxQ (mxQ0 (mxQ (mxQ0 Q 29) 28 0 (.ref 29)) 30) 28 1 (.ref 30)) 31) 28 2 (.ref 31)))) (fun n => rfl) ?_
  refine mxRn.g2 6 0 (pc' := 45) (lv' := [(0, .ref 28)]) (st' := []) (w' := (sh0 a [(5, 9), (1, 20000), (0, 20000), (0, 32768)], (mxI (mxI (mxI (mxI0 (mxI0 (mxI0 I 29) 30) 31) 28 3 1) 28 4 0) 28 5 0), (mxJ0 (mxJ0 (mxJ0 J 29) 30) 31), (mxQ (mxQ0 (mxQ (mxQ0 (mxQ (mxQ0 Q 29) 28 0 (.ref 29)) 30) 28 1 (.ref 30)) 31) 28 2 (.ref 31)))) (fun n => rfl) ?_
  refine mxRn.g2 6 0 (pc' := 55) (lv' := [(0, .ref 28)]) (st' := []) (w' := (sh0 a [(5, 9), (1, 20000), (0, 20000), (0, 32768)], (mxI (mxI (mxI (mxI (mxI (mxI0 (mxI0 (mxI0 I 29) 30) 31) 28 3 1) 28 4 0) 28 5 0) 28 6 0) 28 7 0), (mxJ0 (mxJ0 (mxJ0 J 29) 30) 31), (mxQ (mxQ0 (mxQ (mxQ0 (mxQ (mxQ0 Q 29) 28 0 (.ref 29)) 30) 28 1 (.ref 30)) 31) 28 2 (.ref 31)))) (fun n => rfl) ?_
  refine mxRn.g2 3 0 (pc' := 60) (lv' := [(0, .ref 28)]) (st' := []) (w' := (sh0 a [(5, 9), (1, 20000), (0, 20000), (0, 32768)], (mxI (mxI (mxI (mxI (mxI (mxI (mxI0 (mxI0 (mxI0 I 29) 30) 31) 28 3 1) 28 4 0) 28 5 0) 28 6 0) 28 7 0) 28 8 0), (mxJ0 (mxJ0 (mxJ0 J 29) 30) 31), (mxQ (mxQ0 (mxQ (mxQ0 (mxQ (mxQ0 Q 29) 28 0 (.ref 29)) 30) 28 1 (.ref 30)) 31) 28 2 (.ref 31)))) (fun n => rfl) ?_
  exact mxRn.ret 1 (fun n => rfl)
def QS1 (Q : Nat → Nat → Value) : Nat → Nat → Value := mxQ (QS0 (mxQ0 (mxQ Q 0 12 .null) 28)) 0 12 (.ref 28)
set_option maxRecDepth 100000 in
theorem se_run {a : Nat → Nat × Nat} {I : Nat → Nat → Int32} {J : Nat → Nat → Int64} {Q : Nat → Nat → Value} : mxRn 70 0 [(0, .ref 0)] [] (sh0 a [], I, J, mxQ Q 0 12 .null) (some (.ref 28), (sh0 a [(5, 9), (1, 20000), (0, 20000), (0, 32768)], IS (mxI0 I 28), JS (mxJ0 J 28), QS1 Q)) := by
  refine mxRn.g2 6 0 (pc' := 12) (lv' := [(0, .ref 0)]) (st' := [.ref 28, .ref 28, .ref 0]) (w' := (sh0 a [(5, 9)], mxI0 I 28, mxJ0 J 28, mxQ0 (mxQ Q 0 12 .null) 28)) (fun n => rfl) ?_
  refine mxRn.c2 1 0 (z := 12) (pc' := 15) (lz := [(0, .ref 28)]) (lv' := [(0, .ref 0)]) (r := [.ref 28, .ref 0]) (w1 := (sh0 a [(5, 9)], mxI0 I 28, mxJ0 J 28, mxQ0 (mxQ Q 0 12 .null) 28)) (wz := (sh0 a [(5, 9), (1, 20000), (0, 20000), (0, 32768)], IS (mxI0 I 28), JS (mxJ0 J 28), QS0 (mxQ0 (mxQ Q 0 12 .null) 28))) (rz := none) (fun n => rfl) si_run ?_
  exact mxRn.ret 4 (fun n => rfl)
/-- a state at another base, where no key is new -/
def sx_lo (A : sxA) : Bool := A.2.1.all (fun q => sx_vk q.2) && A.2.2.1.all sx_vk && A.2.2.2.1.all (fun q => Nat.blt q.1 1000 && (match q.2.2.2.2.2.2 with
  | none => true
  | some vs => vs.all sx_vk))
theorem sx_vk_val {W0 W1 : Nat} {ρ : Nat → Int} {v : sxv} (h : sx_vk v = true) : sx_val W0 ρ v = sx_val W1 ρ v := by
  obtain ⟨t, k, o⟩ := v
  unfold sx_vk at h
  rw [Bool.or_eq_true] at h
  by_cases ht : t = 2
  · subst ht
    rcases h with h | h
    · cases h
    · show Value.ref (sx_ad W0 k) = .ref (sx_ad W1 k)
      rw [sx_ad_lt (Nat.blt_eq.mp h), sx_ad_lt (Nat.blt_eq.mp h)]
  · unfold sx_val
    split
    · rfl
    · rfl
    · rename_i e
      exact absurd e ht
    · rfl
    · rfl
theorem sx_ce_lo {W0 W1 : Nat} {ρ : Nat → Int} {n : Nat} {w : mxW} {a : Nat} {c : sxc} (h : (match c.2.2.2.2.2 with
  | none => true
  | some vs => vs.all sx_vk) = true) (g : sx_ce W0 ρ n w a c) : sx_ce W1 ρ n w a c := by
  obtain ⟨t, m, lo, hi, fl, els⟩ := c
  refine ⟨g.1, ?_⟩
  cases els with
  | none => exact g.2
  | some vs =>
    intro j v hv
    have k := g.2 j v hv
    exact ⟨k.1, k.2.trans (sx_vk_val (List.all_eq_true.mp h v (List.mem_of_getElem? hv)))⟩
theorem γ_reb {W0 : Nat} {S : Nat → Prop} {ρ : Nat → Int} {A : sxA} {lv : mxV} {st : List Value} {w : mxW} (h : sx_γ W0 S ρ A lv st w) (hk : sx_lo A = true) : sx_γ w.1.length S ρ (A.1, A.2.1, A.2.2.1, A.2.2.2.1, 1000) lv st w := by
  unfold sx_lo at hk
  rw [Bool.and_eq_true, Bool.and_eq_true] at hk
  obtain ⟨⟨k1, k2⟩, k3⟩ := hk
  refine ⟨h.1, ⟨h.2.1.1.trans (List.map_congr_left (fun q hq => ?_)), h.2.1.2⟩, ⟨h.2.2.1.1.trans (List.map_congr_left (fun v hv => sx_vk_val (List.all_eq_true.mp k2 v hv))), h.2.2.1.2⟩, fun q hq => ?_, (sx_ad_1000 _).symm, h.2.2.2.2.2⟩
  · show (q.1, sx_val W0 ρ q.2) = (q.1, sx_val _ ρ q.2)
    rw [sx_vk_val (List.all_eq_true.mp k1 q hq)]
  · have g := h.2.2.2.1 q hq
    have e := List.all_eq_true.mp k3 q hq
    rw [Bool.and_eq_true] at e
    have hl := Nat.blt_eq.mp e.1
    obtain ⟨g1, g2, g3⟩ := g
    rw [sx_ad_lt hl] at g1 g2
    refine ⟨?_, ?_, fun _ => (List.getElem?_eq_some_iff.mp g1.1).1⟩
    · rw [sx_ad_lt hl]
      exact sx_ce_lo e.2 g1
    · rw [sx_ad_lt hl]
      exact g2
