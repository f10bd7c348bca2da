/-! La holds at the law's start -/
def rA : List Int := [0, 0, 0, 0, 0, 0, 0, 0, 0, (-1), 0, 0, 0, 0, 0, (-1), 0, 0, 0, 0, 0, 0, 0, 0, 0, 1, 1, 1, 1, 1, 1, 1, 0, 0, 0, 0, 0, 0, 0, 154618822656, 0, 0, 0, 0, 0, 0, 0, 0, 0, 0, 0, 0, 0, 0, 0, 0, 0, 0, 0, 0, 0, 0, 0, 0, 0, 0, 0, 0, 0, 0, 0, 0, 0, 0, 0, 0, 0, 0, 4, 4]
def ρA : Nat → Int := fun i => rA.getD i 0
theorem sx_V36 : sx_V 154618822656 := ⟨0, 0, 4, 4, fun _ => 0, fun _ => 0, fun _ => 0, fun _ => 0, by omega, by omega, by omega, by omega, fun t _ => by dsimp only; omega, rfl⟩
theorem envA : sx_env La.1 ρA := by
  refine ⟨rfl, by decide, fun i e he => ?_⟩
  have hc : (List.range La.1.length).all (fun i => match La.1[i]? with
    | some e => decide (e.1 ≤ ρA i) && decide (ρA i ≤ e.2.1) && (!(Nat.beq e.2.2.1 1) || Nat.beq i 39) && Nat.blt e.2.2.2 La.1.length && (Nat.beq e.2.2.2 0 || decide (ρA i ≤ 8))
    | none => false) = true := by decide +kernel
  have h := List.all_eq_true.mp hc i (List.mem_range.mpr (List.getElem?_eq_some_iff.mp he).1)
  rw [he] at h
  simp only [Bool.and_eq_true, decide_eq_true_eq] at h
  obtain ⟨⟨⟨⟨h1, h2⟩, h3⟩, h4⟩, h5⟩ := h
  refine ⟨h1, h2, fun hf => ?_, Nat.blt_eq.mp h4, fun hn _ => ?_⟩
  · rw [hf] at h3
    replace h3 : Nat.beq i 39 = true := h3
    rw [sx_bq h3]
    exact sx_V36
  · rcases (Bool.or_eq_true _ _).mp h5 with q | q
    · exact absurd (sx_bq q) hn
    · exact of_decide_eq_true q
def elb (r : Nat → Int) (x : Value) (v : sxv) : Bool := match v.1, x with
  | 0, .int y => y == Int32.ofInt (r v.2.1 + v.2.2)
  | 1, .long y => y == Int64.ofInt (r v.2.1 + v.2.2)
  | 2, .ref a => Nat.blt v.2.1 1000 && Nat.beq a v.2.1
  | 4, .null => true
  | _, _ => false
theorem elb_ok {W0 : Nat} {r : Nat → Int} {x : Value} {v : sxv} (h : elb r x v = true) : x = sx_val W0 r v := by
  obtain ⟨t, k, o⟩ := v
  unfold elb at h
  split at h
  · rename_i y e
    cases e
    exact congrArg Value.int (eq_of_beq h)
  · rename_i y e
    cases e
    exact congrArg Value.long (eq_of_beq h)
  · rename_i y e
    cases e
    rw [Bool.and_eq_true] at h
    show Value.ref y = .ref (sx_ad W0 k)
    rw [sx_ad_lt (Nat.blt_eq.mp h.1), sx_bq h.2]
  · rename_i e
    cases e
    rfl
  · cases h
theorem ce_some {W0 : Nat} {r : Nat → Int} {n : Nat} {w : mxW} {a t m fl : Nat} {vs : List sxv} (hs : w.1[a]? = some (t, m)) (h : (List.range vs.length).all (fun j => match vs[j]? with
    | some v => (!(Nat.blt v.1 2) || Nat.blt v.2.1 n) && elb r (sx_el w a t j) v
    | none => false) = true) : sx_ce W0 r n w a (t, m, 0, 0, fl, some vs) := by
  refine ⟨hs, fun j v hv => ?_⟩
  have g := List.all_eq_true.mp h j (List.mem_range.mpr (List.getElem?_eq_some_iff.mp hv).1)
  rw [hv] at g
  rw [Bool.and_eq_true] at g
  exact ⟨fun q => by
    have t := g.1
    rw [Nat.blt_eq.mpr q] at t
    exact Nat.blt_eq.mp (by simpa using t), elb_ok g.2⟩
def TT : Nat → Prop := fun _ => True
def wA : mxW := (shA, IA, JA, QA)
set_option maxRecDepth 100000 in
theorem γA : sx_γ 28 TT ρA La [] [] wA := by
  refine ⟨envA, ⟨rfl, fun q hq => absurd hq List.not_mem_nil⟩, ⟨rfl, fun q hq => absurd hq List.not_mem_nil⟩, ?_, rfl, fun _ _ => trivial⟩
  have key : ∀ q ∈ La.2.2.2.1, sx_ce 28 ρA La.1.length wA q.1 q.2 ∧ q.1 < 28 := by
    simp only [La, List.forall_mem_cons, List.not_mem_nil, false_imp_iff, implies_true, and_true]
    refine ⟨?_, ?_, ?_, ?_, ?_, ?_, ?_, ?_, ?_, ?_, ?_, ?_, ?_, ?_, ?_, ?_, ?_, ?_, ?_, ?_, ?_, ?_, ?_, ?_, ?_, ?_, ?_, ?_⟩
    · exact ⟨ce_some rfl (by decide +kernel), by decide⟩
    · refine ⟨⟨rfl, (by decide), fun j hj => ?_⟩, (by decide)⟩
      have e : sx_nu wA 1 0 j = 0 := rfl
      dsimp only
      rw [e]
      exact ⟨by decide, by decide, fun q => absurd q (by decide)⟩
    · exact ⟨ce_some rfl (by decide +kernel), by decide⟩
    · exact ⟨ce_some rfl (by decide +kernel), by decide⟩
    · exact ⟨ce_some rfl (by decide +kernel), by decide⟩
    · refine ⟨⟨rfl, (by decide), fun j hj => ?_⟩, (by decide)⟩
      have e : sx_nu wA 5 1 j = 0 := rfl
      dsimp only
      rw [e]
      exact ⟨by decide, by decide, fun q => absurd q (by decide)⟩
    · refine ⟨⟨rfl, (by decide), fun j hj => ?_⟩, (by decide)⟩
      have e : sx_nu wA 6 0 j = 0 := rfl
      dsimp only
      rw [e]
      exact ⟨by decide, by decide, fun q => absurd q (by decide)⟩
    · refine ⟨⟨rfl, (by decide), fun j hj => ?_⟩, (by decide)⟩
      have e : sx_nu wA 7 0 j = 0 := rfl
      dsimp only
      rw [e]
      exact ⟨by decide, by decide, fun q => absurd q (by decide)⟩
    · refine ⟨⟨rfl, (by decide), fun j hj => ?_⟩, (by decide)⟩
      have e : sx_nu wA 8 0 j = 0 := rfl
      dsimp only
      rw [e]
      exact ⟨by decide, by decide, fun q => absurd q (by decide)⟩
    · exact ⟨ce_some rfl (by decide +kernel), by decide⟩
    · refine ⟨⟨rfl, (by decide), fun j hj => ?_⟩, (by decide)⟩
      have e : sx_nu wA 10 2 j = 0 := rfl
      dsimp only
      rw [e]
      exact ⟨by decide, by decide, fun q => absurd q (by decide)⟩
    · refine ⟨⟨rfl, (by decide), fun j hj => ?_⟩, (by decide)⟩
      have e : sx_nu wA 11 0 j = 0 := rfl
      dsimp only
      rw [e]
      exact ⟨by decide, by decide, fun q => absurd q (by decide)⟩
    · exact ⟨ce_some rfl (by decide +kernel), by decide⟩
    · exact ⟨ce_some rfl (by decide +kernel), by decide⟩
    · exact ⟨ce_some rfl (by decide +kernel), by decide⟩
    · exact ⟨ce_some rfl (by decide +kernel), by decide⟩
    · exact ⟨ce_some rfl (by decide +kernel), by decide⟩
    · exact ⟨ce_some rfl (by decide +kernel), by decide⟩
    · exact ⟨ce_some rfl (by decide +kernel), by decide⟩
    · refine ⟨⟨rfl, (by decide), fun j hj => ?_⟩, (by decide)⟩
      have e : sx_nu wA 19 0 j = 0 := rfl
      dsimp only
      rw [e]
      exact ⟨by decide, by decide, fun q => absurd q (by decide)⟩
    · refine ⟨⟨rfl, (by decide), fun j hj => ?_⟩, (by decide)⟩
      have e : sx_nu wA 20 1 j = 0 := rfl
      dsimp only
      rw [e]
      exact ⟨by decide, by decide, fun q => absurd q (by decide)⟩
    · refine ⟨⟨rfl, (by decide), fun j hj => ?_⟩, (by decide)⟩
      have e : sx_nu wA 21 1 j = 0 := rfl
      dsimp only
      rw [e]
      exact ⟨by decide, by decide, fun q => sx_V0⟩
    · refine ⟨⟨rfl, (by decide), fun j hj => ?_⟩, (by decide)⟩
      have e : sx_nu wA 22 0 j = 0 := rfl
      dsimp only
      rw [e]
      exact ⟨by decide, by decide, fun q => absurd q (by decide)⟩
    · refine ⟨⟨rfl, (by decide), fun j hj => ?_⟩, (by decide)⟩
      have e : sx_nu wA 23 0 j = 0 := rfl
      dsimp only
      rw [e]
      exact ⟨by decide, by decide, fun q => absurd q (by decide)⟩
    · refine ⟨⟨rfl, (by decide), fun j hj => ?_⟩, (by decide)⟩
      have e : sx_nu wA 24 0 j = 0 := rfl
      dsimp only
      rw [e]
      exact ⟨by decide, by decide, fun q => absurd q (by decide)⟩
    · refine ⟨⟨rfl, (by decide), fun j hj => ?_⟩, (by decide)⟩
      have e : sx_nu wA 25 0 j = 0 := rfl
      dsimp only
      rw [e]
      exact ⟨by decide, by decide, fun q => absurd q (by decide)⟩
    · refine ⟨⟨rfl, (by decide), fun j hj => ?_⟩, (by decide)⟩
      have e : sx_nu wA 26 0 j = 0 := rfl
      dsimp only
      rw [e]
      exact ⟨by decide, by decide, fun q => absurd q (by decide)⟩
    · exact ⟨ce_some rfl (by decide +kernel), by decide⟩
  intro q hq
  obtain ⟨k1, k2⟩ := key q hq
  have e : sx_ad 28 q.1 = q.1 := sx_ad_lt (by omega)
  refine ⟨?_, fun _ => trivial, fun _ => k2⟩
  rw [e]
  exact k1
