/-! growth: worlds only grow -/
def mxgr (w w' : mxW) : Prop := w.1.length ≤ w'.1.length ∧ mxsl w ≤ mxsl w'
theorem mx_cn {bb : Bool} {x : Option mxR} {res : mxR} (h : cond bb x none = some res) : bb = true ∧ x = some res := by
  cases bb
  · cases h
  · exact ⟨rfl, h⟩
theorem mx_nc {bb : Bool} {x : Option mxR} {res : mxR} (h : cond bb none x = some res) : bb = false ∧ x = some res := by
  cases bb
  · exact ⟨rfl, h⟩
  · cases h
theorem mx_jn {pc : Nat} {off : Int} {k : Nat → Option mxR} {res : mxR} (h : mxj pc off k = some res) : ∃ t : Nat, (pc : Int) + off = (t : Int) ∧ k t = some res := by
  unfold mxj at h
  split at h
  · rename_i t ht
    exact ⟨t, ht, h⟩
  · cases h
theorem mx_bn {x : Option mxR} {f : mxR → Option mxR} {res : mxR} (h : x.bind f = some res) : ∃ q, x = some q ∧ f q = some res := Option.bind_eq_some_iff.mp h
theorem mxgr_new (w : mxW) (t n : Nat) : mxgr w (mxne0 w t n) := ⟨by rw [mxlen_new]; omega, by rw [mxsl_new]; omega⟩
theorem mxgr_pi {w v : mxW} {a j : Nat} {x : Int32} (h : mxgr (mxpi w a j x) v) : mxgr w v := h
theorem mxgr_pj {w v : mxW} {a j : Nat} {x : Int64} (h : mxgr (mxpj w a j x) v) : mxgr w v := h
theorem mxgr_pq {w v : mxW} {a j : Nat} {x : Value} (h : mxgr (mxpq w a j x) v) : mxgr w v := h
theorem mx_c2 {bb : Bool} {x y : Option mxR} {res : mxR} (h : cond bb x y = some res) : (bb = true ∧ x = some res) ∨ (bb = false ∧ y = some res) := by
  cases bb
  · exact Or.inr ⟨rfl, h⟩
  · exact Or.inl ⟨rfl, h⟩
theorem mxgr_tr {a b c : mxW} (h1 : mxgr a b) (h2 : mxgr b c) : mxgr a c := ⟨Nat.le_trans h1.1 h2.1, Nat.le_trans h1.2 h2.2⟩
set_option maxHeartbeats 1000000 in
set_option maxRecDepth 100000 in
theorem mxS_grow {i : mxi} {pc : Nat} {op : Instr} {lv : mxV} {st : List Value} {w : mxW} {k : Nat → mxV → List Value → mxW → Option mxR} {call : Nat → List Value → mxW → Option mxR} {res : mxR} (h : mxS i pc op lv st w k call = some res) (hk : ∀ pc' lv' st' w', k pc' lv' st' w' = some res → mxgr w' res.2) (hc : ∀ z vs w' q, call z vs w' = some q → mxgr w' q.2) : mxgr w res.2 := by
  cases op <;> simp only [mxS] at h <;> first
    | (cases h; done)
    | exact hk _ _ _ _ h
    | (obtain ⟨t, -, h⟩ := mx_jn h; exact hk _ _ _ _ h)
    | skip
  all_goals (repeat' split at h) <;> first
    | (cases h; done)
    | exact hk _ _ _ _ h
    | (obtain ⟨-, h⟩ := mx_cn h; exact hk _ _ _ _ h)
    | (obtain ⟨-, h⟩ := mx_nc h; exact hk _ _ _ _ h)
    | (obtain ⟨t, -, h⟩ := mx_jn h; exact hk _ _ _ _ h)
    | (obtain ⟨-, h⟩ := mx_cn h; exact mxgr_tr (mxgr_new _ _ _) (hk _ _ _ _ h))
    | (exact mxgr_tr (mxgr_new _ _ _) (hk _ _ _ _ h))
    | (obtain ⟨-, h⟩ := mx_cn h; obtain ⟨q, hq, h⟩ := mx_bn h; exact mxgr_tr (hc _ _ _ _ hq) (hk _ _ _ _ h))
    | (cases h; exact ⟨Nat.le_refl _, Nat.le_refl _⟩)
    | skip
  all_goals first
    | (exact hk _ _ _ _ h)
    | (obtain ⟨-, h⟩ := mx_cn h; obtain ⟨q, hq, h⟩ := mx_bn h; exact mxgr_tr (hc _ _ _ _ hq) (hk _ _ _ _ h))
    | (obtain ⟨-, h⟩ := mx_cn h; first | exact mxgr_pi (hk _ _ _ _ h) | exact mxgr_pj (hk _ _ _ _ h) | exact mxgr_pq (hk _ _ _ _ h) | (cases h; done) | (cases h; exact ⟨Nat.le_refl _, Nat.le_refl _⟩) | (obtain ⟨t, -, h⟩ := mx_jn h; exact hk _ _ _ _ h) | (obtain ⟨-, h⟩ := mx_cn h; exact mxgr_pi (hk _ _ _ _ h)))
    | (obtain ⟨-, h⟩ | ⟨-, h⟩ := mx_c2 h <;> first | exact hk _ _ _ _ h | (cases h; done) | (obtain ⟨t, -, h⟩ := mx_jn h; exact hk _ _ _ _ h) | (obtain ⟨-, h⟩ := mx_cn h; obtain ⟨q, hq, h⟩ := mx_bn h; exact mxgr_tr (hc _ _ _ _ hq) (hk _ _ _ _ h)))
    | (obtain ⟨t, -, h⟩ := mx_jn h; obtain ⟨-, h⟩ | ⟨-, h⟩ := mx_c2 h <;> exact hk _ _ _ _ h)
theorem mxcki_sp {pc : Nat} {lv : mxV} {st : List Value} {w : mxW} {res : mxR} (h : mxcki pc lv st w = some res) : ∃ x z : Int32, pc = 0 ∧ lv = [(0, .int x), (1, .int z)] ∧ st = [] ∧ ¬ x < 0 ∧ x < z ∧ res = (none, w) := by
  unfold mxcki at h
  split at h
  · rename_i x z
    obtain ⟨hb, h⟩ := mx_cn h
    simp only [Bool.and_eq_true, Bool.not_eq_true', decide_eq_false_iff_not, decide_eq_true_eq] at hb
    cases h
    exact ⟨x, z, rfl, rfl, rfl, hb.1, hb.2, rfl⟩
  · cases h
theorem mxcki_w {pc : Nat} {lv : mxV} {st : List Value} {w : mxW} {res : mxR} (h : mxcki pc lv st w = some res) : res.2 = w := by
  obtain ⟨x, z, -, -, -, -, -, rfl⟩ := mxcki_sp h
  rfl
theorem mxev_grow : ∀ {n y pc : Nat} {lv : mxV} {st : List Value} {w : mxW} {res : mxR}, mxev n y pc lv st w = some res → mxgr w res.2 := by
  intro n
  induction n with
  | zero => intro y pc lv st w res h; cases h
  | succ n ih =>
    intro y pc lv st w res h
    simp only [mxev] at h
    obtain ⟨-, h⟩ | ⟨-, h⟩ := mx_c2 h
    · rw [mxcki_w h]
      exact ⟨Nat.le_refl _, Nat.le_refl _⟩
    split at h
    · cases h
    · split at h
      · cases h
      · exact mxS_grow h (fun pc' lv' st' w' hk => ih hk) (fun z vs w' q hq => ih (mx_cn hq).2)
