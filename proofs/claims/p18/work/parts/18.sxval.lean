/-! what a symbolic state says of a state of the abstract machine -/
def sx_env (E : List sxe) (ρ : Nat → Int) : Prop := ρ 0 = 0 ∧ 0 < E.length ∧ ∀ (i : Nat) (e : sxe), E[i]? = some e → e.1 ≤ ρ i ∧ ρ i ≤ e.2.1 ∧ (e.2.2.1 = 1 → sx_V (ρ i)) ∧ e.2.2.2 < E.length ∧ (e.2.2.2 ≠ 0 → 1 ≤ ρ e.2.2.2 → ρ i ≤ 8)
def sx_wf (n : Nat) (v : sxv) : Prop := v.1 < 2 → v.2.1 < n
def sx_lv (W0 : Nat) (ρ : Nat → Int) (q : Nat × sxv) : Nat × Value := (q.1, sx_val W0 ρ q.2)
def sx_el (w : mxW) (a t j : Nat) : Value := match t with
  | 0 => .int (w.2.1 a j)
  | 1 => .long (w.2.2.1 a j)
  | 2 => .int (w.2.1 a j)
  | 3 => .int (w.2.1 a j)
  | c + 4 => mxgf w a c j
def sx_nu (w : mxW) (a t j : Nat) : Int := match t with
  | 1 => (w.2.2.1 a j).toInt
  | _ => (w.2.1 a j).toInt
def sx_ce (W0 : Nat) (ρ : Nat → Int) (n : Nat) (w : mxW) (a : Nat) (c : sxc) : Prop := w.1[a]? = some (c.1, c.2.1) ∧ (match c.2.2.2.2.2 with
  | none => c.1 < 4 ∧ ∀ j, j < c.2.1 → c.2.2.1 ≤ sx_nu w a c.1 j ∧ sx_nu w a c.1 j ≤ c.2.2.2.1 ∧ (c.2.2.2.2.1 % 2 = 1 → sx_V (sx_nu w a c.1 j))
  | some vs => ∀ j v, vs[j]? = some v → sx_wf n v ∧ sx_el w a c.1 j = sx_val W0 ρ v)
def sx_cq (W0 : Nat) (S : Nat → Prop) (ρ : Nat → Int) (n : Nat) (w : mxW) (q : Nat × sxc) : Prop := sx_ce W0 ρ n w (sx_ad W0 q.1) q.2 ∧ (q.2.2.2.2.2.1 < 2 → S (sx_ad W0 q.1)) ∧ (q.1 < 1000 → q.1 < W0)
def sx_γ (W0 : Nat) (S : Nat → Prop) (ρ : Nat → Int) (A : sxA) (lv : mxV) (st : List Value) (w : mxW) : Prop := sx_env A.1 ρ ∧ (lv = A.2.1.map (sx_lv W0 ρ) ∧ ∀ q ∈ A.2.1, sx_wf A.1.length q.2) ∧ (st = A.2.2.1.map (sx_val W0 ρ) ∧ ∀ v ∈ A.2.2.1, sx_wf A.1.length v) ∧ (∀ q ∈ A.2.2.2.1, sx_cq W0 S ρ A.1.length w q) ∧ w.1.length = sx_ad W0 A.2.2.2.2 ∧ (∀ a, w.1.length ≤ a → S a)
def sx_Fr (S : Nat → Prop) (w w' : mxW) : Prop := (∃ x, w'.1 = w.1 ++ x) ∧ ∀ a, ¬ S a → w'.2.1 a = w.2.1 a ∧ w'.2.2.1 a = w.2.2.1 a ∧ w'.2.2.2 a = w.2.2.2 a
theorem sx_Fr.rf {S : Nat → Prop} {w : mxW} : sx_Fr S w w := ⟨⟨[], (List.append_nil _).symm⟩, fun _ _ => ⟨rfl, rfl, rfl⟩⟩
theorem sx_Fr.tr {S : Nat → Prop} {u v w : mxW} (h : sx_Fr S u v) (g : sx_Fr S v w) : sx_Fr S u w := by
  obtain ⟨⟨x, hx⟩, h⟩ := h
  obtain ⟨⟨y, hy⟩, g⟩ := g
  refine ⟨⟨x ++ y, by rw [hy, hx, List.append_assoc]⟩, fun a ha => ?_⟩
  obtain ⟨h1, h2, h3⟩ := h a ha
  obtain ⟨g1, g2, g3⟩ := g a ha
  exact ⟨g1.trans h1, g2.trans h2, g3.trans h3⟩
/-- one step: some way that the executor names -/
def sx_Ok (W0 : Nat) (S : Nat → Prop) (i : mxi) (pc : Nat) (op : Instr) (ρ : Nat → Int) (n : Nat) (lv : mxV) (st : List Value) (w : mxW) (R : List (Nat × sxA)) : Prop := ∃ q ∈ R, ∃ (ρ' : Nat → Int) (lv' : mxV) (st' : List Value) (w' : mxW), (∀ j, j < n → ρ' j = ρ j) ∧ n ≤ q.2.1.length ∧ sx_γ W0 S ρ' q.2 lv' st' w' ∧ sx_Fr S w w' ∧ ∀ (k : Nat → mxV → List Value → mxW → Option mxR) (call : Nat → List Value → mxW → Option mxR), mxS i pc op lv st w k call = k q.1 lv' st' w'
theorem sx_hi_ok {E : List sxe} {ρ : Nat → Int} (h : sx_env E ρ) {i : Nat} {e : sxe} (he : E[i]? = some e) : ρ i ≤ sx_hi E e := by
  obtain ⟨h0, hl, h⟩ := h
  obtain ⟨h1, h2, h3, h4, h5⟩ := h i e he
  unfold sx_hi
  cases hb : Nat.beq e.2.2.2 0 with
  | true => exact h2
  | false =>
    have hn : e.2.2.2 ≠ 0 := fun q => by rw [q] at hb; cases hb
    show ρ i ≤ (match E[e.2.2.2]? with | some f => cond (decide (1 ≤ f.1)) (min e.2.1 8) e.2.1 | none => e.2.1)
    split
    · rename_i f hf
      have hf1 := (h _ f hf).1
      cases hd : decide (1 ≤ f.1) with
      | true =>
        have := of_decide_eq_true hd
        have := h5 hn (by omega)
        show ρ i ≤ min e.2.1 8
        omega
      | false => exact h2
    · exact h2
theorem sx_rg_ok {E : List sxe} {ρ : Nat → Int} (h : sx_env E ρ) {v : sxv} {q : Int × Int} (hq : sx_rg E v = some q) : q.1 ≤ ρ v.2.1 + v.2.2 ∧ ρ v.2.1 + v.2.2 ≤ q.2 := by
  unfold sx_rg at hq
  split at hq
  · rename_i e he
    cases hq
    have h1 := (h.2.2 _ e he).1
    have h2 := sx_hi_ok h he
    constructor <;> dsimp only <;> omega
  · cases hq
theorem sx_rg_wf {E : List sxe} {v : sxv} {q : Int × Int} (hq : sx_rg E v = some q) : v.2.1 < E.length := by
  unfold sx_rg at hq
  split at hq
  · rename_i e he
    exact (List.getElem?_eq_some_iff.mp he).1
  · cases hq
theorem sx_i32_ok {q : Int × Int} {z : Int} (h : sx_i32 q = true) (h1 : q.1 ≤ z) (h2 : z ≤ q.2) : (Int32.ofInt z).toInt = z := by
  unfold sx_i32 at h
  simp only [Bool.and_eq_true, decide_eq_true_eq] at h
  exact Int32.toInt_ofInt_of_le (by omega) (by omega)
theorem sx_i64_ok {q : Int × Int} {z : Int} (h : sx_i64 q = true) (h1 : q.1 ≤ z) (h2 : z ≤ q.2) : (Int64.ofInt z).toInt = z := by
  unfold sx_i64 at h
  simp only [Bool.and_eq_true, decide_eq_true_eq] at h
  exact Int64.toInt_ofInt_of_le (by omega) (by omega)
theorem sx_cl_ok {q : Int × Int} {z : Int} (h1 : q.1 ≤ z) (h2 : z ≤ q.2) : (sx_cl q).1 ≤ (Int32.ofInt z).toInt ∧ (Int32.ofInt z).toInt ≤ (sx_cl q).2 := by
  unfold sx_cl
  cases hq : sx_i32 q with
  | true => rw [sx_i32_ok hq h1 h2]; exact ⟨h1, h2⟩
  | false =>
    have a := Int32.le_toInt (Int32.ofInt z)
    have b := Int32.toInt_lt (Int32.ofInt z)
    constructor
    · show -2147483648 ≤ _
      omega
    · show _ ≤ 2147483647
      omega
theorem sx_top_ok (x : Int32) : sx_top.1 ≤ x.toInt ∧ x.toInt ≤ sx_top.2 := by
  have a := Int32.le_toInt x
  have b := Int32.toInt_lt x
  constructor
  · show -2147483648 ≤ _
    omega
  · show _ ≤ 2147483647
    omega
theorem sx_topl_ok (x : Int64) : sx_topl.1 ≤ x.toInt ∧ x.toInt ≤ sx_topl.2 := by
  have a := Int64.le_toInt x
  have b := Int64.toInt_lt x
  constructor
  · show -9223372036854775808 ≤ _
    omega
  · show _ ≤ 9223372036854775807
    omega
def sx_up (ρ : Nat → Int) (n : Nat) (z : Int) : Nat → Int := fun i => if i = n then z else ρ i
theorem sx_up_lt {ρ : Nat → Int} {n : Nat} {z : Int} {j : Nat} (h : j < n) : sx_up ρ n z j = ρ j := by
  unfold sx_up
  rw [if_neg (by omega)]
theorem sx_up_eq {ρ : Nat → Int} {n : Nat} {z : Int} : sx_up ρ n z n = z := by
  unfold sx_up
  rw [if_pos rfl]
/-- symbols that agree give the same values -/
theorem sx_val_ag {W0 : Nat} {ρ ρ' : Nat → Int} {n : Nat} {v : sxv} (hw : sx_wf n v) (h : ∀ j, j < n → ρ' j = ρ j) : sx_val W0 ρ' v = sx_val W0 ρ v := by
  unfold sx_val
  split
  · rename_i e
    rw [h _ (hw (by omega))]
  · rename_i e
    rw [h _ (hw (by omega))]
  · rfl
  · rfl
  · rfl
theorem sx_wf_le {n m : Nat} {v : sxv} (h : sx_wf n v) (hm : n ≤ m) : sx_wf m v := fun q => Nat.lt_of_lt_of_le (h q) hm
theorem sx_ce_ag {W0 : Nat} {ρ ρ' : Nat → Int} {n m : Nat} {w : mxW} {a : Nat} {c : sxc} (hc : sx_ce W0 ρ n w a c) (hm : n ≤ m) (h : ∀ j, j < n → ρ' j = ρ j) : sx_ce W0 ρ' m w a c := by
  obtain ⟨h1, h2⟩ := hc
  refine ⟨h1, ?_⟩
  obtain ⟨t, l, lo, hi, fl, els⟩ := c
  cases els with
  | none => exact h2
  | some vs =>
    intro j v hv
    obtain ⟨q1, q2⟩ := h2 j v hv
    exact ⟨sx_wf_le q1 hm, by rw [q2]; exact (sx_val_ag q1 h).symm⟩
/-- a state under more symbols -/
theorem sx_γ_ag {W0 : Nat} {S : Nat → Prop} {ρ ρ' : Nat → Int} {E E' : List sxe} {la : List (Nat × sxv)} {sa : List sxv} {H : List (Nat × sxc)} {c : Nat} {lv : mxV} {st : List Value} {w : mxW} (h : sx_γ W0 S ρ (E, la, sa, H, c) lv st w) (hE : sx_env E' ρ') (hl : E.length ≤ E'.length) (ha : ∀ j, j < E.length → ρ' j = ρ j) : sx_γ W0 S ρ' (E', la, sa, H, c) lv st w := by
  obtain ⟨h1, ⟨h2, h3⟩, ⟨h4, h5⟩, h6, h7, h8⟩ := h
  refine ⟨hE, ⟨?_, fun q hq => sx_wf_le (h3 q hq) hl⟩, ⟨?_, fun q hq => sx_wf_le (h5 q hq) hl⟩, fun q hq => ⟨sx_ce_ag (h6 q hq).1 hl ha, (h6 q hq).2⟩, h7, h8⟩
  · rw [h2]
    exact List.map_congr_left (fun q hq => by unfold sx_lv; rw [sx_val_ag (h3 q hq) ha])
  · rw [h4]
    exact List.map_congr_left (fun q hq => (sx_val_ag (h5 q hq) ha).symm)
theorem sx_env_new {E : List sxe} {ρ : Nat → Int} (h : sx_env E ρ) {z lo hi : Int} {fl : Nat} (h1 : lo ≤ z) (h2 : z ≤ hi) (h3 : fl = 1 → sx_V z) : sx_env (E ++ [(lo, hi, fl, 0)]) (sx_up ρ E.length z) := by
  obtain ⟨h0, hl, h⟩ := h
  refine ⟨by rw [sx_up_lt hl]; exact h0, by rw [List.length_append]; omega, fun i e he => ?_⟩
  rw [List.length_append]
  rcases Nat.lt_or_ge i E.length with hi' | hi'
  · rw [List.getElem?_append_left hi'] at he
    obtain ⟨q1, q2, q3, q4, q5⟩ := h i e he
    rw [sx_up_lt hi', sx_up_lt q4]
    exact ⟨q1, q2, q3, by omega, q5⟩
  · rw [List.getElem?_append_right hi'] at he
    have hi2 : i = E.length := by
      rcases Nat.lt_or_ge (i - E.length) 1 with q | q
      · omega
      · rw [List.getElem?_eq_none (by simpa using q)] at he
        cases he
    subst hi2
    rw [Nat.sub_self] at he
    cases he
    rw [sx_up_eq]
    exact ⟨h1, h2, h3, by simp, fun q => absurd rfl q⟩
/-- bounds that hold may be kept -/
theorem sx_meet_ok {E : List sxe} {ρ : Nat → Int} (h : sx_env E ρ) {v : sxv} {a b : Int} (h1 : a ≤ ρ v.2.1 + v.2.2) (h2 : ρ v.2.1 + v.2.2 ≤ b) : ∃ E', sx_meet E v a b = some E' ∧ sx_env E' ρ ∧ E'.length = E.length := by
  unfold sx_meet
  split
  · rename_i e he
    obtain ⟨h0, hl, h⟩ := h
    obtain ⟨q1, q2, q3, q4, q5⟩ := h _ e he
    have hd : decide (max e.1 (a - v.2.2) ≤ min e.2.1 (b - v.2.2)) = true := decide_eq_true (by omega)
    rw [hd]
    refine ⟨_, rfl, ⟨h0, by rw [List.length_set]; exact hl, fun i f hf => ?_⟩, List.length_set⟩
    rw [List.length_set]
    by_cases hi : i = v.2.1
    · subst hi
      rw [List.getElem?_set_self (List.getElem?_eq_some_iff.mp he).1] at hf
      cases hf
      exact ⟨by dsimp only; omega, by dsimp only; omega, q3, q4, q5⟩
    · rw [List.getElem?_set_ne (Ne.symm hi)] at hf
      exact h i f hf
  · exact ⟨E, rfl, h, rfl⟩
