/-! cells and states that a pattern covers -/
def sx_vm (b : Bool) (E : List sxe) (σ : List (Nat × Int)) (p a : sxv) : Bool := (!(Nat.blt p.1 2) || Nat.blt p.2.1 σ.length) && (b || sx_vk p) && sx_sm E (sx_sb σ p) a
theorem sx_vm_ok {b : Bool} {E : List sxe} {σ : List (Nat × Int)} {ρ : Nat → Int} {W0 W1 : Nat} {p a : sxv} (hE : sx_env E ρ) (hb : b = true → W0 = W1) (h : sx_vm b E σ p a = true) : sx_val W0 ρ a = sx_val W1 (sx_ρ σ ρ) p ∧ sx_wf σ.length p := by
  unfold sx_vm at h
  rw [Bool.and_eq_true, Bool.and_eq_true] at h
  obtain ⟨⟨h1, h2⟩, h3⟩ := h
  have hw : sx_wf σ.length p := fun q => by
    rw [Nat.blt_eq.mpr q] at h1
    exact Nat.blt_eq.mp (by simpa using h1)
  refine ⟨?_, hw⟩
  rw [← sx_sm_ok hE h3]
  refine sx_sb_val hw ?_
  rcases (Bool.or_eq_true _ _).mp h2 with g | g
  · exact Or.inl (hb g)
  · exact Or.inr g
def sx_cm (b : Bool) (E : List sxe) (σ : List (Nat × Int)) (p a : sxc) : Bool := Nat.beq p.1 a.1 && Nat.beq p.2.1 a.2.1 && (Nat.ble 2 p.2.2.2.2.1 || Nat.blt a.2.2.2.2.1 2) && (match p.2.2.2.2.2, a.2.2.2.2.2 with
  | none, none => decide (p.2.2.1 ≤ a.2.2.1) && decide (a.2.2.2.1 ≤ p.2.2.2.1) && (Nat.beq (p.2.2.2.2.1 % 2) 0 || Nat.beq (a.2.2.2.2.1 % 2) 1)
  | none, some vs => Nat.blt p.1 4 && Nat.ble p.2.1 vs.length && Nat.beq (p.2.2.2.2.1 % 2) 0 && vs.all (fun v => Nat.beq v.1 (cond (Nat.beq p.1 1) 1 0) && (match sx_rg E v with
    | some q => decide (p.2.2.1 ≤ q.1) && decide (q.2 ≤ p.2.2.2.1) && (cond (Nat.beq p.1 1) (sx_i64 q) (sx_i32 q))
    | none => false))
  | some ps, some vs => sx_all2 (sx_vm b E σ) ps vs
  | some _, none => false)
theorem sx_nu_el {W0 : Nat} {ρ : Nat → Int} {w : mxW} {x t j : Nat} {v : sxv} {q : Int × Int} (ht : t < 4) (hv : v.1 = cond (Nat.beq t 1) 1 0) (hq : q.1 ≤ ρ v.2.1 + v.2.2 ∧ ρ v.2.1 + v.2.2 ≤ q.2) (hr : (cond (Nat.beq t 1) (sx_i64 q) (sx_i32 q)) = true) (h : sx_el w x t j = sx_val W0 ρ v) : sx_nu w x t j = ρ v.2.1 + v.2.2 := by
  match t, ht with
  | 0, _ =>
    rw [sx_v0 hv] at h
    have h : w.2.1 x j = _ := Value.int.inj h
    show (w.2.1 x j).toInt = _
    rw [h]
    exact sx_i32_ok (q := q) hr hq.1 hq.2
  | 1, _ =>
    rw [sx_v1 hv] at h
    have h : w.2.2.1 x j = _ := Value.long.inj h
    show (w.2.2.1 x j).toInt = _
    rw [h]
    exact sx_i64_ok (q := q) hr hq.1 hq.2
  | 2, _ =>
    rw [sx_v0 hv] at h
    have h : w.2.1 x j = _ := Value.int.inj h
    show (w.2.1 x j).toInt = _
    rw [h]
    exact sx_i32_ok (q := q) hr hq.1 hq.2
  | 3, _ =>
    rw [sx_v0 hv] at h
    have h : w.2.1 x j = _ := Value.int.inj h
    show (w.2.1 x j).toInt = _
    rw [h]
    exact sx_i32_ok (q := q) hr hq.1 hq.2
theorem sx_cm_ok {b : Bool} {E : List sxe} {σ : List (Nat × Int)} {ρ : Nat → Int} {W0 W1 : Nat} {n : Nat} {w : mxW} {x : Nat} {p a : sxc} (hE : sx_env E ρ) (hb : b = true → W0 = W1) (h : sx_cm b E σ p a = true) (hc : sx_ce W0 ρ n w x a) : sx_ce W1 (sx_ρ σ ρ) σ.length w x p ∧ (p.2.2.2.2.1 < 2 → a.2.2.2.2.1 < 2) := by
  obtain ⟨t, m, lo, hi, fl, els⟩ := p
  obtain ⟨t', m', lo', hi', fl', els'⟩ := a
  unfold sx_cm at h
  rw [Bool.and_eq_true, Bool.and_eq_true, Bool.and_eq_true] at h
  obtain ⟨⟨⟨g1, g2⟩, h3⟩, h4⟩ := h
  have e1 : t = t' := sx_bq g1
  have e2 : m = m' := sx_bq g2
  clear g1 g2
  subst e1; subst e2
  refine ⟨⟨hc.1, ?_⟩, fun hf => ?_⟩
  · cases els with
    | none =>
      cases els' with
      | none =>
        simp only [Bool.and_eq_true, decide_eq_true_eq] at h4
        obtain ⟨⟨g1, g2⟩, g3⟩ := h4
        refine ⟨hc.2.1, fun j hj => ?_⟩
        obtain ⟨k1, k2, k3⟩ := hc.2.2 j hj
        have k1 : lo' ≤ sx_nu w x t j := k1
        have k2 : sx_nu w x t j ≤ hi' := k2
        refine ⟨Int.le_trans g1 k1, Int.le_trans k2 g2, fun hf => k3 ?_⟩
        rcases (Bool.or_eq_true _ _).mp g3 with g | g
        · have g := sx_bq g
          have hf : fl % 2 = 1 := hf
          rw [g] at hf
          cases hf
        · exact sx_bq g
      | some vs =>
        simp only [Bool.and_eq_true] at h4
        obtain ⟨⟨⟨g1, g2⟩, g3⟩, g4⟩ := h4
        have g1 := Nat.blt_eq.mp g1
        refine ⟨g1, fun j hj => ?_⟩
        have hl : j < vs.length := Nat.lt_of_lt_of_le hj (Nat.ble_eq.mp g2)
        obtain ⟨q1, q2⟩ := hc.2 j _ (List.getElem?_eq_getElem hl)
        have g := List.all_eq_true.mp g4 _ (List.getElem_mem hl)
        rw [Bool.and_eq_true] at g
        obtain ⟨ga, gb⟩ := g
        split at gb
        · rename_i q hq
          simp only [Bool.and_eq_true, decide_eq_true_eq] at gb
          have hr := sx_rg_ok hE hq
          have e := sx_nu_el g1 (sx_bq ga) hr gb.2 q2
          show lo ≤ sx_nu w x t j ∧ sx_nu w x t j ≤ hi ∧ (fl % 2 = 1 → sx_V (sx_nu w x t j))
          refine ⟨by rw [e]; omega, by rw [e]; omega, fun hf => ?_⟩
          rw [sx_bq g3] at hf
          cases hf
        · cases gb
    | some ps =>
      cases els' with
      | none => cases h4
      | some vs =>
        obtain ⟨hl, g⟩ := sx_all2_at h4
        intro j v hv
        have hj : j < vs.length := by rw [← hl]; exact (List.getElem?_eq_some_iff.mp hv).1
        obtain ⟨q1, q2⟩ := hc.2 j _ (List.getElem?_eq_getElem hj)
        obtain ⟨k1, k2⟩ := sx_vm_ok hE hb (g j v _ hv (List.getElem?_eq_getElem hj))
        exact ⟨k2, q2.trans k1⟩
  · rcases (Bool.or_eq_true _ _).mp h3 with g | g
    · have := Nat.ble_eq.mp g
      have hf : fl < 2 := hf
      omega
    · exact Nat.blt_eq.mp g
def sx_hm (b : Bool) (E : List sxe) (σ : List (Nat × Int)) (HK H : List (Nat × sxc)) : Bool := HK.all (fun q => (b || Nat.blt q.1 1000) && (match H.lookup q.1 with
  | some a => sx_cm b E σ q.2 a
  | none => false))
def sx_lm (b : Bool) (E : List sxe) (σ : List (Nat × Int)) (p a : Nat × sxv) : Bool := Nat.beq p.1 a.1 && sx_vm b E σ p.2 a.2
/-- a state that a pattern covers -/
def sx_sub (E : List sxe) (σ : List (Nat × Int)) (A B : sxA) : Bool := sx_envm E σ B.1 && sx_all2 (sx_lm true E σ) B.2.1 A.2.1 && sx_all2 (sx_vm true E σ) B.2.2.1 A.2.2.1 && sx_hm true E σ B.2.2.2.1 A.2.2.2.1 && Nat.beq A.2.2.2.2 B.2.2.2.2
theorem sx_map2 {α β γ : Type} {f : α → β → Bool} {g : α → γ} {k : β → γ} (hg : ∀ a b, f a b = true → k b = g a) : ∀ {l : List α} {m : List β}, sx_all2 f l m = true → m.map k = l.map g
  | [], [], _ => rfl
  | [], _ :: _, h => by cases h
  | _ :: _, [], h => by cases h
  | a :: l, b :: m, h => by
    unfold sx_all2 at h
    rw [Bool.and_eq_true] at h
    rw [List.map_cons, List.map_cons, hg a b h.1, sx_map2 hg h.2]
theorem sx_mem2 {α β : Type} {f : α → β → Bool} : ∀ {l : List α} {m : List β}, sx_all2 f l m = true → ∀ a ∈ l, ∃ b ∈ m, f a b = true
  | [], _, _, a, ha => by cases ha
  | _ :: _, [], h, _, _ => by cases h
  | x :: l, y :: m, h, a, ha => by
    unfold sx_all2 at h
    rw [Bool.and_eq_true] at h
    rcases List.mem_cons.mp ha with rfl | ha
    · exact ⟨y, List.mem_cons_self, h.1⟩
    · obtain ⟨b, hb, g⟩ := sx_mem2 h.2 a ha
      exact ⟨b, List.mem_cons_of_mem _ hb, g⟩
theorem sx_sub_ok {W0 : Nat} {S : Nat → Prop} {ρ : Nat → Int} {A B : sxA} {σ : List (Nat × Int)} {lv : mxV} {st : List Value} {w : mxW} (h : sx_γ W0 S ρ A lv st w) (hs : sx_sub A.1 σ A B = true) : sx_γ W0 S (sx_ρ σ ρ) B lv st w ∧ σ.length = B.1.length := by
  unfold sx_sub at hs
  simp only [Bool.and_eq_true] at hs
  obtain ⟨⟨⟨⟨s1, s2⟩, s3⟩, s4⟩, s5⟩ := hs
  obtain ⟨e1, e2, e3⟩ := sx_envm_ok h.1 s1
  refine ⟨⟨e1, ⟨?_, fun q hq => ?_⟩, ⟨?_, fun q hq => ?_⟩, fun q hq => ?_, ?_, h.2.2.2.2.2⟩, e2⟩
  · rw [h.2.1.1]
    exact sx_map2 (f := sx_lm true A.1 σ) (fun a b g => by
      unfold sx_lm at g
      rw [Bool.and_eq_true] at g
      unfold sx_lv
      rw [(sx_vm_ok h.1 (fun _ => rfl) g.2).1, sx_bq g.1]) s2
  · obtain ⟨b, hb, g⟩ := sx_mem2 s2 q hq
    unfold sx_lm at g
    rw [Bool.and_eq_true] at g
    rw [← e2]
    exact (sx_vm_ok (W0 := W0) (W1 := W0) h.1 (fun _ => rfl) g.2).2
  · rw [h.2.2.1.1]
    exact sx_map2 (f := sx_vm true A.1 σ) (fun a b g => (sx_vm_ok h.1 (fun _ => rfl) g).1) s3
  · obtain ⟨b, hb, g⟩ := sx_mem2 s3 q hq
    rw [← e2]
    exact (sx_vm_ok (W0 := W0) (W1 := W0) h.1 (fun _ => rfl) g).2
  · have g := List.all_eq_true.mp s4 q hq
    rw [Bool.and_eq_true] at g
    have g2 := g.2
    split at g2
    · rename_i a ha
      have hq2 := h.2.2.2.1 _ (sx_hl ha)
      obtain ⟨c1, c2⟩ := sx_cm_ok (W0 := W0) (W1 := W0) h.1 (fun _ => rfl) g2 hq2.1
      refine ⟨by rw [← e2]; exact c1, fun hf => hq2.2.1 (c2 hf), hq2.2.2⟩
    · cases g2
  · rw [h.2.2.2.2.1, sx_bq s5]
/-! calls -/
def sx_C (z : Nat) (K : sxK) : Prop := ∀ (W0 : Nat) (S : Nat → Prop) (ρ : Nat → Int) (w : mxW), sx_γ W0 S ρ (K.1, sx_la 0 K.2.1, [], K.2.2.1, 1000) (lv_args 0 (K.2.1.map (sx_val W0 ρ))) [] w → ∃ p ∈ K.2.2.2, ∃ (ρ' : Nat → Int) (w' : mxW), (∀ j, j < K.1.length → ρ' j = ρ j) ∧ K.1.length ≤ p.1.length ∧ mxRn z 0 (lv_args 0 (K.2.1.map (sx_val W0 ρ))) [] w (p.2.1.map (sx_val W0 ρ'), w') ∧ sx_γ W0 S ρ' (p.1, [], p.2.1.toList, p.2.2, 1000) [] (p.2.1.toList.map (sx_val W0 ρ')) w' ∧ sx_Fr S w w'
/-- what an end says of the caller's symbols -/
def sx_mtE (E : List sxe) : List sxe → List (Nat × Int) → Option (List sxe)
  | e :: l, q :: σ => match sx_meet E (0, q.1, q.2) e.1 e.2.1 with
    | some E1 => sx_mtE E1 l σ
    | none => none
  | _, _ => some E
theorem sx_mtE_ok : ∀ {l : List sxe} {σ : List (Nat × Int)} {E : List sxe} {ρ : Nat → Int}, sx_env E ρ → (∀ (i : Nat) (e : sxe) (q : Nat × Int), l[i]? = some e → σ[i]? = some q → e.1 ≤ ρ q.1 + q.2 ∧ ρ q.1 + q.2 ≤ e.2.1) → ∃ E1, sx_mtE E l σ = some E1 ∧ sx_env E1 ρ ∧ E1.length = E.length
  | [], _, E, ρ, hE, _ => ⟨E, rfl, hE, rfl⟩
  | _ :: _, [], E, ρ, hE, _ => ⟨E, rfl, hE, rfl⟩
  | e :: l, q :: σ, E, ρ, hE, h => by
    obtain ⟨E1, a1, a2, a3⟩ := sx_meet_ok hE (v := (0, q.1, q.2)) (a := e.1) (b := e.2.1) (h 0 e q rfl rfl).1 (h 0 e q rfl rfl).2
    obtain ⟨E2, b1, b2, b3⟩ := sx_mtE_ok (l := l) (σ := σ) a2 (fun i => h (i + 1))
    refine ⟨E2, ?_, b2, b3.trans a3⟩
    unfold sx_mtE
    rw [a1]
    exact b1
def sx_t2 (σ : List (Nat × Int)) (n m : Nat) : List (Nat × Int) := σ ++ (List.range m).map (fun j => (n + j, 0))
def sx_nE (σ : List (Nat × Int)) (e : sxe) : sxe := (e.1, e.2.1, e.2.2.1, cond (Nat.beq e.2.2.2 0) 0 (match σ[e.2.2.2]? with
  | some q => cond (decide (q.2 = 0)) q.1 0
  | none => 0))
def sx_sbc (σ : List (Nat × Int)) (c : sxc) : sxc := (c.1, c.2.1, c.2.2.1, c.2.2.2.1, c.2.2.2.2.1, c.2.2.2.2.2.map (List.map (sx_sb σ)))
def sx_rw (HK : List (Nat × sxc)) (k : Nat) : Bool := HK.any (fun u => Nat.beq u.1 k && Nat.blt u.2.2.2.2.2.1 2)
def sx_hq (σ : List (Nat × Int)) (HK HP : List (Nat × sxc)) (H : List (Nat × sxc)) : List (Nat × sxc) := H.filterMap (fun q => cond (sx_rw HK q.1) (match HP.lookup q.1 with
  | some c => some (q.1, sx_sbc σ c)
  | none => none) (some q))
def sx_ck (c : sxc) : Bool := match c.2.2.2.2.2 with
  | none => true
  | some vs => vs.all sx_vk
def sx_pk (p : List sxe × Option sxv × List (Nat × sxc)) : Bool := p.2.1.toList.all sx_vk && p.2.2.all (fun q => Nat.blt q.1 1000 && sx_ck q.2)
def sx_pst (E : List sxe) (σ : List (Nat × Int)) (pc : Nat) (la : List (Nat × sxv)) (r : List sxv) (HK H : List (Nat × sxc)) (c : Nat) (p : List sxe × Option sxv × List (Nat × sxc)) : Option (Nat × sxA) := match sx_mtE E p.1 σ with
  | some E1 => some (pc, (E1 ++ (p.1.drop σ.length).map (sx_nE (sx_t2 σ E.length (p.1.length - σ.length))), la, p.2.1.toList.map (sx_sb (sx_t2 σ E.length (p.1.length - σ.length))) ++ r, sx_hq (sx_t2 σ E.length (p.1.length - σ.length)) HK p.2.2 H, c))
  | none => none
def sx_callR (K : sxK) (σ : List (Nat × Int)) (args : List sxv) (pc : Nat) (E : List sxe) (la : List (Nat × sxv)) (r : List sxv) (H : List (Nat × sxc)) (c : Nat) : Option (List (Nat × sxA)) := cond (sx_envm E σ K.1 && sx_all2 (sx_vm false E σ) K.2.1 args && sx_hm false E σ K.2.2.1 H && K.2.2.2.all sx_pk) (some (K.2.2.2.filterMap (sx_pst E σ pc la r K.2.2.1 H c))) none
