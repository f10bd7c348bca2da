/-! a call by contract is sound -/
theorem sx_ad_1000 (W0 : Nat) : sx_ad W0 1000 = W0 := by
  unfold sx_ad
  rw [show Nat.blt 1000 1000 = false by decide]
  show W0 + (1000 - 1000) = W0
  rw [Nat.sub_self, Nat.add_zero]
theorem sx_t2_lt {σ : List (Nat × Int)} {n m i : Nat} (h : i < σ.length) : (sx_t2 σ n m)[i]? = σ[i]? := by
  unfold sx_t2
  exact List.getElem?_append_left h
theorem sx_t2_ge {σ : List (Nat × Int)} {n m i : Nat} (h : σ.length ≤ i) (h2 : i < σ.length + m) : (sx_t2 σ n m)[i]? = some (n + (i - σ.length), 0) := by
  unfold sx_t2
  rw [List.getElem?_append_right h, List.getElem?_map, List.getElem?_range (by omega)]
  rfl
theorem sx_t2_len {σ : List (Nat × Int)} {n m : Nat} : (sx_t2 σ n m).length = σ.length + m := by
  unfold sx_t2
  rw [List.length_append, List.length_map, List.length_range]
/-- the caller's symbols behind a call -/
def sx_jo (n nK : Nat) (ρ ρ' : Nat → Int) : Nat → Int := fun j => if j < n then ρ j else ρ' (nK + (j - n))
theorem sx_jo_ρ {σ : List (Nat × Int)} {n m : Nat} {ρ ρ' : Nat → Int} (hσ : ∀ q ∈ σ, q.1 < n) (ha : ∀ j, j < σ.length → ρ' j = sx_ρ σ ρ j) {i : Nat} (hi : i < σ.length + m) : sx_ρ (sx_t2 σ n m) (sx_jo n σ.length ρ ρ') i = ρ' i := by
  rcases Nat.lt_or_ge i σ.length with h | h
  · obtain ⟨q, hq⟩ : ∃ q, σ[i]? = some q := ⟨_, List.getElem?_eq_getElem h⟩
    rw [sx_ρ_at ((sx_t2_lt h).trans hq), ha i h, sx_ρ_at hq]
    unfold sx_jo
    rw [if_pos (hσ q (List.mem_of_getElem? hq))]
  · rw [sx_ρ_at (sx_t2_ge h hi)]
    unfold sx_jo
    dsimp only
    rw [if_neg (by omega), Int.add_zero]
    congr 1
    omega
theorem sx_jo_val {W0 W1 : Nat} {σ : List (Nat × Int)} {n m : Nat} {ρ ρ' : Nat → Int} (hσ : ∀ q ∈ σ, q.1 < n) (ha : ∀ j, j < σ.length → ρ' j = sx_ρ σ ρ j) {v : sxv} (hw : sx_wf (σ.length + m) v) (hk : sx_vk v = true) : sx_val W0 (sx_jo n σ.length ρ ρ') (sx_sb (sx_t2 σ n m) v) = sx_val W1 ρ' v := by
  rw [sx_sb_val (W1 := W1) (by rw [sx_t2_len]; exact hw) (Or.inr hk)]
  exact sx_val_ag (n := σ.length + m) hw (fun j hj => sx_jo_ρ hσ ha hj)
theorem sx_sb_wf {σ : List (Nat × Int)} {n m : Nat} (hσ : ∀ q ∈ σ, q.1 < n) {v : sxv} (hw : sx_wf (σ.length + m) v) : sx_wf (n + m) (sx_sb (sx_t2 σ n m) v) := by
  unfold sx_sb
  cases hb : Nat.blt v.1 2 with
  | false =>
    intro q
    have q : v.1 < 2 := q
    rw [Nat.blt_eq.mpr q] at hb
    cases hb
  | true =>
    have hl := hw (Nat.blt_eq.mp hb)
    show sx_wf _ (match (sx_t2 σ n m)[v.2.1]? with | some q => (v.1, q.1, q.2 + v.2.2) | none => v)
    rcases Nat.lt_or_ge v.2.1 σ.length with h | h
    · obtain ⟨q, hq⟩ : ∃ q, σ[v.2.1]? = some q := ⟨_, List.getElem?_eq_getElem h⟩
      rw [(sx_t2_lt h).trans hq]
      intro _
      show q.1 < n + m
      have := hσ q (List.mem_of_getElem? hq)
      omega
    · rw [sx_t2_ge h hl]
      intro _
      show n + (v.2.1 - σ.length) < n + m
      omega
theorem sx_env_app {E E1 : List sxe} {σ : List (Nat × Int)} {ρ ρ' : Nat → Int} {EP : List sxe} (h1 : sx_env E1 ρ) (hl : E1.length = E.length) (hP : sx_env EP ρ') (hσ : ∀ q ∈ σ, q.1 < E.length) (ha : ∀ j, j < σ.length → ρ' j = sx_ρ σ ρ j) (hle : σ.length ≤ EP.length) : sx_env (E1 ++ (EP.drop σ.length).map (sx_nE (sx_t2 σ E.length (EP.length - σ.length)))) (sx_jo E.length σ.length ρ ρ') := by
  have hLen : (E1 ++ (EP.drop σ.length).map (sx_nE (sx_t2 σ E.length (EP.length - σ.length)))).length = E.length + (EP.length - σ.length) := by
    rw [List.length_append, List.length_map, List.length_drop, hl]
  have hlt : ∀ j, j < E.length → sx_jo E.length σ.length ρ ρ' j = ρ j := fun j hj => if_pos hj
  refine ⟨?_, ?_, fun i e he => ?_⟩
  · rw [hlt 0 (by rw [← hl]; exact h1.2.1)]
    exact h1.1
  · rw [hLen]
    have := h1.2.1
    omega
  · rw [hLen]
    rcases Nat.lt_or_ge i E.length with h | h
    · rw [List.getElem?_append_left (by rw [hl]; exact h)] at he
      obtain ⟨g1, g2, g3, g4, g5⟩ := h1.2.2 i e he
      rw [hl] at g4
      rw [hlt i h, hlt _ g4]
      exact ⟨g1, g2, g3, by omega, g5⟩
    · rw [List.getElem?_append_right (by rw [hl]; exact h), hl, List.getElem?_map, List.getElem?_drop] at he
      obtain ⟨f, hf, rfl⟩ := Option.map_eq_some_iff.mp he
      have hfl := (List.getElem?_eq_some_iff.mp hf).1
      obtain ⟨g1, g2, g3, g4, g5⟩ := hP.2.2 _ f hf
      have ei : sx_jo E.length σ.length ρ ρ' i = ρ' (σ.length + (i - E.length)) := if_neg (by omega)
      rw [ei]
      have key : ∀ k, k = (sx_nE (sx_t2 σ E.length (EP.length - σ.length)) f).2.2.2 → k < E.length + (EP.length - σ.length) ∧ (k ≠ 0 → 1 ≤ sx_jo E.length σ.length ρ ρ' k → ρ' (σ.length + (i - E.length)) ≤ 8) := by
        intro k hk
        have hpos := h1.2.1
        unfold sx_nE at hk
        replace hk : k = cond (Nat.beq f.2.2.2 0) 0 (match (sx_t2 σ E.length (EP.length - σ.length))[f.2.2.2]? with | some q => cond (decide (q.2 = 0)) q.1 0 | none => 0) := hk
        cases hb : Nat.beq f.2.2.2 0 with
        | true =>
          rw [hb] at hk
          replace hk : k = 0 := hk
          exact ⟨by omega, fun q => absurd hk q⟩
        | false =>
          rw [hb] at hk
          have hne : f.2.2.2 ≠ 0 := fun q => by rw [q] at hb; cases hb
          have hρ := sx_jo_ρ (m := EP.length - σ.length) hσ ha (i := f.2.2.2) (by omega)
          obtain ⟨q, hq⟩ : ∃ q, (sx_t2 σ E.length (EP.length - σ.length))[f.2.2.2]? = some q := ⟨_, List.getElem?_eq_getElem (by rw [sx_t2_len]; omega)⟩
          rw [hq] at hk
          rw [sx_ρ_at hq] at hρ
          replace hk : k = cond (decide (q.2 = 0)) q.1 0 := hk
          cases hd : decide (q.2 = 0) with
          | false =>
            rw [hd] at hk
            replace hk : k = 0 := hk
            exact ⟨by omega, fun q => absurd hk q⟩
          | true =>
            rw [hd] at hk
            replace hk : k = q.1 := hk
            have hz := of_decide_eq_true hd
            refine ⟨?_, fun _ hg => ?_⟩
            · have hw := sx_sb_wf (m := EP.length - σ.length) hσ (v := (0, f.2.2.2, 0)) (fun _ => by show f.2.2.2 < _; omega)
              unfold sx_sb at hw
              replace hw : sx_wf _ (match (sx_t2 σ E.length (EP.length - σ.length))[f.2.2.2]? with | some q => (0, q.1, q.2 + 0) | none => (0, f.2.2.2, 0)) := hw
              rw [hq] at hw
              rw [hk]
              exact hw (show (0 : Nat) < 2 by decide)
            · rw [hk] at hg
              rw [hz, Int.add_zero] at hρ
              rw [hρ] at hg
              exact g5 hne hg
      obtain ⟨k1, k2⟩ := key _ rfl
      exact ⟨g1, g2, g3, k1, k2⟩
theorem sx_sbc_ok {W0 W1 : Nat} {σ : List (Nat × Int)} {n m : Nat} {ρ ρ' : Nat → Int} (hσ : ∀ q ∈ σ, q.1 < n) (ha : ∀ j, j < σ.length → ρ' j = sx_ρ σ ρ j) {w : mxW} {x : Nat} {p : sxc} (hk : sx_ck p = true) (h : sx_ce W1 ρ' (σ.length + m) w x p) : sx_ce W0 (sx_jo n σ.length ρ ρ') (n + m) w x (sx_sbc (sx_t2 σ n m) p) := by
  obtain ⟨t, l, lo, hi, fl, els⟩ := p
  cases els with
  | none => exact h
  | some vs =>
    refine ⟨h.1, fun j v hv => ?_⟩
    replace hv : (vs.map (sx_sb (sx_t2 σ n m)))[j]? = some v := hv
    rw [List.getElem?_map] at hv
    obtain ⟨u, hu, rfl⟩ := Option.map_eq_some_iff.mp hv
    obtain ⟨g1, g2⟩ := h.2 j u hu
    refine ⟨sx_sb_wf hσ g1, ?_⟩
    rw [sx_jo_val (W1 := W1) hσ ha g1 (List.all_eq_true.mp hk u (List.mem_of_getElem? hu))]
    exact g2
theorem sx_call_ok {z : Nat} {K : sxK} (hC : sx_C z K) {W0 : Nat} {S : Nat → Prop} {ρ : Nat → Int} {E : List sxe} {la : List (Nat × sxv)} {sa r args : List sxv} {H : List (Nat × sxc)} {c pc : Nat} {lv : mxV} {st : List Value} {w : mxW} {σ : List (Nat × Int)} {R : List (Nat × sxA)} (h : sx_γ W0 S ρ (E, la, sa, H, c) lv st w) (wr : ∀ v ∈ r, sx_wf E.length v) (hR : sx_callR K σ args pc E la r H c = some R) : ∃ q ∈ R, ∃ (ρ' : Nat → Int) (w' : mxW) (rv : Option Value), (∀ j, j < E.length → ρ' j = ρ j) ∧ E.length ≤ q.2.1.length ∧ q.1 = pc ∧ mxRn z 0 (lv_args 0 (args.map (sx_val W0 ρ))) [] w (rv, w') ∧ sx_γ W0 S ρ' q.2 lv (rv.toList ++ r.map (sx_val W0 ρ)) w' ∧ sx_Fr S w w' := by
  unfold sx_callR at hR
  obtain ⟨hb, hR⟩ := sx_cd hR
  cases hR
  simp only [Bool.and_eq_true] at hb
  obtain ⟨⟨⟨b1, b2⟩, b3⟩, b4⟩ := hb
  obtain ⟨e1, e2, e3⟩ := sx_envm_ok h.1 b1
  have hargs : args.map (sx_val W0 ρ) = K.2.1.map (sx_val w.1.length (sx_ρ σ ρ)) := sx_map2 (f := sx_vm false E σ) (fun a b g => (sx_vm_ok h.1 (fun q => by cases q) g).1) b2
  have hcells : ∀ q ∈ K.2.2.1, q.1 < 1000 ∧ ∃ a, H.lookup q.1 = some a ∧ sx_ce w.1.length (sx_ρ σ ρ) K.1.length w q.1 q.2 ∧ (q.2.2.2.2.2.1 < 2 → S q.1) ∧ q.1 < w.1.length := by
    intro q hq
    have g := List.all_eq_true.mp b3 q hq
    rw [Bool.and_eq_true] at g
    have hk : q.1 < 1000 := Nat.blt_eq.mp (by simpa using g.1)
    have g2 := g.2
    split at g2
    · rename_i a ha
      have hq2 := h.2.2.2.1 _ (sx_hl ha)
      obtain ⟨c1, c2⟩ := sx_cm_ok (W0 := W0) (W1 := w.1.length) h.1 (fun q => by cases q) g2 hq2.1
      have had : sx_ad W0 q.1 = q.1 := sx_ad_lt hk
      have hlen : q.1 < w.1.length := by
        have := (List.getElem?_eq_some_iff.mp hq2.1.1).1
        dsimp only at this
        rw [had] at this
        exact this
      rw [e2] at c1
      dsimp only at c1
      rw [had] at c1
      refine ⟨hk, a, ha, c1, fun hf => ?_, hlen⟩
      have := hq2.2.1 (c2 hf)
      dsimp only at this
      rw [had] at this
      exact this
    · cases g2
  have hγK : sx_γ w.1.length (fun a => w.1.length ≤ a ∨ ∃ q ∈ K.2.2.1, q.2.2.2.2.2.1 < 2 ∧ q.1 = a) (sx_ρ σ ρ) (K.1, sx_la 0 K.2.1, [], K.2.2.1, 1000) (lv_args 0 (K.2.1.map (sx_val w.1.length (sx_ρ σ ρ)))) [] w := by
    refine ⟨e1, ⟨(sx_la_args _ _).symm, fun q hq => ?_⟩, ⟨rfl, fun v hv => absurd hv List.not_mem_nil⟩, fun q hq => ?_, (sx_ad_1000 _).symm, fun a ha => Or.inl ha⟩
    · have : ∀ (l : List sxv) (k : Nat), (∀ v ∈ l, sx_wf K.1.length v) → ∀ q ∈ sx_la k l, sx_wf K.1.length q.2 := by
        intro l
        induction l with
        | nil => intro k _ q hq; cases hq
        | cons v t ih =>
          intro k hl q hq
          rcases List.mem_cons.mp hq with rfl | hq
          · exact hl v List.mem_cons_self
          · exact ih _ (fun u hu => hl u (List.mem_cons_of_mem _ hu)) q hq
      refine this _ _ (fun v hv => ?_) q hq
      obtain ⟨a, -, g⟩ := sx_mem2 b2 v hv
      rw [← e2]
      exact (sx_vm_ok (W0 := W0) (W1 := w.1.length) h.1 (fun q => by cases q) g).2
    · obtain ⟨k1, a, k2, k3, k4, k5⟩ := hcells q hq
      show sx_ce _ _ _ _ (sx_ad _ q.1) _ ∧ (_ → _ ∨ _) ∧ _
      rw [sx_ad_lt k1]
      exact ⟨k3, fun hf => Or.inr ⟨q, hq, hf, rfl⟩, fun _ => k5⟩
  obtain ⟨p, hp, ρ', w', a1, a2, a3, a4, a5⟩ := hC _ _ _ _ hγK
  have hlw : w'.1.length = w.1.length := a4.2.2.2.2.1.trans (sx_ad_1000 _)
  have a1' : ∀ j, j < σ.length → ρ' j = sx_ρ σ ρ j := fun j hj => a1 j (by rw [← e2]; exact hj)
  have a2' : σ.length ≤ p.1.length := by rw [e2]; exact a2
  have hpk := List.all_eq_true.mp b4 p hp
  unfold sx_pk at hpk
  rw [Bool.and_eq_true] at hpk
  obtain ⟨pk1, pk2⟩ := hpk
  obtain ⟨E1, f1, f2, f3⟩ := sx_mtE_ok (l := p.1) (σ := σ) h.1 (fun i e q he hq => by
    have g := a4.1.2.2 i e he
    have hi := (List.getElem?_eq_some_iff.mp hq).1
    rw [a1' i hi, sx_ρ_at hq] at g
    exact ⟨g.1, g.2.1⟩)
  have hsum : σ.length + (p.1.length - σ.length) = p.1.length := by omega
  have hLen : (E1 ++ (p.1.drop σ.length).map (sx_nE (sx_t2 σ E.length (p.1.length - σ.length)))).length = E.length + (p.1.length - σ.length) := by
    rw [List.length_append, List.length_map, List.length_drop, f3]
  have hjo : ∀ j, j < E.length → sx_jo E.length σ.length ρ ρ' j = ρ j := fun j hj => if_pos hj
  have hFr : sx_Fr S w w' := by
    refine ⟨a5.1, fun a ha => a5.2 a (fun g => ha ?_)⟩
    rcases g with g | ⟨q, hq, hf, rfl⟩
    · exact h.2.2.2.2.2 a g
    · obtain ⟨k1, a, k2, k3, k4, k5⟩ := hcells q hq
      exact k4 hf
  refine ⟨(pc, (E1 ++ (p.1.drop σ.length).map (sx_nE (sx_t2 σ E.length (p.1.length - σ.length))), la, p.2.1.toList.map (sx_sb (sx_t2 σ E.length (p.1.length - σ.length))) ++ r, sx_hq (sx_t2 σ E.length (p.1.length - σ.length)) K.2.2.1 p.2.2 H, c)), List.mem_filterMap.mpr ⟨p, hp, by unfold sx_pst; rw [f1]⟩, sx_jo E.length σ.length ρ ρ', w', p.2.1.map (sx_val w.1.length ρ'), hjo, by rw [hLen]; exact Nat.le_add_right _ _, rfl, by rw [hargs]; exact a3, ⟨sx_env_app f2 f3 a4.1 e3 a1' a2', ⟨?_, fun q hq => ?_⟩, ⟨?_, fun v hv => ?_⟩, fun q hq => ?_, ?_, ?_⟩, hFr⟩
  · rw [h.2.1.1]
    exact List.map_congr_left (fun q hq => by unfold sx_lv; rw [sx_val_ag (h.2.1.2 q hq) hjo])
  · rw [hLen]
    exact sx_wf_le (h.2.1.2 q hq) (Nat.le_add_right _ _)
  · show _ = List.map _ (_ ++ r)
    rw [List.map_append]
    congr 1
    · cases hpr : p.2.1 with
      | none => rfl
      | some v =>
        have hv : v ∈ p.2.1.toList := by rw [hpr]; exact List.mem_singleton.mpr rfl
        have wv := a4.2.2.1.2 v hv
        show [sx_val w.1.length ρ' v] = [sx_val W0 _ (sx_sb _ v)]
        rw [sx_jo_val (W1 := w.1.length) e3 a1' (by rw [hsum]; exact wv) (List.all_eq_true.mp pk1 v hv)]
    · exact List.map_congr_left (fun v hv => (sx_val_ag (wr v hv) hjo).symm)
  · show sx_wf (List.length _) v
    rw [hLen]
    rcases List.mem_append.mp hv with hv | hv
    · obtain ⟨u, hu, rfl⟩ := List.mem_map.mp hv
      exact sx_sb_wf e3 (by rw [hsum]; exact a4.2.2.1.2 u hu)
    · exact sx_wf_le (wr v hv) (Nat.le_add_right _ _)
  · show sx_cq W0 S _ (List.length _) w' q
    rw [hLen]
    obtain ⟨q0, hq0, e⟩ := List.mem_filterMap.mp hq
    have hc0 := h.2.2.2.1 q0 hq0
    cases hrw : sx_rw K.2.2.1 q0.1 with
    | true =>
      rw [hrw] at e
      replace e : (match p.2.2.lookup q0.1 with | some c => some (q0.1, sx_sbc (sx_t2 σ E.length (p.1.length - σ.length)) c) | none => none) = some q := e
      split at e
      · rename_i cl hcl
        cases e
        obtain ⟨u, hu, hu2⟩ := List.any_eq_true.mp hrw
        rw [Bool.and_eq_true] at hu2
        have hu3 := sx_bq hu2.1
        obtain ⟨k1, a, k2, k3, k4, k5⟩ := hcells u hu
        rw [hu3] at k1 k4 k5
        have hpm := a4.2.2.2.1 _ (sx_hl hcl)
        have hpk := List.all_eq_true.mp pk2 _ (sx_hl hcl)
        rw [Bool.and_eq_true] at hpk
        have hce := hpm.1
        dsimp only at hce
        rw [sx_ad_lt k1] at hce
        refine ⟨?_, fun _ => ?_, hc0.2.2⟩
        · dsimp only
          rw [sx_ad_lt k1]
          exact sx_sbc_ok e3 a1' hpk.2 (by rw [hsum]; exact hce)
        · dsimp only
          rw [sx_ad_lt k1]
          exact k4 (Nat.blt_eq.mp hu2.2)
      · cases e
    | false =>
      rw [hrw] at e
      cases e
      have hin := (List.getElem?_eq_some_iff.mp hc0.1.1).1
      have hout : ¬ (w.1.length ≤ sx_ad W0 q.1 ∨ ∃ u ∈ K.2.2.1, u.2.2.2.2.2.1 < 2 ∧ u.1 = sx_ad W0 q.1) := by
        rintro (g | ⟨u, hu, hf, g⟩)
        · omega
        · obtain ⟨k1, a, k2, k3, k4, k5⟩ := hcells u hu
          have hua := h.2.2.2.1 _ (sx_hl k2)
          have : u.1 = q.1 := sx_ad_inj (W0 := W0) hua.2.2 hc0.2.2 (by rw [sx_ad_lt k1]; exact g)
          have hbad : sx_rw K.2.2.1 q.1 = true := List.any_eq_true.mpr ⟨u, hu, by rw [this, Nat.beq_refl, Nat.blt_eq.mpr hf]; rfl⟩
          rw [hbad] at hrw
          cases hrw
      obtain ⟨x, hx⟩ := a5.1
      refine ⟨sx_ce_ag (sx_ce_cg hc0.1 ?_ (a5.2 _ hout)) (Nat.le_add_right _ _) hjo, hc0.2⟩
      rw [hx, List.getElem?_append_left hin]
  · show w'.1.length = _
    rw [hlw]
    exact h.2.2.2.2.1
  · intro a ha
    rw [hlw] at ha
    exact h.2.2.2.2.2 a ha
