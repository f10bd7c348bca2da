/-! contracts at one world -/
def sx_Cw (z : Nat) (K : sxK) (W0 : Nat) (S : Nat → Prop) (ρ : Nat → Int) (w : mxW) : Prop := sx_γ W0 S ρ (K.1, sx_la 0 K.2.1, [], K.2.2.1, 1000) (lv_args 0 (K.2.1.map (sx_val W0 ρ))) [] w → ∃ p ∈ K.2.2.2, ∃ (ρ' : Nat → Int) (w' : mxW), (∀ j, j < K.1.length → ρ' j = ρ j) ∧ K.1.length ≤ p.1.length ∧ mxRn z 0 (lv_args 0 (K.2.1.map (sx_val W0 ρ))) [] w (p.2.1.map (sx_val W0 ρ'), w') ∧ sx_γ W0 S ρ' (p.1, [], p.2.1.toList, p.2.2, 1000) [] (p.2.1.toList.map (sx_val W0 ρ')) w' ∧ sx_Fr S w w'
theorem sx_call_w {z : Nat} {K : sxK} {w : mxW} {σ : List (Nat × Int)} {ρ : Nat → Int} (hC : ∀ (W0 : Nat) (S : Nat → Prop), sx_Cw z K W0 S (sx_ρ σ ρ) w) {W0 : Nat} {S : Nat → Prop} {E : List sxe} {la : List (Nat × sxv)} {sa r args : List sxv} {H : List (Nat × sxc)} {c pc : Nat} {lv : mxV} {st : List Value} {R : List (Nat × sxA)} (h : sx_γ W0 S ρ (E, la, sa, H, c) lv st w) (wr : ∀ v ∈ r, sx_wf E.length v) (hR : sx_callR K σ args pc E la r H c = some R) : ∃ q ∈ R, ∃ (ρ' : Nat → Int) (w' : mxW) (rv : Option Value), (∀ j, j < E.length → ρ' j = ρ j) ∧ E.length ≤ q.2.1.length ∧ q.1 = pc ∧ mxRn z 0 (lv_args 0 (args.map (sx_val W0 ρ))) [] w (rv, w') ∧ sx_γ W0 S ρ' q.2 lv (rv.toList ++ r.map (sx_val W0 ρ)) w' ∧ sx_Fr S w w' := by
  unfold sx_callR at hR
  obtain ⟨hb, hR⟩ := sx_cd hR
  cases hR
  simp only [Bool.and_eq_true] at hb
  obtain ⟨⟨⟨b1, b2⟩, b3⟩, b4⟩ := hb
  obtain ⟨e1, e2, e3⟩ := sx_envm_ok h.1 b1
  have hargs : args.map (sx_val W0 ρ) = K.2.1.map (sx_val w.1.length (sx_ρ σ ρ)) := sx_map2 (f := sx_vm false E σ) (fun a b g => (sx_vm_ok h.1 (fun q => by cases q) g).1) b2
  have hcells : ∀ q ∈ K.2.2.1, q.1 < 1000 ∧ ∃ a, H.lookup q.1 = some a ∧ sx_ce w.1.length (sx_ρ σ ρ) K.1.length w q.1 q.2 ∧ (q.2.2.2.2.2.1 < 2 → S q.1) ∧ q.1 < w.1.length := by
    intro q hq
    have g := List.all_eq_true.mp b3 q hq
    rw [Bool.and_eq_true] at g
    have hk : q.1 < 1000 := Nat.blt_eq.mp (by simpa using g.1)
    have g2 := g.2
    split at g2
    · rename_i a ha
      have hq2 := h.2.2.2.1 _ (sx_hl ha)
      obtain ⟨c1, c2⟩ := sx_cm_ok (W0 := W0) (W1 := w.1.length) h.1 (fun q => by cases q) g2 hq2.1
      have had : sx_ad W0 q.1 = q.1 := sx_ad_lt hk
      have hlen : q.1 < w.1.length := by
        have := (List.getElem?_eq_some_iff.mp hq2.1.1).1
        dsimp only at this
        rw [had] at this
        exact this
      rw [e2] at c1
      dsimp only at c1
      rw [had] at c1
      refine ⟨hk, a, ha, c1, fun hf => ?_, hlen⟩
      have := hq2.2.1 (c2 hf)
      dsimp only at this
      rw [had] at this
      exact this
    · cases g2
  have hγK : sx_γ w.1.length (fun a => w.1.length ≤ a ∨ ∃ q ∈ K.2.2.1, q.2.2.2.2.2.1 < 2 ∧ q.1 = a) (sx_ρ σ ρ) (K.1, sx_la 0 K.2.1, [], K.2.2.1, 1000) (lv_args 0 (K.2.1.map (sx_val w.1.length (sx_ρ σ ρ)))) [] w := by
    refine ⟨e1, ⟨(sx_la_args _ _).symm, fun q hq => ?_⟩, ⟨rfl, fun v hv => absurd hv List.not_mem_nil⟩, fun q hq => ?_, (sx_ad_1000 _).symm, fun a ha => Or.inl ha⟩
    · have : ∀ (l : List sxv) (k : Nat), (∀ v ∈ l, sx_wf K.1.length v) → ∀ q ∈ sx_la k l, sx_wf K.1.length q.2 := by
        intro l
        induction l with
        | nil => intro k _ q hq; cases hq
        | cons v t ih =>
          intro k hl q hq
          rcases List.mem_cons.mp hq with rfl | hq
          · exact hl v List.mem_cons_self
          · exact ih _ (fun u hu => hl u (List.mem_cons_of_mem _ hu)) q hq
      refine this _ _ (fun v hv => ?_) q hq
      obtain ⟨a, -, g⟩ := sx_mem2 b2 v hv
      rw [← e2]
      exact (sx_vm_ok (W0 := W0) (W1 := w.1.length) h.1 (fun q => by cases q) g).2
    · obtain ⟨k1, a, k2, k3, k4, k5⟩ := hcells q hq
      show sx_ce _ _ _ _ (sx_ad _ q.1) _ ∧ (_ → _ ∨ _) ∧ _
      rw [sx_ad_lt k1]
      exact ⟨k3, fun hf => Or.inr ⟨q, hq, hf, rfl⟩, fun _ => k5⟩
  obtain ⟨p, hp, ρ', w', a1, a2, a3, a4, a5⟩ := hC _ _ hγK
  have hlw : w'.1.length = w.1.length := a4.2.2.2.2.1.trans (sx_ad_1000 _)
  have a1' : ∀ j, j < σ.length → ρ' j = sx_ρ σ ρ j := fun j hj => a1 j (by rw [← e2]; exact hj)
  have a2' : σ.length ≤ p.1.length := by rw [e2]; exact a2
  have hpk := List.all_eq_true.mp b4 p hp
  unfold sx_pk at hpk
  rw [Bool.and_eq_true] at hpk
  obtain ⟨pk1, pk2⟩ := hpk
  obtain ⟨E1, f1, f2, f3⟩ := sx_mtE_ok (l := p.1) (σ := σ) h.1 (fun i e q he hq => by
    have g := a4.1.2.2 i e he
    have hi := (List.getElem?_eq_some_iff.mp hq).1
    rw [a1' i hi, sx_ρ_at hq] at g
    exact ⟨g.1, g.2.1⟩)
  have hsum : σ.length + (p.1.length - σ.length) = p.1.length := by omega
  have hLen : (E1 ++ (p.1.drop σ.length).map (sx_nE (sx_t2 σ E.length (p.1.length - σ.length)))).length = E.length + (p.1.length - σ.length) := by
    rw [List.length_append, List.length_map, List.length_drop, f3]
  have hjo : ∀ j, j < E.length → sx_jo E.length σ.length ρ ρ' j = ρ j := fun j hj => if_pos hj
  have hFr : sx_Fr S w w' := by
    refine ⟨a5.1, fun a ha => a5.2 a (fun g => ha ?_)⟩
    rcases g with g | ⟨q, hq, hf, rfl⟩
    · exact h.2.2.2.2.2 a g
    · obtain ⟨k1, a, k2, k3, k4, k5⟩ := hcells q hq
      exact k4 hf
  refine ⟨(pc, (E1 ++ (p.1.drop σ.length).map (sx_nE (sx_t2 σ E.length (p.1.length - σ.length))), la, p.2.1.toList.map (sx_sb (sx_t2 σ E.length (p.1.length - σ.length))) ++ r, sx_hq (sx_t2 σ E.length (p.1.length - σ.length)) K.2.2.1 p.2.2 H, c)), List.mem_filterMap.mpr ⟨p, hp, by unfold sx_pst; rw [f1]⟩, sx_jo E.length σ.length ρ ρ', w', p.2.1.map (sx_val w.1.length ρ'), hjo, by rw [hLen]; exact Nat.le_add_right _ _, rfl, by rw [hargs]; exact a3, ⟨sx_env_app f2 f3 a4.1 e3 a1' a2', ⟨?_, fun q hq => ?_⟩, ⟨?_, fun v hv => ?_⟩, fun q hq => ?_, ?_, ?_⟩, hFr⟩
  · rw [h.2.1.1]
    exact List.map_congr_left (fun q hq => by unfold sx_lv; rw [sx_val_ag (h.2.1.2 q hq) hjo])
  · rw [hLen]
    exact sx_wf_le (h.2.1.2 q hq) (Nat.le_add_right _ _)
  · show _ = List.map _ (_ ++ r)
    rw [List.map_append]
    congr 1
    · cases hpr : p.2.1 with
      | none => rfl
      | some v =>
        have hv : v ∈ p.2.1.toList := by rw [hpr]; exact List.mem_singleton.mpr rfl
        have wv := a4.2.2.1.2 v hv
        show [sx_val w.1.length ρ' v] = [sx_val W0 _ (sx_sb _ v)]
        rw [sx_jo_val (W1 := w.1.length) e3 a1' (by rw [hsum]; exact wv) (List.all_eq_true.mp pk1 v hv)]
    · exact List.map_congr_left (fun v hv => (sx_val_ag (wr v hv) hjo).symm)
  · show sx_wf (List.length _) v
    rw [hLen]
    rcases List.mem_append.mp hv with hv | hv
    · obtain ⟨u, hu, rfl⟩ := List.mem_map.mp hv
      exact sx_sb_wf e3 (by rw [hsum]; exact a4.2.2.1.2 u hu)
    · exact sx_wf_le (wr v hv) (Nat.le_add_right _ _)
  · show sx_cq W0 S _ (List.length _) w' q
    rw [hLen]
    obtain ⟨q0, hq0, e⟩ := List.mem_filterMap.mp hq
    have hc0 := h.2.2.2.1 q0 hq0
    cases hrw : sx_rw K.2.2.1 q0.1 with
    | true =>
      rw [hrw] at e
      replace e : (match p.2.2.lookup q0.1 with | some c => some (q0.1, sx_sbc (sx_t2 σ E.length (p.1.length - σ.length)) c) | none => none) = some q := e
      split at e
      · rename_i cl hcl
        cases e
        obtain ⟨u, hu, hu2⟩ := List.any_eq_true.mp hrw
        rw [Bool.and_eq_true] at hu2
        have hu3 := sx_bq hu2.1
        obtain ⟨k1, a, k2, k3, k4, k5⟩ := hcells u hu
        rw [hu3] at k1 k4 k5
        have hpm := a4.2.2.2.1 _ (sx_hl hcl)
        have hpk := List.all_eq_true.mp pk2 _ (sx_hl hcl)
        rw [Bool.and_eq_true] at hpk
        have hce := hpm.1
        dsimp only at hce
        rw [sx_ad_lt k1] at hce
        refine ⟨?_, fun _ => ?_, hc0.2.2⟩
        · dsimp only
          rw [sx_ad_lt k1]
          exact sx_sbc_ok e3 a1' hpk.2 (by rw [hsum]; exact hce)
        · dsimp only
          rw [sx_ad_lt k1]
          exact k4 (Nat.blt_eq.mp hu2.2)
      · cases e
    | false =>
      rw [hrw] at e
      cases e
      have hin := (List.getElem?_eq_some_iff.mp hc0.1.1).1
      have hout : ¬ (w.1.length ≤ sx_ad W0 q.1 ∨ ∃ u ∈ K.2.2.1, u.2.2.2.2.2.1 < 2 ∧ u.1 = sx_ad W0 q.1) := by
        rintro (g | ⟨u, hu, hf, g⟩)
        · omega
        · obtain ⟨k1, a, k2, k3, k4, k5⟩ := hcells u hu
          have hua := h.2.2.2.1 _ (sx_hl k2)
          have : u.1 = q.1 := sx_ad_inj (W0 := W0) hua.2.2 hc0.2.2 (by rw [sx_ad_lt k1]; exact g)
          have hbad : sx_rw K.2.2.1 q.1 = true := List.any_eq_true.mpr ⟨u, hu, by rw [this, Nat.beq_refl, Nat.blt_eq.mpr hf]; rfl⟩
          rw [hbad] at hrw
          cases hrw
      obtain ⟨x, hx⟩ := a5.1
      refine ⟨sx_ce_ag (sx_ce_cg hc0.1 ?_ (a5.2 _ hout)) (Nat.le_add_right _ _) hjo, hc0.2⟩
      rw [hx, List.getElem?_append_left hin]
  · show w'.1.length = _
    rw [hlw]
    exact h.2.2.2.2.1
  · intro a ha
    rw [hlw] at ha
    exact h.2.2.2.2.2 a ha

theorem sx_γ_wr {W0 : Nat} {S : Nat → Prop} {ρ : Nat → Int} {E : List sxe} {la : List (Nat × sxv)} {sa : List sxv} {H : List (Nat × sxc)} {c : Nat} {lv : mxV} {st : List Value} {w w' : mxW} {k : Nat} {cl cl' : sxc} (h : sx_γ W0 S ρ (E, la, sa, H, c) lv st w) (hk : H.lookup k = some cl) (hf : cl.2.2.2.2.1 < 2) (h1 : w'.1 = w.1) (ho : ∀ a, a ≠ sx_ad W0 k → w'.2.1 a = w.2.1 a ∧ w'.2.2.1 a = w.2.2.1 a ∧ w'.2.2.2 a = w.2.2.2 a) (hc : sx_ce W0 ρ E.length w' (sx_ad W0 k) cl') : sx_γ W0 S ρ (E, la, sa, sx_hset H k cl', c) lv st w' ∧ sx_Fr S w w' := by
  have hkm := h.2.2.2.1 _ (sx_hl hk)
  have hS := hkm.2.1 hf
  refine ⟨⟨h.1, h.2.1, h.2.2.1, fun q hq => ?_, ?_, ?_⟩, ⟨⟨[], by rw [h1, List.append_nil]⟩, fun a ha => ho a (fun e => ha (by rw [e]; exact hS))⟩⟩
  · have key : ∀ q0 ∈ H, q0.1 ≠ k → sx_cq W0 S ρ E.length w' q0 := by
      intro q0 hq0 hne
      have g := h.2.2.2.1 q0 hq0
      exact ⟨sx_ce_cg g.1 (by rw [h1]) (ho _ (fun e => hne (sx_ad_inj g.2.2 hkm.2.2 e))), g.2⟩
    have keyk : sx_cq W0 S ρ E.length w' (k, cl') := ⟨hc, fun _ => hS, hkm.2.2⟩
    replace hq : q ∈ sx_hset H k cl' := hq
    unfold sx_hset at hq
    obtain ⟨q0, hq0, e⟩ := List.mem_map.mp hq
    cases hb : Nat.beq q0.1 k with
    | true =>
      rw [hb] at e
      rw [← e]
      exact keyk
    | false =>
      rw [hb] at e
      replace e : q0 = q := e
      rw [← e]
      exact key q0 hq0 (fun e => by rw [e, Nat.beq_refl] at hb; cases hb)
  · show w'.1.length = _
    rw [h1]
    exact h.2.2.2.2.1
  · show ∀ a, w'.1.length ≤ a → S a
    rw [h1]
    exact h.2.2.2.2.2
/-- runs have one end -/
theorem mxRn_det {y pc : Nat} {lv : mxV} {st : List Value} {w : mxW} {r1 r2 : mxR} (h1 : mxRn y pc lv st w r1) (h2 : mxRn y pc lv st w r2) : r1 = r2 := by
  obtain ⟨N, h1⟩ := h1
  obtain ⟨M, h2⟩ := h2
  have a := h1 M
  have b := h2 N
  rw [Nat.add_comm] at b
  rw [a] at b
  exact Option.some.inj b
theorem po_C {a : Nat → Nat × Nat} {sh : List (Nat × Nat)} {I : Nat → Nat → Int32} {J : Nat → Nat → Int64} {Q : Nat → Nat → Value} {v : Int64} (hz : cz (I 24) 65536 < 65536) (hb : ∀ j, j < 65536 → 0 ≤ (I 24 j).toInt ∧ (I 24 j).toInt ≤ 20001) : ∃ h' : Int32, 0 ≤ h'.toInt ∧ h'.toInt < 65536 ∧ mxRn 115 0 [(0, .ref 9), (1, .long v)] [] (shW a sh, I, J, QW Q) (some (.int h'), (shW a sh, I, J, QW Q)) := by
  obtain ⟨z, hz1, hz2⟩ := cz_free hz
  have key : ∀ x : Int64, 0 ≤ ((x &&& 65535)).toInt32.toInt ∧ ((x &&& 65535)).toInt32.toInt < 65536 := fun x => by
    have c1 : (65535 : Int64).toInt = 65535 := rfl
    have g := sx_andl_r x 65535 (by rw [c1]; decide)
    rw [c1] at g
    rw [Int64.toInt_toInt32, Int.bmod_eq_of_le (by omega) (by omega)]
    omega
  have k1 := key ((v ^^^ ((v).toUInt64 >>> ((17 : Int32).toInt64.toUInt64 &&& Int64.toUInt64 63)).toInt64) ^^^ ((v).toUInt64 >>> ((31 : Int32).toInt64.toUInt64 &&& Int64.toUInt64 63)).toInt64)
  obtain ⟨h', b1, b2, b3⟩ := po_loop (a := a) (sh := sh) (J := J) (Q := Q) (v := v) hz1 hz2 hb _ ((((v ^^^ ((v).toUInt64 >>> ((17 : Int32).toInt64.toUInt64 &&& Int64.toUInt64 63)).toInt64) ^^^ ((v).toUInt64 >>> ((31 : Int32).toInt64.toUInt64 &&& Int64.toUInt64 63)).toInt64) &&& 65535)).toInt32 k1.1 k1.2 rfl
  exact ⟨h', b1, b2, po_0 b3⟩
theorem me_C {a : Nat → Nat × Nat} {sh : List (Nat × Nat)} {I : Nat → Nat → Int32} {J : Nat → Nat → Int64} {Q : Nat → Nat → Value} {v : Int64} {f l : Int32} (hz : cz (I 24) 65536 < 65536) (hb : ∀ j, j < 65536 → 0 ≤ (I 24 j).toInt ∧ (I 24 j).toInt ≤ 20001) (hn : 0 ≤ (I 9 28).toInt) : mxRn 116 0 [(0, .ref 9), (1, .long v), (3, .int f), (4, .int l)] [] (shW a sh, I, J, QW Q) (none, (shW a sh, I, J, QW Q)) ∨ ((I 9 28).toInt ≤ 20000 ∧ ∃ h : Int32, 0 ≤ h.toInt ∧ h.toInt < 65536 ∧ I 24 h.toInt.toNat = 0 ∧ mxRn 116 0 [(0, .ref 9), (1, .long v), (3, .int f), (4, .int l)] [] (shW a sh, I, J, QW Q) (none, (shW a sh, mxI (mxI (mxI (mxI I 22 (I 9 28).toNatClampNeg f) 23 (I 9 28).toNatClampNeg l) 9 28 (I 9 28 + 1)) 24 h.toNatClampNeg (I 9 28 + 1), mxJ J 21 (I 9 28).toNatClampNeg v, QW Q))) := by
  obtain ⟨h, h0, h1, hp⟩ := po_C (a := a) (sh := sh) (J := J) (Q := Q) (v := v) hz hb
  have hi := ix_ok h0 h1
  have head : ∀ res, mxRn 116 7 [(0, .ref 9), (1, .long v), (3, .int f), (4, .int l), (5, .int h)] [] (shW a sh, I, J, QW Q) res → mxRn 116 0 [(0, .ref 9), (1, .long v), (3, .int f), (4, .int l)] [] (shW a sh, I, J, QW Q) res := by
    intro res H
    refine mxRn.g2 2 0 (pc' := 2) (lv' := [(0, .ref 9), (1, .long v), (3, .int f), (4, .int l)]) (st' := [.long v, .ref 9]) (w' := (shW a sh, I, J, QW Q)) (fun n => rfl) ?_
    refine mxRn.c2 1 0 (z := 115) (pc' := 5) (lz := [(0, .ref 9), (1, .long v)]) (lv' := [(0, .ref 9), (1, .long v), (3, .int f), (4, .int l)]) (r := []) (w1 := (shW a sh, I, J, QW Q)) (wz := (shW a sh, I, J, QW Q)) (rz := some (.int h)) (fun n => rfl) hp ?_
    exact mxRn.g2 1 0 (pc' := 7) (lv' := [(0, .ref 9), (1, .long v), (3, .int f), (4, .int l), (5, .int h)]) (st' := []) (w' := (shW a sh, I, J, QW Q)) (fun n => rfl) H
  cases hz : Op.ifCond.holds .ne (I 24 h.toNatClampNeg) with
  | true => exact Or.inl (head _ (me_no hi hz me_end))
  | false =>
    cases hf : Op.if_icmp.holds .gt (I 9 28) 20000 with
    | true => exact Or.inl (head _ (me_full hi hz hf me_end))
    | false =>
      have hle : (I 9 28).toInt ≤ 20000 := by
        rcases Int.lt_or_le 20000 (I 9 28).toInt with g | g
        · rw [hc_gt_t 20000 rfl g] at hf
          cases hf
        · exact g
      have h24 : I 24 h.toInt.toNat = 0 := by
        by_cases g : I 24 h.toInt.toNat = 0
        · exact g
        · exfalso
          have : ¬ (I 24 h.toNatClampNeg).toInt = 0 := fun q => g (Int32.toInt_inj.mp q)
          rw [hd_ne_t this] at hz
          cases hz
      exact Or.inr ⟨hle, h, h0, h1, h24, head _ (me_put hi hz hf (ix_ok hn (by omega)) me_end)⟩
