/-! arrays -/
theorem sx_γ_tl {W0 : Nat} {S : Nat → Prop} {ρ : Nat → Int} {E : List sxe} {la : List (Nat × sxv)} {sa r : List sxv} {H : List (Nat × sxc)} {c : Nat} {lv : mxV} {st : List Value} {w : mxW} (h : sx_γ W0 S ρ (E, la, sa, H, c) lv st w) (wr : ∀ v ∈ r, sx_wf E.length v) : sx_γ W0 S ρ (E, la, r, H, c) lv (r.map (sx_val W0 ρ)) w := ⟨h.1, h.2.1, ⟨rfl, wr⟩, h.2.2.2⟩
theorem sx_val_nu {W0 : Nat} {ρ : Nat → Int} {w : mxW} {a t j tag n : Nat} (ht : (tag = 0 ∧ (t = 0 ∨ t = 2 ∨ t = 3)) ∨ (tag = 1 ∧ t = 1)) : sx_el w a t j = sx_val W0 (sx_up ρ n (sx_nu w a t j)) (tag, n, 0) := by
  rcases ht with ⟨rfl, rfl | rfl | rfl⟩ | ⟨rfl, rfl⟩
  · rw [sx_v0 rfl]; dsimp only; rw [sx_up_eq, Int.add_zero]; show Value.int _ = _; congr 1; exact (Int32.ofInt_toInt _).symm
  · rw [sx_v0 rfl]; dsimp only; rw [sx_up_eq, Int.add_zero]; show Value.int _ = _; congr 1; exact (Int32.ofInt_toInt _).symm
  · rw [sx_v0 rfl]; dsimp only; rw [sx_up_eq, Int.add_zero]; show Value.int _ = _; congr 1; exact (Int32.ofInt_toInt _).symm
  · rw [sx_v1 rfl]; dsimp only; rw [sx_up_eq, Int.add_zero]; show Value.long _ = _; congr 1; exact (Int64.ofInt_toInt _).symm
theorem sx_ld_ok {W0 : Nat} {S : Nat → Prop} {i : mxi} {pc pc' : Nat} {op : Instr} {ρ : Nat → Int} {E : List sxe} {la : List (Nat × sxv)} {sa r : List sxv} {H : List (Nat × sxc)} {c : Nat} {lv : mxV} {st : List Value} {w : mxW} {R : List (Nat × sxA)} {tag k : Nat} {ts : List Nat} {x : sxv} (hR : sx_ld tag ts pc' E la x k r H c = some R) (h : sx_γ W0 S ρ (E, la, sa, H, c) lv st w) (wr : ∀ v ∈ r, sx_wf E.length v) (hts : ∀ t, ts.contains t = true → (tag = 0 ∧ (t = 0 ∨ t = 2 ∨ t = 3)) ∨ (tag = 1 ∧ t = 1))
    (hm : ∀ (t n : Nat), ts.contains t = true → w.1[sx_ad W0 k]? = some (t, n) → mxin (Int32.ofInt (ρ x.2.1 + x.2.2)) n = true → ∀ (k' : Nat → mxV → List Value → mxW → Option mxR) (call : Nat → List Value → mxW → Option mxR), mxS i pc op lv st w k' call = k' pc' lv (sx_el w (sx_ad W0 k) t (Int32.ofInt (ρ x.2.1 + x.2.2)).toNatClampNeg :: r.map (sx_val W0 ρ)) w) : sx_Ok W0 S i pc op ρ E.length lv st w R := by
  unfold sx_ld at hR
  split at hR
  · rename_i t n lo hi fl els q hk hq
    obtain ⟨hb, hR⟩ := sx_cd hR
    simp only [Bool.and_eq_true] at hb
    obtain ⟨⟨hb1, hb2⟩, hb3⟩ := hb
    have hz := sx_rg_ok h.1 hq
    have e32 := sx_i32_ok hb2 hz.1 hz.2
    obtain ⟨x0, x1, x2⟩ := sx_ix_ok hb3 hz
    obtain ⟨m1, m2⟩ := sx_mxin e32 x1 x2
    have hce := (h.2.2.2.1 _ (sx_hl hk)).1
    have hm := hm t n hb1 hce.1 m1
    rw [m2] at hm
    have hj : (ρ x.2.1 + x.2.2).toNat < n := by omega
    split at hR
    · have hce2 := hce.2
      obtain ⟨g1, g2, g3⟩ := hce2.2 _ hj
      exact sx_okn h hR ⟨g1, g2⟩ g3 (sx_val_nu (hts t hb1)) wr hm
    · rename_i vs
      have hzn : ρ x.2.1 + x.2.2 = ((ρ x.2.1 + x.2.2).toNat : Int) := by omega
      obtain ⟨E1, q1, f1, f2, f3, f4⟩ := sx_sp_ok h.1 hzn hR (sx_rn_ok x0 hz)
      split at f1
      · rename_i v hv
        obtain ⟨ht, f1⟩ := sx_cd f1
        cases f1
        obtain ⟨g1, g2⟩ := hce.2 _ v hv
        refine ⟨_, f2, ρ, lv, _, w, fun _ _ => rfl, Nat.le_of_eq f4.symm, ⟨f3, ⟨h.2.1.1, fun q hq => ?_⟩, ⟨?_, fun u hu => ?_⟩, fun q hq => ?_, h.2.2.2.2.1, h.2.2.2.2.2⟩, sx_Fr.rf, hm⟩
        · show sx_wf E1.length q.2
          rw [f4]
          exact h.2.1.2 q hq
        · show _ :: _ = List.map _ (v :: r)
          rw [List.map_cons, ← g2]
        · show sx_wf E1.length u
          rw [f4]
          exact sx_cons_wf g1 wr u hu
        · show sx_cq W0 S ρ E1.length w q
          rw [f4]
          exact h.2.2.2.1 q hq
      · cases f1
  · cases hR
theorem sxo_iald {W0 : Nat} {S : Nat → Prop} {i : mxi} {pc : Nat} {ρ : Nat → Int} {E : List sxe} {la : List (Nat × sxv)} {sa : List sxv} {H : List (Nat × sxc)} {c : Nat} {w : mxW} {R : List (Nat × sxA)} (hR : sx_o_ald 0 [0] (pc + 1) E la sa H c = some R) (h : sx_γ W0 S ρ (E, la, sa, H, c) (la.map (sx_lv W0 ρ)) (sa.map (sx_val W0 ρ)) w) : sx_Ok W0 S i pc .iaload ρ E.length (la.map (sx_lv W0 ρ)) (sa.map (sx_val W0 ρ)) w R := by
  unfold sx_o_ald at hR
  split at hR
  · rename_i y x r
    obtain ⟨ht, hR⟩ := sx_cd hR
    rw [Bool.and_eq_true] at ht
    refine sx_ld_ok hR h (sx_tl_wf (sx_tl_wf h.2.2.1.2)) (fun t hts => ?_) (fun t n hts hw hin k call => ?_)
    · have : t = 0 := by simpa using hts
      exact Or.inl ⟨rfl, Or.inl this⟩
    · have : t = 0 := by simpa using hts
      subst this
      rw [List.map_cons, List.map_cons, sx_v0 (sx_bq ht.1), sx_v2 (sx_bq ht.2)]
      simp only [mxS, hw, hin, cond_true]
      rfl
  · cases hR
theorem sxo_lald {W0 : Nat} {S : Nat → Prop} {i : mxi} {pc : Nat} {ρ : Nat → Int} {E : List sxe} {la : List (Nat × sxv)} {sa : List sxv} {H : List (Nat × sxc)} {c : Nat} {w : mxW} {R : List (Nat × sxA)} (hR : sx_o_ald 1 [1] (pc + 1) E la sa H c = some R) (h : sx_γ W0 S ρ (E, la, sa, H, c) (la.map (sx_lv W0 ρ)) (sa.map (sx_val W0 ρ)) w) : sx_Ok W0 S i pc .laload ρ E.length (la.map (sx_lv W0 ρ)) (sa.map (sx_val W0 ρ)) w R := by
  unfold sx_o_ald at hR
  split at hR
  · rename_i y x r
    obtain ⟨ht, hR⟩ := sx_cd hR
    rw [Bool.and_eq_true] at ht
    refine sx_ld_ok hR h (sx_tl_wf (sx_tl_wf h.2.2.1.2)) (fun t hts => ?_) (fun t n hts hw hin k call => ?_)
    · have : t = 1 := by simpa using hts
      exact Or.inr ⟨rfl, this⟩
    · have : t = 1 := by simpa using hts
      subst this
      rw [List.map_cons, List.map_cons, sx_v0 (sx_bq ht.1), sx_v2 (sx_bq ht.2)]
      simp only [mxS, hw, hin, cond_true]
      rfl
  · cases hR
theorem sxo_bald {W0 : Nat} {S : Nat → Prop} {i : mxi} {pc : Nat} {ρ : Nat → Int} {E : List sxe} {la : List (Nat × sxv)} {sa : List sxv} {H : List (Nat × sxc)} {c : Nat} {w : mxW} {R : List (Nat × sxA)} (hR : sx_o_ald 0 [2, 3] (pc + 1) E la sa H c = some R) (h : sx_γ W0 S ρ (E, la, sa, H, c) (la.map (sx_lv W0 ρ)) (sa.map (sx_val W0 ρ)) w) : sx_Ok W0 S i pc .baload ρ E.length (la.map (sx_lv W0 ρ)) (sa.map (sx_val W0 ρ)) w R := by
  unfold sx_o_ald at hR
  split at hR
  · rename_i y x r
    obtain ⟨ht, hR⟩ := sx_cd hR
    rw [Bool.and_eq_true] at ht
    refine sx_ld_ok hR h (sx_tl_wf (sx_tl_wf h.2.2.1.2)) (fun t hts => ?_) (fun t n hts hw hin k call => ?_)
    · have : t = 2 ∨ t = 3 := by simpa using hts
      exact Or.inl ⟨rfl, Or.inr this⟩
    · have h23 : t = 2 ∨ t = 3 := by simpa using hts
      rw [List.map_cons, List.map_cons, sx_v0 (sx_bq ht.1), sx_v2 (sx_bq ht.2)]
      rcases h23 with rfl | rfl
      · simp only [mxS, hw, hin, cond_true]
        rfl
      · simp only [mxS, hw, hin, cond_true]
        rfl
  · cases hR
theorem sxo_sld {W0 : Nat} {S : Nat → Prop} {i : mxi} {pc : Nat} {ρ : Nat → Int} {E : List sxe} {la : List (Nat × sxv)} {sa : List sxv} {H : List (Nat × sxc)} {c : Nat} {w : mxW} {R : List (Nat × sxA)} (hR : sx_o_sld (pc + 1) E la sa H c = some R) (h : sx_γ W0 S ρ (E, la, sa, H, c) (la.map (sx_lv W0 ρ)) (sa.map (sx_val W0 ρ)) w) : sx_Ok W0 S i pc .iaload ρ E.length (la.map (sx_lv W0 ρ)) (sa.map (sx_val W0 ρ)) w R := by
  unfold sx_o_sld at hR
  split at hR
  · rename_i y x r
    obtain ⟨ht, hR⟩ := sx_cd hR
    rw [Bool.and_eq_true] at ht
    have wr := sx_tl_wf (sx_tl_wf h.2.2.1.2)
    split at hR
    · rename_i n f q hs hq
      obtain ⟨hb, hR⟩ := sx_cd hR
      rw [Bool.and_eq_true] at hb
      have hz := sx_rg_ok h.1 hq
      have e32 := sx_i32_ok hb.1 hz.1 hz.2
      obtain ⟨x0, x1, x2⟩ := sx_ix_ok hb.2 hz
      obtain ⟨m1, m2⟩ := sx_mxin e32 x1 x2
      have hzn : ρ y.2.1 + y.2.2 = ((ρ y.2.1 + y.2.2).toNat : Int) := by omega
      obtain ⟨E1, q1, f1, f2, f3, f4⟩ := sx_sp_ok h.1 hzn hR (sx_rn_ok x0 hz)
      cases f1
      refine ⟨_, f2, ρ, _, _, w, fun _ _ => rfl, Nat.le_of_eq f4.symm, ⟨f3, ⟨h.2.1.1, fun q hq => ?_⟩, ⟨rfl, fun u hu => ?_⟩, fun q hq => ?_, h.2.2.2.2.1, h.2.2.2.2.2⟩, sx_Fr.rf, fun k call => ?_⟩
      · show sx_wf E1.length q.2
        rw [f4]
        exact h.2.1.2 q hq
      · show sx_wf E1.length u
        rw [f4]
        exact sx_cons_wf (fun _ => h.1.2.1) wr u hu
      · show sx_cq W0 S ρ E1.length w q
        rw [f4]
        exact h.2.2.2.1 q hq
      · rw [List.map_cons, List.map_cons, sx_v0 (sx_bq ht.1), sx_v3 (sx_bq ht.2), List.map_cons, sx_k0 h.1.1]
        simp only [mxS, hs, m1, m2, cond_true]
    · cases hR
  · cases hR
/-- an array's cell behind a write -/
theorem sx_aw {W0 : Nat} {ρ : Nat → Int} {n : Nat} {w w' : mxW} {a t m j : Nat} {lo hi : Int} {fl : Nat} {vs : List sxv} {v : sxv} (hc : sx_ce W0 ρ n w a (t, m, lo, hi, fl, some vs)) (h1 : w'.1 = w.1) (hv : sx_wf n v) (e : sx_el w' a t j = sx_val W0 ρ v) (ho : ∀ k, k ≠ j → sx_el w' a t k = sx_el w a t k) : sx_ce W0 ρ n w' a (t, m, lo, hi, fl, some (vs.set j v)) := by
  refine ⟨by rw [h1]; exact hc.1, fun k u hu => ?_⟩
  by_cases hk : k = j
  · subst hk
    rcases Nat.lt_or_ge k vs.length with q | q
    · rw [List.getElem?_set_self q] at hu
      cases hu
      exact ⟨hv, e⟩
    · rw [List.getElem?_eq_none (by rw [List.length_set]; exact q)] at hu
      cases hu
  · rw [List.getElem?_set_ne (Ne.symm hk)] at hu
    obtain ⟨g1, g2⟩ := hc.2 k u hu
    refine ⟨g1, ?_⟩
    rw [← g2]
    exact ho k hk
theorem sx_fl_ok {E : List sxe} {ρ : Nat → Int} (hE : sx_env E ρ) {v : sxv} (h : sx_fl E v = true) : sx_V (ρ v.2.1 + v.2.2) := by
  unfold sx_fl at h
  obtain ⟨h0, h⟩ : v.2.2 = 0 ∧ (match E[v.2.1]? with | some e => Nat.beq e.2.2.1 1 | none => false) = true := by
    cases hd : decide (v.2.2 = 0) with
    | true => rw [hd] at h; exact ⟨of_decide_eq_true hd, h⟩
    | false => rw [hd] at h; cases h
  split at h
  · rename_i e he
    rw [h0, Int.add_zero]
    exact (hE.2.2 _ e he).2.2.1 (sx_bq h)
  · cases h
theorem sx_sd_ok {W0 : Nat} {S : Nat → Prop} {i : mxi} {pc pc' : Nat} {op : Instr} {ρ : Nat → Int} {E : List sxe} {la : List (Nat × sxv)} {sa r : List sxv} {H : List (Nat × sxc)} {c : Nat} {lv : mxV} {st : List Value} {w : mxW} {R : List (Nat × sxA)} {tag k : Nat} {ts : List Nat} {v x : sxv} (hR : sx_sd tag ts pc' E la v x k r H c = some R) (h : sx_γ W0 S ρ (E, la, sa, H, c) lv st w) (wv : sx_wf E.length v) (wr : ∀ v ∈ r, sx_wf E.length v)
    (hm : ∀ (t n : Nat) (qv : Int × Int) (j : Nat), ts.contains t = true → w.1[sx_ad W0 k]? = some (t, n) → mxin (Int32.ofInt (ρ x.2.1 + x.2.2)) n = true → (Int32.ofInt (ρ x.2.1 + x.2.2)).toNatClampNeg = j → v.1 = tag → (cond (Nat.beq t 3) (sx_in qv 0 1) true) = true → (cond (Nat.beq t 2) (sx_in qv (-128) 127) true) = true → (cond (Nat.beq tag 0) (sx_i32 qv) (sx_i64 qv)) = true → (qv.1 ≤ ρ v.2.1 + v.2.2 ∧ ρ v.2.1 + v.2.2 ≤ qv.2) → ∃ w' : mxW, w'.1 = w.1 ∧ (∀ a, a ≠ sx_ad W0 k → w'.2.1 a = w.2.1 a ∧ w'.2.2.1 a = w.2.2.1 a ∧ w'.2.2.2 a = w.2.2.2 a) ∧ sx_el w' (sx_ad W0 k) t j = sx_val W0 ρ v ∧ sx_nu w' (sx_ad W0 k) t j = ρ v.2.1 + v.2.2 ∧ (∀ k', k' ≠ j → sx_el w' (sx_ad W0 k) t k' = sx_el w (sx_ad W0 k) t k' ∧ sx_nu w' (sx_ad W0 k) t k' = sx_nu w (sx_ad W0 k) t k') ∧ ∀ (k' : Nat → mxV → List Value → mxW → Option mxR) (call : Nat → List Value → mxW → Option mxR), mxS i pc op lv st w k' call = k' pc' lv (r.map (sx_val W0 ρ)) w') : sx_Ok W0 S i pc op ρ E.length lv st w R := by
  unfold sx_sd at hR
  split at hR
  · rename_i t n lo hi fl els q qv hk hq hqv
    obtain ⟨hb, hR⟩ := sx_cd hR
    simp only [Bool.and_eq_true] at hb
    obtain ⟨⟨⟨⟨⟨⟨⟨b1, b2⟩, b3⟩, b4⟩, b5⟩, b6⟩, b7⟩, b8⟩ := hb
    have hz := sx_rg_ok h.1 hq
    have hzv := sx_rg_ok h.1 hqv
    have e32 := sx_i32_ok b2 hz.1 hz.2
    obtain ⟨x0, x1, x2⟩ := sx_ix_ok b3 hz
    obtain ⟨m1, m2⟩ := sx_mxin e32 x1 x2
    have hce := (h.2.2.2.1 _ (sx_hl hk)).1
    have hfl : fl < 2 := Nat.blt_eq.mp b8
    obtain ⟨w', g0, g1, g2, g3, g4, g5⟩ := hm t n qv _ b1 hce.1 m1 m2 (sx_bq b4) b6 b7 b5 hzv
    split at hR
    · obtain ⟨c1, hR⟩ := sx_cd hR
      rw [Bool.and_eq_true] at c1
      cases hR
      have hin := sx_in_ok c1.1 hzv
      refine sx_wr (cl' := (t, n, lo, hi, fl, none)) h h.1 rfl hk hfl wr g0 g1 ⟨by rw [g0]; exact hce.1, hce.2.1, fun j hj => ?_⟩ g5 List.mem_cons_self
      by_cases hjj : j = (ρ x.2.1 + x.2.2).toNat
      · subst hjj
        show lo ≤ sx_nu w' (sx_ad W0 k) t _ ∧ sx_nu w' (sx_ad W0 k) t _ ≤ hi ∧ (fl % 2 = 1 → sx_V (sx_nu w' (sx_ad W0 k) t _))
        rw [g3]
        refine ⟨hin.1, hin.2, fun hf => ?_⟩
        have c2 := c1.2
        rw [Bool.or_eq_true] at c2
        rcases c2 with c2 | c2
        · rw [sx_bq c2] at hf
          cases hf
        · exact sx_fl_ok h.1 c2
      · show lo ≤ sx_nu w' (sx_ad W0 k) t _ ∧ sx_nu w' (sx_ad W0 k) t _ ≤ hi ∧ (fl % 2 = 1 → sx_V (sx_nu w' (sx_ad W0 k) t _))
        rw [(g4 j hjj).2]
        exact hce.2.2 j hj
    · rename_i vs
      have hzn : ρ x.2.1 + x.2.2 = ((ρ x.2.1 + x.2.2).toNat : Int) := by omega
      obtain ⟨E1, q1, f1, f2, f3, f4⟩ := sx_sp_ok h.1 hzn hR (sx_rn_ok x0 hz)
      cases f1
      exact sx_wr h f3 f4 hk hfl wr g0 g1 (sx_aw hce g0 wv g2 (fun k' hk' => (g4 k' hk').1)) g5 f2
  · cases hR
theorem sx_vnb {x : Int32} (h : -128 ≤ x.toInt ∧ x.toInt ≤ 127) : vp_nar .byte x = x := by
  show x.toInt8.toInt32 = x
  have hx : x.toInt8.toInt = x.toInt := by
    rw [Int32.toInt_toInt8]
    exact Int.bmod_eq_of_le (by omega) (by omega)
  rw [← Int32.toInt_inj, Int8.toInt_toInt32, hx]
theorem sx_vnz {x : Int32} (h : 0 ≤ x.toInt ∧ x.toInt ≤ 1) : vp_nar .boolean x = x := by
  have hz : x = 0 ∨ x = 1 := by
    rcases (show x.toInt = 0 ∨ x.toInt = 1 by omega) with e | e
    · exact Or.inl (Int32.toInt_inj.mp e)
    · exact Or.inr (Int32.toInt_inj.mp e)
  rcases hz with rfl | rfl <;> rfl
theorem sx_pi_el {w : mxW} {a j t : Nat} {x : Int32} (ht : t = 0 ∨ t = 2 ∨ t = 3) : sx_el (mxpi w a j x) a t j = .int x ∧ sx_nu (mxpi w a j x) a t j = x.toInt ∧ ∀ k, k ≠ j → sx_el (mxpi w a j x) a t k = sx_el w a t k ∧ sx_nu (mxpi w a j x) a t k = sx_nu w a t k := by
  have e1 : (mxpi w a j x).2.1 a j = x := by simp [mxpi, mxI, upd]
  have e2 : ∀ k, k ≠ j → (mxpi w a j x).2.1 a k = w.2.1 a k := fun k hk => by simp [mxpi, mxI, upd, hk]
  rcases ht with rfl | rfl | rfl <;> exact ⟨congrArg Value.int e1, congrArg Int32.toInt e1, fun k hk => ⟨congrArg Value.int (e2 k hk), congrArg Int32.toInt (e2 k hk)⟩⟩
theorem sx_pj_el {w : mxW} {a j : Nat} {x : Int64} : sx_el (mxpj w a j x) a 1 j = .long x ∧ sx_nu (mxpj w a j x) a 1 j = x.toInt ∧ ∀ k, k ≠ j → sx_el (mxpj w a j x) a 1 k = sx_el w a 1 k ∧ sx_nu (mxpj w a j x) a 1 k = sx_nu w a 1 k := by
  have e1 : (mxpj w a j x).2.2.1 a j = x := by simp [mxpj, mxJ, vp_updL]
  have e2 : ∀ k, k ≠ j → (mxpj w a j x).2.2.1 a k = w.2.2.1 a k := fun k hk => by simp [mxpj, mxJ, vp_updL, hk]
  exact ⟨congrArg Value.long e1, congrArg Int64.toInt e1, fun k hk => ⟨congrArg Value.long (e2 k hk), congrArg Int64.toInt (e2 k hk)⟩⟩
theorem sxo_iast {W0 : Nat} {S : Nat → Prop} {i : mxi} {pc : Nat} {ρ : Nat → Int} {E : List sxe} {la : List (Nat × sxv)} {sa : List sxv} {H : List (Nat × sxc)} {c : Nat} {w : mxW} {R : List (Nat × sxA)} (hR : sx_o_ast 0 [0] (pc + 1) E la sa H c = some R) (h : sx_γ W0 S ρ (E, la, sa, H, c) (la.map (sx_lv W0 ρ)) (sa.map (sx_val W0 ρ)) w) : sx_Ok W0 S i pc .iastore ρ E.length (la.map (sx_lv W0 ρ)) (sa.map (sx_val W0 ρ)) w R := by
  unfold sx_o_ast at hR
  split at hR
  · rename_i v y x r
    obtain ⟨ht, hR⟩ := sx_cd hR
    rw [Bool.and_eq_true] at ht
    refine sx_sd_ok hR h (sx_hd_wf h.2.2.1.2) (sx_tl_wf (sx_tl_wf (sx_tl_wf h.2.2.1.2))) (fun t n qv j hts hw hin hj htag _ _ h32 hv => ?_)
    have : t = 0 := by simpa using hts
    subst this
    have e32 := sx_i32_ok (q := qv) h32 hv.1 hv.2
    obtain ⟨p1, p2, p3⟩ := sx_pi_el (w := w) (a := sx_ad W0 x.2.1) (j := j) (x := Int32.ofInt (ρ v.2.1 + v.2.2)) (t := 0) (Or.inl rfl)
    refine ⟨mxpi w (sx_ad W0 x.2.1) j (Int32.ofInt (ρ v.2.1 + v.2.2)), rfl, fun a ha => ⟨if_neg ha, rfl, rfl⟩, by rw [p1, sx_v0 htag], by rw [p2]; exact e32, p3, fun k call => ?_⟩
    rw [List.map_cons, List.map_cons, List.map_cons, sx_v0 htag, sx_v0 (sx_bq ht.1), sx_v2 (sx_bq ht.2)]
    simp only [mxS, hw, hin, hj, cond_true]
  · cases hR
theorem sxo_last {W0 : Nat} {S : Nat → Prop} {i : mxi} {pc : Nat} {ρ : Nat → Int} {E : List sxe} {la : List (Nat × sxv)} {sa : List sxv} {H : List (Nat × sxc)} {c : Nat} {w : mxW} {R : List (Nat × sxA)} (hR : sx_o_ast 1 [1] (pc + 1) E la sa H c = some R) (h : sx_γ W0 S ρ (E, la, sa, H, c) (la.map (sx_lv W0 ρ)) (sa.map (sx_val W0 ρ)) w) : sx_Ok W0 S i pc .lastore ρ E.length (la.map (sx_lv W0 ρ)) (sa.map (sx_val W0 ρ)) w R := by
  unfold sx_o_ast at hR
  split at hR
  · rename_i v y x r
    obtain ⟨ht, hR⟩ := sx_cd hR
    rw [Bool.and_eq_true] at ht
    refine sx_sd_ok hR h (sx_hd_wf h.2.2.1.2) (sx_tl_wf (sx_tl_wf (sx_tl_wf h.2.2.1.2))) (fun t n qv j hts hw hin hj htag _ _ h64 hv => ?_)
    have : t = 1 := by simpa using hts
    subst this
    have e64 := sx_i64_ok (q := qv) h64 hv.1 hv.2
    obtain ⟨p1, p2, p3⟩ := sx_pj_el (w := w) (a := sx_ad W0 x.2.1) (j := j) (x := Int64.ofInt (ρ v.2.1 + v.2.2))
    refine ⟨mxpj w (sx_ad W0 x.2.1) j (Int64.ofInt (ρ v.2.1 + v.2.2)), rfl, fun a ha => ⟨rfl, if_neg ha, rfl⟩, by rw [p1, sx_v1 htag], by rw [p2]; exact e64, p3, fun k call => ?_⟩
    rw [List.map_cons, List.map_cons, List.map_cons, sx_v1 htag, sx_v0 (sx_bq ht.1), sx_v2 (sx_bq ht.2)]
    simp only [mxS, hw, hin, hj, cond_true]
  · cases hR
theorem sxo_bast {W0 : Nat} {S : Nat → Prop} {i : mxi} {pc : Nat} {ρ : Nat → Int} {E : List sxe} {la : List (Nat × sxv)} {sa : List sxv} {H : List (Nat × sxc)} {c : Nat} {w : mxW} {R : List (Nat × sxA)} (hR : sx_o_ast 0 [2, 3] (pc + 1) E la sa H c = some R) (h : sx_γ W0 S ρ (E, la, sa, H, c) (la.map (sx_lv W0 ρ)) (sa.map (sx_val W0 ρ)) w) : sx_Ok W0 S i pc .bastore ρ E.length (la.map (sx_lv W0 ρ)) (sa.map (sx_val W0 ρ)) w R := by
  unfold sx_o_ast at hR
  split at hR
  · rename_i v y x r
    obtain ⟨ht, hR⟩ := sx_cd hR
    rw [Bool.and_eq_true] at ht
    refine sx_sd_ok hR h (sx_hd_wf h.2.2.1.2) (sx_tl_wf (sx_tl_wf (sx_tl_wf h.2.2.1.2))) (fun t n qv j hts hw hin hj htag t3 t2 h32 hv => ?_)
    have h23 : t = 2 ∨ t = 3 := by simpa using hts
    have e32 := sx_i32_ok (q := qv) h32 hv.1 hv.2
    obtain ⟨p1, p2, p3⟩ := sx_pi_el (w := w) (a := sx_ad W0 x.2.1) (j := j) (x := Int32.ofInt (ρ v.2.1 + v.2.2)) (t := t) (Or.inr h23)
    refine ⟨mxpi w (sx_ad W0 x.2.1) j (Int32.ofInt (ρ v.2.1 + v.2.2)), rfl, fun a ha => ⟨if_neg ha, rfl, rfl⟩, by rw [p1, sx_v0 htag], by rw [p2]; exact e32, p3, fun k call => ?_⟩
    rw [List.map_cons, List.map_cons, List.map_cons, sx_v0 htag, sx_v0 (sx_bq ht.1), sx_v2 (sx_bq ht.2)]
    rcases h23 with rfl | rfl
    · have en := sx_vnb (x := Int32.ofInt (ρ v.2.1 + v.2.2)) (by rw [e32]; exact sx_in_ok t2 hv)
      simp only [mxS, hw, hin, hj, cond_true, en]
    · have en := sx_vnz (x := Int32.ofInt (ρ v.2.1 + v.2.2)) (by rw [e32]; exact sx_in_ok t3 hv)
      simp only [mxS, hw, hin, hj, cond_true, en]
  · cases hR
theorem sxo_tsw {W0 : Nat} {S : Nat → Prop} {i : mxi} {pc : Nat} {ρ : Nat → Int} {E : List sxe} {la : List (Nat × sxv)} {sa : List sxv} {H : List (Nat × sxc)} {c : Nat} {w : mxW} {R : List (Nat × sxA)} {dflt lo hi : Int} {offs : Array Int} (hR : sx_o_tsw dflt lo hi offs pc E la sa H c = some R) (h : sx_γ W0 S ρ (E, la, sa, H, c) (la.map (sx_lv W0 ρ)) (sa.map (sx_val W0 ρ)) w) : sx_Ok W0 S i pc (.tableswitch dflt lo hi offs) ρ E.length (la.map (sx_lv W0 ρ)) (sa.map (sx_val W0 ρ)) w R := by
  unfold sx_o_tsw at hR
  split at hR
  · rename_i x r
    obtain ⟨ht, hR⟩ := sx_cd hR
    have wr := sx_tl_wf h.2.2.1.2
    split at hR
    · rename_i q td hq hd
      obtain ⟨hb, hR⟩ := sx_cd hR
      rw [Bool.and_eq_true, decide_eq_true_eq] at hb
      obtain ⟨hb, rfl⟩ := hb
      have hz := sx_rg_ok h.1 hq
      have e32 := sx_i32_ok hb hz.1 hz.2
      split at hR
      · rename_i R1 hR1
        by_cases hc : 0 ≤ ρ x.2.1 + x.2.2 ∧ ρ x.2.1 + x.2.2 ≤ hi
        · have hzn : ρ x.2.1 + x.2.2 = ((ρ x.2.1 + x.2.2).toNat : Int) := by omega
          obtain ⟨E1, q1, f1, f2, f3, f4⟩ := sx_sp_ok h.1 hzn hR1 (List.mem_range.mpr (by omega))
          have hin : q1 ∈ R := by
            cases hR
            cases sx_in q 0 hi with
            | true => exact f2
            | false => exact List.mem_cons_of_mem _ f2
          split at f1
          · rename_i off ho
            split at f1
            · rename_i t hj
              cases f1
              refine ⟨_, hin, ρ, _, _, w, fun _ _ => rfl, Nat.le_of_eq f4.symm, sx_γ_E h wr f3 f4, sx_Fr.rf, fun k call => ?_⟩
              rw [List.map_cons, sx_v0 (sx_bq ht)]
              have d1 : decide ((Int32.ofInt (ρ x.2.1 + x.2.2)).toInt < 0) = false := decide_eq_false (by rw [e32]; omega)
              have d2 : decide (hi < (Int32.ofInt (ρ x.2.1 + x.2.2)).toInt) = false := decide_eq_false (by rw [e32]; omega)
              have d3 : offs[((Int32.ofInt (ρ x.2.1 + x.2.2)).toInt - 0).toNat]? = some off := by rw [e32, Int.sub_zero]; exact ho
              simp only [mxS, d1, d2, Bool.or_false, cond_false, d3]
              rw [sx_j_ok hj]
            · cases f1
          · cases f1
        · have hout : sx_in q 0 hi = false := Bool.eq_false_iff.mpr (fun g => hc (sx_in_ok g hz))
          rw [hout] at hR
          cases hR
          refine ⟨_, List.mem_cons_self, ρ, _, _, w, fun _ _ => rfl, Nat.le_refl _, sx_γ_E h wr h.1 rfl, sx_Fr.rf, fun k call => ?_⟩
          rw [List.map_cons, sx_v0 (sx_bq ht)]
          have d1 : (decide ((Int32.ofInt (ρ x.2.1 + x.2.2)).toInt < 0) || decide (hi < (Int32.ofInt (ρ x.2.1 + x.2.2)).toInt)) = true := by
            rw [e32, Bool.or_eq_true, decide_eq_true_eq, decide_eq_true_eq]
            omega
          simp only [mxS, d1, cond_true]
          rw [sx_j_ok hd]
      · cases hR
    · cases hR
  · cases hR
theorem sx_lko {ps : List (Int × Int)} {dflt z : Int} (h : ∀ p ∈ ps, p.1 ≠ z) : Op.lookupswitch.offset ps dflt z = dflt := by
  induction ps with
  | nil => rfl
  | cons p l ih =>
    obtain ⟨a, o⟩ := p
    rw [Op.lookupswitch.offset_cons, if_neg (h (a, o) List.mem_cons_self)]
    exact ih (fun q hq => h q (List.mem_cons_of_mem _ hq))
theorem sxo_lsw {W0 : Nat} {S : Nat → Prop} {i : mxi} {pc : Nat} {ρ : Nat → Int} {E : List sxe} {la : List (Nat × sxv)} {sa : List sxv} {H : List (Nat × sxc)} {c : Nat} {w : mxW} {R : List (Nat × sxA)} {dflt : Int} {ps : Array (Int × Int)} (hR : sx_o_lsw dflt ps pc E la sa H c = some R) (h : sx_γ W0 S ρ (E, la, sa, H, c) (la.map (sx_lv W0 ρ)) (sa.map (sx_val W0 ρ)) w) : sx_Ok W0 S i pc (.lookupswitch dflt ps) ρ E.length (la.map (sx_lv W0 ρ)) (sa.map (sx_val W0 ρ)) w R := by
  unfold sx_o_lsw at hR
  split at hR
  · rename_i x r
    obtain ⟨ht, hR⟩ := sx_cd hR
    rw [Bool.and_eq_true] at ht
    have wr := sx_tl_wf h.2.2.1.2
    split at hR
    · rename_i q hq
      have hz := sx_rg_ok h.1 hq
      cases hb : sx_i32 q && sx_in q 0 64 with
      | true =>
        rw [hb] at hR
        replace hR : sx_sp E x (fun j E1 => match sx_j pc (Op.lookupswitch.offset ps.toList dflt j) with
          | some t => some (t, (E1, la, r, H, c))
          | none => none) (sx_rn q) = some R := hR
        rw [Bool.and_eq_true] at hb
        have e32 := sx_i32_ok hb.1 hz.1 hz.2
        have hin := sx_in_ok hb.2 (z := q.1) ⟨Int.le_refl _, by omega⟩
        have hzn : ρ x.2.1 + x.2.2 = ((ρ x.2.1 + x.2.2).toNat : Int) := by omega
        obtain ⟨E1, q1, f1, f2, f3, f4⟩ := sx_sp_ok h.1 hzn hR (sx_rn_ok hin.1 hz)
        split at f1
        · rename_i t hj
          cases f1
          refine ⟨_, f2, ρ, _, _, w, fun _ _ => rfl, Nat.le_of_eq f4.symm, sx_γ_E h wr f3 f4, sx_Fr.rf, fun k call => ?_⟩
          rw [List.map_cons, sx_v0 (sx_bq ht.1)]
          simp only [mxS, ht.2, cond_true]
          rw [e32, hzn, sx_j_ok hj]
        · cases f1
      | false =>
        rw [hb] at hR
        obtain ⟨hc, hR⟩ := sx_cd hR
        rw [Bool.and_eq_true] at hc
        have e32 := sx_i32_ok hc.1 hz.1 hz.2
        split at hR
        · rename_i td R1 hd hR1
          cases hR
          by_cases hin : 0 ≤ ρ x.2.1 + x.2.2 ∧ ρ x.2.1 + x.2.2 ≤ 64
          · have hzn : ρ x.2.1 + x.2.2 = ((ρ x.2.1 + x.2.2).toNat : Int) := by omega
            obtain ⟨E1, q1, f1, f2, f3, f4⟩ := sx_sp_ok h.1 hzn hR1 (List.mem_range.mpr (by omega))
            split at f1
            · rename_i t hj
              cases f1
              refine ⟨_, List.mem_cons_of_mem _ f2, ρ, _, _, w, fun _ _ => rfl, Nat.le_of_eq f4.symm, sx_γ_E h wr f3 f4, sx_Fr.rf, fun k call => ?_⟩
              rw [List.map_cons, sx_v0 (sx_bq ht.1)]
              simp only [mxS, ht.2, cond_true]
              rw [e32, hzn, sx_j_ok hj]
            · cases f1
          · refine ⟨_, List.mem_cons_self, ρ, _, _, w, fun _ _ => rfl, Nat.le_refl _, sx_γ_E h wr h.1 rfl, sx_Fr.rf, fun k call => ?_⟩
            rw [List.map_cons, sx_v0 (sx_bq ht.1)]
            simp only [mxS, ht.2, cond_true]
            rw [e32, sx_lko (fun p hp => by
              have g := List.all_eq_true.mp hc.2 p hp
              rw [Bool.and_eq_true, decide_eq_true_eq, decide_eq_true_eq] at g
              omega), sx_j_ok hd]
        · cases hR
    · cases hR
  · cases hR
