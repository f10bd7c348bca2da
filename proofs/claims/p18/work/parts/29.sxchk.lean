/-! METHODS: cuts, ranks, ends -/
/-- a cut: place, state, rank -/
abbrev sxct : Type := Nat × sxA × Int × List (Int × Nat)
/-- symbols of the entry, key of the next cell, cuts, ends -/
abbrev sxM : Type := Nat × Nat × List sxct × List (List sxe × Option sxv × List (Nat × sxc))
def sx_rt (i : mxi) (op : Instr) (A : sxA) : Option (Option sxv) := match op, A.2.2.1 with
  | .ireturn, [v] => cond (Nat.beq v.1 0) (match mxi_r i with
    | some .int => some (some v)
    | some .boolean => (match sx_rg A.1 v with
      | some q => cond (sx_in q 0 1) (some (some v)) none
      | none => none)
    | _ => none) none
  | .lreturn, [v] => cond (Nat.beq v.1 1) (match mxi_r i with
    | some .long => some (some v)
    | _ => none) none
  | .areturn, [v] => cond (Nat.beq v.1 2 || Nat.beq v.1 3) (match mxi_r i with
    | some (.object _) => some (some v)
    | _ => none) none
  | .return_, [] => match mxi_r i with
    | none => some none
    | _ => none
  | _, _ => none
theorem sx_rt_ok {i : mxi} {op : Instr} {pc : Nat} {A : sxA} {r : Option sxv} {W0 : Nat} {S : Nat → Prop} {ρ : Nat → Int} {lv : mxV} {st : List Value} {w : mxW} {k : Nat → mxV → List Value → mxW → Option mxR} {call : Nat → List Value → mxW → Option mxR} (h : sx_rt i op A = some r) (hγ : sx_γ W0 S ρ A lv st w) : mxS i pc op lv st w k call = some (r.map (sx_val W0 ρ), w) ∧ (∀ v ∈ r.toList, sx_wf A.1.length v) ∧ mxlaw op st = false := by
  have e2 := hγ.2.2.1.1
  have ws := hγ.2.2.1.2
  unfold sx_rt at h
  split at h
  · rename_i v hv
    rw [hv] at e2 ws
    obtain ⟨h1, h⟩ := sx_cd h
    rw [e2, List.map_cons, sx_v0 (sx_bq h1)]
    split at h
    · rename_i hr
      cases h
      refine ⟨?_, fun u hu => ws u hu, rfl⟩
      simp only [mxS, hr, List.map_nil, mxnr, cond_true, Option.map_some, sx_v0 (W0 := W0) (ρ := ρ) (sx_bq h1)]
    · rename_i hr
      split at h
      · rename_i q hq
        obtain ⟨h2, h⟩ := sx_cd h
        cases h
        refine ⟨?_, fun u hu => ws u hu, rfl⟩
        have b := sx_in_ok h2 (sx_rg_ok hγ.1 hq)
        have hb : (Int32.ofInt (ρ v.2.1 + v.2.2) == 0 || Int32.ofInt (ρ v.2.1 + v.2.2) == 1) = true := by
          rcases (show ρ v.2.1 + v.2.2 = 0 ∨ ρ v.2.1 + v.2.2 = 1 by omega) with e | e <;> rw [e] <;> rfl
        simp only [mxS, hr, List.map_nil, mxnr, hb, cond_true, Option.map_some, sx_v0 (W0 := W0) (ρ := ρ) (sx_bq h1)]
      · cases h
    · cases h
  · rename_i v hv
    rw [hv] at e2 ws
    obtain ⟨h1, h⟩ := sx_cd h
    rw [e2, List.map_cons, sx_v1 (sx_bq h1)]
    split at h
    · rename_i hr
      cases h
      refine ⟨?_, fun u hu => ws u hu, rfl⟩
      simp only [mxS, hr, List.map_nil, Option.map_some, sx_v1 (W0 := W0) (ρ := ρ) (sx_bq h1)]
    · cases h
  · rename_i v hv
    rw [hv] at e2 ws
    obtain ⟨h1, h⟩ := sx_cd h
    rw [Bool.or_eq_true] at h1
    rw [e2, List.map_cons]
    rcases h1 with h1 | h1
    · rw [sx_v2 (sx_bq h1)]
      split at h
      · rename_i hr
        cases h
        refine ⟨?_, fun u hu => ws u hu, rfl⟩
        simp only [mxS, hr, List.map_nil, Option.map_some, sx_v2 (W0 := W0) (ρ := ρ) (sx_bq h1)]
      · cases h
    · rw [sx_v3 (sx_bq h1)]
      split at h
      · rename_i hr
        cases h
        refine ⟨?_, fun u hu => ws u hu, rfl⟩
        simp only [mxS, hr, List.map_nil, Option.map_some, sx_v3 (W0 := W0) (ρ := ρ) (sx_bq h1)]
      · cases h
  · rename_i hv
    rw [hv] at e2 ws
    rw [e2]
    split at h
    · rename_i hr
      cases h
      refine ⟨?_, fun u hu => absurd hu List.not_mem_nil, rfl⟩
      simp only [mxS, hr, List.map_nil, Option.map_none]
    · cases h
  · cases h
def sx_rkv (ρ : Nat → Int) : List (Int × Nat) → Int
  | [] => 0
  | q :: l => q.1 * ρ q.2 + sx_rkv ρ l
def sx_ub (E : List sxe) (c : Int) (v : sxv) : Option Int := match sx_rg E v with
  | some q => some (cond (decide (0 ≤ c)) (c * q.2) (c * q.1))
  | none => none
theorem sx_ub_ok {E : List sxe} {ρ : Nat → Int} (hE : sx_env E ρ) {c u : Int} {v : sxv} (h : sx_ub E c v = some u) : c * (ρ v.2.1 + v.2.2) ≤ u := by
  unfold sx_ub at h
  split at h
  · rename_i q hq
    cases h
    have b := sx_rg_ok hE hq
    cases hd : decide (0 ≤ c) with
    | true => exact Int.mul_le_mul_of_nonneg_left b.2 (of_decide_eq_true hd)
    | false => exact Int.mul_le_mul_of_nonpos_left (by have := of_decide_eq_false hd; omega) b.1
  · cases h
def sx_rm (q : Int × Nat) : List (Int × Nat) → Option (List (Int × Nat))
  | [] => none
  | p :: l => cond (decide (p.1 = q.1) && Nat.beq p.2 q.2) (some l) (match sx_rm q l with
    | some m => some (p :: m)
    | none => none)
theorem sx_rm_ok {ρ : Nat → Int} {q : Int × Nat} : ∀ {l m : List (Int × Nat)}, sx_rm q l = some m → sx_rkv ρ l = q.1 * ρ q.2 + sx_rkv ρ m
  | [], _, h => by cases h
  | p :: l, m, h => by
    unfold sx_rm at h
    cases hb : decide (p.1 = q.1) && Nat.beq p.2 q.2 with
    | true =>
      rw [hb] at h
      cases h
      rw [Bool.and_eq_true, decide_eq_true_eq] at hb
      show p.1 * ρ p.2 + sx_rkv ρ _ = _
      rw [hb.1, sx_bq hb.2]
    | false =>
      rw [hb] at h
      replace h : (match sx_rm q l with | some m => some (p :: m) | none => none) = some m := h
      split at h
      · rename_i m' hm
        cases h
        have ih := sx_rm_ok (ρ := ρ) hm
        show p.1 * ρ p.2 + sx_rkv ρ l = q.1 * ρ q.2 + (p.1 * ρ p.2 + sx_rkv ρ m')
        omega
      · cases h
def sx_d0 (E : List sxe) : List (Int × Nat) → Option Int
  | [] => some 0
  | p :: l => match sx_ub E (-p.1) (0, p.2, 0), sx_d0 E l with
    | some a, some u => some (a + u)
    | _, _ => none
theorem sx_d0_ok {E : List sxe} {ρ : Nat → Int} (hE : sx_env E ρ) : ∀ {l : List (Int × Nat)} {u : Int}, sx_d0 E l = some u → - sx_rkv ρ l ≤ u
  | [], u, h => by cases h; exact Int.le_refl _
  | p :: l, u, h => by
    unfold sx_d0 at h
    split at h
    · rename_i a u' ha hu
      cases h
      have h1 := sx_ub_ok hE ha
      have h2 := sx_d0_ok hE hu
      show -(p.1 * ρ p.2 + sx_rkv ρ l) ≤ a + u'
      have e : -p.1 * (ρ p.2 + 0) = -(p.1 * ρ p.2) := by rw [Int.add_zero, Int.neg_mul]
      have h1 : -p.1 * (ρ p.2 + 0) ≤ a := h1
      omega
    · cases h
/-- at most: the rank l under σ less the rank rk -/
def sx_dl (E : List sxe) (σ : List (Nat × Int)) : List (Int × Nat) → List (Int × Nat) → Option Int
  | [], rk => sx_d0 E rk
  | q :: l, rk => match σ[q.2]? with
    | some p => (match sx_rm (q.1, p.1) rk with
      | some rk' => (match sx_dl E σ l rk' with
        | some u => some (q.1 * p.2 + u)
        | none => none)
      | none => (match sx_ub E q.1 (0, p.1, p.2), sx_dl E σ l rk with
        | some a, some u => some (a + u)
        | _, _ => none))
    | none => none
theorem sx_dl_ok {E : List sxe} {ρ : Nat → Int} {σ : List (Nat × Int)} (hE : sx_env E ρ) : ∀ {l rk : List (Int × Nat)} {u : Int}, sx_dl E σ l rk = some u → sx_rkv (sx_ρ σ ρ) l - sx_rkv ρ rk ≤ u
  | [], rk, u, h => by
    have := sx_d0_ok hE h
    show 0 - _ ≤ _
    omega
  | q :: l, rk, u, h => by
    unfold sx_dl at h
    split at h
    · rename_i p hp
      have e : sx_rkv (sx_ρ σ ρ) (q :: l) = q.1 * (ρ p.1 + p.2) + sx_rkv (sx_ρ σ ρ) l := by
        show q.1 * sx_ρ σ ρ q.2 + _ = _
        rw [sx_ρ_at hp]
      rw [e]
      split at h
      · rename_i rk' hrk
        split at h
        · rename_i u' hu
          cases h
          have h1 := sx_dl_ok hE hu
          have h2 := sx_rm_ok (ρ := ρ) hrk
          have h2 : sx_rkv ρ rk = q.1 * ρ p.1 + sx_rkv ρ rk' := h2
          have e2 : q.1 * (ρ p.1 + p.2) = q.1 * ρ p.1 + q.1 * p.2 := Int.mul_add _ _ _
          omega
        · cases h
      · split at h
        · rename_i a u' ha hu
          cases h
          have h1 := sx_dl_ok hE hu
          have h2 : q.1 * (ρ p.1 + p.2) ≤ a := sx_ub_ok hE ha
          omega
        · cases h
    · cases h
def sx_idn (n : Nat) (σ : List (Nat × Int)) : Bool := (List.range n).all (fun j => match σ[j]? with
  | some q => Nat.beq q.1 j && decide (q.2 = 0)
  | none => false)
theorem sx_idn_ok {n : Nat} {σ : List (Nat × Int)} {ρ : Nat → Int} (h : sx_idn n σ = true) : ∀ j, j < n → sx_ρ σ ρ j = ρ j := by
  intro j hj
  have g := List.all_eq_true.mp h j (List.mem_range.mpr hj)
  split at g
  · rename_i q hq
    rw [Bool.and_eq_true, decide_eq_true_eq] at g
    rw [sx_ρ_at hq, sx_bq g.1, g.2, Int.add_zero]
  · cases g
/-- an end of a run that is a cut: with a smaller rank -/
def sx_toc (n0 : Nat) (s : sxct) (A : sxA) (k : sxct) : Bool := sx_sub A.1 (sx_mA n0 k.2.1 A) A k.2.1 && sx_idn n0 (sx_mA n0 k.2.1 A) && s.2.2.2.all (fun q => Nat.blt q.2 s.2.1.1.length) && (match sx_dl A.1 (sx_mA n0 k.2.1 A) k.2.2.2 s.2.2.2, sx_dl A.1 (sx_mA n0 k.2.1 A) (k.2.2.2.map (fun q => (-q.1, q.2))) [] with
  | some u, some v => decide (u + k.2.2.1 - s.2.2.1 < 0) && decide (v ≤ k.2.2.1)
  | _, _ => false)
/-- an end of a run that is a return -/
def sx_tor (n0 c : Nat) (A : sxA) (r : Option sxv) (p : List sxe × Option sxv × List (Nat × sxc)) : Bool := Nat.ble n0 p.1.length && sx_sub A.1 (sx_mA n0 (p.1, [], p.2.1.toList, p.2.2, c) (A.1, [], r.toList, A.2.2.2.1, A.2.2.2.2)) (A.1, [], r.toList, A.2.2.2.1, A.2.2.2.2) (p.1, [], p.2.1.toList, p.2.2, c) && sx_idn n0 (sx_mA n0 (p.1, [], p.2.1.toList, p.2.2, c) (A.1, [], r.toList, A.2.2.2.1, A.2.2.2.2)) && Nat.beq p.2.1.toList.length r.toList.length
def sx_end (i : mxi) (tb : List (Nat × Instr × Nat)) (M : sxM) (s : sxct) (q : Nat × sxA) : Bool := M.2.2.1.any (fun k => Nat.beq k.1 q.1 && sx_toc M.1 s q.2 k) || (match tb.lookup q.1 with
  | some op => (match sx_rt i op.1 q.2 with
    | some r => M.2.2.2.any (fun p => sx_tor M.1 M.2.1 q.2 r p)
    | none => false)
  | none => false)
def sx_chk (T : List (Nat × sxK)) (i : mxi) (tb : List (Nat × Instr × Nat)) (M : sxM) (fuel : Nat) : Bool := M.2.2.1.all (fun s => Nat.ble M.1 s.2.1.1.length && (match sx_run T i tb (M.2.2.1.map (fun k => k.1)) fuel s.1 s.2.1 with
  | some X => X.all (sx_end i tb M s)
  | none => false))
/-- what a method's ends say -/
def sx_P (ev : Nat → Nat → mxV → List Value → mxW → Option mxR) (M : sxM) (W0 : Nat) (S : Nat → Prop) (ρ : Nat → Int) (pc : Nat) (lv : mxV) (st : List Value) (w : mxW) : Prop := ∃ p ∈ M.2.2.2, ∃ (ρ' : Nat → Int) (w' : mxW), (∀ j, j < M.1 → ρ' j = ρ j) ∧ M.1 ≤ p.1.length ∧ sx_Rn ev pc lv st w (p.2.1.map (sx_val W0 ρ'), w') ∧ sx_γ W0 S ρ' (p.1, [], p.2.1.toList, p.2.2, M.2.1) [] (p.2.1.toList.map (sx_val W0 ρ')) w' ∧ sx_Fr S w w'
theorem sx_rk_neg (ρ : Nat → Int) : ∀ l : List (Int × Nat), sx_rkv ρ (l.map (fun q => (-q.1, q.2))) = - sx_rkv ρ l
  | [] => rfl
  | q :: l => by
    show -q.1 * ρ q.2 + sx_rkv ρ (l.map (fun q => (-q.1, q.2))) = -(q.1 * ρ q.2 + sx_rkv ρ l)
    rw [sx_rk_neg ρ l, Int.neg_mul]
    omega
theorem sx_chk_ok {ev : Nat → Nat → mxV → List Value → mxW → Option mxR} {i : mxi} {tb : List (Nat × Instr × Nat)} {T : List (Nat × sxK)} {M : sxM} {fuel : Nat} (hev : sx_Ev ev i tb) (hT : ∀ q ∈ T, sx_C q.1 q.2) (h : sx_chk T i tb M fuel = true) {W0 : Nat} {S : Nat → Prop} : ∀ (N : Nat) (s : sxct), s ∈ M.2.2.1 → ∀ (ρ : Nat → Int) (lv : mxV) (st : List Value) (w : mxW), (s.2.2.1 + sx_rkv ρ s.2.2.2).toNat ≤ N → sx_γ W0 S ρ s.2.1 lv st w → sx_P ev M W0 S ρ s.1 lv st w := by
  intro N
  induction N using Nat.strongRecOn with
  | _ N ih =>
    intro s hs ρ lv st w hN hγ
    have hc := List.all_eq_true.mp h s hs
    rw [Bool.and_eq_true] at hc
    obtain ⟨hn0, hc⟩ := hc
    have hn0 := Nat.ble_eq.mp hn0
    split at hc
    · rename_i X hX
      obtain ⟨q, hq, ρ1, lv1, st1, w1, a1, a2, a3, a4, a5⟩ := sx_run_ok hev hT fuel hX hγ
      have he := List.all_eq_true.mp hc q hq
      unfold sx_end at he
      rw [Bool.or_eq_true] at he
      rcases he with he | he
      · obtain ⟨k, hk, he⟩ := List.any_eq_true.mp he
        rw [Bool.and_eq_true] at he
        have hpc := sx_bq he.1
        have ht := he.2
        unfold sx_toc at ht
        simp only [Bool.and_eq_true] at ht
        obtain ⟨⟨⟨t1, t2⟩, t4⟩, t3⟩ := ht
        split at t3
        · rename_i u v hu hv
          simp only [Bool.and_eq_true, decide_eq_true_eq] at t3
          have h1 := sx_dl_ok a3.1 hu
          have h2 := sx_dl_ok a3.1 hv
          rw [sx_rk_neg] at h2
          have h2 : - sx_rkv (sx_ρ (sx_mA M.1 k.2.1 q.2) ρ1) k.2.2.2 - 0 ≤ v := h2
          obtain ⟨g1, g2⟩ := sx_sub_ok a3 t1
          have hrk : ∀ l : List (Int × Nat), (∀ z ∈ l, z.2 < s.2.1.1.length) → sx_rkv ρ1 l = sx_rkv ρ l := by
            intro l
            induction l with
            | nil => intro _; rfl
            | cons z l ih => intro hl; show z.1 * ρ1 z.2 + _ = z.1 * ρ z.2 + _; rw [a1 _ (hl z List.mem_cons_self), ih (fun y hy => hl y (List.mem_cons_of_mem _ hy))]
          have hrks := hrk s.2.2.2 (fun z hz => Nat.blt_eq.mp (List.all_eq_true.mp t4 z hz))
          rw [hrks] at h1
          obtain ⟨p, hp, ρ2, w2, b1, b2, b3, b4, b5⟩ := ih (k.2.2.1 + sx_rkv (sx_ρ (sx_mA M.1 k.2.1 q.2) ρ1) k.2.2.2).toNat (by omega) k hk _ lv1 st1 w1 (Nat.le_refl _) g1
          rw [hpc] at b3
          refine ⟨p, hp, ρ2, w2, fun j hj => (b1 j hj).trans ((sx_idn_ok t2 j hj).trans (a1 j (Nat.lt_of_lt_of_le hj hn0))), b2, a5 _ b3, b4, a4.tr b5⟩
        · cases t3
      · split at he
        · rename_i op hop
          split at he
          · rename_i r hr
            obtain ⟨p, hp, he⟩ := List.any_eq_true.mp he
            unfold sx_tor at he
            simp only [Bool.and_eq_true] at he
            obtain ⟨⟨⟨t0, t1⟩, t2⟩, t3⟩ := he
            have t3 := sx_bq t3
            have hret : ∀ n, ev (n + 1) q.1 lv1 st1 w1 = some (r.map (sx_val W0 ρ1), w1) := fun n => by
              obtain ⟨r1, -, r3⟩ := sx_rt_ok (k := fun pc' lv' st' w' => ev n pc' lv' st' w') (call := fun z vs w' => cond (Nat.ble (mxsum vs) (mxlL z)) (mxev n z 0 (lv_args 0 vs) [] w') none) (pc := q.1) hr a3
              rw [hev n q.1 lv1 st1 w1 op.1 op.2 hop r3]
              exact r1
            have hγr : sx_γ W0 S ρ1 (q.2.1, [], r.toList, q.2.2.2.2.1, q.2.2.2.2.2) [] (r.toList.map (sx_val W0 ρ1)) w1 := ⟨a3.1, ⟨rfl, fun z hz => absurd hz List.not_mem_nil⟩, ⟨rfl, (sx_rt_ok (k := fun _ _ _ _ => none) (call := fun _ _ _ => none) (pc := q.1) hr a3).2.1⟩, a3.2.2.2⟩
            obtain ⟨g1, g2⟩ := sx_sub_ok hγr t1
            have hrv : r.map (sx_val W0 ρ1) = p.2.1.map (sx_val W0 (sx_ρ (sx_mA M.1 (p.1, [], p.2.1.toList, p.2.2, M.2.1) (q.2.1, [], r.toList, q.2.2.2.2.1, q.2.2.2.2.2)) ρ1)) := by
              have e := g1.2.2.1.1
              cases r with
              | none =>
                cases hpr : p.2.1 with
                | none => rfl
                | some y => rw [hpr] at t3; cases t3
              | some x =>
                cases hpr : p.2.1 with
                | none => rw [hpr] at t3; cases t3
                | some y =>
                  rw [hpr] at e
                  replace e : [sx_val W0 ρ1 x] = [sx_val W0 _ y] := e
                  injection e with e
                  exact congrArg some e
            refine ⟨p, hp, _, w1, fun j hj => (sx_idn_ok t2 j hj).trans (a1 j (Nat.lt_of_lt_of_le hj hn0)), Nat.ble_eq.mp t0, a5 _ ⟨1, fun n => by rw [hret n, hrv]⟩, ?_, a4⟩
            have e := g1.2.2.1.1
            refine ⟨g1.1, ⟨rfl, fun z hz => absurd hz List.not_mem_nil⟩, ⟨rfl, g1.2.2.1.2⟩, g1.2.2.2⟩
          · cases he
        · cases he
    · cases hc
def sx_mk (K : sxK) (r : Int × List (Int × Nat)) (cuts : List sxct) : sxM := (K.1.length, 1000, (0, (K.1, sx_la 0 K.2.1, [], K.2.2.1, 1000), r) :: cuts, K.2.2.2)
theorem sx_Ev_m {z : Nat} {i : mxi} (hz : mxms[z]? = some i) (hc : Nat.beq z mxck = false) : sx_Ev (fun n pc lv st w => mxev n z pc lv st w) i (mxi_t i) := by
  intro n pc lv st w op len hop _
  show mxev (n + 1) z pc lv st w = _
  rw [mxev, hc, hz]
  show (match (mxi_t i).lookup pc with | none => none | some (op, _) => _) = _
  rw [hop]
/-- A CONTRACT out of a check -/
theorem sx_C_of {z : Nat} {i : mxi} {T : List (Nat × sxK)} {K : sxK} {r : Int × List (Int × Nat)} {cuts : List sxct} {fuel : Nat} (hz : mxms[z]? = some i) (hc : Nat.beq z mxck = false) (hT : ∀ q ∈ T, sx_C q.1 q.2) (h : sx_chk T i (mxi_t i) (sx_mk K r cuts) fuel = true) : sx_C z K := by
  intro W0 S ρ w hγ
  obtain ⟨p, hp, ρ', w', b1, b2, b3, b4, b5⟩ := sx_chk_ok (sx_Ev_m hz hc) hT h _ (0, (K.1, sx_la 0 K.2.1, [], K.2.2.1, 1000), r) List.mem_cons_self ρ _ _ w (Nat.le_refl _) hγ
  exact ⟨p, hp, ρ', w', b1, b2, b3, b4, b5⟩
