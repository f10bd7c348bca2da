/-! walks: blocks with the cells 21 to 25 read only -/
def roc (q : Nat × sxc) : Nat × sxc := cond (Nat.ble 21 q.1 && Nat.ble q.1 25 && Nat.blt q.2.2.2.2.2.1 2) (q.1, (q.2.1, q.2.2.1, q.2.2.2.1, q.2.2.2.2.1, q.2.2.2.2.2.1 + 2, q.2.2.2.2.2.2)) q
def roA (A : sxA) : sxA := (A.1, A.2.1, A.2.2.1, A.2.2.2.1.map roc, A.2.2.2.2)
def roP (y : Nat × sxA) : Nat × sxA := (y.1, roA y.2)
def rwk (A : sxA) : Bool := A.2.2.2.1.all (fun q => !(Nat.ble 21 q.1 && Nat.ble q.1 25) || Nat.blt q.2.2.2.2.2.1 2)
theorem sx_ce_fl {W0 : Nat} {ρ : Nat → Int} {n : Nat} {w : mxW} {a : Nat} {t m : Nat} {lo hi : Int} {fl fl' : Nat} {els : Option (List sxv)} (hf : fl' % 2 = fl % 2) (h : sx_ce W0 ρ n w a (t, m, lo, hi, fl, els)) : sx_ce W0 ρ n w a (t, m, lo, hi, fl', els) := by
  refine ⟨h.1, ?_⟩
  cases els with
  | none =>
    refine ⟨h.2.1, fun j hj => ?_⟩
    obtain ⟨a1, a2, a3⟩ := h.2.2 j hj
    exact ⟨a1, a2, fun q => a3 (by show fl % 2 = 1; rw [← hf]; exact q)⟩
  | some vs => exact h.2
def kys (A : sxA) : Bool := A.2.2.2.1.all (fun q => Nat.blt q.1 1000)
theorem toRO {W0 : Nat} {S : Nat → Prop} {ρ : Nat → Int} {A : sxA} {lv : mxV} {st : List Value} {w : mxW} (h : sx_γ W0 S ρ A lv st w) (hl : 26 ≤ w.1.length) (hy : kys A = true) : sx_γ W0 (fun a => S a ∧ ¬ (21 ≤ a ∧ a ≤ 25)) ρ (roA A) lv st w := by
  refine ⟨h.1, h.2.1, h.2.2.1, fun q hq => ?_, h.2.2.2.2.1, fun a ha => ⟨h.2.2.2.2.2 a ha, by omega⟩⟩
  obtain ⟨q0, hq0, rfl⟩ := List.mem_map.mp hq
  have g := h.2.2.2.1 q0 hq0
  have hk2 := Nat.blt_eq.mp (List.all_eq_true.mp hy q0 hq0)
  obtain ⟨k, t, m, lo, hi, fl, els⟩ := q0
  have hk2 : k < 1000 := hk2
  unfold roc
  cases hb : (Nat.ble 21 k && Nat.ble k 25 && Nat.blt fl 2) with
  | true =>
    simp only [hb, cond_true]
    exact ⟨sx_ce_fl (by omega) g.1, fun q => absurd q (by show ¬ fl + 2 < 2; omega), g.2.2⟩
  | false =>
    simp only [hb, cond_false]
    refine ⟨g.1, fun q => ⟨g.2.1 q, fun hk => ?_⟩, g.2.2⟩
    have q : fl < 2 := q
    have hk : 21 ≤ sx_ad W0 k ∧ sx_ad W0 k ≤ 25 := hk
    rw [sx_ad_lt hk2] at hk
    rw [Nat.ble_eq.mpr hk.1, Nat.ble_eq.mpr hk.2, Nat.blt_eq.mpr q] at hb
    cases hb
theorem toRW {W0 : Nat} {S : Nat → Prop} {ρ : Nat → Int} {A : sxA} {lv : mxV} {st : List Value} {w : mxW} (h : sx_γ W0 (fun a => S a ∧ ¬ (21 ≤ a ∧ a ≤ 25)) ρ (roA A) lv st w) (hS : ∀ k, 21 ≤ k → k ≤ 25 → S k) (hy : kys A = true) : sx_γ W0 S ρ A lv st w := by
  refine ⟨h.1, h.2.1, h.2.2.1, fun q hq => ?_, h.2.2.2.2.1, fun a ha => (h.2.2.2.2.2 a ha).1⟩
  have g := h.2.2.2.1 (roc q) (List.mem_map.mpr ⟨q, hq, rfl⟩)
  have hk2 := Nat.blt_eq.mp (List.all_eq_true.mp hy q hq)
  obtain ⟨k, t, m, lo, hi, fl, els⟩ := q
  have hk2 : k < 1000 := hk2
  unfold roc at g
  cases hb : (Nat.ble 21 k && Nat.ble k 25 && Nat.blt fl 2) with
  | true =>
    simp only [hb, cond_true] at g
    simp only [Bool.and_eq_true, Nat.ble_eq] at hb
    refine ⟨sx_ce_fl (by omega) g.1, fun _ => ?_, g.2.2⟩
    show S (sx_ad W0 k)
    rw [sx_ad_lt hk2]
    exact hS k hb.1.1 hb.1.2
  | false =>
    simp only [hb, cond_false] at g
    exact ⟨g.1, fun q => (g.2.1 q).1, g.2.2⟩
def TW : List (Nat × sxK) := [(93, k_empties), (94, k_packed), (95, k_unpacks), (106, k_does)]
theorem hTW : ∀ q ∈ TW, sx_C q.1 q.2 := List.forall_mem_cons.mpr ⟨c_empties, List.forall_mem_cons.mpr ⟨c_packed, List.forall_mem_cons.mpr ⟨c_unpacks, List.forall_mem_cons.mpr ⟨c_does, fun q hq => absurd hq List.not_mem_nil⟩⟩⟩⟩
/-- a block of walks -/
theorem wblk {cuts : List Nat} {fuel pc : Nat} {A : sxA} {Y : List (Nat × sxA)} (hb : sx_bk TW miX5_walks (mxi_t miX5_walks) cuts fuel pc (roA A) (Y.map roP) = true) (hA : kys A = true) (hY : Y.all (fun y => kys y.2 && Nat.beq y.2.2.2.2.2 A.2.2.2.2) = true) {W0 : Nat} {S : Nat → Prop} {ρ : Nat → Int} {lv : mxV} {st : List Value} {w : mxW} (hS : ∀ k, 21 ≤ k → k ≤ 25 → S k) (hl : 26 ≤ w.1.length) (hγ : sx_γ W0 S ρ A lv st w) : ∃ y ∈ Y, ∃ (ρ' : Nat → Int) (lv' : mxV) (st' : List Value) (w' : mxW), (∀ j, j < A.1.length → ρ' j = ρ j) ∧ sx_γ W0 S ρ' y.2 lv' st' w' ∧ sx_Fr S w w' ∧ w'.1.length = w.1.length ∧ w'.2.1 22 = w.2.1 22 ∧ w'.2.1 24 = w.2.1 24 ∧ ∀ res, mxRn 117 y.1 lv' st' w' res → mxRn 117 pc lv st w res := by
  obtain ⟨y0, hy0, ρ', lv', st', w', a1, a2, a3, a4⟩ := sx_bk_ok (sx_Ev_m (z := 117) (i := miX5_walks) rfl rfl) hTW hb (toRO hγ hl hA)
  obtain ⟨y, hy, rfl⟩ := List.mem_map.mp hy0
  have hk := List.all_eq_true.mp hY y hy
  rw [Bool.and_eq_true] at hk
  have g := toRW a2 hS hk.1
  have e1 : (roP y).1 = y.1 := rfl
  refine ⟨y, hy, ρ', lv', st', w', a1, g, ⟨a3.1, fun a ha => a3.2 a (fun z => ha z.1)⟩, ?_, (a3.2 22 (fun z => z.2 ⟨by decide, by decide⟩)).1, (a3.2 24 (fun z => z.2 ⟨by decide, by decide⟩)).1, a4⟩
  have h1 := g.2.2.2.2.1
  have h2 := hγ.2.2.2.2.1
  rw [h1, h2, sx_bq hk.2]
/-- a call of an object's method, at a place of walks -/
theorem wvir {pc n len z : Nat} {zi : mxi} {E : List sxe} {la : List (Nat × sxv)} {sa r : List sxv} {H : List (Nat × sxc)} {c : Nat} {cl : sxc} {v : sxv} {W0 : Nat} {S : Nat → Prop} {ρ : Nat → Int} {w : mxW} (hop : (mxi_t miX5_walks).lookup pc = some (.invokevirtual n, len)) (hl : (mxca (mxi_o miX5_walks)).lookup n = some z) (hz : mxms[z]? = some zi) (hdr : sa.drop (mxi_a zi) = v :: r) (h2 : Nat.beq v.1 2 = true) (hcl : H.lookup v.2.1 = some cl) (hb : (!(mxi_s zi) && !(mxi_I zi) && Nat.beq cl.1 (mxk (mxi_o zi) + 4) && Nat.ble (sx_ms r) 8 && Nat.blt (mxk (mxi_o zi)) 5 && Nat.ble (sx_ms (v :: (sa.take (mxi_a zi)).reverse)) (mxlL z)) = true) (h : sx_γ W0 S ρ (E, la, sa, H, c) (la.map (sx_lv W0 ρ)) (sa.map (sx_val W0 ρ)) w) {rv : Option Value} {w' : mxW} {res : mxR} (hr : mxRn z 0 (lv_args 0 ((v :: (sa.take (mxi_a zi)).reverse).map (sx_val W0 ρ))) [] w (rv, w')) (H2 : mxRn 117 (pc + 3) (la.map (sx_lv W0 ρ)) (rv.toList ++ r.map (sx_val W0 ρ)) w' res) : mxRn 117 pc (la.map (sx_lv W0 ρ)) (sa.map (sx_val W0 ρ)) w res := by
  refine sx_Rn_call (ev := fun n pc lv st w => mxev n 117 pc lv st w) (fun n' => ?_) hr H2
  simp only [Bool.and_eq_true, Nat.ble_eq, Nat.blt_eq, Bool.not_eq_true'] at hb
  obtain ⟨⟨⟨⟨⟨b1, b2⟩, b3⟩, b4⟩, b5⟩, b6⟩ := hb
  have hv := sx_v2 (W0 := W0) (ρ := ρ) (sx_bq h2)
  have hw : w.1[sx_ad W0 v.2.1]? = some (cl.1, cl.2.1) := (h.2.2.2.1 _ (sx_hl hcl)).1.1
  have hdrop : (sa.map (sx_val W0 ρ)).drop (mxi_a zi) = .ref (sx_ad W0 v.2.1) :: r.map (sx_val W0 ρ) := by rw [← List.map_drop, hdr, List.map_cons, hv]
  refine (sx_Ev_m (z := 117) (i := miX5_walks) rfl rfl n' pc (la.map (sx_lv W0 ρ)) (sa.map (sx_val W0 ρ)) w (.invokevirtual n) len hop (by unfold mxlaw; rfl)).trans ?_
  simp only [mxS, hl, hz, hdrop, hw, b1, b2, Bool.not_false, Bool.true_and, sx_bq b3, beq_self_eq_true]
  rw [sx_cats, Nat.ble_eq.mpr b4, Nat.blt_eq.mpr b5]
  have hs : mxsum (.ref (sx_ad W0 v.2.1) :: ((sa.map (sx_val W0 ρ)).take (mxi_a zi)).reverse) = sx_ms (v :: (sa.take (mxi_a zi)).reverse) := by
    rw [← sx_cats (W0 := W0) (ρ := ρ), List.map_cons, hv, List.map_reverse, List.map_take]
  simp only [Bool.true_and, cond_true]
  rw [hs, Nat.ble_eq.mpr b6, List.map_cons, hv, List.map_reverse, List.map_take]
  rfl
/-- the states met, as the field has them -/
theorem stv {W0 : Nat} {S : Nat → Prop} {ρ : Nat → Int} {A : sxA} {lv : mxV} {st : List Value} {w : mxW} (h : sx_γ W0 S ρ A lv st w) {t m : Nat} {lo hi : Int} {fl : Nat} {vs : List sxv} {s : Nat} {o : Int} {e : sxe} (hk : A.2.2.2.1.lookup 9 = some (8, m, lo, hi, fl, some vs)) (hv : vs[28]? = some (0, s, o)) (he : A.1[s]? = some e) (hr : (decide (-2147483648 ≤ e.1 + o) && decide (e.2.1 + o ≤ 2147483647)) = true) : (w.2.1 9 28).toInt = ρ s + o := by
  have g := (h.2.2.2.1 _ (sx_hl hk)).1
  dsimp only at g
  rw [sx_ad_lt (show 9 < 1000 by decide)] at g
  have e1 : w.2.1 9 28 = Int32.ofInt (ρ s + o) := Value.int.inj (g.2 28 _ hv).2
  have b := h.1.2.2 s e he
  rw [Bool.and_eq_true, decide_eq_true_eq, decide_eq_true_eq] at hr
  rw [e1]
  exact Int32.toInt_ofInt_of_le (by omega) (by omega)
def kps (l : List Nat) (σ : List (Nat × Int)) : Bool := l.all (fun i => match σ[i]? with
  | some q => Nat.beq q.1 i && decide (q.2 = 0)
  | none => false)
theorem kps_ok {l : List Nat} {σ : List (Nat × Int)} {ρ : Nat → Int} (h : kps l σ = true) : ∀ i ∈ l, sx_ρ σ ρ i = ρ i := by
  intro i hi
  have g := List.all_eq_true.mp h i hi
  split at g
  · rename_i q hq
    rw [Bool.and_eq_true, decide_eq_true_eq] at g
    rw [sx_ρ_at hq, sx_bq g.1, g.2, Int.add_zero]
  · cases g
