/-! RUNS of the executor -/
def sx_mv (σ : List (Option (Nat × Int))) (p a : sxv) : List (Option (Nat × Int)) := cond (Nat.blt p.1 2) (match σ[p.2.1]? with
  | some none => σ.set p.2.1 (some (a.2.1, a.2.2 - p.2.2))
  | _ => σ) σ
def sx_mvs : List (Option (Nat × Int)) → List sxv → List sxv → List (Option (Nat × Int))
  | σ, p :: l, a :: m => sx_mvs (sx_mv σ p a) l m
  | σ, _, _ => σ
def sx_mcs (H : List (Nat × sxc)) : List (Option (Nat × Int)) → List (Nat × sxc) → List (Option (Nat × Int))
  | σ, q :: l => sx_mcs H (match H.lookup q.1 with
    | some a => (match q.2.2.2.2.2.2, a.2.2.2.2.2 with
      | some ps, some vs => sx_mvs σ ps vs
      | _, _ => σ)
    | none => σ) l
  | σ, [] => σ
def sx_m0 (n0 n : Nat) : List (Option (Nat × Int)) := (List.range n).map (fun i => cond (Nat.blt i n0) (some (i, 0)) none)
def sx_mf (σ : List (Option (Nat × Int))) : List (Nat × Int) := σ.map (fun o => match o with
  | some q => q
  | none => (0, 0))
def sx_mK (K : sxK) (args : List sxv) (H : List (Nat × sxc)) : List (Nat × Int) := sx_mf (sx_mcs H (sx_mvs (sx_m0 1 K.1.length) K.2.1 args) K.2.2.1)
def sx_mA (n0 : Nat) (B A : sxA) : List (Nat × Int) := sx_mf (sx_mcs A.2.2.2.1 (sx_mvs (sx_mvs (sx_m0 n0 B.1.length) (B.2.1.map (fun q => q.2)) (A.2.1.map (fun q => q.2))) B.2.2.1 A.2.2.1) B.2.2.2.1)
def sx_try (args : List sxv) (pc : Nat) (E : List sxe) (la : List (Nat × sxv)) (r : List sxv) (H : List (Nat × sxc)) (c z : Nat) : List (Nat × sxK) → Option (List (Nat × sxA))
  | [] => none
  | q :: T => match cond (Nat.beq q.1 z) (sx_callR q.2 (sx_mK q.2 args H) args pc E la r H c) none with
    | some R => some R
    | none => sx_try args pc E la r H c z T
def sx_ms (l : List sxv) : Nat := (l.map sx_cat).sum
def sx_mm (mx : Bool) (pc : Nat) (E : List sxe) (la : List (Nat × sxv)) (sa : List sxv) (H : List (Nat × sxc)) (c : Nat) : Option (List (Nat × sxA)) := match sa with
  | y :: x :: r => cond (Nat.beq y.1 0 && Nat.beq x.1 0 && Nat.ble (sx_ms r) 8) (match sx_rg E x, sx_rg E y with
    | some q, some p => cond (sx_i32 q && sx_i32 p) (sx_ni 0 (cond mx (max q.1 p.1, max q.2 p.2) (min q.1 p.1, min q.2 p.2)) E la r H c pc) none
    | _, _ => none) none
  | _ => none
def sx_inv (T : List (Nat × sxK)) (i : mxi) (n pc : Nat) (E : List sxe) (la : List (Nat × sxv)) (sa : List sxv) (H : List (Nat × sxc)) (c : Nat) : Option (List (Nat × sxA)) := match (mxca (mxi_o i)).lookup n with
  | some z => match mxms[z]? with
    | some zi => cond (mxi_s zi && Nat.ble (mxi_a zi) sa.length && Nat.ble (sx_ms (sa.drop (mxi_a zi))) 8 && Nat.ble (sx_ms (sa.take (mxi_a zi)).reverse) (mxlL z)) (sx_try (sa.take (mxi_a zi)).reverse (pc + 3) E la (sa.drop (mxi_a zi)) H c z T) none
    | none => none
  | none => match (mxma (mxi_o i)).lookup n with
    | some 0 => sx_mm true (pc + 3) E la sa H c
    | some 1 => sx_mm false (pc + 3) E la sa H c
    | _ => none
def sx_vir (T : List (Nat × sxK)) (i : mxi) (n pc : Nat) (E : List sxe) (la : List (Nat × sxv)) (sa : List sxv) (H : List (Nat × sxc)) (c : Nat) : Option (List (Nat × sxA)) := match (mxca (mxi_o i)).lookup n with
  | some z => match mxms[z]? with
    | some zi => match sa.drop (mxi_a zi) with
      | v :: r => cond (Nat.beq v.1 2) (match H.lookup v.2.1 with
        | some cl => cond (!(mxi_s zi) && !(mxi_I zi) && Nat.beq cl.1 (mxk (mxi_o zi) + 4) && Nat.ble (sx_ms r) 8 && Nat.blt (mxk (mxi_o zi)) 5 && Nat.ble (sx_ms (v :: (sa.take (mxi_a zi)).reverse)) (mxlL z)) (sx_try (v :: (sa.take (mxi_a zi)).reverse) (pc + 3) E la r H c z T) none
        | none => none) (cond (Nat.beq v.1 3 && !(mxi_s zi) && !(mxi_I zi) && Nat.beq (mxi_o zi) 9 && Nat.ble 3 v.2.1 && Nat.blt v.2.1 10 && Nat.ble (sx_ms r) 8 && Nat.ble (sx_ms (v :: (sa.take (mxi_a zi)).reverse)) (mxlL z)) (sx_try (v :: (sa.take (mxi_a zi)).reverse) (pc + 3) E la r H c z T) none)
      | [] => none
    | none => none
  | none => none
def sx_nx (T : List (Nat × sxK)) (i : mxi) (pc : Nat) (op : Instr) (E : List sxe) (la : List (Nat × sxv)) (sa : List sxv) (H : List (Nat × sxc)) (c : Nat) : Option (List (Nat × sxA)) := match op with
  | .invokestatic n => sx_inv T i n pc E la sa H c
  | .invokevirtual n => sx_vir T i n pc E la sa H c
  | op => sx_step i pc op E la sa H c
def sx_bnd {α β : Type} (f : α → Option (List β)) : List α → Option (List β)
  | [] => some []
  | a :: l => match f a with
    | some x => match sx_bnd f l with
      | some y => some (x ++ y)
      | none => none
    | none => none
def sx_run (T : List (Nat × sxK)) (i : mxi) (tb : List (Nat × Instr × Nat)) (cuts : List Nat) : Nat → Nat → sxA → Option (List (Nat × sxA))
  | 0, _, _ => none
  | n + 1, pc, A => match tb.lookup pc with
    | some op => cond (mxrt op.1) (some [(pc, A)]) (match sx_nx T i pc op.1 A.1 A.2.1 A.2.2.1 A.2.2.2.1 A.2.2.2.2 with
      | some R => sx_bnd (fun q => cond (cuts.contains q.1) (some [q]) (sx_run T i tb cuts n q.1 q.2)) R
      | none => none)
    | none => none
def sx_Rn (ev : Nat → Nat → mxV → List Value → mxW → Option mxR) (pc : Nat) (lv : mxV) (st : List Value) (w : mxW) (res : mxR) : Prop := ∃ N, ∀ n, ev (n + N) pc lv st w = some res
theorem sx_Rn_go {ev : Nat → Nat → mxV → List Value → mxW → Option mxR} {pc : Nat} {lv : mxV} {st : List Value} {w : mxW} {res : mxR} {pc' : Nat} {lv' : mxV} {st' : List Value} {w' : mxW} (h : ∀ n, ev (n + 1) pc lv st w = ev n pc' lv' st' w') (H : sx_Rn ev pc' lv' st' w' res) : sx_Rn ev pc lv st w res := by
  obtain ⟨N, H⟩ := H
  exact ⟨N + 1, fun n => by rw [← Nat.add_assoc, h]; exact H n⟩
theorem sx_Rn_call {ev : Nat → Nat → mxV → List Value → mxW → Option mxR} {pc : Nat} {lv : mxV} {st : List Value} {w : mxW} {res : mxR} {z pc' : Nat} {lz lv' : mxV} {r : List Value} {w1 wz : mxW} {rz : Option Value} (h : ∀ n, ev (n + 1) pc lv st w = (mxev n z 0 lz [] w1).bind (fun q => ev n pc' lv' (q.1.toList ++ r) q.2)) (Hz : mxRn z 0 lz [] w1 (rz, wz)) (H : sx_Rn ev pc' lv' (rz.toList ++ r) wz res) : sx_Rn ev pc lv st w res := by
  obtain ⟨N, H⟩ := H
  obtain ⟨M, Hz⟩ := Hz
  refine ⟨N + M + 1, fun n => ?_⟩
  rw [← Nat.add_assoc, h, ← Nat.add_assoc, Hz (n + N)]
  show ev (n + N + M) pc' lv' (rz.toList ++ r) wz = some res
  rw [show n + N + M = n + M + N by omega]
  exact H (n + M)
def mxlaw (op : Instr) (st : List Value) : Bool := match op, st with
  | .iaload, .int _ :: .retAddr 2 :: _ => true
  | .arraylength, .retAddr 2 :: _ => true
  | _, _ => false
/-- an evaluator that goes as the machine does -/
def sx_Ev (ev : Nat → Nat → mxV → List Value → mxW → Option mxR) (i : mxi) (tb : List (Nat × Instr × Nat)) : Prop := ∀ (n pc : Nat) (lv : mxV) (st : List Value) (w : mxW) (op : Instr) (len : Nat), tb.lookup pc = some (op, len) → mxlaw op st = false → ev (n + 1) pc lv st w = mxS i pc op lv st w (fun pc' lv' st' w' => ev n pc' lv' st' w') (fun z vs w' => cond (Nat.ble (mxsum vs) (mxlL z)) (mxev n z 0 (lv_args 0 vs) [] w') none)
def sx_Go (ev : Nat → Nat → mxV → List Value → mxW → Option mxR) (W0 : Nat) (S : Nat → Prop) (ρ : Nat → Int) (n pc : Nat) (lv : mxV) (st : List Value) (w : mxW) (R : List (Nat × sxA)) : Prop := ∃ q ∈ R, ∃ (ρ' : Nat → Int) (lv' : mxV) (st' : List Value) (w' : mxW), (∀ j, j < n → ρ' j = ρ j) ∧ n ≤ q.2.1.length ∧ sx_γ W0 S ρ' q.2 lv' st' w' ∧ sx_Fr S w w' ∧ ∀ res, sx_Rn ev q.1 lv' st' w' res → sx_Rn ev pc lv st w res
theorem sx_nolaw {i : mxi} {pc : Nat} {op : Instr} {E : List sxe} {la : List (Nat × sxv)} {sa : List sxv} {H : List (Nat × sxc)} {c : Nat} {R : List (Nat × sxA)} {W0 : Nat} {ρ : Nat → Int} (h : sx_step i pc op E la sa H c = some R) : mxlaw op (sa.map (sx_val W0 ρ)) = false := by
  unfold mxlaw
  split
  · rename_i x r e
    exfalso
    match sa, e with
    | y :: v :: t, e =>
      rw [List.map_cons, List.map_cons] at e
      injection e with e1 e
      injection e with e2 e
      simp only [sx_step] at h
      have h3 : v.1 = 3 ∧ v.2.1 = 2 := by
        unfold sx_val at e2
        split at e2
        · cases e2
        · cases e2
        · cases e2
        · rename_i q
          injection e2 with e2
          exact ⟨q, e2⟩
        · cases e2
      split at h
      · rename_i heq
        injection heq with g1 g2
        injection g2 with g2 g3
        rw [g2] at h3
        exact absurd (show (2 : Nat) = 3 from h3.1) (by decide)
      · unfold sx_o_sld at h
        replace h : cond (Nat.beq y.1 0 && Nat.beq v.1 3) (match mxst v.2.1, sx_rg E y with
          | some (n, f), some q => cond (sx_i32 q && sx_ix q n) (sx_sp E y (fun z E1 => some (pc + 1, (E1, la, (0, 0, (f z).toInt) :: t, H, c))) (sx_rn q)) none
          | _, _ => none) none = some R := h
        obtain ⟨-, h⟩ := sx_cd h
        rw [h3.2] at h
        cases h
  · rename_i r e
    exfalso
    match sa, e with
    | v :: t, e =>
      rw [List.map_cons] at e
      injection e with e2 e
      simp only [sx_step] at h
      have h3 : v.1 = 3 ∧ v.2.1 = 2 := by
        unfold sx_val at e2
        split at e2
        · cases e2
        · cases e2
        · cases e2
        · rename_i q
          injection e2 with e2
          exact ⟨q, e2⟩
        · cases e2
      unfold sx_o_alen at h
      replace h : cond (Nat.beq v.1 2) (match H.lookup v.2.1 with
          | some (t', n, _) => cond (Nat.blt t' 4) (some [(pc + 1, (E, la, (0, 0, (Int32.ofNat n).toInt) :: t, H, c))]) none
          | none => none) (cond (Nat.beq v.1 3) (match mxst v.2.1 with
          | some (n, _) => some [(pc + 1, (E, la, (0, 0, (Int32.ofNat n).toInt) :: t, H, c))]
          | none => none) none) = some R := h
      rw [h3.1, h3.2] at h
      cases h
  · rfl
theorem sx_cats {W0 : Nat} {ρ : Nat → Int} (l : List sxv) : mxsum (l.map (sx_val W0 ρ)) = sx_ms l := by
  unfold mxsum sx_ms
  rw [List.map_map]
  congr 1
  exact List.map_congr_left (fun v _ => sx_cat_v v)
theorem sx_try_ok {args : List sxv} {pc : Nat} {E : List sxe} {la : List (Nat × sxv)} {r : List sxv} {H : List (Nat × sxc)} {c z : Nat} : ∀ {T : List (Nat × sxK)} {R : List (Nat × sxA)}, sx_try args pc E la r H c z T = some R → ∃ q ∈ T, q.1 = z ∧ sx_callR q.2 (sx_mK q.2 args H) args pc E la r H c = some R
  | [], _, h => by cases h
  | q :: T, R, h => by
    unfold sx_try at h
    split at h
    · rename_i R1 h1
      cases h
      obtain ⟨g1, g2⟩ := sx_cd h1
      exact ⟨q, List.mem_cons_self, sx_bq g1, g2⟩
    · obtain ⟨q', g1, g2⟩ := sx_try_ok h
      exact ⟨q', List.mem_cons_of_mem _ g1, g2⟩
section SXR
variable {ev : Nat → Nat → mxV → List Value → mxW → Option mxR} {i : mxi} {tb : List (Nat × Instr × Nat)} {T : List (Nat × sxK)} {W0 : Nat} {S : Nat → Prop} {ρ : Nat → Int} {E : List sxe} {la : List (Nat × sxv)} {sa : List sxv} {H : List (Nat × sxc)} {c pc : Nat} {w : mxW} {R : List (Nat × sxA)}
theorem sx_Go_call (hT : ∀ q ∈ T, sx_C q.1 q.2) {z : Nat} {args r : List sxv} (h : sx_γ W0 S ρ (E, la, sa, H, c) (la.map (sx_lv W0 ρ)) (sa.map (sx_val W0 ρ)) w) (wr : ∀ v ∈ r, sx_wf E.length v) (hR : sx_try args (pc + 3) E la r H c z T = some R) (hL : sx_ms args ≤ mxlL z) (he : ∀ n, ev (n + 1) pc (la.map (sx_lv W0 ρ)) (sa.map (sx_val W0 ρ)) w = ((fun z vs w' => cond (Nat.ble (mxsum vs) (mxlL z)) (mxev n z 0 (lv_args 0 vs) [] w') none) z (args.map (sx_val W0 ρ)) w).bind fun q => ev n (pc + 3) (la.map (sx_lv W0 ρ)) (q.1.toList ++ r.map (sx_val W0 ρ)) q.2) : sx_Go ev W0 S ρ E.length pc (la.map (sx_lv W0 ρ)) (sa.map (sx_val W0 ρ)) w R := by
  obtain ⟨q, hq, hz, hq2⟩ := sx_try_ok hR
  obtain ⟨p, hp, ρ', w', rv, a1, a2, a3, a4, a5, a6⟩ := sx_call_ok (hT q hq) h wr hq2
  rw [hz] at a4
  refine ⟨p, hp, ρ', _, _, w', a1, a2, a5, a6, fun res hres => ?_⟩
  rw [a3] at hres
  refine sx_Rn_call (fun n => ?_) a4 hres
  rw [he n]
  show (cond (Nat.ble (mxsum (args.map (sx_val W0 ρ))) (mxlL z)) (mxev n z 0 (lv_args 0 (args.map (sx_val W0 ρ))) [] w) none).bind _ = _
  rw [sx_cats, Nat.ble_eq.mpr hL]
  rfl
theorem sx_nx_ok (hev : sx_Ev ev i tb) (hT : ∀ q ∈ T, sx_C q.1 q.2) {op : Instr} {len : Nat} (hop : tb.lookup pc = some (op, len)) (hR : sx_nx T i pc op E la sa H c = some R) (h : sx_γ W0 S ρ (E, la, sa, H, c) (la.map (sx_lv W0 ρ)) (sa.map (sx_val W0 ρ)) w) : sx_Go ev W0 S ρ E.length pc (la.map (sx_lv W0 ρ)) (sa.map (sx_val W0 ρ)) w R := by
  have plain : sx_step i pc op E la sa H c = some R → sx_Go ev W0 S ρ E.length pc (la.map (sx_lv W0 ρ)) (sa.map (sx_val W0 ρ)) w R := by
    intro hs
    obtain ⟨q, hq, ρ', lv', st', w', a1, a2, a3, a4, a5⟩ := sx_step_ok hs h
    refine ⟨q, hq, ρ', lv', st', w', a1, a2, a3, a4, fun res hres => sx_Rn_go (fun n => ?_) hres⟩
    rw [hev n pc _ _ w op len hop (sx_nolaw hs)]
    exact a5 _ _
  unfold sx_nx at hR
  split at hR
  · rename_i n
    unfold sx_inv at hR
    split at hR
    · rename_i z hl
      split at hR
      · rename_i zi hz
        obtain ⟨hb, hR⟩ := sx_cd hR
        simp only [Bool.and_eq_true, Nat.ble_eq] at hb
        obtain ⟨⟨⟨b1, b2⟩, b3⟩, b4⟩ := hb
        refine sx_Go_call hT h (fun v hv => h.2.2.1.2 v (List.mem_of_mem_drop hv)) hR b4 (fun n' => ?_)
        rw [hev n' pc _ _ w _ len hop (by unfold mxlaw; rfl)]
        simp only [mxS, hl, hz, b1, List.length_map, Nat.ble_eq.mpr b2, Bool.true_and]
        rw [← List.map_drop, sx_cats, Nat.ble_eq.mpr b3, ← List.map_take, ← List.map_reverse]
        rfl
      · cases hR
    · rename_i hl
      have mm : ∀ (mx : Bool), sx_mm mx (pc + 3) E la sa H c = some R → (∀ (y x : Int32) (r : List Value) (k : Nat → mxV → List Value → mxW → Option mxR) (call : Nat → List Value → mxW → Option mxR), mxsum r ≤ 8 → mxS i pc (.invokestatic n) (la.map (sx_lv W0 ρ)) (.int y :: .int x :: r) w k call = k (pc + 3) (la.map (sx_lv W0 ρ)) (.int (cond mx (if x < y then y else x) (if y < x then y else x)) :: r) w) → sx_Go ev W0 S ρ E.length pc (la.map (sx_lv W0 ρ)) (sa.map (sx_val W0 ρ)) w R := by
        intro mx hm hk
        unfold sx_mm at hm
        split at hm
        · rename_i y x r
          obtain ⟨hb, hm⟩ := sx_cd hm
          simp only [Bool.and_eq_true, Nat.ble_eq] at hb
          obtain ⟨⟨b1, b2⟩, b3⟩ := hb
          have hy := sx_v0 (W0 := W0) (ρ := ρ) (sx_bq b1)
          have hx := sx_v0 (W0 := W0) (ρ := ρ) (sx_bq b2)
          split at hm
          · rename_i q p hq hp
            obtain ⟨hc, hm⟩ := sx_cd hm
            rw [Bool.and_eq_true] at hc
            have rq := sx_rg_ok h.1 hq
            have rp := sx_rg_ok h.1 hp
            have eq := sx_i32_ok hc.1 rq.1 rq.2
            have ep := sx_i32_ok hc.2 rp.1 rp.2
            have wr := sx_tl_wf (sx_tl_wf h.2.2.1.2)
            have key : sx_Ok W0 S i pc (.invokestatic n) ρ E.length (la.map (sx_lv W0 ρ)) ((y :: x :: r).map (sx_val W0 ρ)) w R := by
              refine sx_okni h (cond mx (if Int32.ofInt (ρ x.2.1 + x.2.2) < Int32.ofInt (ρ y.2.1 + y.2.2) then Int32.ofInt (ρ y.2.1 + y.2.2) else Int32.ofInt (ρ x.2.1 + x.2.2)) (if Int32.ofInt (ρ y.2.1 + y.2.2) < Int32.ofInt (ρ x.2.1 + x.2.2) then Int32.ofInt (ρ y.2.1 + y.2.2) else Int32.ofInt (ρ x.2.1 + x.2.2))) hm ?_ wr (fun k call => ?_)
              · cases mx with
                | true =>
                  dsimp only [cond]
                  split
                  · rename_i g
                    rw [Int32.lt_iff_toInt_lt, eq, ep] at g
                    rw [ep]
                    omega
                  · rename_i g
                    rw [Int32.lt_iff_toInt_lt, eq, ep] at g
                    rw [eq]
                    omega
                | false =>
                  dsimp only [cond]
                  split
                  · rename_i g
                    rw [Int32.lt_iff_toInt_lt, eq, ep] at g
                    rw [ep]
                    omega
                  · rename_i g
                    rw [Int32.lt_iff_toInt_lt, eq, ep] at g
                    rw [eq]
                    omega
              · rw [List.map_cons, List.map_cons, hy, hx]
                exact hk _ _ _ _ _ (by rw [sx_cats]; exact b3)
            obtain ⟨q, hq, ρ', lv', st', w', a1, a2, a3, a4, a5⟩ := key
            refine ⟨q, hq, ρ', lv', st', w', a1, a2, a3, a4, fun res hres => sx_Rn_go (fun n => ?_) hres⟩
            rw [hev n pc _ _ w _ len hop (by unfold mxlaw; rfl)]
            exact a5 _ _
          · cases hm
        · cases hm
      split at hR
      · rename_i hm
        exact mm true hR (fun y x r k call hr => by simp only [mxS, hl, hm, Nat.ble_eq.mpr hr]; rfl)
      · rename_i hm
        exact mm false hR (fun y x r k call hr => by simp only [mxS, hl, hm, Nat.ble_eq.mpr hr]; rfl)
      · cases hR
  · rename_i n
    unfold sx_vir at hR
    split at hR
    · rename_i z hl
      split at hR
      · rename_i zi hz
        split at hR
        · rename_i v r hdr
          have hvm : v ∈ sa := List.mem_of_mem_drop (by rw [hdr]; exact List.mem_cons_self)
          have wr : ∀ u ∈ r, sx_wf E.length u := fun u hu => h.2.2.1.2 u (List.mem_of_mem_drop (by rw [hdr]; exact List.mem_cons_of_mem _ hu))
          have hdrop : (sa.map (sx_val W0 ρ)).drop (mxi_a zi) = sx_val W0 ρ v :: r.map (sx_val W0 ρ) := by rw [← List.map_drop, hdr, List.map_cons]
          cases h2 : Nat.beq v.1 2 with
          | true =>
            rw [h2] at hR
            replace hR : (match H.lookup v.2.1 with
              | some cl => cond (!(mxi_s zi) && !(mxi_I zi) && Nat.beq cl.1 (mxk (mxi_o zi) + 4) && Nat.ble (sx_ms r) 8 && Nat.blt (mxk (mxi_o zi)) 5 && Nat.ble (sx_ms (v :: (sa.take (mxi_a zi)).reverse)) (mxlL z)) (sx_try (v :: (sa.take (mxi_a zi)).reverse) (pc + 3) E la r H c z T) none
              | none => none) = some R := hR
            split at hR
            · rename_i cl hcl
              obtain ⟨hb, hR⟩ := sx_cd hR
              simp only [Bool.and_eq_true, Nat.ble_eq, Nat.blt_eq, Bool.not_eq_true'] at hb
              obtain ⟨⟨⟨⟨⟨b1, b2⟩, b3⟩, b4⟩, b5⟩, b6⟩ := hb
              refine sx_Go_call hT h wr hR b6 (fun n' => ?_)
              have hv := sx_v2 (W0 := W0) (ρ := ρ) (sx_bq h2)
              have hw : w.1[sx_ad W0 v.2.1]? = some (cl.1, cl.2.1) := (h.2.2.2.1 _ (sx_hl hcl)).1.1
              rw [hev n' pc _ _ w _ len hop (by unfold mxlaw; rfl)]
              rw [hv] at hdrop
              simp only [mxS, hl, hz, hdrop, hw, b1, b2, Bool.not_false, Bool.true_and, sx_bq b3, beq_self_eq_true]
              rw [sx_cats, Nat.ble_eq.mpr b4, Nat.blt_eq.mpr b5, List.map_cons, hv, ← List.map_take, ← List.map_reverse]
              rfl
            · cases hR
          | false =>
            rw [h2] at hR
            obtain ⟨hb, hR⟩ := sx_cd hR
            simp only [Bool.and_eq_true, Nat.ble_eq, Nat.blt_eq, Bool.not_eq_true'] at hb
            obtain ⟨⟨⟨⟨⟨⟨⟨b0, b1⟩, b2⟩, b3⟩, b4⟩, b5⟩, b6⟩, b7⟩ := hb
            refine sx_Go_call hT h wr hR b7 (fun n' => ?_)
            have hv := sx_v3 (W0 := W0) (ρ := ρ) (sx_bq b0)
            rw [hev n' pc _ _ w _ len hop (by unfold mxlaw; rfl)]
            rw [hv] at hdrop
            simp only [mxS, hl, hz, hdrop, b1, b2, b3, Bool.not_false, Bool.true_and]
            rw [sx_cats, Nat.ble_eq.mpr b4, Nat.blt_eq.mpr b5, Nat.ble_eq.mpr b6, List.map_cons, hv, ← List.map_take, ← List.map_reverse]
            rfl
        · cases hR
      · cases hR
    · cases hR
  · exact plain hR
end SXR
theorem sx_bnd_ok {α β : Type} {f : α → Option (List β)} : ∀ {l : List α} {X : List β}, sx_bnd f l = some X → ∀ a ∈ l, ∃ x, f a = some x ∧ ∀ b ∈ x, b ∈ X
  | [], _, _, a, ha => by cases ha
  | b :: l, X, h, a, ha => by
    unfold sx_bnd at h
    split at h
    · rename_i x hx
      split at h
      · rename_i y hy
        cases h
        rcases List.mem_cons.mp ha with rfl | ha
        · exact ⟨x, hx, fun b hb => List.mem_append_left _ hb⟩
        · obtain ⟨x', h1, h2⟩ := sx_bnd_ok hy a ha
          exact ⟨x', h1, fun b hb => List.mem_append_right _ (h2 b hb)⟩
      · cases h
    · cases h
/-- a run of the executor: some end that it names is reached -/
theorem sx_run_ok {ev : Nat → Nat → mxV → List Value → mxW → Option mxR} {i : mxi} {tb : List (Nat × Instr × Nat)} {T : List (Nat × sxK)} {cuts : List Nat} (hev : sx_Ev ev i tb) (hT : ∀ q ∈ T, sx_C q.1 q.2) {W0 : Nat} {S : Nat → Prop} : ∀ (n : Nat) {pc : Nat} {A : sxA} {X : List (Nat × sxA)} {ρ : Nat → Int} {lv : mxV} {st : List Value} {w : mxW}, sx_run T i tb cuts n pc A = some X → sx_γ W0 S ρ A lv st w → sx_Go ev W0 S ρ A.1.length pc lv st w X
  | 0, _, _, _, _, _, _, _, h, _ => by cases h
  | n + 1, pc, A, X, ρ, lv, st, w, h, hγ => by
    unfold sx_run at h
    split at h
    · rename_i op hop
      cases hrt : mxrt op.1 with
      | true =>
        rw [hrt] at h
        cases h
        exact ⟨_, List.mem_singleton.mpr rfl, ρ, lv, st, w, fun _ _ => rfl, Nat.le_refl _, hγ, sx_Fr.rf, fun _ hr => hr⟩
      | false =>
        rw [hrt] at h
        replace h : (match sx_nx T i pc op.1 A.1 A.2.1 A.2.2.1 A.2.2.2.1 A.2.2.2.2 with
          | some R => sx_bnd (fun q => cond (cuts.contains q.1) (some [q]) (sx_run T i tb cuts n q.1 q.2)) R
          | none => none) = some X := h
        split at h
        · rename_i R hR
          have e1 := hγ.2.1.1
          have e2 := hγ.2.2.1.1
          subst e1
          subst e2
          obtain ⟨q, hq, ρ', lv', st', w', a1, a2, a3, a4, a5⟩ := sx_nx_ok hev hT hop hR hγ
          obtain ⟨x, g1, g2⟩ := sx_bnd_ok h q hq
          cases hc : cuts.contains q.1 with
          | true =>
            rw [hc] at g1
            cases g1
            exact ⟨q, g2 q (List.mem_singleton.mpr rfl), ρ', lv', st', w', a1, a2, a3, a4, a5⟩
          | false =>
            rw [hc] at g1
            obtain ⟨p, hp, ρ2, lv2, st2, w2, b1, b2, b3, b4, b5⟩ := sx_run_ok hev hT n g1 a3
            exact ⟨p, g2 p hp, ρ2, lv2, st2, w2, fun j hj => (b1 j (Nat.lt_of_lt_of_le hj a2)).trans (a1 j hj), Nat.le_trans a2 b2, b3, a4.tr b4, fun res hr => a5 res (b5 res hr)⟩
        · cases h
    · cases h
