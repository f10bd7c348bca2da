/-! each instruction's ways are sound -/
theorem sx_cd {α : Type} {b : Bool} {X : Option α} {R : α} (h : cond b X none = some R) : b = true ∧ X = some R := by
  cases b with
  | true => exact ⟨rfl, h⟩
  | false => cases h
theorem sx_bq {a b : Nat} (h : Nat.beq a b = true) : a = b := Nat.eq_of_beq_eq_true h
theorem sx_v0 {W0 : Nat} {ρ : Nat → Int} {v : sxv} (h : v.1 = 0) : sx_val W0 ρ v = .int (Int32.ofInt (ρ v.2.1 + v.2.2)) := by
  unfold sx_val
  rw [h]
  rfl
theorem sx_v1 {W0 : Nat} {ρ : Nat → Int} {v : sxv} (h : v.1 = 1) : sx_val W0 ρ v = .long (Int64.ofInt (ρ v.2.1 + v.2.2)) := by
  unfold sx_val
  rw [h]
  rfl
theorem sx_v2 {W0 : Nat} {ρ : Nat → Int} {v : sxv} (h : v.1 = 2) : sx_val W0 ρ v = .ref (sx_ad W0 v.2.1) := by
  unfold sx_val
  rw [h]
  rfl
theorem sx_v3 {W0 : Nat} {ρ : Nat → Int} {v : sxv} (h : v.1 = 3) : sx_val W0 ρ v = .retAddr v.2.1 := by
  unfold sx_val
  rw [h]
  rfl
theorem sx_v4 {W0 : Nat} {ρ : Nat → Int} {v : sxv} (h : v.1 = 4) : sx_val W0 ρ v = .null := by
  unfold sx_val
  rw [h]
  rfl
theorem sx_ok1 {W0 : Nat} {S : Nat → Prop} {i : mxi} {pc : Nat} {op : Instr} {ρ : Nat → Int} {E : List sxe} {la : List (Nat × sxv)} {sa : List sxv} {H : List (Nat × sxc)} {c : Nat} {lv : mxV} {st : List Value} {w : mxW} (h : sx_γ W0 S ρ (E, la, sa, H, c) lv st w) {pc' : Nat} {la' : List (Nat × sxv)} {sa' : List sxv} (wl : ∀ q ∈ la', sx_wf E.length q.2) (ws : ∀ v ∈ sa', sx_wf E.length v) (hk : ∀ (k : Nat → mxV → List Value → mxW → Option mxR) (call : Nat → List Value → mxW → Option mxR), mxS i pc op lv st w k call = k pc' (la'.map (sx_lv W0 ρ)) (sa'.map (sx_val W0 ρ)) w) : sx_Ok W0 S i pc op ρ E.length lv st w [(pc', (E, la', sa', H, c))] :=
  ⟨_, List.mem_singleton.mpr rfl, ρ, _, _, w, fun _ _ => rfl, Nat.le_refl _, ⟨h.1, ⟨rfl, wl⟩, ⟨rfl, ws⟩, h.2.2.2.1, h.2.2.2.2.1, h.2.2.2.2.2⟩, sx_Fr.rf, hk⟩
theorem sx_okn {W0 : Nat} {S : Nat → Prop} {i : mxi} {pc : Nat} {op : Instr} {ρ : Nat → Int} {E : List sxe} {la : List (Nat × sxv)} {sa : List sxv} {H : List (Nat × sxc)} {c : Nat} {lv : mxV} {st : List Value} {w : mxW} {R : List (Nat × sxA)} (h : sx_γ W0 S ρ (E, la, sa, H, c) lv st w) {pc' : Nat} {tag : Nat} {lo hi z : Int} {fl : Nat} {r : List sxv} {x : Value} (hR : some [(pc', (E ++ [(lo, hi, fl, 0)], la, (tag, E.length, 0) :: r, H, c))] = some R) (h1 : lo ≤ z ∧ z ≤ hi) (h3 : fl = 1 → sx_V z) (hx : x = sx_val W0 (sx_up ρ E.length z) (tag, E.length, 0)) (ws : ∀ v ∈ r, sx_wf E.length v) (hk : ∀ (k : Nat → mxV → List Value → mxW → Option mxR) (call : Nat → List Value → mxW → Option mxR), mxS i pc op lv st w k call = k pc' lv (x :: r.map (sx_val W0 ρ)) w) : sx_Ok W0 S i pc op ρ E.length lv st w R := by
  cases hR
  have hg := sx_γ_ag (sa := r) ⟨h.1, h.2.1, ⟨rfl, ws⟩, h.2.2.2⟩ (sx_env_new h.1 h1.1 h1.2 h3) (by rw [List.length_append]; exact Nat.le_add_right _ _) (fun j hj => sx_up_lt hj)
  refine ⟨_, List.mem_singleton.mpr rfl, sx_up ρ E.length z, lv, x :: r.map (sx_val W0 ρ), w, fun j hj => sx_up_lt hj, by show E.length ≤ (E ++ _).length; rw [List.length_append]; exact Nat.le_add_right _ _, ⟨hg.1, hg.2.1, ⟨?_, ?_⟩, hg.2.2.2⟩, sx_Fr.rf, hk⟩
  · rw [List.map_cons, ← hx]
    exact congrArg _ hg.2.2.1.1
  · intro v hv
    rcases List.mem_cons.mp hv with q | q
    · subst q
      intro _
      show E.length < (E ++ _).length
      rw [List.length_append]
      exact Nat.lt_succ_self _
    · exact hg.2.2.1.2 v q
theorem sx_okni {W0 : Nat} {S : Nat → Prop} {i : mxi} {pc : Nat} {op : Instr} {ρ : Nat → Int} {E : List sxe} {la : List (Nat × sxv)} {sa : List sxv} {H : List (Nat × sxc)} {c : Nat} {lv : mxV} {st : List Value} {w : mxW} {R : List (Nat × sxA)} (h : sx_γ W0 S ρ (E, la, sa, H, c) lv st w) {pc' : Nat} {q : Int × Int} {r : List sxv} (X : Int32) (hR : sx_ni 0 q E la r H c pc' = some R) (h1 : q.1 ≤ X.toInt ∧ X.toInt ≤ q.2) (ws : ∀ v ∈ r, sx_wf E.length v) (hk : ∀ (k : Nat → mxV → List Value → mxW → Option mxR) (call : Nat → List Value → mxW → Option mxR), mxS i pc op lv st w k call = k pc' lv (.int X :: r.map (sx_val W0 ρ)) w) : sx_Ok W0 S i pc op ρ E.length lv st w R :=
  sx_okn h hR h1 (fun q => by cases q) (by rw [sx_v0 rfl]; dsimp only; rw [sx_up_eq, Int.add_zero, Int32.ofInt_toInt]) ws hk
theorem sx_oknl {W0 : Nat} {S : Nat → Prop} {i : mxi} {pc : Nat} {op : Instr} {ρ : Nat → Int} {E : List sxe} {la : List (Nat × sxv)} {sa : List sxv} {H : List (Nat × sxc)} {c : Nat} {lv : mxV} {st : List Value} {w : mxW} {R : List (Nat × sxA)} (h : sx_γ W0 S ρ (E, la, sa, H, c) lv st w) {pc' : Nat} {q : Int × Int} {r : List sxv} (X : Int64) (hR : sx_ni 1 q E la r H c pc' = some R) (h1 : q.1 ≤ X.toInt ∧ X.toInt ≤ q.2) (ws : ∀ v ∈ r, sx_wf E.length v) (hk : ∀ (k : Nat → mxV → List Value → mxW → Option mxR) (call : Nat → List Value → mxW → Option mxR), mxS i pc op lv st w k call = k pc' lv (.long X :: r.map (sx_val W0 ρ)) w) : sx_Ok W0 S i pc op ρ E.length lv st w R :=
  sx_okn h hR h1 (fun q => by cases q) (by rw [sx_v1 rfl]; dsimp only; rw [sx_up_eq, Int.add_zero, Int64.ofInt_toInt]) ws hk
theorem sx_in_ok {q : Int × Int} {lo hi z : Int} (h : sx_in q lo hi = true) (h1 : q.1 ≤ z ∧ z ≤ q.2) : lo ≤ z ∧ z ≤ hi := by
  unfold sx_in at h
  simp only [Bool.and_eq_true, decide_eq_true_eq] at h
  omega
theorem sx_add_ok {W0 : Nat} {E : List sxe} {ρ : Nat → Int} {x v : sxv} {d : Int} (hx : sx_add E x d = some v) : sx_wf E.length v ∧ sx_val W0 ρ v = .int (Int32.ofInt (ρ x.2.1 + x.2.2) + Int32.ofInt d) := by
  unfold sx_add at hx
  split at hx
  · rename_i q hq
    obtain ⟨-, hx⟩ := sx_cd hx
    cases hx
    refine ⟨fun _ => (show x.2.1 < E.length from sx_rg_wf hq), ?_⟩
    rw [sx_v0 rfl, ← Int32.ofInt_add]
    show Value.int (Int32.ofInt (ρ x.2.1 + (x.2.2 + d))) = _
    rw [Int.add_assoc]
  · cases hx
theorem sx_and_r (x y : Int32) (h : 0 ≤ y.toInt) : 0 ≤ (x &&& y).toInt ∧ (x &&& y).toInt ≤ y.toInt := by
  have hy : y.toBitVec.toNat < 2 ^ 31 := by
    rcases Nat.lt_or_ge y.toBitVec.toNat (2 ^ 31) with q | q
    · exact q
    · exfalso
      have e : y.toInt = y.toBitVec.toInt := rfl
      rw [e, BitVec.toInt_eq_toNat_cond, if_neg (by omega)] at h
      have := y.toBitVec.isLt
      omega
  have hn : (x &&& y).toBitVec.toNat = x.toBitVec.toNat &&& y.toBitVec.toNat := by
    rw [Int32.toBitVec_and, BitVec.toNat_and]
  have hle : (x &&& y).toBitVec.toNat ≤ y.toBitVec.toNat := by rw [hn]; exact Nat.and_le_right
  have e1 : (x &&& y).toInt = ((x &&& y).toBitVec.toNat : Int) := by
    show (x &&& y).toBitVec.toInt = _
    rw [BitVec.toInt_eq_toNat_cond, if_pos (by omega)]
  have e2 : y.toInt = (y.toBitVec.toNat : Int) := by
    show y.toBitVec.toInt = _
    rw [BitVec.toInt_eq_toNat_cond, if_pos (by omega)]
  omega
theorem sx_and_l (x y : Int32) (h : 0 ≤ x.toInt) : 0 ≤ (x &&& y).toInt ∧ (x &&& y).toInt ≤ x.toInt := by
  rw [Int32.and_comm]
  exact sx_and_r y x h
theorem sx_andl_r (x y : Int64) (h : 0 ≤ y.toInt) : 0 ≤ (x &&& y).toInt ∧ (x &&& y).toInt ≤ y.toInt := by
  have hy : y.toBitVec.toNat < 2 ^ 63 := by
    rcases Nat.lt_or_ge y.toBitVec.toNat (2 ^ 63) with q | q
    · exact q
    · exfalso
      have e : y.toInt = y.toBitVec.toInt := rfl
      rw [e, BitVec.toInt_eq_toNat_cond, if_neg (by omega)] at h
      have := y.toBitVec.isLt
      omega
  have hn : (x &&& y).toBitVec.toNat = x.toBitVec.toNat &&& y.toBitVec.toNat := by
    rw [Int64.toBitVec_and, BitVec.toNat_and]
  have hle : (x &&& y).toBitVec.toNat ≤ y.toBitVec.toNat := by rw [hn]; exact Nat.and_le_right
  have e1 : (x &&& y).toInt = ((x &&& y).toBitVec.toNat : Int) := by
    show (x &&& y).toBitVec.toInt = _
    rw [BitVec.toInt_eq_toNat_cond, if_pos (by omega)]
  have e2 : y.toInt = (y.toBitVec.toNat : Int) := by
    show y.toBitVec.toInt = _
    rw [BitVec.toInt_eq_toNat_cond, if_pos (by omega)]
  omega
theorem sx_nn (x : Int32) {k : Nat} (h0 : 0 ≤ x.toInt) (h : x.toInt < k) : x.toBitVec.toNat < k ∧ x.toInt = (x.toBitVec.toNat : Int) := by
  have e : x.toInt = x.toBitVec.toInt := rfl
  have hl := x.toBitVec.isLt
  rw [e, BitVec.toInt_eq_toNat_cond] at h0 h ⊢
  split at h0 <;> rename_i q
  · rw [if_pos q] at h ⊢
    exact ⟨by omega, rfl⟩
  · omega
theorem sx_or_4 (x y : Int32) (h1 : 0 ≤ x.toInt ∧ x.toInt ≤ 15) (h2 : 0 ≤ y.toInt ∧ y.toInt ≤ 15) : 0 ≤ (x ||| y).toInt ∧ (x ||| y).toInt ≤ 15 := by
  obtain ⟨a1, -⟩ := sx_nn x (k := 16) h1.1 (by omega)
  obtain ⟨b1, -⟩ := sx_nn y (k := 16) h2.1 (by omega)
  have hn : (x ||| y).toBitVec.toNat = x.toBitVec.toNat ||| y.toBitVec.toNat := by
    rw [Int32.toBitVec_or, BitVec.toNat_or]
  have hlt : (x ||| y).toBitVec.toNat < 2 ^ 4 := by rw [hn]; exact Nat.or_lt_two_pow a1 b1
  have e1 : (x ||| y).toInt = ((x ||| y).toBitVec.toNat : Int) := by
    show (x ||| y).toBitVec.toInt = _
    rw [BitVec.toInt_eq_toNat_cond, if_pos (by omega)]
  omega
theorem sx_shl3 (y : Int32) (h : 0 ≤ y.toInt ∧ y.toInt ≤ 3) : 1 ≤ (Int32.ofInt 1 <<< (y &&& 31)).toInt ∧ (Int32.ofInt 1 <<< (y &&& 31)).toInt ≤ 8 := by
  have e : y = Int32.ofInt y.toInt := (Int32.ofInt_toInt y).symm
  rw [e]
  obtain ⟨h1, h2⟩ := h
  generalize y.toInt = z at h1 h2
  have : z = 0 ∨ z = 1 ∨ z = 2 ∨ z = 3 := by omega
  rcases this with q | q | q | q <;> subst q <;> decide
theorem sx_cmp3 (x y : Int64) : -1 ≤ (lg_cmp x y).toInt ∧ (lg_cmp x y).toInt ≤ 1 := by
  unfold lg_cmp
  split
  · decide
  · split <;> decide
theorem sx_pr {E : List sxe} {ρ : Nat → Int} (h : sx_env E ρ) {d : Int} {s : Nat} (hs : s = 0) : ρ s + d = d := by
  rw [hs, h.1]
  omega
theorem sxo_ishr {W0 : Nat} {S : Nat → Prop} {i : mxi} {pc : Nat} {ρ : Nat → Int} {E : List sxe} {la : List (Nat × sxv)} {sa : List sxv} {H : List (Nat × sxc)} {c : Nat} {w : mxW} {R : List (Nat × sxA)} (hR : sx_o_bin0 (pc + 1) E la sa H c = some R) (h : sx_γ W0 S ρ (E, la, sa, H, c) (la.map (sx_lv W0 ρ)) (sa.map (sx_val W0 ρ)) w) : sx_Ok W0 S i pc .ishr ρ E.length (la.map (sx_lv W0 ρ)) (sa.map (sx_val W0 ρ)) w R := by
  unfold sx_o_bin0 at hR
  split at hR
  · rename_i y x r
    obtain ⟨ht, hR⟩ := sx_cd hR
    rw [Bool.and_eq_true] at ht
    have ty := sx_bq ht.1
    have tx := sx_bq ht.2
    have hy : sx_val W0 ρ y = .int (Int32.ofInt (ρ y.2.1 + y.2.2)) := sx_v0 ty
    have hx : sx_val W0 ρ x = .int (Int32.ofInt (ρ x.2.1 + x.2.2)) := sx_v0 tx
    have ws := h.2.2.1.2
    have wr : ∀ v ∈ r, sx_wf E.length v := fun v q => ws v (List.mem_cons_of_mem _ (List.mem_cons_of_mem _ q))
    have hk : ∀ (k : Nat → mxV → List Value → mxW → Option mxR) (call : Nat → List Value → mxW → Option mxR), mxS i pc .ishr (la.map (sx_lv W0 ρ)) ((y :: x :: r).map (sx_val W0 ρ)) w k call = k (pc + 1) (la.map (sx_lv W0 ρ)) (.int ((Int32.ofInt (ρ x.2.1 + x.2.2)) >>> ((Int32.ofInt (ρ y.2.1 + y.2.2)) &&& 31)) :: r.map (sx_val W0 ρ)) w := by
      intro k call
      rw [List.map_cons, List.map_cons, hy, hx]
      rfl
    exact sx_okni h _ hR (sx_top_ok _) wr hk
  · cases hR
theorem sxo_iushr {W0 : Nat} {S : Nat → Prop} {i : mxi} {pc : Nat} {ρ : Nat → Int} {E : List sxe} {la : List (Nat × sxv)} {sa : List sxv} {H : List (Nat × sxc)} {c : Nat} {w : mxW} {R : List (Nat × sxA)} (hR : sx_o_bin0 (pc + 1) E la sa H c = some R) (h : sx_γ W0 S ρ (E, la, sa, H, c) (la.map (sx_lv W0 ρ)) (sa.map (sx_val W0 ρ)) w) : sx_Ok W0 S i pc .iushr ρ E.length (la.map (sx_lv W0 ρ)) (sa.map (sx_val W0 ρ)) w R := by
  unfold sx_o_bin0 at hR
  split at hR
  · rename_i y x r
    obtain ⟨ht, hR⟩ := sx_cd hR
    rw [Bool.and_eq_true] at ht
    have ty := sx_bq ht.1
    have tx := sx_bq ht.2
    have hy : sx_val W0 ρ y = .int (Int32.ofInt (ρ y.2.1 + y.2.2)) := sx_v0 ty
    have hx : sx_val W0 ρ x = .int (Int32.ofInt (ρ x.2.1 + x.2.2)) := sx_v0 tx
    have ws := h.2.2.1.2
    have wr : ∀ v ∈ r, sx_wf E.length v := fun v q => ws v (List.mem_cons_of_mem _ (List.mem_cons_of_mem _ q))
    have hk : ∀ (k : Nat → mxV → List Value → mxW → Option mxR) (call : Nat → List Value → mxW → Option mxR), mxS i pc .iushr (la.map (sx_lv W0 ρ)) ((y :: x :: r).map (sx_val W0 ρ)) w k call = k (pc + 1) (la.map (sx_lv W0 ρ)) (.int (((Int32.ofInt (ρ x.2.1 + x.2.2)).toUInt32 >>> ((Int32.ofInt (ρ y.2.1 + y.2.2)).toUInt32 &&& Int32.toUInt32 31)).toInt32) :: r.map (sx_val W0 ρ)) w := by
      intro k call
      rw [List.map_cons, List.map_cons, hy, hx]
      rfl
    exact sx_okni h _ hR (sx_top_ok _) wr hk
  · cases hR
theorem sxo_ladd {W0 : Nat} {S : Nat → Prop} {i : mxi} {pc : Nat} {ρ : Nat → Int} {E : List sxe} {la : List (Nat × sxv)} {sa : List sxv} {H : List (Nat × sxc)} {c : Nat} {w : mxW} {R : List (Nat × sxA)} (hR : sx_o_binl (pc + 1) E la sa H c = some R) (h : sx_γ W0 S ρ (E, la, sa, H, c) (la.map (sx_lv W0 ρ)) (sa.map (sx_val W0 ρ)) w) : sx_Ok W0 S i pc .ladd ρ E.length (la.map (sx_lv W0 ρ)) (sa.map (sx_val W0 ρ)) w R := by
  unfold sx_o_binl at hR
  split at hR
  · rename_i y x r
    obtain ⟨ht, hR⟩ := sx_cd hR
    rw [Bool.and_eq_true] at ht
    have ty := sx_bq ht.1
    have tx := sx_bq ht.2
    have hy : sx_val W0 ρ y = .long (Int64.ofInt (ρ y.2.1 + y.2.2)) := sx_v1 ty
    have hx : sx_val W0 ρ x = .long (Int64.ofInt (ρ x.2.1 + x.2.2)) := sx_v1 tx
    have ws := h.2.2.1.2
    have wr : ∀ v ∈ r, sx_wf E.length v := fun v q => ws v (List.mem_cons_of_mem _ (List.mem_cons_of_mem _ q))
    have hk : ∀ (k : Nat → mxV → List Value → mxW → Option mxR) (call : Nat → List Value → mxW → Option mxR), mxS i pc .ladd (la.map (sx_lv W0 ρ)) ((y :: x :: r).map (sx_val W0 ρ)) w k call = k (pc + 1) (la.map (sx_lv W0 ρ)) (.long ((Int64.ofInt (ρ x.2.1 + x.2.2)) + (Int64.ofInt (ρ y.2.1 + y.2.2))) :: r.map (sx_val W0 ρ)) w := by
      intro k call
      rw [List.map_cons, List.map_cons, hy, hx]
      rfl
    exact sx_oknl h _ hR (sx_topl_ok _) wr hk
  · cases hR
theorem sxo_lmul {W0 : Nat} {S : Nat → Prop} {i : mxi} {pc : Nat} {ρ : Nat → Int} {E : List sxe} {la : List (Nat × sxv)} {sa : List sxv} {H : List (Nat × sxc)} {c : Nat} {w : mxW} {R : List (Nat × sxA)} (hR : sx_o_binl (pc + 1) E la sa H c = some R) (h : sx_γ W0 S ρ (E, la, sa, H, c) (la.map (sx_lv W0 ρ)) (sa.map (sx_val W0 ρ)) w) : sx_Ok W0 S i pc .lmul ρ E.length (la.map (sx_lv W0 ρ)) (sa.map (sx_val W0 ρ)) w R := by
  unfold sx_o_binl at hR
  split at hR
  · rename_i y x r
    obtain ⟨ht, hR⟩ := sx_cd hR
    rw [Bool.and_eq_true] at ht
    have ty := sx_bq ht.1
    have tx := sx_bq ht.2
    have hy : sx_val W0 ρ y = .long (Int64.ofInt (ρ y.2.1 + y.2.2)) := sx_v1 ty
    have hx : sx_val W0 ρ x = .long (Int64.ofInt (ρ x.2.1 + x.2.2)) := sx_v1 tx
    have ws := h.2.2.1.2
    have wr : ∀ v ∈ r, sx_wf E.length v := fun v q => ws v (List.mem_cons_of_mem _ (List.mem_cons_of_mem _ q))
    have hk : ∀ (k : Nat → mxV → List Value → mxW → Option mxR) (call : Nat → List Value → mxW → Option mxR), mxS i pc .lmul (la.map (sx_lv W0 ρ)) ((y :: x :: r).map (sx_val W0 ρ)) w k call = k (pc + 1) (la.map (sx_lv W0 ρ)) (.long ((Int64.ofInt (ρ x.2.1 + x.2.2)) * (Int64.ofInt (ρ y.2.1 + y.2.2))) :: r.map (sx_val W0 ρ)) w := by
      intro k call
      rw [List.map_cons, List.map_cons, hy, hx]
      rfl
    exact sx_oknl h _ hR (sx_topl_ok _) wr hk
  · cases hR
theorem sxo_lor {W0 : Nat} {S : Nat → Prop} {i : mxi} {pc : Nat} {ρ : Nat → Int} {E : List sxe} {la : List (Nat × sxv)} {sa : List sxv} {H : List (Nat × sxc)} {c : Nat} {w : mxW} {R : List (Nat × sxA)} (hR : sx_o_binl (pc + 1) E la sa H c = some R) (h : sx_γ W0 S ρ (E, la, sa, H, c) (la.map (sx_lv W0 ρ)) (sa.map (sx_val W0 ρ)) w) : sx_Ok W0 S i pc .lor ρ E.length (la.map (sx_lv W0 ρ)) (sa.map (sx_val W0 ρ)) w R := by
  unfold sx_o_binl at hR
  split at hR
  · rename_i y x r
    obtain ⟨ht, hR⟩ := sx_cd hR
    rw [Bool.and_eq_true] at ht
    have ty := sx_bq ht.1
    have tx := sx_bq ht.2
    have hy : sx_val W0 ρ y = .long (Int64.ofInt (ρ y.2.1 + y.2.2)) := sx_v1 ty
    have hx : sx_val W0 ρ x = .long (Int64.ofInt (ρ x.2.1 + x.2.2)) := sx_v1 tx
    have ws := h.2.2.1.2
    have wr : ∀ v ∈ r, sx_wf E.length v := fun v q => ws v (List.mem_cons_of_mem _ (List.mem_cons_of_mem _ q))
    have hk : ∀ (k : Nat → mxV → List Value → mxW → Option mxR) (call : Nat → List Value → mxW → Option mxR), mxS i pc .lor (la.map (sx_lv W0 ρ)) ((y :: x :: r).map (sx_val W0 ρ)) w k call = k (pc + 1) (la.map (sx_lv W0 ρ)) (.long ((Int64.ofInt (ρ x.2.1 + x.2.2)) ||| (Int64.ofInt (ρ y.2.1 + y.2.2))) :: r.map (sx_val W0 ρ)) w := by
      intro k call
      rw [List.map_cons, List.map_cons, hy, hx]
      rfl
    exact sx_oknl h _ hR (sx_topl_ok _) wr hk
  · cases hR
theorem sxo_lxor {W0 : Nat} {S : Nat → Prop} {i : mxi} {pc : Nat} {ρ : Nat → Int} {E : List sxe} {la : List (Nat × sxv)} {sa : List sxv} {H : List (Nat × sxc)} {c : Nat} {w : mxW} {R : List (Nat × sxA)} (hR : sx_o_binl (pc + 1) E la sa H c = some R) (h : sx_γ W0 S ρ (E, la, sa, H, c) (la.map (sx_lv W0 ρ)) (sa.map (sx_val W0 ρ)) w) : sx_Ok W0 S i pc .lxor ρ E.length (la.map (sx_lv W0 ρ)) (sa.map (sx_val W0 ρ)) w R := by
  unfold sx_o_binl at hR
  split at hR
  · rename_i y x r
    obtain ⟨ht, hR⟩ := sx_cd hR
    rw [Bool.and_eq_true] at ht
    have ty := sx_bq ht.1
    have tx := sx_bq ht.2
    have hy : sx_val W0 ρ y = .long (Int64.ofInt (ρ y.2.1 + y.2.2)) := sx_v1 ty
    have hx : sx_val W0 ρ x = .long (Int64.ofInt (ρ x.2.1 + x.2.2)) := sx_v1 tx
    have ws := h.2.2.1.2
    have wr : ∀ v ∈ r, sx_wf E.length v := fun v q => ws v (List.mem_cons_of_mem _ (List.mem_cons_of_mem _ q))
    have hk : ∀ (k : Nat → mxV → List Value → mxW → Option mxR) (call : Nat → List Value → mxW → Option mxR), mxS i pc .lxor (la.map (sx_lv W0 ρ)) ((y :: x :: r).map (sx_val W0 ρ)) w k call = k (pc + 1) (la.map (sx_lv W0 ρ)) (.long ((Int64.ofInt (ρ x.2.1 + x.2.2)) ^^^ (Int64.ofInt (ρ y.2.1 + y.2.2))) :: r.map (sx_val W0 ρ)) w := by
      intro k call
      rw [List.map_cons, List.map_cons, hy, hx]
      rfl
    exact sx_oknl h _ hR (sx_topl_ok _) wr hk
  · cases hR
theorem sxo_lshl {W0 : Nat} {S : Nat → Prop} {i : mxi} {pc : Nat} {ρ : Nat → Int} {E : List sxe} {la : List (Nat × sxv)} {sa : List sxv} {H : List (Nat × sxc)} {c : Nat} {w : mxW} {R : List (Nat × sxA)} (hR : sx_o_shl (pc + 1) E la sa H c = some R) (h : sx_γ W0 S ρ (E, la, sa, H, c) (la.map (sx_lv W0 ρ)) (sa.map (sx_val W0 ρ)) w) : sx_Ok W0 S i pc .lshl ρ E.length (la.map (sx_lv W0 ρ)) (sa.map (sx_val W0 ρ)) w R := by
  unfold sx_o_shl at hR
  split at hR
  · rename_i y x r
    obtain ⟨ht, hR⟩ := sx_cd hR
    rw [Bool.and_eq_true] at ht
    have ty := sx_bq ht.1
    have tx := sx_bq ht.2
    have hy : sx_val W0 ρ y = .int (Int32.ofInt (ρ y.2.1 + y.2.2)) := sx_v0 ty
    have hx : sx_val W0 ρ x = .long (Int64.ofInt (ρ x.2.1 + x.2.2)) := sx_v1 tx
    have ws := h.2.2.1.2
    have wr : ∀ v ∈ r, sx_wf E.length v := fun v q => ws v (List.mem_cons_of_mem _ (List.mem_cons_of_mem _ q))
    have hk : ∀ (k : Nat → mxV → List Value → mxW → Option mxR) (call : Nat → List Value → mxW → Option mxR), mxS i pc .lshl (la.map (sx_lv W0 ρ)) ((y :: x :: r).map (sx_val W0 ρ)) w k call = k (pc + 1) (la.map (sx_lv W0 ρ)) (.long ((Int64.ofInt (ρ x.2.1 + x.2.2)) <<< ((Int32.ofInt (ρ y.2.1 + y.2.2)).toInt64 &&& 63)) :: r.map (sx_val W0 ρ)) w := by
      intro k call
      rw [List.map_cons, List.map_cons, hy, hx]
      rfl
    exact sx_oknl h _ hR (sx_topl_ok _) wr hk
  · cases hR
theorem sxo_lshr {W0 : Nat} {S : Nat → Prop} {i : mxi} {pc : Nat} {ρ : Nat → Int} {E : List sxe} {la : List (Nat × sxv)} {sa : List sxv} {H : List (Nat × sxc)} {c : Nat} {w : mxW} {R : List (Nat × sxA)} (hR : sx_o_shl (pc + 1) E la sa H c = some R) (h : sx_γ W0 S ρ (E, la, sa, H, c) (la.map (sx_lv W0 ρ)) (sa.map (sx_val W0 ρ)) w) : sx_Ok W0 S i pc .lshr ρ E.length (la.map (sx_lv W0 ρ)) (sa.map (sx_val W0 ρ)) w R := by
  unfold sx_o_shl at hR
  split at hR
  · rename_i y x r
    obtain ⟨ht, hR⟩ := sx_cd hR
    rw [Bool.and_eq_true] at ht
    have ty := sx_bq ht.1
    have tx := sx_bq ht.2
    have hy : sx_val W0 ρ y = .int (Int32.ofInt (ρ y.2.1 + y.2.2)) := sx_v0 ty
    have hx : sx_val W0 ρ x = .long (Int64.ofInt (ρ x.2.1 + x.2.2)) := sx_v1 tx
    have ws := h.2.2.1.2
    have wr : ∀ v ∈ r, sx_wf E.length v := fun v q => ws v (List.mem_cons_of_mem _ (List.mem_cons_of_mem _ q))
    have hk : ∀ (k : Nat → mxV → List Value → mxW → Option mxR) (call : Nat → List Value → mxW → Option mxR), mxS i pc .lshr (la.map (sx_lv W0 ρ)) ((y :: x :: r).map (sx_val W0 ρ)) w k call = k (pc + 1) (la.map (sx_lv W0 ρ)) (.long ((Int64.ofInt (ρ x.2.1 + x.2.2)) >>> ((Int32.ofInt (ρ y.2.1 + y.2.2)).toInt64 &&& 63)) :: r.map (sx_val W0 ρ)) w := by
      intro k call
      rw [List.map_cons, List.map_cons, hy, hx]
      rfl
    exact sx_oknl h _ hR (sx_topl_ok _) wr hk
  · cases hR
theorem sx_lu49 (x : Int64) : (0 : Int) ≤ (x.toUInt64 >>> ((Int32.ofInt 49).toInt64.toUInt64 &&& Int64.toUInt64 63)).toInt64.toInt ∧ (x.toUInt64 >>> ((Int32.ofInt 49).toInt64.toUInt64 &&& Int64.toUInt64 63)).toInt64.toInt ≤ 32767 := by
  have e : ((Int32.ofInt 49).toInt64.toUInt64 &&& Int64.toUInt64 63) = 49 := by decide
  rw [e]
  have hn : (x.toUInt64 >>> (49 : UInt64)).toNat < 32768 := by
    rw [UInt64.toNat_shiftRight, Nat.shiftRight_eq_div_pow]
    have := x.toUInt64.toNat_lt
    have e2 : (49 : UInt64).toNat % 64 = 49 := by decide
    rw [e2]
    omega
  have e1 : (x.toUInt64 >>> (49 : UInt64)).toInt64.toInt = ((x.toUInt64 >>> (49 : UInt64)).toNat : Int) := by
    show (x.toUInt64 >>> (49 : UInt64)).toBitVec.toInt = _
    rw [BitVec.toInt_eq_toNat_cond]
    have e3 : (x.toUInt64 >>> (49 : UInt64)).toBitVec.toNat = (x.toUInt64 >>> (49 : UInt64)).toNat := rfl
    rw [e3, if_pos (by omega)]
  omega
theorem sxo_lushr {W0 : Nat} {S : Nat → Prop} {i : mxi} {pc : Nat} {ρ : Nat → Int} {E : List sxe} {la : List (Nat × sxv)} {sa : List sxv} {H : List (Nat × sxc)} {c : Nat} {w : mxW} {R : List (Nat × sxA)} (hR : sx_o_lushr (pc + 1) E la sa H c = some R) (h : sx_γ W0 S ρ (E, la, sa, H, c) (la.map (sx_lv W0 ρ)) (sa.map (sx_val W0 ρ)) w) : sx_Ok W0 S i pc .lushr ρ E.length (la.map (sx_lv W0 ρ)) (sa.map (sx_val W0 ρ)) w R := by
  unfold sx_o_lushr at hR
  split at hR
  · rename_i y x r
    obtain ⟨ht, hR⟩ := sx_cd hR
    rw [Bool.and_eq_true] at ht
    have ty := sx_bq ht.1
    have tx := sx_bq ht.2
    have hy : sx_val W0 ρ y = .int (Int32.ofInt (ρ y.2.1 + y.2.2)) := sx_v0 ty
    have hx : sx_val W0 ρ x = .long (Int64.ofInt (ρ x.2.1 + x.2.2)) := sx_v1 tx
    have ws := h.2.2.1.2
    have wr : ∀ v ∈ r, sx_wf E.length v := fun v q => ws v (List.mem_cons_of_mem _ (List.mem_cons_of_mem _ q))
    have hk : ∀ (k : Nat → mxV → List Value → mxW → Option mxR) (call : Nat → List Value → mxW → Option mxR), mxS i pc .lushr (la.map (sx_lv W0 ρ)) ((y :: x :: r).map (sx_val W0 ρ)) w k call = k (pc + 1) (la.map (sx_lv W0 ρ)) (.long (((Int64.ofInt (ρ x.2.1 + x.2.2)).toUInt64 >>> ((Int32.ofInt (ρ y.2.1 + y.2.2)).toInt64.toUInt64 &&& Int64.toUInt64 63)).toInt64) :: r.map (sx_val W0 ρ)) w := by
      intro k call
      rw [List.map_cons, List.map_cons, hy, hx]
      rfl
    refine sx_oknl h _ hR ?_ wr hk
    cases hc : Nat.beq y.2.1 0 && decide (y.2.2 = 49) with
    | false => exact sx_topl_ok _
    | true =>
      rw [Bool.and_eq_true, decide_eq_true_eq] at hc
      rw [sx_pr h.1 (d := y.2.2) (sx_bq hc.1), hc.2]
      exact sx_lu49 _
  · cases hR
theorem sxo_lcmp {W0 : Nat} {S : Nat → Prop} {i : mxi} {pc : Nat} {ρ : Nat → Int} {E : List sxe} {la : List (Nat × sxv)} {sa : List sxv} {H : List (Nat × sxc)} {c : Nat} {w : mxW} {R : List (Nat × sxA)} (hR : sx_o_lcmp (pc + 1) E la sa H c = some R) (h : sx_γ W0 S ρ (E, la, sa, H, c) (la.map (sx_lv W0 ρ)) (sa.map (sx_val W0 ρ)) w) : sx_Ok W0 S i pc .lcmp ρ E.length (la.map (sx_lv W0 ρ)) (sa.map (sx_val W0 ρ)) w R := by
  unfold sx_o_lcmp at hR
  split at hR
  · rename_i y x r
    obtain ⟨ht, hR⟩ := sx_cd hR
    rw [Bool.and_eq_true] at ht
    have ty := sx_bq ht.1
    have tx := sx_bq ht.2
    have hy : sx_val W0 ρ y = .long (Int64.ofInt (ρ y.2.1 + y.2.2)) := sx_v1 ty
    have hx : sx_val W0 ρ x = .long (Int64.ofInt (ρ x.2.1 + x.2.2)) := sx_v1 tx
    have ws := h.2.2.1.2
    have wr : ∀ v ∈ r, sx_wf E.length v := fun v q => ws v (List.mem_cons_of_mem _ (List.mem_cons_of_mem _ q))
    have hk : ∀ (k : Nat → mxV → List Value → mxW → Option mxR) (call : Nat → List Value → mxW → Option mxR), mxS i pc .lcmp (la.map (sx_lv W0 ρ)) ((y :: x :: r).map (sx_val W0 ρ)) w k call = k (pc + 1) (la.map (sx_lv W0 ρ)) (.int (lg_cmp (Int64.ofInt (ρ x.2.1 + x.2.2)) (Int64.ofInt (ρ y.2.1 + y.2.2))) :: r.map (sx_val W0 ρ)) w := by
      intro k call
      rw [List.map_cons, List.map_cons, hy, hx]
      rfl
    exact sx_okni h _ hR (sx_cmp3 _ _) wr hk
  · cases hR
theorem sxo_land {W0 : Nat} {S : Nat → Prop} {i : mxi} {pc : Nat} {ρ : Nat → Int} {E : List sxe} {la : List (Nat × sxv)} {sa : List sxv} {H : List (Nat × sxc)} {c : Nat} {w : mxW} {R : List (Nat × sxA)} (hR : sx_o_land (pc + 1) E la sa H c = some R) (h : sx_γ W0 S ρ (E, la, sa, H, c) (la.map (sx_lv W0 ρ)) (sa.map (sx_val W0 ρ)) w) : sx_Ok W0 S i pc .land ρ E.length (la.map (sx_lv W0 ρ)) (sa.map (sx_val W0 ρ)) w R := by
  unfold sx_o_land at hR
  split at hR
  · rename_i y x r
    obtain ⟨ht, hR⟩ := sx_cd hR
    rw [Bool.and_eq_true] at ht
    have ty := sx_bq ht.1
    have tx := sx_bq ht.2
    have hy : sx_val W0 ρ y = .long (Int64.ofInt (ρ y.2.1 + y.2.2)) := sx_v1 ty
    have hx : sx_val W0 ρ x = .long (Int64.ofInt (ρ x.2.1 + x.2.2)) := sx_v1 tx
    have ws := h.2.2.1.2
    have wr : ∀ v ∈ r, sx_wf E.length v := fun v q => ws v (List.mem_cons_of_mem _ (List.mem_cons_of_mem _ q))
    have hk : ∀ (k : Nat → mxV → List Value → mxW → Option mxR) (call : Nat → List Value → mxW → Option mxR), mxS i pc .land (la.map (sx_lv W0 ρ)) ((y :: x :: r).map (sx_val W0 ρ)) w k call = k (pc + 1) (la.map (sx_lv W0 ρ)) (.long ((Int64.ofInt (ρ x.2.1 + x.2.2)) &&& (Int64.ofInt (ρ y.2.1 + y.2.2))) :: r.map (sx_val W0 ρ)) w := by
      intro k call
      rw [List.map_cons, List.map_cons, hy, hx]
      rfl
    refine sx_oknl h _ hR ?_ wr hk
    cases hc : Nat.beq y.2.1 0 && sx_in (y.2.2, y.2.2) 0 9223372036854775807 with
    | false => exact sx_topl_ok _
    | true =>
      rw [Bool.and_eq_true] at hc
      have e := sx_pr h.1 (d := y.2.2) (sx_bq hc.1)
      have b := sx_in_ok hc.2 (z := y.2.2) ⟨Int.le_refl _, Int.le_refl _⟩
      have e2 : (Int64.ofInt y.2.2).toInt = y.2.2 := Int64.toInt_ofInt_of_le (by omega) (by omega)
      rw [e]
      have := sx_andl_r (Int64.ofInt (ρ x.2.1 + x.2.2)) (Int64.ofInt y.2.2) (by rw [e2]; exact b.1)
      rw [e2] at this
      exact this
  · cases hR
theorem sxo_iand {W0 : Nat} {S : Nat → Prop} {i : mxi} {pc : Nat} {ρ : Nat → Int} {E : List sxe} {la : List (Nat × sxv)} {sa : List sxv} {H : List (Nat × sxc)} {c : Nat} {w : mxW} {R : List (Nat × sxA)} (hR : sx_o_iand (pc + 1) E la sa H c = some R) (h : sx_γ W0 S ρ (E, la, sa, H, c) (la.map (sx_lv W0 ρ)) (sa.map (sx_val W0 ρ)) w) : sx_Ok W0 S i pc .iand ρ E.length (la.map (sx_lv W0 ρ)) (sa.map (sx_val W0 ρ)) w R := by
  unfold sx_o_iand at hR
  split at hR
  · rename_i y x r
    obtain ⟨ht, hR⟩ := sx_cd hR
    rw [Bool.and_eq_true] at ht
    have ty := sx_bq ht.1
    have tx := sx_bq ht.2
    have hy : sx_val W0 ρ y = .int (Int32.ofInt (ρ y.2.1 + y.2.2)) := sx_v0 ty
    have hx : sx_val W0 ρ x = .int (Int32.ofInt (ρ x.2.1 + x.2.2)) := sx_v0 tx
    have ws := h.2.2.1.2
    have wr : ∀ v ∈ r, sx_wf E.length v := fun v q => ws v (List.mem_cons_of_mem _ (List.mem_cons_of_mem _ q))
    have hk : ∀ (k : Nat → mxV → List Value → mxW → Option mxR) (call : Nat → List Value → mxW → Option mxR), mxS i pc .iand (la.map (sx_lv W0 ρ)) ((y :: x :: r).map (sx_val W0 ρ)) w k call = k (pc + 1) (la.map (sx_lv W0 ρ)) (.int ((Int32.ofInt (ρ x.2.1 + x.2.2)) &&& (Int32.ofInt (ρ y.2.1 + y.2.2))) :: r.map (sx_val W0 ρ)) w := by
      intro k call
      rw [List.map_cons, List.map_cons, hy, hx]
      rfl
    refine sx_okni h _ hR ?_ wr hk
    cases hc : Nat.beq y.2.1 0 && sx_in (y.2.2, y.2.2) 0 2147483647 with
    | false =>
      cases hd : Nat.beq x.2.1 0 && sx_in (x.2.2, x.2.2) 0 2147483647 with
      | false => exact sx_top_ok _
      | true =>
        rw [Bool.and_eq_true] at hd
        have e := sx_pr h.1 (d := x.2.2) (sx_bq hd.1)
        have b := sx_in_ok hd.2 (z := x.2.2) ⟨Int.le_refl _, Int.le_refl _⟩
        have e2 : (Int32.ofInt x.2.2).toInt = x.2.2 := Int32.toInt_ofInt_of_le (by omega) (by omega)
        rw [e]
        have := sx_and_l (Int32.ofInt x.2.2) (Int32.ofInt (ρ y.2.1 + y.2.2)) (by rw [e2]; exact b.1)
        rw [e2] at this
        exact this
    | true =>
      rw [Bool.and_eq_true] at hc
      have e := sx_pr h.1 (d := y.2.2) (sx_bq hc.1)
      have b := sx_in_ok hc.2 (z := y.2.2) ⟨Int.le_refl _, Int.le_refl _⟩
      have e2 : (Int32.ofInt y.2.2).toInt = y.2.2 := Int32.toInt_ofInt_of_le (by omega) (by omega)
      rw [e]
      have := sx_and_r (Int32.ofInt (ρ x.2.1 + x.2.2)) (Int32.ofInt y.2.2) (by rw [e2]; exact b.1)
      rw [e2] at this
      exact this
  · cases hR
theorem sxo_ior {W0 : Nat} {S : Nat → Prop} {i : mxi} {pc : Nat} {ρ : Nat → Int} {E : List sxe} {la : List (Nat × sxv)} {sa : List sxv} {H : List (Nat × sxc)} {c : Nat} {w : mxW} {R : List (Nat × sxA)} (hR : sx_o_ior (pc + 1) E la sa H c = some R) (h : sx_γ W0 S ρ (E, la, sa, H, c) (la.map (sx_lv W0 ρ)) (sa.map (sx_val W0 ρ)) w) : sx_Ok W0 S i pc .ior ρ E.length (la.map (sx_lv W0 ρ)) (sa.map (sx_val W0 ρ)) w R := by
  unfold sx_o_ior at hR
  split at hR
  · rename_i y x r
    obtain ⟨ht, hR⟩ := sx_cd hR
    rw [Bool.and_eq_true] at ht
    have ty := sx_bq ht.1
    have tx := sx_bq ht.2
    have hy : sx_val W0 ρ y = .int (Int32.ofInt (ρ y.2.1 + y.2.2)) := sx_v0 ty
    have hx : sx_val W0 ρ x = .int (Int32.ofInt (ρ x.2.1 + x.2.2)) := sx_v0 tx
    have ws := h.2.2.1.2
    have wr : ∀ v ∈ r, sx_wf E.length v := fun v q => ws v (List.mem_cons_of_mem _ (List.mem_cons_of_mem _ q))
    have hk : ∀ (k : Nat → mxV → List Value → mxW → Option mxR) (call : Nat → List Value → mxW → Option mxR), mxS i pc .ior (la.map (sx_lv W0 ρ)) ((y :: x :: r).map (sx_val W0 ρ)) w k call = k (pc + 1) (la.map (sx_lv W0 ρ)) (.int ((Int32.ofInt (ρ x.2.1 + x.2.2)) ||| (Int32.ofInt (ρ y.2.1 + y.2.2))) :: r.map (sx_val W0 ρ)) w := by
      intro k call
      rw [List.map_cons, List.map_cons, hy, hx]
      rfl
    split at hR
    · rename_i q1 q2 h1 h2
      refine sx_okni h _ hR ?_ wr hk
      cases hc : sx_in q1 0 15 && sx_in q2 0 15 with
      | false => exact sx_top_ok _
      | true =>
        rw [Bool.and_eq_true] at hc
        have a := sx_in_ok hc.1 (sx_rg_ok h.1 h1)
        have b := sx_in_ok hc.2 (sx_rg_ok h.1 h2)
        have e1 : (Int32.ofInt (ρ x.2.1 + x.2.2)).toInt = ρ x.2.1 + x.2.2 := Int32.toInt_ofInt_of_le (by omega) (by omega)
        have e2 : (Int32.ofInt (ρ y.2.1 + y.2.2)).toInt = ρ y.2.1 + y.2.2 := Int32.toInt_ofInt_of_le (by omega) (by omega)
        exact sx_or_4 _ _ (by rw [e1]; exact a) (by rw [e2]; exact b)
    · cases hR
  · cases hR
theorem sxo_ishl {W0 : Nat} {S : Nat → Prop} {i : mxi} {pc : Nat} {ρ : Nat → Int} {E : List sxe} {la : List (Nat × sxv)} {sa : List sxv} {H : List (Nat × sxc)} {c : Nat} {w : mxW} {R : List (Nat × sxA)} (hR : sx_o_ishl (pc + 1) E la sa H c = some R) (h : sx_γ W0 S ρ (E, la, sa, H, c) (la.map (sx_lv W0 ρ)) (sa.map (sx_val W0 ρ)) w) : sx_Ok W0 S i pc .ishl ρ E.length (la.map (sx_lv W0 ρ)) (sa.map (sx_val W0 ρ)) w R := by
  unfold sx_o_ishl at hR
  split at hR
  · rename_i y x r
    obtain ⟨ht, hR⟩ := sx_cd hR
    rw [Bool.and_eq_true] at ht
    have ty := sx_bq ht.1
    have tx := sx_bq ht.2
    have hy : sx_val W0 ρ y = .int (Int32.ofInt (ρ y.2.1 + y.2.2)) := sx_v0 ty
    have hx : sx_val W0 ρ x = .int (Int32.ofInt (ρ x.2.1 + x.2.2)) := sx_v0 tx
    have ws := h.2.2.1.2
    have wr : ∀ v ∈ r, sx_wf E.length v := fun v q => ws v (List.mem_cons_of_mem _ (List.mem_cons_of_mem _ q))
    have hk : ∀ (k : Nat → mxV → List Value → mxW → Option mxR) (call : Nat → List Value → mxW → Option mxR), mxS i pc .ishl (la.map (sx_lv W0 ρ)) ((y :: x :: r).map (sx_val W0 ρ)) w k call = k (pc + 1) (la.map (sx_lv W0 ρ)) (.int ((Int32.ofInt (ρ x.2.1 + x.2.2)) <<< ((Int32.ofInt (ρ y.2.1 + y.2.2)) &&& 31)) :: r.map (sx_val W0 ρ)) w := by
      intro k call
      rw [List.map_cons, List.map_cons, hy, hx]
      rfl
    split at hR
    · rename_i q2 h2
      refine sx_okni h _ hR ?_ wr hk
      cases hc : Nat.beq x.2.1 0 && decide (x.2.2 = 1) && sx_in q2 0 3 with
      | false => exact sx_top_ok _
      | true =>
        rw [Bool.and_eq_true, Bool.and_eq_true] at hc
        have b := sx_in_ok hc.2 (sx_rg_ok h.1 h2)
        have e := sx_pr h.1 (d := x.2.2) (sx_bq hc.1.1)
        have e2 : (Int32.ofInt (ρ y.2.1 + y.2.2)).toInt = ρ y.2.1 + y.2.2 := Int32.toInt_ofInt_of_le (by omega) (by omega)
        rw [e, of_decide_eq_true hc.1.2]
        exact sx_shl3 _ (by rw [e2]; exact b)
    · cases hR
  · cases hR
theorem sxo_imul {W0 : Nat} {S : Nat → Prop} {i : mxi} {pc : Nat} {ρ : Nat → Int} {E : List sxe} {la : List (Nat × sxv)} {sa : List sxv} {H : List (Nat × sxc)} {c : Nat} {w : mxW} {R : List (Nat × sxA)} (hR : sx_o_imul (pc + 1) E la sa H c = some R) (h : sx_γ W0 S ρ (E, la, sa, H, c) (la.map (sx_lv W0 ρ)) (sa.map (sx_val W0 ρ)) w) : sx_Ok W0 S i pc .imul ρ E.length (la.map (sx_lv W0 ρ)) (sa.map (sx_val W0 ρ)) w R := by
  unfold sx_o_imul at hR
  split at hR
  · rename_i y x r
    obtain ⟨ht, hR⟩ := sx_cd hR
    rw [Bool.and_eq_true] at ht
    have ty := sx_bq ht.1
    have tx := sx_bq ht.2
    have hy : sx_val W0 ρ y = .int (Int32.ofInt (ρ y.2.1 + y.2.2)) := sx_v0 ty
    have hx : sx_val W0 ρ x = .int (Int32.ofInt (ρ x.2.1 + x.2.2)) := sx_v0 tx
    have ws := h.2.2.1.2
    have wr : ∀ v ∈ r, sx_wf E.length v := fun v q => ws v (List.mem_cons_of_mem _ (List.mem_cons_of_mem _ q))
    have hk : ∀ (k : Nat → mxV → List Value → mxW → Option mxR) (call : Nat → List Value → mxW → Option mxR), mxS i pc .imul (la.map (sx_lv W0 ρ)) ((y :: x :: r).map (sx_val W0 ρ)) w k call = k (pc + 1) (la.map (sx_lv W0 ρ)) (.int ((Int32.ofInt (ρ x.2.1 + x.2.2)) * (Int32.ofInt (ρ y.2.1 + y.2.2))) :: r.map (sx_val W0 ρ)) w := by
      intro k call
      rw [List.map_cons, List.map_cons, hy, hx]
      rfl
    split at hR
    · rename_i q1 q2 h1 h2
      refine sx_okni h _ hR ?_ wr hk
      cases hc : decide (0 ≤ q1.1) && decide (0 ≤ q2.1) with
      | false => exact sx_top_ok _
      | true =>
        rw [Bool.and_eq_true, decide_eq_true_eq, decide_eq_true_eq] at hc
        have a := sx_rg_ok h.1 h1
        have b := sx_rg_ok h.1 h2
        rw [← Int32.ofInt_mul]
        exact sx_cl_ok (Int.mul_le_mul a.1 b.1 hc.2 (by omega)) (Int.mul_le_mul a.2 b.2 (by omega) (by omega))
    · cases hR
  · cases hR
