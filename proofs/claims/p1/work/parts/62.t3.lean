/-! the class's walk and mend answer 0 on a fresh object -/
theorem s32 (k : Nat) : Int32.ofInt (k : Int) + 1 = Int32.ofInt ((k + 1 : Nat) : Int) := by
  rw [one32, a32]
theorem rk_val : ∀ k : Nat, k < 128 → 0 ≤ (rkE (fun _ => 1) (bcE (Int32.ofInt (k : Int))) (Int32.ofInt (k : Int))).toInt := by decide +kernel
theorem rk_v0 : rkE (fun _ => 1) (bcE 0) 0 = 0 := by decide +kernel
theorem rkE_c {c : Nat → Int32} (h : ∀ j, j < 7 → c j = 1) (b n : Int32) : rkE c b n = rkE (fun _ => 1) b n := by
  unfold rkE
  rw [h 0 (by decide), h 1 (by decide), h 2 (by decide), h 3 (by decide), h 4 (by decide), h 5 (by decide), h 6 (by decide)]
theorem rk_loop (J : Nat → Nat → Int64) : ∀ (d k : Nat) (I : Nat → Nat → Int32) (a b : Int32), k + d = 128 → 0 < k → (∀ j, j < 7 → I 4 j = 1) → (∀ j, j < k → 0 ≤ (I 8 j).toInt) → I 8 0 = 0 → ∃ I', mxRn 77 2 [(0, .ref 0), (1, .int (Int32.ofInt (k : Int))), (2, .int a), (3, .int b)] [] (shS [], I, J, QS) (none, (shS [], I', J, QS)) ∧ (∀ c, c ≠ 8 → I' c = I c) ∧ (∀ j, j < 128 → 0 ≤ (I' 8 j).toInt) ∧ I' 8 0 = 0
  | 0, k, I, a, b, h1, h2, h3, h4, h5 => ⟨I, rk_out [] I J _ a b (ge_tt (b := 128) (by omega) (by decide) (by omega)), fun _ _ => rfl, fun j hj => h4 j (by omega), h5⟩
  | d + 1, k, I, a, b, h1, h2, h3, h4, h5 => by
    have ec : (Int32.ofInt (k : Int)).toNatClampNeg = k := c32 (by omega)
    have e4 : ∀ v j, (mxI I 8 k v) 4 j = I 4 j := fun v j => by simp [mxI]
    have e8 : ∀ v j, (mxI I 8 k v) 8 j = if j = k then v else I 8 j := fun v j => by simp [mxI, upd]
    have ec8 : ∀ v c, c ≠ 8 → (mxI I 8 k v) c = I c := fun v c hc => by simp [mxI, hc]
    have hv : rkE (I 4) (bcE (Int32.ofInt (k : Int))) (Int32.ofInt (k : Int)) = rkE (fun _ => 1) (bcE (Int32.ofInt (k : Int))) (Int32.ofInt (k : Int)) := rkE_c h3 _ _
    have a1 : ∀ j, j < k + 1 → 0 ≤ ((mxI I 8 k (rkE (I 4) (bcE (Int32.ofInt (k : Int))) (Int32.ofInt (k : Int)))) 8 j).toInt := fun j hj => by
      rw [e8]
      split
      · rw [hv]
        exact rk_val k (by omega)
      · exact h4 j (by omega)
    have a2 : (mxI I 8 k (rkE (I 4) (bcE (Int32.ofInt (k : Int))) (Int32.ofInt (k : Int)))) 8 0 = 0 := by
      rw [e8, if_neg (by omega)]
      exact h5
    obtain ⟨I', r1, r2, r3, r4⟩ := rk_loop J d (k + 1) (mxI I 8 k (rkE (I 4) (bcE (Int32.ofInt (k : Int))) (Int32.ofInt (k : Int)))) (rkA (I 4) (Int32.ofInt (k : Int))) 7 (by omega) (by omega) (fun j hj => (e4 _ j).trans (h3 j hj)) a1 a2
    have q : mxRn 77 2 [(0, .ref 0), (1, .int (Int32.ofInt (k : Int) + 1)), (2, .int (rkA (I 4) (Int32.ofInt (k : Int)))), (3, .int 7)] [] (shS [], mxI I 8 (Int32.ofInt (k : Int)).toNatClampNeg (rkE (I 4) (bcE (Int32.ofInt (k : Int))) (Int32.ofInt (k : Int))), J, QS) (none, (shS [], I', J, QS)) := by
      rw [ec, s32]
      exact r1
    exact ⟨I', rk_in1 [] I J _ a b (ge_ff (b := 128) (by omega) (by decide) (by omega)) (in32 (by omega) (by decide)) _ (bc_ok [] I J _) q, fun c hc => (r2 c hc).trans (ec8 _ c hc), r3, r4⟩
theorem rk_ok (I : Nat → Nat → Int32) (J : Nat → Nat → Int64) (h3 : ∀ j, j < 7 → I 4 j = 1) : ∃ I', mxRn 77 0 [(0, .ref 0)] [] (shS [], I, J, QS) (none, (shS [], I', J, QS)) ∧ (∀ c, c ≠ 8 → I' c = I c) ∧ (∀ j, j < 128 → 0 ≤ (I' 8 j).toInt) ∧ I' 8 0 = 0 := by
  have e4 : ∀ v j, (mxI I 8 0 v) 4 j = I 4 j := fun v j => by simp [mxI]
  have e8 : ∀ v j, (mxI I 8 0 v) 8 j = if j = 0 then v else I 8 j := fun v j => by simp [mxI, upd]
  have ec8 : ∀ v c, c ≠ 8 → (mxI I 8 0 v) c = I c := fun v c hc => by simp [mxI, hc]
  have hv : rkE (I 4) (bcE 0) 0 = 0 := (rkE_c h3 _ _).trans rk_v0
  have a2 : (mxI I 8 0 (rkE (I 4) (bcE 0) 0)) 8 0 = 0 := by
    rw [e8, if_pos rfl]
    exact hv
  have a1 : ∀ j, j < 1 → 0 ≤ ((mxI I 8 0 (rkE (I 4) (bcE 0) 0)) 8 j).toInt := fun j hj => by
    rw [show j = 0 by omega, a2]
    decide
  obtain ⟨I', r1, r2, r3, r4⟩ := rk_loop J 127 1 (mxI I 8 0 (rkE (I 4) (bcE 0) 0)) (rkA (I 4) 0) 7 (by omega) (by omega) (fun j hj => (e4 _ j).trans (h3 j hj)) a1 a2
  have q : mxRn 77 2 [(0, .ref 0), (1, .int ((0 : Int32) + 1)), (2, .int (rkA (I 4) 0)), (3, .int 7)] [] (shS [], mxI I 8 (0 : Int32).toNatClampNeg (rkE (I 4) (bcE 0) 0), J, QS) (none, (shS [], I', J, QS)) := by
    rw [show (0 : Int32) + 1 = Int32.ofInt ((1 : Nat) : Int) from rfl, show (0 : Int32).toNatClampNeg = 0 from rfl]
    exact r1
  exact ⟨I', rk_start [] I J (rk_in0 [] I J 0 (by decide) (by decide) _ (bc_ok [] I J 0) q), fun c hc => (r2 c hc).trans (ec8 _ c hc), r3, r4⟩
theorem nr_loop (I : Nat → Nat → Int32) (J : Nat → Nat → Int64) (h8 : ∀ j, j < 128 → 0 ≤ (I 8 j).toInt) : ∀ (d k : Nat), k + d = 128 → mxRn 78 5 [(0, .ref 0), (1, .int (-1)), (2, .int 0), (3, .int (Int32.ofInt (k : Int)))] [] (shS [], I, J, QS) (some (.int 0), (shS [], I, J, QS))
  | 0, k, h => nr_end [] I J 0 _ (ge_tt (b := 128) (by omega) (by decide) (by omega))
  | d + 1, k, h => by
    have ec : (Int32.ofInt (k : Int)).toNatClampNeg = k := c32 (by omega)
    have hk := h8 k (by omega)
    refine nr_f [] I J 0 _ (ge_ff (b := 128) (by omega) (by decide) (by omega)) (in32 (by omega) (by decide)) ?_ ?_ ?_
    · rw [ec]
      exact hc_le_f (-1) rfl (by omega)
    · rw [ec]
      exact hc_ge_t 0 rfl (by omega)
    · rw [s32]
      exact nr_loop I J h8 d (k + 1) (by omega)
theorem nr_ok (I : Nat → Nat → Int32) (J : Nat → Nat → Int64) (h8 : ∀ j, j < 128 → 0 ≤ (I 8 j).toInt) (h0 : I 8 0 = 0) : mxRn 78 0 [(0, .ref 0), (1, .int (-1))] [] (shS [], I, J, QS) (some (.int 0), (shS [], I, J, QS)) := by
  refine nr_start [] I J ?_
  refine nr_t [] I J 1000000000 0 (by decide) (by decide) ?_ ?_ ?_
  · show Op.if_icmp.holds .le (I 8 0) (-1) = false
    rw [h0]
    decide
  · show Op.if_icmp.holds .ge (I 8 0) 1000000000 = false
    rw [h0]
    decide
  · show mxRn 78 5 [(0, .ref 0), (1, .int (-1)), (2, .int (I 8 0)), (3, .int ((0 : Int32) + 1))] [] (shS [], I, J, QS) (some (.int 0), (shS [], I, J, QS))
    rw [h0, show (0 : Int32) + 1 = Int32.ofInt ((1 : Nat) : Int) from rfl]
    exact nr_loop I J h8 127 1 (by omega)
/-- learn in an empty house -/
theorem ln_ok {I : Nat → Nat → Int32} {J : Nat → Nat → Int64} (r : Int32) (h0 : I 2 0 = 0) (h1 : I 2 1 = 0) : ∃ I1, mxRn 37 0 [(0, .ref 3), (1, .ref 2), (2, .int r)] [] (shS [], I, J, QS) (none, (shS [], I1, J, QS)) ∧ (∀ c, c ≠ 3 → I1 c = I c) ∧ (I1 3 0 = 0 ∧ I1 3 1 = 0 ∧ I1 3 2 = 0 ∧ I1 3 3 = 0 ∧ I1 3 4 = 0 ∧ I1 3 5 = 0) ∧ I1 3 6 = cond (w_holds r 0) 1 0 ∧ I1 3 8 = cond (w_holds r 6) 2 0 := by
  have t0 : h_tells I 0 = false := by
    unfold h_tells
    rw [h0]
    rfl
  have t1 : h_tells I 1 = false := by
    unfold h_tells
    rw [h0]
    rfl
  have t2 : h_tells I 2 = false := by
    unfold h_tells
    rw [h0]
    rfl
  have t3 : h_tells I 3 = false := by
    unfold h_tells
    rw [h0]
    rfl
  have t4 : h_tells I 4 = false := by
    unfold h_tells
    rw [h0]
    rfl
  have t5 : h_tells I 5 = false := by
    unfold h_tells
    rw [h0]
    rfl
  have e0 : l_early I r = false := t0
  have e1 : l_links I r = false := by
    unfold l_links
    rw [t1]
    rfl
  have e2 : l_keep I r = false := t2
  have e3 : l_stay I r = false := by
    unfold l_stay
    rw [t3]
    rfl
  have e4 : l_told I r = false := by
    unfold l_told
    rw [t4]
    rfl
  have e5 : l_forms I r = false := by
    unfold l_forms
    rw [t5]
    rfl
  have el : h_life I = 0 := h1
  cases q : w_holds r 6 with
  | false =>
    have hr := l_run_a (shT []) J QS I r q
    rw [e0, e1, e2, e3, e4, e5, el] at hr
    refine ⟨_, hr, fun c hc => ?_, ⟨?_, ?_, ?_, ?_, ?_, ?_⟩, ?_, ?_⟩ <;> simp [mxI, upd, l_turn, *]
  | true =>
    have hr := l_run_b (shT []) J QS I r q (by rw [el]; rfl)
    rw [e0, e1, e2, e3, e4, e5, el] at hr
    refine ⟨_, hr, fun c hc => ?_, ⟨?_, ?_, ?_, ?_, ?_, ?_⟩, ?_, ?_⟩ <;> simp [mxI, upd, l_turn, *]
theorem CLall (r : Int32) {f : Nat → Int32} (f0 : f 0 = 0) (f1 : f 1 = 0) (f2 : f 2 = 0) (f3 : f 3 = 0) (f4 : f 4 = 0) (f5 : f 5 = 0) (f6 : f 6 = cond (w_holds r 0) 1 0) (f8 : f 8 = cond (w_holds r 6) 2 0) : ∃ V, VC V ∧ CL V f ∧ V 0 := by
  cases ht : w_holds r 0 with
  | false =>
    rw [ht] at f6
    cases hs : w_holds r 6 with
    | false =>
      rw [hs] at f8
      exact ⟨cV cb00, VCc00, oks_CL ck00 f0 f1 f2 f3 f4 f5 f6 f8, c0_00⟩
    | true =>
      rw [hs] at f8
      exact ⟨cV cb02, VCc02, oks_CL ck02 f0 f1 f2 f3 f4 f5 f6 f8, c0_02⟩
  | true =>
    rw [ht] at f6
    cases hs : w_holds r 6 with
    | false =>
      rw [hs] at f8
      exact ⟨cV cb10, VCc10, oks_CL ck10 f0 f1 f2 f3 f4 f5 f6 f8, c0_10⟩
    | true =>
      rw [hs] at f8
      exact ⟨cV cb12, VCc12, oks_CL ck12 f0 f1 f2 f3 f4 f5 f6 f8, c0_12⟩
theorem IS_c {c : Nat} (h1 : c ≠ 28) (h2 : c ≠ 29) (h3 : c ≠ 30) (h4 : c ≠ 31) : IS0 c = IA c := by
  simp [IS0, mxI, mxI0, h1, h2, h3, h4]
/-- learn, then run: 0 -/
theorem lr_ok {I : Nat → Nat → Int32} {ln : Nat} {ki : Int32} (r : Int32) (h1 : 1 ≤ ln) (h2 : ln ≤ 10) (b0 : I 2 0 = 0) (b1 : I 2 1 = 0) (k1 : I 28 3 = 1) (k2 : I 28 4 = 0) (k3 : ∀ j, j < 32768 → I 31 j = 0) : ∃ I1 I2 J2, mxRn 37 0 [(0, .ref 3), (1, .ref 2), (2, .int r)] [] (shS [], I, JS0, QS) (none, (shS [], I1, JS0, QS)) ∧ mxRn 15 0 [(0, .ref 28), (1, .ref 3), (2, .int (Int32.ofInt (ln : Int))), (3, .int ki)] [] (shS [], I1, JS0, QS) (some (.int 0), (shS [], I2, J2, QS)) ∧ ∀ c, c ≠ 3 → c ≠ 28 → c ≠ 30 → c ≠ 31 → I2 c = I c := by
  obtain ⟨I1, l1, l2, ⟨f0, f1, f2, f3, f4, f5⟩, f6, f8⟩ := ln_ok (I := I) (J := JS0) r b0 b1
  obtain ⟨V, v1, v2, v3⟩ := CLall r (f := I1 3) f0 f1 f2 f3 f4 f5 f6 f8
  have e28 := l2 28 (by decide)
  have e31 := l2 31 (by decide)
  obtain ⟨I2, J2, fr, rn⟩ := rn_ok [] (I := I1) (J := JS0) (ki := ki) h1 h2 v1 v2 rfl v3 (by rw [e28]; exact k1) (by rw [e28]; exact k2) (fun j hj => by rw [e31]; exact k3 j hj)
  exact ⟨I1, I2, J2, l1, rn, fun c c3 c28 c30 c31 => (fr.1 c c28 c30 c31).trans (l2 c c3)⟩
theorem cw_ok {r : Int32} {ln : Nat} {ki : Int32} (hr : 0 ≤ r.toInt ∧ r.toInt ≤ 127) (h1 : 1 ≤ ln) (h2 : ln ≤ 10) (hk : 1 ≤ ki.toInt ∧ ki.toInt ≤ 7) : ∃ I' J', mxRn 69 0 [(0, .ref 0), (1, .int r), (2, .int (Int32.ofInt (ln : Int))), (3, .int ki)] [] (shA, IA, JA, QA) (some (.int 0), (shS [], I', J', QS)) ∧ ∀ c, 9 ≤ c → c ≤ 27 → I' c = IA c := by
  obtain ⟨I1, I2, J2, l1, rn, fr⟩ := lr_ok (I := IS0) (ki := ki) r h1 h2 rfl rfl rfl rfl (fun j _ => rfl)
  refine ⟨_, _, cw_top hr (by rw [t32 (by omega)]; omega) hk l1 rn, fun c c1 c2 => ?_⟩
  have e : I2 c = IA c := (fr c (by omega) (by omega) (by omega) (by omega)).trans (IS_c (by omega) (by omega) (by omega) (by omega))
  rw [← e]
  have h0 : c ≠ 0 := by omega
  simp [mxI, h0]
theorem cm_ok {ln : Nat} {ki : Int32} (h1 : 1 ≤ ln) (h2 : ln ≤ 10) (hk : 1 ≤ ki.toInt ∧ ki.toInt ≤ 7) : ∃ I' J', mxRn 75 0 [(0, .ref 0), (1, .int (Int32.ofInt (ln : Int))), (2, .int ki)] [] (shA, IA, JA, QA) (some (.int 0), (shS [], I', J', QS)) ∧ ∀ c, 9 ≤ c → c ≤ 27 → I' c = IA c := by
  obtain ⟨Ik, k1, k2, k3, k4⟩ := rk_ok IS0 JS0 (fun j hj => by
    match j, hj with
    | 0, _ => rfl
    | 1, _ => rfl
    | 2, _ => rfl
    | 3, _ => rfl
    | 4, _ => rfl
    | 5, _ => rfl
    | 6, _ => rfl)
  have n1 := nr_ok Ik JS0 k3 k4
  have e0 := k2 0 (by decide)
  have e2 := k2 2 (by decide)
  have e28 := k2 28 (by decide)
  have e31 := k2 31 (by decide)
  obtain ⟨I1, I2, J2, l1, rn, fr⟩ := lr_ok (I := Ik) (ki := ki) 0 h1 h2 (by rw [e2]; rfl) (by rw [e2]; rfl) (by rw [e28]; rfl) (by rw [e28]; rfl) (fun j _ => by rw [e31]; rfl)
  refine ⟨_, _, cm_top (by rw [t32 (by omega)]; omega) hk k1 n1 (by rw [e0]; decide) l1 rn, fun c c1 c2 => ?_⟩
  exact (fr c (by omega) (by omega) (by omega) (by omega)).trans ((k2 c (by omega)).trans (IS_c (by omega) (by omega) (by omega) (by omega)))
