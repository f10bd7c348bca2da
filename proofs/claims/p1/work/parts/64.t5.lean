/-! the law: walk and mend on a fresh object -/
set_option maxRecDepth 1000000 in
set_option maxHeartbeats 4000000 in
theorem law_w (xs : Nat → Int32) {I1 I2 : Nat → Nat → Int32} {J1 J2 : Nat → Nat → Int64} (Hc : mxRn 69 0 [(0, .ref 0), (1, .int (xs 1)), (2, .int (xs 2)), (3, .int (xs 3))] [] (shA, IA, JA, QA) (some (.int 0), (shS [], I1, J1, QS))) (Hm : mxRn 119 0 [(0, .ref 9), (1, .int (xs 1)), (2, .int (xs 2)), (3, .int (xs 3))] [] (shS [], I1, J1, QS) (some (.int 0), (shS [], I2, J2, QS))) : mxOk 6 xs 33 [(0, .retAddr 2), (1, .ref 0), (2, .ref 9), (3, .int 0)] [.int 12] (shA, IA, JA, QA) := by
  refine mxOk.g2 6 0 (pc' := 487) (lv' := [(0, .retAddr 2), (1, .ref 0), (2, .ref 9), (3, .int 0)]) (st' := [.int 1, .retAddr 2, .ref 0]) (w' := (shA, IA, JA, QA)) (fun n => rfl) ?_
  refine mxOk.g2 6 0 (pc' := 493) (lv' := [(0, .retAddr 2), (1, .ref 0), (2, .ref 9), (3, .int 0)]) (st' := [.int (xs 2), .int (xs 1), .ref 0]) (w' := (shA, IA, JA, QA)) (fun n => rfl) ?_
  refine mxOk.c2 6 0 (z := 69) (lz := [(0, .ref 0), (1, .int (xs 1)), (2, .int (xs 2)), (3, .int (xs 3))]) (w1 := (shA, IA, JA, QA)) (pc' := 501) (lv' := [(0, .retAddr 2), (1, .ref 0), (2, .ref 9), (3, .int 0)]) (r := []) (fun n => rfl) (Hc) ?_
  show mxOk 6 xs 501 [(0, .retAddr 2), (1, .ref 0), (2, .ref 9), (3, .int 0)] [.int 0] (shS [], I1, J1, QS)
  refine mxOk.g2 6 0 (pc' := 507) (lv' := [(0, .retAddr 2), (1, .ref 0), (2, .ref 9), (3, .int 0)]) (st' := [.int (xs 1), .ref 9, .int 0]) (w' := (shS [], I1, J1, QS)) (fun n => rfl) ?_
  refine mxOk.g2 6 0 (pc' := 513) (lv' := [(0, .retAddr 2), (1, .ref 0), (2, .ref 9), (3, .int 0)]) (st' := [.retAddr 2, .int (xs 2), .int (xs 1), .ref 9, .int 0]) (w' := (shS [], I1, J1, QS)) (fun n => rfl) ?_
  refine mxOk.c2 5 0 (z := 119) (lz := [(0, .ref 9), (1, .int (xs 1)), (2, .int (xs 2)), (3, .int (xs 3))]) (w1 := (shS [], I1, J1, QS)) (pc' := 520) (lv' := [(0, .retAddr 2), (1, .ref 0), (2, .ref 9), (3, .int 0)]) (r := [.int 0]) (fun n => rfl) (Hm) ?_
  show mxOk 6 xs 520 [(0, .retAddr 2), (1, .ref 0), (2, .ref 9), (3, .int 0)] [.int 0, .int 0] (shS [], I2, J2, QS)
  refine mxOk.g2 6 0 (pc' := 21) (lv' := [(0, .retAddr 2), (1, .ref 0), (2, .ref 9), (3, .int 6)]) (st' := [.int 6, .int 6]) (w' := (shS [], I2, J2, QS)) (fun n => rfl) ?_
  exact mxOk.ret 5 (w' := (shS [], I2, J2, QS)) (fun n => rfl) (show (shS []).length ≤ 600000 from Nat.le_of_ble_eq_true rfl) (show ((shS []).map (fun q => q.2)).sum ≤ 7302250 from Nat.le_of_ble_eq_true rfl)
set_option maxRecDepth 1000000 in
set_option maxHeartbeats 4000000 in
theorem law_m (xs : Nat → Int32) {I1 I2 : Nat → Nat → Int32} {J1 J2 : Nat → Nat → Int64} (Hc : mxRn 75 0 [(0, .ref 0), (1, .int (xs 1)), (2, .int (xs 2))] [] (shA, IA, JA, QA) (some (.int 0), (shS [], I1, J1, QS))) (Hm : mxRn 123 0 [(0, .ref 9), (1, .int (xs 1)), (2, .int (xs 2))] [] (shS [], I1, J1, QS) (some (.int 0), (shS [(3, 6)], I2, J2, QS))) : mxOk 6 xs 33 [(0, .retAddr 2), (1, .ref 0), (2, .ref 9), (3, .int 0)] [.int 15] (shA, IA, JA, QA) := by
  refine mxOk.g2 6 0 (pc' := 576) (lv' := [(0, .retAddr 2), (1, .ref 0), (2, .ref 9), (3, .int 0)]) (st' := [.int 1, .retAddr 2, .ref 0]) (w' := (shA, IA, JA, QA)) (fun n => rfl) ?_
  refine mxOk.g2 6 0 (pc' := 582) (lv' := [(0, .retAddr 2), (1, .ref 0), (2, .ref 9), (3, .int 0)]) (st' := [.int (xs 2), .int (xs 1), .ref 0]) (w' := (shA, IA, JA, QA)) (fun n => rfl) ?_
  refine mxOk.c2 1 0 (z := 75) (lz := [(0, .ref 0), (1, .int (xs 1)), (2, .int (xs 2))]) (w1 := (shA, IA, JA, QA)) (pc' := 585) (lv' := [(0, .retAddr 2), (1, .ref 0), (2, .ref 9), (3, .int 0)]) (r := []) (fun n => rfl) (Hc) ?_
  show mxOk 6 xs 585 [(0, .retAddr 2), (1, .ref 0), (2, .ref 9), (3, .int 0)] [.int 0] (shS [], I1, J1, QS)
  refine mxOk.g2 6 0 (pc' := 591) (lv' := [(0, .retAddr 2), (1, .ref 0), (2, .ref 9), (3, .int 0)]) (st' := [.int (xs 1), .ref 9, .int 0]) (w' := (shS [], I1, J1, QS)) (fun n => rfl) ?_
  refine mxOk.c2 6 0 (z := 123) (lz := [(0, .ref 9), (1, .int (xs 1)), (2, .int (xs 2))]) (w1 := (shS [], I1, J1, QS)) (pc' := 599) (lv' := [(0, .retAddr 2), (1, .ref 0), (2, .ref 9), (3, .int 0)]) (r := [.int 0]) (fun n => rfl) (Hm) ?_
  show mxOk 6 xs 599 [(0, .retAddr 2), (1, .ref 0), (2, .ref 9), (3, .int 0)] [.int 0, .int 0] (shS [(3, 6)], I2, J2, QS)
  refine mxOk.g2 6 0 (pc' := 21) (lv' := [(0, .retAddr 2), (1, .ref 0), (2, .ref 9), (3, .int 6)]) (st' := [.int 6, .int 6]) (w' := (shS [(3, 6)], I2, J2, QS)) (fun n => rfl) ?_
  exact mxOk.ret 5 (w' := (shS [(3, 6)], I2, J2, QS)) (fun n => rfl) (show (shS [(3, 6)]).length ≤ 600000 from Nat.le_of_ble_eq_true rfl) (show ((shS [(3, 6)]).map (fun q => q.2)).sum ≤ 7302250 from Nat.le_of_ble_eq_true rfl)
theorem IA11 : ∀ j, j < 7 → IA 11 j = 0 := fun j hj => by
  match j, hj with
  | 0, _ => rfl
  | 1, _ => rfl
  | 2, _ => rfl
  | 3, _ => rfl
  | 4, _ => rfl
  | 5, _ => rfl
  | 6, _ => rfl
theorem IA27 : ∀ j, j < 7 → IA 27 j = 1 := fun j hj => by
  match j, hj with
  | 0, _ => rfl
  | 1, _ => rfl
  | 2, _ => rfl
  | 3, _ => rfl
  | 4, _ => rfl
  | 5, _ => rfl
  | 6, _ => rfl
theorem p1_hW (xs : Nat → Int32) (h1 : 0 ≤ (xs 1).toInt ∧ (xs 1).toInt ≤ 127) (h2 : 1 ≤ (xs 2).toInt ∧ (xs 2).toInt ≤ 10) (h3 : 1 ≤ (xs 3).toInt ∧ (xs 3).toInt ≤ 7) : mxOk 6 xs 33 [(0, .retAddr 2), (1, .ref 0), (2, .ref 9), (3, .int 0)] [.int 12] (shA, IA, JA, QA) := by
  obtain ⟨n, n1, n2, n3⟩ := nat_of h2
  obtain ⟨I1, J1, c1, c2⟩ := cw_ok (r := xs 1) (ki := xs 3) h1 n1 n2 h3
  obtain ⟨I2, J2, m1⟩ := mw_ok (ex := []) (I := I1) (J := J1) (r := xs 1) (ki := xs 3) h1 n1 n2 h3 (fun j hj => by
    rw [c2 11 (by decide) (by decide)]
    exact IA11 j hj)
  rw [← n3] at c1 m1
  exact law_w xs c1 m1
theorem p1_hM (xs : Nat → Int32) (h1 : 1 ≤ (xs 1).toInt ∧ (xs 1).toInt ≤ 10) (h2 : 1 ≤ (xs 2).toInt ∧ (xs 2).toInt ≤ 7) : mxOk 6 xs 33 [(0, .retAddr 2), (1, .ref 0), (2, .ref 9), (3, .int 0)] [.int 15] (shA, IA, JA, QA) := by
  obtain ⟨n, n1, n2, n3⟩ := nat_of h1
  obtain ⟨I1, J1, c1, c2⟩ := cm_ok (ki := xs 2) n1 n2 h2
  obtain ⟨I2, J2, m1⟩ := mm_ok (I := I1) (J := J1) (ki := xs 2) n1 n2 h2 (by rw [c2 9 (by decide) (by decide)]; rfl) (fun j hj => by
    rw [c2 27 (by decide) (by decide)]
    exact IA27 j hj) (fun j hj => by
    rw [c2 11 (by decide) (by decide)]
    exact IA11 j hj)
  rw [← n3] at c1 m1
  exact law_m xs c1 m1
