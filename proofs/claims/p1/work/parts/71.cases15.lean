set_option maxRecDepth 1000000 in
set_option maxHeartbeats 4000000 in
theorem p1_c4v4s_z1 (xs : Nat → Int32) (h_1 : xs 1 = 4) (h_2 : 0 ≤ (xs 2).toInt ∧ (xs 2).toInt ≤ 99) : mxRn 59 0 [(0, .ref 0), (1, .int 4), (2, .int (xs 2))] [] (shA, IA, JA, QA) (some (.int 1), (shA, (mxI IA 4 4 (xs 2)), JA, QA)) := by
  refine mxRn.g2 6 0 (pc' := 11) (lv' := [(0, .ref 0), (1, .int 4), (2, .int (xs 2))]) (st' := [.int (xs 2)]) (w' := (shA, IA, JA, QA)) (fun n => rfl) ?_
  refine mxRn.if2 1 0 (bb := Op.ifCond.holds .lt (xs 2)) (pc' := 14) (lv' := [(0, .ref 0), (1, .int 4), (2, .int (xs 2))]) (st' := []) (w' := (shA, IA, JA, QA)) (X := fun nf => mxev (nf + 0) 59 20 [(0, .ref 0), (1, .int 4), (2, .int (xs 2))] [] (shA, IA, JA, QA)) (fun n => rfl) (hd_lt_f (by omega)) ?_
  refine mxRn.it2 3 0 (bb := Op.if_icmp.holds .le (xs 2) (99 : Int32)) (pc' := 22) (lv' := [(0, .ref 0), (1, .int 4), (2, .int (xs 2))]) (st' := []) (w' := (shA, IA, JA, QA)) (X := fun nf => mxev (nf + 0) 59 20 [(0, .ref 0), (1, .int 4), (2, .int (xs 2))] [] (shA, IA, JA, QA)) (fun n => rfl) (hc_le_t 99 rfl (by omega)) ?_
  refine mxRn.g2 6 0 (pc' := 30) (lv' := [(0, .ref 0), (1, .int 4), (2, .int (xs 2)), (3, .int 1)]) (st' := [.ref 0]) (w' := (shA, IA, JA, QA)) (fun n => rfl) ?_
  exact mxRn.ret 6 (fun n => rfl)
set_option maxRecDepth 1000000 in
set_option maxHeartbeats 4000000 in
theorem p1_c4v4s_z3 (xs : Nat → Int32) (h_1 : xs 1 = 4) (h_2 : 0 ≤ (xs 2).toInt ∧ (xs 2).toInt ≤ 99) : mxRn 81 0 [(0, .int 4), (1, .int 0), (2, .int 6)] [] (shA, (mxI IA 4 4 (xs 2)), JA, QA) (some (.int 1), (shA, (mxI IA 4 4 (xs 2)), JA, QA)) := by
  refine mxRn.g2 6 0 (pc' := 10) (lv' := [(0, .int 4), (1, .int 0), (2, .int 6)]) (st' := []) (w' := (shA, (mxI IA 4 4 (xs 2)), JA, QA)) (fun n => rfl) ?_
  exact mxRn.ret 3 (fun n => rfl)
set_option maxRecDepth 1000000 in
set_option maxHeartbeats 4000000 in
theorem p1_c4v4s_z4 (xs : Nat → Int32) (h_1 : xs 1 = 4) (h_2 : 0 ≤ (xs 2).toInt ∧ (xs 2).toInt ≤ 99) : mxRn 81 0 [(0, .int (xs 2)), (1, .int 0), (2, .int 99)] [] (shA, (mxI IA 4 4 (xs 2)), JA, QA) (some (.int 1), (shA, (mxI IA 4 4 (xs 2)), JA, QA)) := by
  refine mxRn.if2 3 0 (bb := Op.if_icmp.holds .lt (xs 2) (0 : Int32)) (pc' := 5) (lv' := [(0, .int (xs 2)), (1, .int 0), (2, .int 99)]) (st' := []) (w' := (shA, (mxI IA 4 4 (xs 2)), JA, QA)) (X := fun nf => mxev (nf + 0) 81 14 [(0, .int (xs 2)), (1, .int 0), (2, .int 99)] [] (shA, (mxI IA 4 4 (xs 2)), JA, QA)) (fun n => rfl) (hc_lt_f 0 rfl (by omega)) ?_
  refine mxRn.if2 3 0 (bb := Op.if_icmp.holds .gt (xs 2) (99 : Int32)) (pc' := 10) (lv' := [(0, .int (xs 2)), (1, .int 0), (2, .int 99)]) (st' := []) (w' := (shA, (mxI IA 4 4 (xs 2)), JA, QA)) (X := fun nf => mxev (nf + 0) 81 14 [(0, .int (xs 2)), (1, .int 0), (2, .int 99)] [] (shA, (mxI IA 4 4 (xs 2)), JA, QA)) (fun n => rfl) (hc_gt_f 99 rfl (by omega)) ?_
  exact mxRn.ret 3 (fun n => rfl)
set_option maxRecDepth 1000000 in
set_option maxHeartbeats 4000000 in
theorem p1_c4v4s_z2 (xs : Nat → Int32) (h_1 : xs 1 = 4) (h_2 : 0 ≤ (xs 2).toInt ∧ (xs 2).toInt ≤ 99) : mxRn 122 0 [(0, .ref 9), (1, .int 4), (2, .int (xs 2))] [] (shA, (mxI IA 4 4 (xs 2)), JA, QA) (some (.int 1), (shA, (mxI (mxI IA 4 4 (xs 2)) 27 4 (xs 2)), JA, QA)) := by
  refine mxRn.c2 4 0 (z := 81) (lz := [(0, .int 4), (1, .int 0), (2, .int 6)]) (w1 := (shA, (mxI IA 4 4 (xs 2)), JA, QA)) (pc' := 7) (lv' := [(0, .ref 9), (1, .int 4), (2, .int (xs 2))]) (r := []) (fun n => rfl) (p1_c4v4s_z3 xs h_1 h_2) ?_
  show mxRn 122 7 [(0, .ref 9), (1, .int 4), (2, .int (xs 2))] [.int 1] (shA, (mxI IA 4 4 (xs 2)), JA, QA) _
  refine mxRn.c2 5 0 (z := 81) (lz := [(0, .int (xs 2)), (1, .int 0), (2, .int 99)]) (w1 := (shA, (mxI IA 4 4 (xs 2)), JA, QA)) (pc' := 17) (lv' := [(0, .ref 9), (1, .int 4), (2, .int (xs 2))]) (r := []) (fun n => rfl) (p1_c4v4s_z4 xs h_1 h_2) ?_
  show mxRn 122 17 [(0, .ref 9), (1, .int 4), (2, .int (xs 2))] [.int 1] (shA, (mxI IA 4 4 (xs 2)), JA, QA) _
  refine mxRn.g2 6 0 (pc' := 29) (lv' := [(0, .ref 9), (1, .int 4), (2, .int (xs 2)), (3, .int 1)]) (st' := []) (w' := (shA, (mxI IA 4 4 (xs 2)), JA, QA)) (fun n => rfl) ?_
  refine mxRn.g2 6 0 (pc' := 37) (lv' := [(0, .ref 9), (1, .int 4), (2, .int (xs 2)), (3, .int 1)]) (st' := [.int 1]) (w' := (shA, (mxI (mxI IA 4 4 (xs 2)) 27 4 (xs 2)), JA, QA)) (fun n => rfl) ?_
  exact mxRn.ret 1 (fun n => rfl)
set_option maxRecDepth 1000000 in
set_option maxHeartbeats 4000000 in
theorem p1_c4v4s (xs : Nat → Int32) (h_1 : xs 1 = 4) (h_2 : 0 ≤ (xs 2).toInt ∧ (xs 2).toInt ≤ 99) : mxOk 6 xs 33 [(0, .retAddr 2), (1, .ref 0), (2, .ref 9), (3, .int 0)] [.int 4] (shA, IA, JA, QA) := by
  refine mxOk.g2 6 0 (pc' := 243) (lv' := [(0, .retAddr 2), (1, .ref 0), (2, .ref 9), (3, .int 0)]) (st' := [.int 1, .retAddr 2, .ref 0]) (w' := (shA, IA, JA, QA)) (fun n => rfl) ?_
  refine mxOk.g2 1 0 (pc' := 244) (lv' := [(0, .retAddr 2), (1, .ref 0), (2, .ref 9), (3, .int 0)]) (st' := [.int (xs 1), .ref 0]) (w' := (shA, IA, JA, QA)) (fun n => rfl) ?_
  rw [h_1]
  refine mxOk.c2 6 0 (z := 59) (lz := [(0, .ref 0), (1, .int 4), (2, .int (xs 2))]) (w1 := (shA, IA, JA, QA)) (pc' := 252) (lv' := [(0, .retAddr 2), (1, .ref 0), (2, .ref 9), (3, .int 0)]) (r := []) (fun n => rfl) (p1_c4v4s_z1 xs h_1 h_2) ?_
  show mxOk 6 xs 252 [(0, .retAddr 2), (1, .ref 0), (2, .ref 9), (3, .int 0)] [.int 1] (shA, (mxI IA 4 4 (xs 2)), JA, QA)
  refine mxOk.g2 6 0 (pc' := 258) (lv' := [(0, .retAddr 2), (1, .ref 0), (2, .ref 9), (3, .int 0)]) (st' := [.int (xs 1), .ref 9, .int 1]) (w' := (shA, (mxI IA 4 4 (xs 2)), JA, QA)) (fun n => rfl) ?_
  rw [h_1]
  refine mxOk.c2 6 0 (z := 122) (lz := [(0, .ref 9), (1, .int 4), (2, .int (xs 2))]) (w1 := (shA, (mxI IA 4 4 (xs 2)), JA, QA)) (pc' := 266) (lv' := [(0, .retAddr 2), (1, .ref 0), (2, .ref 9), (3, .int 0)]) (r := [.int 1]) (fun n => rfl) (p1_c4v4s_z2 xs h_1 h_2) ?_
  show mxOk 6 xs 266 [(0, .retAddr 2), (1, .ref 0), (2, .ref 9), (3, .int 0)] [.int 1, .int 1] (shA, (mxI (mxI IA 4 4 (xs 2)) 27 4 (xs 2)), JA, QA)
  refine mxOk.g2 6 0 (pc' := 21) (lv' := [(0, .retAddr 2), (1, .ref 0), (2, .ref 9), (3, .int 6)]) (st' := [.int 6, .int 6]) (w' := (shA, (mxI (mxI IA 4 4 (xs 2)) 27 4 (xs 2)), JA, QA)) (fun n => rfl) ?_
  exact mxOk.ret 5 (w' := (shA, (mxI (mxI IA 4 4 (xs 2)) 27 4 (xs 2)), JA, QA)) (fun n => rfl) (show shA.length ≤ 600000 from Nat.le_of_ble_eq_true rfl) (show (shA.map (fun q => q.2)).sum ≤ 7302250 from Nat.le_of_ble_eq_true rfl)
set_option maxRecDepth 1000000 in
set_option maxHeartbeats 4000000 in
theorem p1_c4v5b_z1 (xs : Nat → Int32) (h_1 : xs 1 = 5) (h_2 : (xs 2).toInt < 0) : mxRn 59 0 [(0, .ref 0), (1, .int 5), (2, .int (xs 2))] [] (shA, IA, JA, QA) (some (.int (-1)), (shA, IA, JA, QA)) := by
  refine mxRn.g2 6 0 (pc' := 11) (lv' := [(0, .ref 0), (1, .int 5), (2, .int (xs 2))]) (st' := [.int (xs 2)]) (w' := (shA, IA, JA, QA)) (fun n => rfl) ?_
  refine mxRn.it2 1 0 (bb := Op.ifCond.holds .lt (xs 2)) (pc' := 20) (lv' := [(0, .ref 0), (1, .int 5), (2, .int (xs 2))]) (st' := []) (w' := (shA, IA, JA, QA)) (X := fun nf => mxev (nf + 0) 59 14 [(0, .ref 0), (1, .int 5), (2, .int (xs 2))] [] (shA, IA, JA, QA)) (fun n => rfl) (hd_lt_t (by omega)) ?_
  exact mxRn.ret 2 (fun n => rfl)
set_option maxRecDepth 1000000 in
set_option maxHeartbeats 4000000 in
theorem p1_c4v5b_z3 (xs : Nat → Int32) (h_1 : xs 1 = 5) (h_2 : (xs 2).toInt < 0) : mxRn 81 0 [(0, .int 5), (1, .int 0), (2, .int 6)] [] (shA, IA, JA, QA) (some (.int 1), (shA, IA, JA, QA)) := by
  refine mxRn.g2 6 0 (pc' := 10) (lv' := [(0, .int 5), (1, .int 0), (2, .int 6)]) (st' := []) (w' := (shA, IA, JA, QA)) (fun n => rfl) ?_
  exact mxRn.ret 3 (fun n => rfl)
set_option maxRecDepth 1000000 in
set_option maxHeartbeats 4000000 in
theorem p1_c4v5b_z4 (xs : Nat → Int32) (h_1 : xs 1 = 5) (h_2 : (xs 2).toInt < 0) : mxRn 81 0 [(0, .int (xs 2)), (1, .int 0), (2, .int 99)] [] (shA, IA, JA, QA) (some (.int 0), (shA, IA, JA, QA)) := by
  refine mxRn.it2 3 0 (bb := Op.if_icmp.holds .lt (xs 2) (0 : Int32)) (pc' := 14) (lv' := [(0, .int (xs 2)), (1, .int 0), (2, .int 99)]) (st' := []) (w' := (shA, IA, JA, QA)) (X := fun nf => mxev (nf + 0) 81 5 [(0, .int (xs 2)), (1, .int 0), (2, .int 99)] [] (shA, IA, JA, QA)) (fun n => rfl) (hc_lt_t 0 rfl (by omega)) ?_
  exact mxRn.ret 2 (fun n => rfl)
set_option maxRecDepth 1000000 in
set_option maxHeartbeats 4000000 in
theorem p1_c4v5b_z2 (xs : Nat → Int32) (h_1 : xs 1 = 5) (h_2 : (xs 2).toInt < 0) : mxRn 122 0 [(0, .ref 9), (1, .int 5), (2, .int (xs 2))] [] (shA, IA, JA, QA) (some (.int (-1)), (shA, IA, JA, QA)) := by
  refine mxRn.c2 4 0 (z := 81) (lz := [(0, .int 5), (1, .int 0), (2, .int 6)]) (w1 := (shA, IA, JA, QA)) (pc' := 7) (lv' := [(0, .ref 9), (1, .int 5), (2, .int (xs 2))]) (r := []) (fun n => rfl) (p1_c4v5b_z3 xs h_1 h_2) ?_
  show mxRn 122 7 [(0, .ref 9), (1, .int 5), (2, .int (xs 2))] [.int 1] (shA, IA, JA, QA) _
  refine mxRn.c2 5 0 (z := 81) (lz := [(0, .int (xs 2)), (1, .int 0), (2, .int 99)]) (w1 := (shA, IA, JA, QA)) (pc' := 17) (lv' := [(0, .ref 9), (1, .int 5), (2, .int (xs 2))]) (r := []) (fun n => rfl) (p1_c4v5b_z4 xs h_1 h_2) ?_
  show mxRn 122 17 [(0, .ref 9), (1, .int 5), (2, .int (xs 2))] [.int 0] (shA, IA, JA, QA) _
  exact mxRn.ret 3 (fun n => rfl)
set_option maxRecDepth 1000000 in
set_option maxHeartbeats 4000000 in
theorem p1_c4v5b (xs : Nat → Int32) (h_1 : xs 1 = 5) (h_2 : (xs 2).toInt < 0) : mxOk 6 xs 33 [(0, .retAddr 2), (1, .ref 0), (2, .ref 9), (3, .int 0)] [.int 4] (shA, IA, JA, QA) := by
  refine mxOk.g2 6 0 (pc' := 243) (lv' := [(0, .retAddr 2), (1, .ref 0), (2, .ref 9), (3, .int 0)]) (st' := [.int 1, .retAddr 2, .ref 0]) (w' := (shA, IA, JA, QA)) (fun n => rfl) ?_
  refine mxOk.g2 1 0 (pc' := 244) (lv' := [(0, .retAddr 2), (1, .ref 0), (2, .ref 9), (3, .int 0)]) (st' := [.int (xs 1), .ref 0]) (w' := (shA, IA, JA, QA)) (fun n => rfl) ?_
  rw [h_1]
  refine mxOk.c2 6 0 (z := 59) (lz := [(0, .ref 0), (1, .int 5), (2, .int (xs 2))]) (w1 := (shA, IA, JA, QA)) (pc' := 252) (lv' := [(0, .retAddr 2), (1, .ref 0), (2, .ref 9), (3, .int 0)]) (r := []) (fun n => rfl) (p1_c4v5b_z1 xs h_1 h_2) ?_
  show mxOk 6 xs 252 [(0, .retAddr 2), (1, .ref 0), (2, .ref 9), (3, .int 0)] [.int (-1)] (shA, IA, JA, QA)
  refine mxOk.g2 6 0 (pc' := 258) (lv' := [(0, .retAddr 2), (1, .ref 0), (2, .ref 9), (3, .int 0)]) (st' := [.int (xs 1), .ref 9, .int (-1)]) (w' := (shA, IA, JA, QA)) (fun n => rfl) ?_
  rw [h_1]
  refine mxOk.c2 6 0 (z := 122) (lz := [(0, .ref 9), (1, .int 5), (2, .int (xs 2))]) (w1 := (shA, IA, JA, QA)) (pc' := 266) (lv' := [(0, .retAddr 2), (1, .ref 0), (2, .ref 9), (3, .int 0)]) (r := [.int (-1)]) (fun n => rfl) (p1_c4v5b_z2 xs h_1 h_2) ?_
  show mxOk 6 xs 266 [(0, .retAddr 2), (1, .ref 0), (2, .ref 9), (3, .int 0)] [.int (-1), .int (-1)] (shA, IA, JA, QA)
  refine mxOk.g2 6 0 (pc' := 21) (lv' := [(0, .retAddr 2), (1, .ref 0), (2, .ref 9), (3, .int 6)]) (st' := [.int 6, .int 6]) (w' := (shA, IA, JA, QA)) (fun n => rfl) ?_
  exact mxOk.ret 5 (w' := (shA, IA, JA, QA)) (fun n => rfl) (show shA.length ≤ 600000 from Nat.le_of_ble_eq_true rfl) (show (shA.map (fun q => q.2)).sum ≤ 7302250 from Nat.le_of_ble_eq_true rfl)
set_option maxRecDepth 1000000 in
set_option maxHeartbeats 4000000 in
theorem p1_c4v5a_z1 (xs : Nat → Int32) (h_1 : xs 1 = 5) (h_2 : 99 < (xs 2).toInt) : mxRn 59 0 [(0, .ref 0), (1, .int 5), (2, .int (xs 2))] [] (shA, IA, JA, QA) (some (.int (-1)), (shA, IA, JA, QA)) := by
  refine mxRn.g2 6 0 (pc' := 11) (lv' := [(0, .ref 0), (1, .int 5), (2, .int (xs 2))]) (st' := [.int (xs 2)]) (w' := (shA, IA, JA, QA)) (fun n => rfl) ?_
  refine mxRn.if2 1 0 (bb := Op.ifCond.holds .lt (xs 2)) (pc' := 14) (lv' := [(0, .ref 0), (1, .int 5), (2, .int (xs 2))]) (st' := []) (w' := (shA, IA, JA, QA)) (X := fun nf => mxev (nf + 0) 59 20 [(0, .ref 0), (1, .int 5), (2, .int (xs 2))] [] (shA, IA, JA, QA)) (fun n => rfl) (hd_lt_f (by omega)) ?_
  refine mxRn.if2 3 0 (bb := Op.if_icmp.holds .le (xs 2) (99 : Int32)) (pc' := 20) (lv' := [(0, .ref 0), (1, .int 5), (2, .int (xs 2))]) (st' := []) (w' := (shA, IA, JA, QA)) (X := fun nf => mxev (nf + 0) 59 22 [(0, .ref 0), (1, .int 5), (2, .int (xs 2))] [] (shA, IA, JA, QA)) (fun n => rfl) (hc_le_f 99 rfl (by omega)) ?_
  exact mxRn.ret 2 (fun n => rfl)
set_option maxRecDepth 1000000 in
set_option maxHeartbeats 4000000 in
theorem p1_c4v5a_z3 (xs : Nat → Int32) (h_1 : xs 1 = 5) (h_2 : 99 < (xs 2).toInt) : mxRn 81 0 [(0, .int 5), (1, .int 0), (2, .int 6)] [] (shA, IA, JA, QA) (some (.int 1), (shA, IA, JA, QA)) := by
  refine mxRn.g2 6 0 (pc' := 10) (lv' := [(0, .int 5), (1, .int 0), (2, .int 6)]) (st' := []) (w' := (shA, IA, JA, QA)) (fun n => rfl) ?_
  exact mxRn.ret 3 (fun n => rfl)
set_option maxRecDepth 1000000 in
set_option maxHeartbeats 4000000 in
theorem p1_c4v5a_z4 (xs : Nat → Int32) (h_1 : xs 1 = 5) (h_2 : 99 < (xs 2).toInt) : mxRn 81 0 [(0, .int (xs 2)), (1, .int 0), (2, .int 99)] [] (shA, IA, JA, QA) (some (.int 0), (shA, IA, JA, QA)) := by
  refine mxRn.if2 3 0 (bb := Op.if_icmp.holds .lt (xs 2) (0 : Int32)) (pc' := 5) (lv' := [(0, .int (xs 2)), (1, .int 0), (2, .int 99)]) (st' := []) (w' := (shA, IA, JA, QA)) (X := fun nf => mxev (nf + 0) 81 14 [(0, .int (xs 2)), (1, .int 0), (2, .int 99)] [] (shA, IA, JA, QA)) (fun n => rfl) (hc_lt_f 0 rfl (by omega)) ?_
  refine mxRn.it2 3 0 (bb := Op.if_icmp.holds .gt (xs 2) (99 : Int32)) (pc' := 14) (lv' := [(0, .int (xs 2)), (1, .int 0), (2, .int 99)]) (st' := []) (w' := (shA, IA, JA, QA)) (X := fun nf => mxev (nf + 0) 81 10 [(0, .int (xs 2)), (1, .int 0), (2, .int 99)] [] (shA, IA, JA, QA)) (fun n => rfl) (hc_gt_t 99 rfl (by omega)) ?_
  exact mxRn.ret 2 (fun n => rfl)
set_option maxRecDepth 1000000 in
set_option maxHeartbeats 4000000 in
theorem p1_c4v5a_z2 (xs : Nat → Int32) (h_1 : xs 1 = 5) (h_2 : 99 < (xs 2).toInt) : mxRn 122 0 [(0, .ref 9), (1, .int 5), (2, .int (xs 2))] [] (shA, IA, JA, QA) (some (.int (-1)), (shA, IA, JA, QA)) := by
  refine mxRn.c2 4 0 (z := 81) (lz := [(0, .int 5), (1, .int 0), (2, .int 6)]) (w1 := (shA, IA, JA, QA)) (pc' := 7) (lv' := [(0, .ref 9), (1, .int 5), (2, .int (xs 2))]) (r := []) (fun n => rfl) (p1_c4v5a_z3 xs h_1 h_2) ?_
  show mxRn 122 7 [(0, .ref 9), (1, .int 5), (2, .int (xs 2))] [.int 1] (shA, IA, JA, QA) _
  refine mxRn.c2 5 0 (z := 81) (lz := [(0, .int (xs 2)), (1, .int 0), (2, .int 99)]) (w1 := (shA, IA, JA, QA)) (pc' := 17) (lv' := [(0, .ref 9), (1, .int 5), (2, .int (xs 2))]) (r := []) (fun n => rfl) (p1_c4v5a_z4 xs h_1 h_2) ?_
  show mxRn 122 17 [(0, .ref 9), (1, .int 5), (2, .int (xs 2))] [.int 0] (shA, IA, JA, QA) _
  exact mxRn.ret 3 (fun n => rfl)
set_option maxRecDepth 1000000 in
set_option maxHeartbeats 4000000 in
theorem p1_c4v5a (xs : Nat → Int32) (h_1 : xs 1 = 5) (h_2 : 99 < (xs 2).toInt) : mxOk 6 xs 33 [(0, .retAddr 2), (1, .ref 0), (2, .ref 9), (3, .int 0)] [.int 4] (shA, IA, JA, QA) := by
  refine mxOk.g2 6 0 (pc' := 243) (lv' := [(0, .retAddr 2), (1, .ref 0), (2, .ref 9), (3, .int 0)]) (st' := [.int 1, .retAddr 2, .ref 0]) (w' := (shA, IA, JA, QA)) (fun n => rfl) ?_
  refine mxOk.g2 1 0 (pc' := 244) (lv' := [(0, .retAddr 2), (1, .ref 0), (2, .ref 9), (3, .int 0)]) (st' := [.int (xs 1), .ref 0]) (w' := (shA, IA, JA, QA)) (fun n => rfl) ?_
  rw [h_1]
  refine mxOk.c2 6 0 (z := 59) (lz := [(0, .ref 0), (1, .int 5), (2, .int (xs 2))]) (w1 := (shA, IA, JA, QA)) (pc' := 252) (lv' := [(0, .retAddr 2), (1, .ref 0), (2, .ref 9), (3, .int 0)]) (r := []) (fun n => rfl) (p1_c4v5a_z1 xs h_1 h_2) ?_
  show mxOk 6 xs 252 [(0, .retAddr 2), (1, .ref 0), (2, .ref 9), (3, .int 0)] [.int (-1)] (shA, IA, JA, QA)
  refine mxOk.g2 6 0 (pc' := 258) (lv' := [(0, .retAddr 2), (1, .ref 0), (2, .ref 9), (3, .int 0)]) (st' := [.int (xs 1), .ref 9, .int (-1)]) (w' := (shA, IA, JA, QA)) (fun n => rfl) ?_
  rw [h_1]
  refine mxOk.c2 6 0 (z := 122) (lz := [(0, .ref 9), (1, .int 5), (2, .int (xs 2))]) (w1 := (shA, IA, JA, QA)) (pc' := 266) (lv' := [(0, .retAddr 2), (1, .ref 0), (2, .ref 9), (3, .int 0)]) (r := [.int (-1)]) (fun n => rfl) (p1_c4v5a_z2 xs h_1 h_2) ?_
  show mxOk 6 xs 266 [(0, .retAddr 2), (1, .ref 0), (2, .ref 9), (3, .int 0)] [.int (-1), .int (-1)] (shA, IA, JA, QA)
  refine mxOk.g2 6 0 (pc' := 21) (lv' := [(0, .retAddr 2), (1, .ref 0), (2, .ref 9), (3, .int 6)]) (st' := [.int 6, .int 6]) (w' := (shA, IA, JA, QA)) (fun n => rfl) ?_
  exact mxOk.ret 5 (w' := (shA, IA, JA, QA)) (fun n => rfl) (show shA.length ≤ 600000 from Nat.le_of_ble_eq_true rfl) (show (shA.map (fun q => q.2)).sum ≤ 7302250 from Nat.le_of_ble_eq_true rfl)
set_option maxRecDepth 1000000 in
set_option maxHeartbeats 4000000 in
theorem p1_c4v5s_z1 (xs : Nat → Int32) (h_1 : xs 1 = 5) (h_2 : 0 ≤ (xs 2).toInt ∧ (xs 2).toInt ≤ 99) : mxRn 59 0 [(0, .ref 0), (1, .int 5), (2, .int (xs 2))] [] (shA, IA, JA, QA) (some (.int 1), (shA, (mxI IA 4 5 (xs 2)), JA, QA)) := by
  refine mxRn.g2 6 0 (pc' := 11) (lv' := [(0, .ref 0), (1, .int 5), (2, .int (xs 2))]) (st' := [.int (xs 2)]) (w' := (shA, IA, JA, QA)) (fun n => rfl) ?_
  refine mxRn.if2 1 0 (bb := Op.ifCond.holds .lt (xs 2)) (pc' := 14) (lv' := [(0, .ref 0), (1, .int 5), (2, .int (xs 2))]) (st' := []) (w' := (shA, IA, JA, QA)) (X := fun nf => mxev (nf + 0) 59 20 [(0, .ref 0), (1, .int 5), (2, .int (xs 2))] [] (shA, IA, JA, QA)) (fun n => rfl) (hd_lt_f (by omega)) ?_
  refine mxRn.it2 3 0 (bb := Op.if_icmp.holds .le (xs 2) (99 : Int32)) (pc' := 22) (lv' := [(0, .ref 0), (1, .int 5), (2, .int (xs 2))]) (st' := []) (w' := (shA, IA, JA, QA)) (X := fun nf => mxev (nf + 0) 59 20 [(0, .ref 0), (1, .int 5), (2, .int (xs 2))] [] (shA, IA, JA, QA)) (fun n => rfl) (hc_le_t 99 rfl (by omega)) ?_
  refine mxRn.g2 6 0 (pc' := 30) (lv' := [(0, .ref 0), (1, .int 5), (2, .int (xs 2)), (3, .int 1)]) (st' := [.ref 0]) (w' := (shA, IA, JA, QA)) (fun n => rfl) ?_
  exact mxRn.ret 6 (fun n => rfl)
set_option maxRecDepth 1000000 in
set_option maxHeartbeats 4000000 in
theorem p1_c4v5s_z3 (xs : Nat → Int32) (h_1 : xs 1 = 5) (h_2 : 0 ≤ (xs 2).toInt ∧ (xs 2).toInt ≤ 99) : mxRn 81 0 [(0, .int 5), (1, .int 0), (2, .int 6)] [] (shA, (mxI IA 4 5 (xs 2)), JA, QA) (some (.int 1), (shA, (mxI IA 4 5 (xs 2)), JA, QA)) := by
  refine mxRn.g2 6 0 (pc' := 10) (lv' := [(0, .int 5), (1, .int 0), (2, .int 6)]) (st' := []) (w' := (shA, (mxI IA 4 5 (xs 2)), JA, QA)) (fun n => rfl) ?_
  exact mxRn.ret 3 (fun n => rfl)
set_option maxRecDepth 1000000 in
set_option maxHeartbeats 4000000 in
theorem p1_c4v5s_z4 (xs : Nat → Int32) (h_1 : xs 1 = 5) (h_2 : 0 ≤ (xs 2).toInt ∧ (xs 2).toInt ≤ 99) : mxRn 81 0 [(0, .int (xs 2)), (1, .int 0), (2, .int 99)] [] (shA, (mxI IA 4 5 (xs 2)), JA, QA) (some (.int 1), (shA, (mxI IA 4 5 (xs 2)), JA, QA)) := by
  refine mxRn.if2 3 0 (bb := Op.if_icmp.holds .lt (xs 2) (0 : Int32)) (pc' := 5) (lv' := [(0, .int (xs 2)), (1, .int 0), (2, .int 99)]) (st' := []) (w' := (shA, (mxI IA 4 5 (xs 2)), JA, QA)) (X := fun nf => mxev (nf + 0) 81 14 [(0, .int (xs 2)), (1, .int 0), (2, .int 99)] [] (shA, (mxI IA 4 5 (xs 2)), JA, QA)) (fun n => rfl) (hc_lt_f 0 rfl (by omega)) ?_
  refine mxRn.if2 3 0 (bb := Op.if_icmp.holds .gt (xs 2) (99 : Int32)) (pc' := 10) (lv' := [(0, .int (xs 2)), (1, .int 0), (2, .int 99)]) (st' := []) (w' := (shA, (mxI IA 4 5 (xs 2)), JA, QA)) (X := fun nf => mxev (nf + 0) 81 14 [(0, .int (xs 2)), (1, .int 0), (2, .int 99)] [] (shA, (mxI IA 4 5 (xs 2)), JA, QA)) (fun n => rfl) (hc_gt_f 99 rfl (by omega)) ?_
  exact mxRn.ret 3 (fun n => rfl)
set_option maxRecDepth 1000000 in
set_option maxHeartbeats 4000000 in
theorem p1_c4v5s_z2 (xs : Nat → Int32) (h_1 : xs 1 = 5) (h_2 : 0 ≤ (xs 2).toInt ∧ (xs 2).toInt ≤ 99) : mxRn 122 0 [(0, .ref 9), (1, .int 5), (2, .int (xs 2))] [] (shA, (mxI IA 4 5 (xs 2)), JA, QA) (some (.int 1), (shA, (mxI (mxI IA 4 5 (xs 2)) 27 5 (xs 2)), JA, QA)) := by
  refine mxRn.c2 4 0 (z := 81) (lz := [(0, .int 5), (1, .int 0), (2, .int 6)]) (w1 := (shA, (mxI IA 4 5 (xs 2)), JA, QA)) (pc' := 7) (lv' := [(0, .ref 9), (1, .int 5), (2, .int (xs 2))]) (r := []) (fun n => rfl) (p1_c4v5s_z3 xs h_1 h_2) ?_
  show mxRn 122 7 [(0, .ref 9), (1, .int 5), (2, .int (xs 2))] [.int 1] (shA, (mxI IA 4 5 (xs 2)), JA, QA) _
  refine mxRn.c2 5 0 (z := 81) (lz := [(0, .int (xs 2)), (1, .int 0), (2, .int 99)]) (w1 := (shA, (mxI IA 4 5 (xs 2)), JA, QA)) (pc' := 17) (lv' := [(0, .ref 9), (1, .int 5), (2, .int (xs 2))]) (r := []) (fun n => rfl) (p1_c4v5s_z4 xs h_1 h_2) ?_
  show mxRn 122 17 [(0, .ref 9), (1, .int 5), (2, .int (xs 2))] [.int 1] (shA, (mxI IA 4 5 (xs 2)), JA, QA) _
  refine mxRn.g2 6 0 (pc' := 29) (lv' := [(0, .ref 9), (1, .int 5), (2, .int (xs 2)), (3, .int 1)]) (st' := []) (w' := (shA, (mxI IA 4 5 (xs 2)), JA, QA)) (fun n => rfl) ?_
  refine mxRn.g2 6 0 (pc' := 37) (lv' := [(0, .ref 9), (1, .int 5), (2, .int (xs 2)), (3, .int 1)]) (st' := [.int 1]) (w' := (shA, (mxI (mxI IA 4 5 (xs 2)) 27 5 (xs 2)), JA, QA)) (fun n => rfl) ?_
  exact mxRn.ret 1 (fun n => rfl)
set_option maxRecDepth 1000000 in
set_option maxHeartbeats 4000000 in
theorem p1_c4v5s (xs : Nat → Int32) (h_1 : xs 1 = 5) (h_2 : 0 ≤ (xs 2).toInt ∧ (xs 2).toInt ≤ 99) : mxOk 6 xs 33 [(0, .retAddr 2), (1, .ref 0), (2, .ref 9), (3, .int 0)] [.int 4] (shA, IA, JA, QA) := by
  refine mxOk.g2 6 0 (pc' := 243) (lv' := [(0, .retAddr 2), (1, .ref 0), (2, .ref 9), (3, .int 0)]) (st' := [.int 1, .retAddr 2, .ref 0]) (w' := (shA, IA, JA, QA)) (fun n => rfl) ?_
  refine mxOk.g2 1 0 (pc' := 244) (lv' := [(0, .retAddr 2), (1, .ref 0), (2, .ref 9), (3, .int 0)]) (st' := [.int (xs 1), .ref 0]) (w' := (shA, IA, JA, QA)) (fun n => rfl) ?_
  rw [h_1]
  refine mxOk.c2 6 0 (z := 59) (lz := [(0, .ref 0), (1, .int 5), (2, .int (xs 2))]) (w1 := (shA, IA, JA, QA)) (pc' := 252) (lv' := [(0, .retAddr 2), (1, .ref 0), (2, .ref 9), (3, .int 0)]) (r := []) (fun n => rfl) (p1_c4v5s_z1 xs h_1 h_2) ?_
  show mxOk 6 xs 252 [(0, .retAddr 2), (1, .ref 0), (2, .ref 9), (3, .int 0)] [.int 1] (shA, (mxI IA 4 5 (xs 2)), JA, QA)
  refine mxOk.g2 6 0 (pc' := 258) (lv' := [(0, .retAddr 2), (1, .ref 0), (2, .ref 9), (3, .int 0)]) (st' := [.int (xs 1), .ref 9, .int 1]) (w' := (shA, (mxI IA 4 5 (xs 2)), JA, QA)) (fun n => rfl) ?_
  rw [h_1]
  refine mxOk.c2 6 0 (z := 122) (lz := [(0, .ref 9), (1, .int 5), (2, .int (xs 2))]) (w1 := (shA, (mxI IA 4 5 (xs 2)), JA, QA)) (pc' := 266) (lv' := [(0, .retAddr 2), (1, .ref 0), (2, .ref 9), (3, .int 0)]) (r := [.int 1]) (fun n => rfl) (p1_c4v5s_z2 xs h_1 h_2) ?_
  show mxOk 6 xs 266 [(0, .retAddr 2), (1, .ref 0), (2, .ref 9), (3, .int 0)] [.int 1, .int 1] (shA, (mxI (mxI IA 4 5 (xs 2)) 27 5 (xs 2)), JA, QA)
  refine mxOk.g2 6 0 (pc' := 21) (lv' := [(0, .retAddr 2), (1, .ref 0), (2, .ref 9), (3, .int 6)]) (st' := [.int 6, .int 6]) (w' := (shA, (mxI (mxI IA 4 5 (xs 2)) 27 5 (xs 2)), JA, QA)) (fun n => rfl) ?_
  exact mxOk.ret 5 (w' := (shA, (mxI (mxI IA 4 5 (xs 2)) 27 5 (xs 2)), JA, QA)) (fun n => rfl) (show shA.length ≤ 600000 from Nat.le_of_ble_eq_true rfl) (show (shA.map (fun q => q.2)).sum ≤ 7302250 from Nat.le_of_ble_eq_true rfl)
set_option maxRecDepth 1000000 in
set_option maxHeartbeats 4000000 in
theorem p1_c4v6b_z1 (xs : Nat → Int32) (h_1 : xs 1 = 6) (h_2 : (xs 2).toInt < 0) : mxRn 59 0 [(0, .ref 0), (1, .int 6), (2, .int (xs 2))] [] (shA, IA, JA, QA) (some (.int (-1)), (shA, IA, JA, QA)) := by
  refine mxRn.g2 6 0 (pc' := 11) (lv' := [(0, .ref 0), (1, .int 6), (2, .int (xs 2))]) (st' := [.int (xs 2)]) (w' := (shA, IA, JA, QA)) (fun n => rfl) ?_
  refine mxRn.it2 1 0 (bb := Op.ifCond.holds .lt (xs 2)) (pc' := 20) (lv' := [(0, .ref 0), (1, .int 6), (2, .int (xs 2))]) (st' := []) (w' := (shA, IA, JA, QA)) (X := fun nf => mxev (nf + 0) 59 14 [(0, .ref 0), (1, .int 6), (2, .int (xs 2))] [] (shA, IA, JA, QA)) (fun n => rfl) (hd_lt_t (by omega)) ?_
  exact mxRn.ret 2 (fun n => rfl)
set_option maxRecDepth 1000000 in
set_option maxHeartbeats 4000000 in
theorem p1_c4v6b_z3 (xs : Nat → Int32) (h_1 : xs 1 = 6) (h_2 : (xs 2).toInt < 0) : mxRn 81 0 [(0, .int 6), (1, .int 0), (2, .int 6)] [] (shA, IA, JA, QA) (some (.int 1), (shA, IA, JA, QA)) := by
  refine mxRn.g2 6 0 (pc' := 10) (lv' := [(0, .int 6), (1, .int 0), (2, .int 6)]) (st' := []) (w' := (shA, IA, JA, QA)) (fun n => rfl) ?_
  exact mxRn.ret 3 (fun n => rfl)
set_option maxRecDepth 1000000 in
set_option maxHeartbeats 4000000 in
theorem p1_c4v6b_z4 (xs : Nat → Int32) (h_1 : xs 1 = 6) (h_2 : (xs 2).toInt < 0) : mxRn 81 0 [(0, .int (xs 2)), (1, .int 0), (2, .int 99)] [] (shA, IA, JA, QA) (some (.int 0), (shA, IA, JA, QA)) := by
  refine mxRn.it2 3 0 (bb := Op.if_icmp.holds .lt (xs 2) (0 : Int32)) (pc' := 14) (lv' := [(0, .int (xs 2)), (1, .int 0), (2, .int 99)]) (st' := []) (w' := (shA, IA, JA, QA)) (X := fun nf => mxev (nf + 0) 81 5 [(0, .int (xs 2)), (1, .int 0), (2, .int 99)] [] (shA, IA, JA, QA)) (fun n => rfl) (hc_lt_t 0 rfl (by omega)) ?_
  exact mxRn.ret 2 (fun n => rfl)
set_option maxRecDepth 1000000 in
set_option maxHeartbeats 4000000 in
theorem p1_c4v6b_z2 (xs : Nat → Int32) (h_1 : xs 1 = 6) (h_2 : (xs 2).toInt < 0) : mxRn 122 0 [(0, .ref 9), (1, .int 6), (2, .int (xs 2))] [] (shA, IA, JA, QA) (some (.int (-1)), (shA, IA, JA, QA)) := by
  refine mxRn.c2 4 0 (z := 81) (lz := [(0, .int 6), (1, .int 0), (2, .int 6)]) (w1 := (shA, IA, JA, QA)) (pc' := 7) (lv' := [(0, .ref 9), (1, .int 6), (2, .int (xs 2))]) (r := []) (fun n => rfl) (p1_c4v6b_z3 xs h_1 h_2) ?_
  show mxRn 122 7 [(0, .ref 9), (1, .int 6), (2, .int (xs 2))] [.int 1] (shA, IA, JA, QA) _
  refine mxRn.c2 5 0 (z := 81) (lz := [(0, .int (xs 2)), (1, .int 0), (2, .int 99)]) (w1 := (shA, IA, JA, QA)) (pc' := 17) (lv' := [(0, .ref 9), (1, .int 6), (2, .int (xs 2))]) (r := []) (fun n => rfl) (p1_c4v6b_z4 xs h_1 h_2) ?_
  show mxRn 122 17 [(0, .ref 9), (1, .int 6), (2, .int (xs 2))] [.int 0] (shA, IA, JA, QA) _
  exact mxRn.ret 3 (fun n => rfl)
set_option maxRecDepth 1000000 in
set_option maxHeartbeats 4000000 in
theorem p1_c4v6b (xs : Nat → Int32) (h_1 : xs 1 = 6) (h_2 : (xs 2).toInt < 0) : mxOk 6 xs 33 [(0, .retAddr 2), (1, .ref 0), (2, .ref 9), (3, .int 0)] [.int 4] (shA, IA, JA, QA) := by
  refine mxOk.g2 6 0 (pc' := 243) (lv' := [(0, .retAddr 2), (1, .ref 0), (2, .ref 9), (3, .int 0)]) (st' := [.int 1, .retAddr 2, .ref 0]) (w' := (shA, IA, JA, QA)) (fun n => rfl) ?_
  refine mxOk.g2 1 0 (pc' := 244) (lv' := [(0, .retAddr 2), (1, .ref 0), (2, .ref 9), (3, .int 0)]) (st' := [.int (xs 1), .ref 0]) (w' := (shA, IA, JA, QA)) (fun n => rfl) ?_
  rw [h_1]
  refine mxOk.c2 6 0 (z := 59) (lz := [(0, .ref 0), (1, .int 6), (2, .int (xs 2))]) (w1 := (shA, IA, JA, QA)) (pc' := 252) (lv' := [(0, .retAddr 2), (1, .ref 0), (2, .ref 9), (3, .int 0)]) (r := []) (fun n => rfl) (p1_c4v6b_z1 xs h_1 h_2) ?_
  show mxOk 6 xs 252 [(0, .retAddr 2), (1, .ref 0), (2, .ref 9), (3, .int 0)] [.int (-1)] (shA, IA, JA, QA)
  refine mxOk.g2 6 0 (pc' := 258) (lv' := [(0, .retAddr 2), (1, .ref 0), (2, .ref 9), (3, .int 0)]) (st' := [.int (xs 1), .ref 9, .int (-1)]) (w' := (shA, IA, JA, QA)) (fun n => rfl) ?_
  rw [h_1]
  refine mxOk.c2 6 0 (z := 122) (lz := [(0, .ref 9), (1, .int 6), (2, .int (xs 2))]) (w1 := (shA, IA, JA, QA)) (pc' := 266) (lv' := [(0, .retAddr 2), (1, .ref 0), (2, .ref 9), (3, .int 0)]) (r := [.int (-1)]) (fun n => rfl) (p1_c4v6b_z2 xs h_1 h_2) ?_
  show mxOk 6 xs 266 [(0, .retAddr 2), (1, .ref 0), (2, .ref 9), (3, .int 0)] [.int (-1), .int (-1)] (shA, IA, JA, QA)
  refine mxOk.g2 6 0 (pc' := 21) (lv' := [(0, .retAddr 2), (1, .ref 0), (2, .ref 9), (3, .int 6)]) (st' := [.int 6, .int 6]) (w' := (shA, IA, JA, QA)) (fun n => rfl) ?_
  exact mxOk.ret 5 (w' := (shA, IA, JA, QA)) (fun n => rfl) (show shA.length ≤ 600000 from Nat.le_of_ble_eq_true rfl) (show (shA.map (fun q => q.2)).sum ≤ 7302250 from Nat.le_of_ble_eq_true rfl)
set_option maxRecDepth 1000000 in
set_option maxHeartbeats 4000000 in
theorem p1_c4v6a_z1 (xs : Nat → Int32) (h_1 : xs 1 = 6) (h_2 : 99 < (xs 2).toInt) : mxRn 59 0 [(0, .ref 0), (1, .int 6), (2, .int (xs 2))] [] (shA, IA, JA, QA) (some (.int (-1)), (shA, IA, JA, QA)) := by
  refine mxRn.g2 6 0 (pc' := 11) (lv' := [(0, .ref 0), (1, .int 6), (2, .int (xs 2))]) (st' := [.int (xs 2)]) (w' := (shA, IA, JA, QA)) (fun n => rfl) ?_
  refine mxRn.if2 1 0 (bb := Op.ifCond.holds .lt (xs 2)) (pc' := 14) (lv' := [(0, .ref 0), (1, .int 6), (2, .int (xs 2))]) (st' := []) (w' := (shA, IA, JA, QA)) (X := fun nf => mxev (nf + 0) 59 20 [(0, .ref 0), (1, .int 6), (2, .int (xs 2))] [] (shA, IA, JA, QA)) (fun n => rfl) (hd_lt_f (by omega)) ?_
  refine mxRn.if2 3 0 (bb := Op.if_icmp.holds .le (xs 2) (99 : Int32)) (pc' := 20) (lv' := [(0, .ref 0), (1, .int 6), (2, .int (xs 2))]) (st' := []) (w' := (shA, IA, JA, QA)) (X := fun nf => mxev (nf + 0) 59 22 [(0, .ref 0), (1, .int 6), (2, .int (xs 2))] [] (shA, IA, JA, QA)) (fun n => rfl) (hc_le_f 99 rfl (by omega)) ?_
  exact mxRn.ret 2 (fun n => rfl)
set_option maxRecDepth 1000000 in
set_option maxHeartbeats 4000000 in
theorem p1_c4v6a_z3 (xs : Nat → Int32) (h_1 : xs 1 = 6) (h_2 : 99 < (xs 2).toInt) : mxRn 81 0 [(0, .int 6), (1, .int 0), (2, .int 6)] [] (shA, IA, JA, QA) (some (.int 1), (shA, IA, JA, QA)) := by
  refine mxRn.g2 6 0 (pc' := 10) (lv' := [(0, .int 6), (1, .int 0), (2, .int 6)]) (st' := []) (w' := (shA, IA, JA, QA)) (fun n => rfl) ?_
  exact mxRn.ret 3 (fun n => rfl)
set_option maxRecDepth 1000000 in
set_option maxHeartbeats 4000000 in
theorem p1_c4v6a_z4 (xs : Nat → Int32) (h_1 : xs 1 = 6) (h_2 : 99 < (xs 2).toInt) : mxRn 81 0 [(0, .int (xs 2)), (1, .int 0), (2, .int 99)] [] (shA, IA, JA, QA) (some (.int 0), (shA, IA, JA, QA)) := by
  refine mxRn.if2 3 0 (bb := Op.if_icmp.holds .lt (xs 2) (0 : Int32)) (pc' := 5) (lv' := [(0, .int (xs 2)), (1, .int 0), (2, .int 99)]) (st' := []) (w' := (shA, IA, JA, QA)) (X := fun nf => mxev (nf + 0) 81 14 [(0, .int (xs 2)), (1, .int 0), (2, .int 99)] [] (shA, IA, JA, QA)) (fun n => rfl) (hc_lt_f 0 rfl (by omega)) ?_
  refine mxRn.it2 3 0 (bb := Op.if_icmp.holds .gt (xs 2) (99 : Int32)) (pc' := 14) (lv' := [(0, .int (xs 2)), (1, .int 0), (2, .int 99)]) (st' := []) (w' := (shA, IA, JA, QA)) (X := fun nf => mxev (nf + 0) 81 10 [(0, .int (xs 2)), (1, .int 0), (2, .int 99)] [] (shA, IA, JA, QA)) (fun n => rfl) (hc_gt_t 99 rfl (by omega)) ?_
  exact mxRn.ret 2 (fun n => rfl)
set_option maxRecDepth 1000000 in
set_option maxHeartbeats 4000000 in
theorem p1_c4v6a_z2 (xs : Nat → Int32) (h_1 : xs 1 = 6) (h_2 : 99 < (xs 2).toInt) : mxRn 122 0 [(0, .ref 9), (1, .int 6), (2, .int (xs 2))] [] (shA, IA, JA, QA) (some (.int (-1)), (shA, IA, JA, QA)) := by
  refine mxRn.c2 4 0 (z := 81) (lz := [(0, .int 6), (1, .int 0), (2, .int 6)]) (w1 := (shA, IA, JA, QA)) (pc' := 7) (lv' := [(0, .ref 9), (1, .int 6), (2, .int (xs 2))]) (r := []) (fun n => rfl) (p1_c4v6a_z3 xs h_1 h_2) ?_
  show mxRn 122 7 [(0, .ref 9), (1, .int 6), (2, .int (xs 2))] [.int 1] (shA, IA, JA, QA) _
  refine mxRn.c2 5 0 (z := 81) (lz := [(0, .int (xs 2)), (1, .int 0), (2, .int 99)]) (w1 := (shA, IA, JA, QA)) (pc' := 17) (lv' := [(0, .ref 9), (1, .int 6), (2, .int (xs 2))]) (r := []) (fun n => rfl) (p1_c4v6a_z4 xs h_1 h_2) ?_
  show mxRn 122 17 [(0, .ref 9), (1, .int 6), (2, .int (xs 2))] [.int 0] (shA, IA, JA, QA) _
  exact mxRn.ret 3 (fun n => rfl)
set_option maxRecDepth 1000000 in
set_option maxHeartbeats 4000000 in
theorem p1_c4v6a (xs : Nat → Int32) (h_1 : xs 1 = 6) (h_2 : 99 < (xs 2).toInt) : mxOk 6 xs 33 [(0, .retAddr 2), (1, .ref 0), (2, .ref 9), (3, .int 0)] [.int 4] (shA, IA, JA, QA) := by
  refine mxOk.g2 6 0 (pc' := 243) (lv' := [(0, .retAddr 2), (1, .ref 0), (2, .ref 9), (3, .int 0)]) (st' := [.int 1, .retAddr 2, .ref 0]) (w' := (shA, IA, JA, QA)) (fun n => rfl) ?_
  refine mxOk.g2 1 0 (pc' := 244) (lv' := [(0, .retAddr 2), (1, .ref 0), (2, .ref 9), (3, .int 0)]) (st' := [.int (xs 1), .ref 0]) (w' := (shA, IA, JA, QA)) (fun n => rfl) ?_
  rw [h_1]
  refine mxOk.c2 6 0 (z := 59) (lz := [(0, .ref 0), (1, .int 6), (2, .int (xs 2))]) (w1 := (shA, IA, JA, QA)) (pc' := 252) (lv' := [(0, .retAddr 2), (1, .ref 0), (2, .ref 9), (3, .int 0)]) (r := []) (fun n => rfl) (p1_c4v6a_z1 xs h_1 h_2) ?_
  show mxOk 6 xs 252 [(0, .retAddr 2), (1, .ref 0), (2, .ref 9), (3, .int 0)] [.int (-1)] (shA, IA, JA, QA)
  refine mxOk.g2 6 0 (pc' := 258) (lv' := [(0, .retAddr 2), (1, .ref 0), (2, .ref 9), (3, .int 0)]) (st' := [.int (xs 1), .ref 9, .int (-1)]) (w' := (shA, IA, JA, QA)) (fun n => rfl) ?_
  rw [h_1]
  refine mxOk.c2 6 0 (z := 122) (lz := [(0, .ref 9), (1, .int 6), (2, .int (xs 2))]) (w1 := (shA, IA, JA, QA)) (pc' := 266) (lv' := [(0, .retAddr 2), (1, .ref 0), (2, .ref 9), (3, .int 0)]) (r := [.int (-1)]) (fun n => rfl) (p1_c4v6a_z2 xs h_1 h_2) ?_
  show mxOk 6 xs 266 [(0, .retAddr 2), (1, .ref 0), (2, .ref 9), (3, .int 0)] [.int (-1), .int (-1)] (shA, IA, JA, QA)
  refine mxOk.g2 6 0 (pc' := 21) (lv' := [(0, .retAddr 2), (1, .ref 0), (2, .ref 9), (3, .int 6)]) (st' := [.int 6, .int 6]) (w' := (shA, IA, JA, QA)) (fun n => rfl) ?_
  exact mxOk.ret 5 (w' := (shA, IA, JA, QA)) (fun n => rfl) (show shA.length ≤ 600000 from Nat.le_of_ble_eq_true rfl) (show (shA.map (fun q => q.2)).sum ≤ 7302250 from Nat.le_of_ble_eq_true rfl)
set_option maxRecDepth 1000000 in
set_option maxHeartbeats 4000000 in
theorem p1_c4v6s_z1 (xs : Nat → Int32) (h_1 : xs 1 = 6) (h_2 : 0 ≤ (xs 2).toInt ∧ (xs 2).toInt ≤ 99) : mxRn 59 0 [(0, .ref 0), (1, .int 6), (2, .int (xs 2))] [] (shA, IA, JA, QA) (some (.int 1), (shA, (mxI IA 4 6 (xs 2)), JA, QA)) := by
  refine mxRn.g2 6 0 (pc' := 11) (lv' := [(0, .ref 0), (1, .int 6), (2, .int (xs 2))]) (st' := [.int (xs 2)]) (w' := (shA, IA, JA, QA)) (fun n => rfl) ?_
  refine mxRn.if2 1 0 (bb := Op.ifCond.holds .lt (xs 2)) (pc' := 14) (lv' := [(0, .ref 0), (1, .int 6), (2, .int (xs 2))]) (st' := []) (w' := (shA, IA, JA, QA)) (X := fun nf => mxev (nf + 0) 59 20 [(0, .ref 0), (1, .int 6), (2, .int (xs 2))] [] (shA, IA, JA, QA)) (fun n => rfl) (hd_lt_f (by omega)) ?_
  refine mxRn.it2 3 0 (bb := Op.if_icmp.holds .le (xs 2) (99 : Int32)) (pc' := 22) (lv' := [(0, .ref 0), (1, .int 6), (2, .int (xs 2))]) (st' := []) (w' := (shA, IA, JA, QA)) (X := fun nf => mxev (nf + 0) 59 20 [(0, .ref 0), (1, .int 6), (2, .int (xs 2))] [] (shA, IA, JA, QA)) (fun n => rfl) (hc_le_t 99 rfl (by omega)) ?_
  refine mxRn.g2 6 0 (pc' := 30) (lv' := [(0, .ref 0), (1, .int 6), (2, .int (xs 2)), (3, .int 1)]) (st' := [.ref 0]) (w' := (shA, IA, JA, QA)) (fun n => rfl) ?_
  exact mxRn.ret 6 (fun n => rfl)
set_option maxRecDepth 1000000 in
set_option maxHeartbeats 4000000 in
theorem p1_c4v6s_z3 (xs : Nat → Int32) (h_1 : xs 1 = 6) (h_2 : 0 ≤ (xs 2).toInt ∧ (xs 2).toInt ≤ 99) : mxRn 81 0 [(0, .int 6), (1, .int 0), (2, .int 6)] [] (shA, (mxI IA 4 6 (xs 2)), JA, QA) (some (.int 1), (shA, (mxI IA 4 6 (xs 2)), JA, QA)) := by
  refine mxRn.g2 6 0 (pc' := 10) (lv' := [(0, .int 6), (1, .int 0), (2, .int 6)]) (st' := []) (w' := (shA, (mxI IA 4 6 (xs 2)), JA, QA)) (fun n => rfl) ?_
  exact mxRn.ret 3 (fun n => rfl)
set_option maxRecDepth 1000000 in
set_option maxHeartbeats 4000000 in
theorem p1_c4v6s_z4 (xs : Nat → Int32) (h_1 : xs 1 = 6) (h_2 : 0 ≤ (xs 2).toInt ∧ (xs 2).toInt ≤ 99) : mxRn 81 0 [(0, .int (xs 2)), (1, .int 0), (2, .int 99)] [] (shA, (mxI IA 4 6 (xs 2)), JA, QA) (some (.int 1), (shA, (mxI IA 4 6 (xs 2)), JA, QA)) := by
  refine mxRn.if2 3 0 (bb := Op.if_icmp.holds .lt (xs 2) (0 : Int32)) (pc' := 5) (lv' := [(0, .int (xs 2)), (1, .int 0), (2, .int 99)]) (st' := []) (w' := (shA, (mxI IA 4 6 (xs 2)), JA, QA)) (X := fun nf => mxev (nf + 0) 81 14 [(0, .int (xs 2)), (1, .int 0), (2, .int 99)] [] (shA, (mxI IA 4 6 (xs 2)), JA, QA)) (fun n => rfl) (hc_lt_f 0 rfl (by omega)) ?_
  refine mxRn.if2 3 0 (bb := Op.if_icmp.holds .gt (xs 2) (99 : Int32)) (pc' := 10) (lv' := [(0, .int (xs 2)), (1, .int 0), (2, .int 99)]) (st' := []) (w' := (shA, (mxI IA 4 6 (xs 2)), JA, QA)) (X := fun nf => mxev (nf + 0) 81 14 [(0, .int (xs 2)), (1, .int 0), (2, .int 99)] [] (shA, (mxI IA 4 6 (xs 2)), JA, QA)) (fun n => rfl) (hc_gt_f 99 rfl (by omega)) ?_
  exact mxRn.ret 3 (fun n => rfl)
set_option maxRecDepth 1000000 in
set_option maxHeartbeats 4000000 in
theorem p1_c4v6s_z2 (xs : Nat → Int32) (h_1 : xs 1 = 6) (h_2 : 0 ≤ (xs 2).toInt ∧ (xs 2).toInt ≤ 99) : mxRn 122 0 [(0, .ref 9), (1, .int 6), (2, .int (xs 2))] [] (shA, (mxI IA 4 6 (xs 2)), JA, QA) (some (.int 1), (shA, (mxI (mxI IA 4 6 (xs 2)) 27 6 (xs 2)), JA, QA)) := by
  refine mxRn.c2 4 0 (z := 81) (lz := [(0, .int 6), (1, .int 0), (2, .int 6)]) (w1 := (shA, (mxI IA 4 6 (xs 2)), JA, QA)) (pc' := 7) (lv' := [(0, .ref 9), (1, .int 6), (2, .int (xs 2))]) (r := []) (fun n => rfl) (p1_c4v6s_z3 xs h_1 h_2) ?_
  show mxRn 122 7 [(0, .ref 9), (1, .int 6), (2, .int (xs 2))] [.int 1] (shA, (mxI IA 4 6 (xs 2)), JA, QA) _
  refine mxRn.c2 5 0 (z := 81) (lz := [(0, .int (xs 2)), (1, .int 0), (2, .int 99)]) (w1 := (shA, (mxI IA 4 6 (xs 2)), JA, QA)) (pc' := 17) (lv' := [(0, .ref 9), (1, .int 6), (2, .int (xs 2))]) (r := []) (fun n => rfl) (p1_c4v6s_z4 xs h_1 h_2) ?_
  show mxRn 122 17 [(0, .ref 9), (1, .int 6), (2, .int (xs 2))] [.int 1] (shA, (mxI IA 4 6 (xs 2)), JA, QA) _
  refine mxRn.g2 6 0 (pc' := 29) (lv' := [(0, .ref 9), (1, .int 6), (2, .int (xs 2)), (3, .int 1)]) (st' := []) (w' := (shA, (mxI IA 4 6 (xs 2)), JA, QA)) (fun n => rfl) ?_
  refine mxRn.g2 6 0 (pc' := 37) (lv' := [(0, .ref 9), (1, .int 6), (2, .int (xs 2)), (3, .int 1)]) (st' := [.int 1]) (w' := (shA, (mxI (mxI IA 4 6 (xs 2)) 27 6 (xs 2)), JA, QA)) (fun n => rfl) ?_
  exact mxRn.ret 1 (fun n => rfl)
set_option maxRecDepth 1000000 in
set_option maxHeartbeats 4000000 in
theorem p1_c4v6s (xs : Nat → Int32) (h_1 : xs 1 = 6) (h_2 : 0 ≤ (xs 2).toInt ∧ (xs 2).toInt ≤ 99) : mxOk 6 xs 33 [(0, .retAddr 2), (1, .ref 0), (2, .ref 9), (3, .int 0)] [.int 4] (shA, IA, JA, QA) := by
  refine mxOk.g2 6 0 (pc' := 243) (lv' := [(0, .retAddr 2), (1, .ref 0), (2, .ref 9), (3, .int 0)]) (st' := [.int 1, .retAddr 2, .ref 0]) (w' := (shA, IA, JA, QA)) (fun n => rfl) ?_
  refine mxOk.g2 1 0 (pc' := 244) (lv' := [(0, .retAddr 2), (1, .ref 0), (2, .ref 9), (3, .int 0)]) (st' := [.int (xs 1), .ref 0]) (w' := (shA, IA, JA, QA)) (fun n => rfl) ?_
  rw [h_1]
  refine mxOk.c2 6 0 (z := 59) (lz := [(0, .ref 0), (1, .int 6), (2, .int (xs 2))]) (w1 := (shA, IA, JA, QA)) (pc' := 252) (lv' := [(0, .retAddr 2), (1, .ref 0), (2, .ref 9), (3, .int 0)]) (r := []) (fun n => rfl) (p1_c4v6s_z1 xs h_1 h_2) ?_
  show mxOk 6 xs 252 [(0, .retAddr 2), (1, .ref 0), (2, .ref 9), (3, .int 0)] [.int 1] (shA, (mxI IA 4 6 (xs 2)), JA, QA)
  refine mxOk.g2 6 0 (pc' := 258) (lv' := [(0, .retAddr 2), (1, .ref 0), (2, .ref 9), (3, .int 0)]) (st' := [.int (xs 1), .ref 9, .int 1]) (w' := (shA, (mxI IA 4 6 (xs 2)), JA, QA)) (fun n => rfl) ?_
  rw [h_1]
  refine mxOk.c2 6 0 (z := 122) (lz := [(0, .ref 9), (1, .int 6), (2, .int (xs 2))]) (w1 := (shA, (mxI IA 4 6 (xs 2)), JA, QA)) (pc' := 266) (lv' := [(0, .retAddr 2), (1, .ref 0), (2, .ref 9), (3, .int 0)]) (r := [.int 1]) (fun n => rfl) (p1_c4v6s_z2 xs h_1 h_2) ?_
  show mxOk 6 xs 266 [(0, .retAddr 2), (1, .ref 0), (2, .ref 9), (3, .int 0)] [.int 1, .int 1] (shA, (mxI (mxI IA 4 6 (xs 2)) 27 6 (xs 2)), JA, QA)
  refine mxOk.g2 6 0 (pc' := 21) (lv' := [(0, .retAddr 2), (1, .ref 0), (2, .ref 9), (3, .int 6)]) (st' := [.int 6, .int 6]) (w' := (shA, (mxI (mxI IA 4 6 (xs 2)) 27 6 (xs 2)), JA, QA)) (fun n => rfl) ?_
  exact mxOk.ret 5 (w' := (shA, (mxI (mxI IA 4 6 (xs 2)) 27 6 (xs 2)), JA, QA)) (fun n => rfl) (show shA.length ≤ 600000 from Nat.le_of_ble_eq_true rfl) (show (shA.map (fun q => q.2)).sum ≤ 7302250 from Nat.le_of_ble_eq_true rfl)
set_option maxRecDepth 1000000 in
set_option maxHeartbeats 4000000 in
theorem p1_c16b_z1 (xs : Nat → Int32) (h_1 : (xs 1).toInt < 0) : mxRn 79 0 [(0, .ref 0), (1, .int (xs 1))] [] (shA, IA, JA, QA) (some (.int (-1)), (shA, IA, JA, QA)) := by
  refine mxRn.it2 3 0 (bb := Op.if_icmp.holds .lt (xs 1) (10 : Int32)) (pc' := 22) (lv' := [(0, .ref 0), (1, .int (xs 1))]) (st' := []) (w' := (shA, IA, JA, QA)) (X := fun nf => mxev (nf + 0) 79 6 [(0, .ref 0), (1, .int (xs 1))] [] (shA, IA, JA, QA)) (fun n => rfl) (hc_lt_t 10 rfl (by omega)) ?_
  refine mxRn.it2 2 0 (bb := decide (((xs 1)).toInt < 0) || decide (2 < ((xs 1)).toInt)) (pc' := 63) (lv' := [(0, .ref 0), (1, .int (xs 1))]) (st' := []) (w' := (shA, IA, JA, QA)) (fun n => rfl) (by simp; omega) ?_
  exact mxRn.ret 2 (fun n => rfl)
set_option maxRecDepth 1000000 in
set_option maxHeartbeats 4000000 in
theorem p1_c16b_z3 (xs : Nat → Int32) (h_1 : (xs 1).toInt < 0) : mxRn 81 0 [(0, .int (xs 1)), (1, .int 10), (2, .int 16)] [] (shA, IA, JA, QA) (some (.int 0), (shA, IA, JA, QA)) := by
  refine mxRn.it2 3 0 (bb := Op.if_icmp.holds .lt (xs 1) (10 : Int32)) (pc' := 14) (lv' := [(0, .int (xs 1)), (1, .int 10), (2, .int 16)]) (st' := []) (w' := (shA, IA, JA, QA)) (X := fun nf => mxev (nf + 0) 81 5 [(0, .int (xs 1)), (1, .int 10), (2, .int 16)] [] (shA, IA, JA, QA)) (fun n => rfl) (hc_lt_t 10 rfl (by omega)) ?_
  exact mxRn.ret 2 (fun n => rfl)
set_option maxRecDepth 1000000 in
set_option maxHeartbeats 4000000 in
theorem p1_c16b_z2 (xs : Nat → Int32) (h_1 : (xs 1).toInt < 0) : mxRn 124 0 [(0, .ref 9), (1, .int (xs 1))] [] (shA, IA, JA, QA) (some (.int (-1)), (shA, IA, JA, QA)) := by
  refine mxRn.c2 4 0 (z := 81) (lz := [(0, .int (xs 1)), (1, .int 10), (2, .int 16)]) (w1 := (shA, IA, JA, QA)) (pc' := 8) (lv' := [(0, .ref 9), (1, .int (xs 1))]) (r := []) (fun n => rfl) (p1_c16b_z3 xs h_1) ?_
  show mxRn 124 8 [(0, .ref 9), (1, .int (xs 1))] [.int 0] (shA, IA, JA, QA) _
  refine mxRn.it2 3 0 (bb := Op.ifCond.holds .ne (xs 1)) (pc' := 32) (lv' := [(0, .ref 9), (1, .int (xs 1))]) (st' := []) (w' := (shA, IA, JA, QA)) (X := fun nf => mxev (nf + 0) 124 25 [(0, .ref 9), (1, .int (xs 1))] [] (shA, IA, JA, QA)) (fun n => rfl) (hd_ne_t (by omega)) ?_
  refine mxRn.it2 3 0 (bb := Op.if_icmp.holds .ne (xs 1) (1 : Int32)) (pc' := 44) (lv' := [(0, .ref 9), (1, .int (xs 1))]) (st' := []) (w' := (shA, IA, JA, QA)) (X := fun nf => mxev (nf + 0) 124 37 [(0, .ref 9), (1, .int (xs 1))] [] (shA, IA, JA, QA)) (fun n => rfl) (hc_ne_t 1 rfl (by omega)) ?_
  refine mxRn.it2 3 0 (bb := Op.if_icmp.holds .ne (xs 1) (2 : Int32)) (pc' := 56) (lv' := [(0, .ref 9), (1, .int (xs 1))]) (st' := []) (w' := (shA, IA, JA, QA)) (X := fun nf => mxev (nf + 0) 124 49 [(0, .ref 9), (1, .int (xs 1))] [] (shA, IA, JA, QA)) (fun n => rfl) (hc_ne_t 2 rfl (by omega)) ?_
  exact mxRn.ret 2 (fun n => rfl)
set_option maxRecDepth 1000000 in
set_option maxHeartbeats 4000000 in
theorem p1_c16b (xs : Nat → Int32) (h_1 : (xs 1).toInt < 0) : mxOk 6 xs 33 [(0, .retAddr 2), (1, .ref 0), (2, .ref 9), (3, .int 0)] [.int 16] (shA, IA, JA, QA) := by
  refine mxOk.g2 6 0 (pc' := 609) (lv' := [(0, .retAddr 2), (1, .ref 0), (2, .ref 9), (3, .int 0)]) (st' := [.int 1, .retAddr 2, .ref 0]) (w' := (shA, IA, JA, QA)) (fun n => rfl) ?_
  refine mxOk.c2 2 0 (z := 79) (lz := [(0, .ref 0), (1, .int (xs 1))]) (w1 := (shA, IA, JA, QA)) (pc' := 613) (lv' := [(0, .retAddr 2), (1, .ref 0), (2, .ref 9), (3, .int 0)]) (r := []) (fun n => rfl) (p1_c16b_z1 xs h_1) ?_
  show mxOk 6 xs 613 [(0, .retAddr 2), (1, .ref 0), (2, .ref 9), (3, .int 0)] [.int (-1)] (shA, IA, JA, QA)
  refine mxOk.g2 6 0 (pc' := 619) (lv' := [(0, .retAddr 2), (1, .ref 0), (2, .ref 9), (3, .int 0)]) (st' := [.int (xs 1), .ref 9, .int (-1)]) (w' := (shA, IA, JA, QA)) (fun n => rfl) ?_
  refine mxOk.c2 1 0 (z := 124) (lz := [(0, .ref 9), (1, .int (xs 1))]) (w1 := (shA, IA, JA, QA)) (pc' := 622) (lv' := [(0, .retAddr 2), (1, .ref 0), (2, .ref 9), (3, .int 0)]) (r := [.int (-1)]) (fun n => rfl) (p1_c16b_z2 xs h_1) ?_
  show mxOk 6 xs 622 [(0, .retAddr 2), (1, .ref 0), (2, .ref 9), (3, .int 0)] [.int (-1), .int (-1)] (shA, IA, JA, QA)
  refine mxOk.g2 6 0 (pc' := 21) (lv' := [(0, .retAddr 2), (1, .ref 0), (2, .ref 9), (3, .int 6)]) (st' := [.int 6, .int 6]) (w' := (shA, IA, JA, QA)) (fun n => rfl) ?_
  exact mxOk.ret 5 (w' := (shA, IA, JA, QA)) (fun n => rfl) (show shA.length ≤ 600000 from Nat.le_of_ble_eq_true rfl) (show (shA.map (fun q => q.2)).sum ≤ 7302250 from Nat.le_of_ble_eq_true rfl)
set_option maxRecDepth 1000000 in
set_option maxHeartbeats 4000000 in
theorem p1_c16v0_z1 (xs : Nat → Int32) (h_1 : xs 1 = 0) : mxRn 79 0 [(0, .ref 0), (1, .int 0)] [] (shA, IA, JA, QA) (some (.int 0), (shA, IA, JA, QA)) := by
  refine mxRn.g2 6 0 (pc' := 49) (lv' := [(0, .ref 0), (1, .int 0)]) (st' := [.ref 0]) (w' := (shA, IA, JA, QA)) (fun n => rfl) ?_
  exact mxRn.ret 2 (fun n => rfl)
set_option maxRecDepth 1000000 in
set_option maxHeartbeats 4000000 in
theorem p1_c16v0_z3 (xs : Nat → Int32) (h_1 : xs 1 = 0) : mxRn 81 0 [(0, .int 0), (1, .int 10), (2, .int 16)] [] (shA, IA, JA, QA) (some (.int 0), (shA, IA, JA, QA)) := by
  exact mxRn.ret 5 (fun n => rfl)
set_option maxRecDepth 1000000 in
set_option maxHeartbeats 4000000 in
theorem p1_c16v0_z2 (xs : Nat → Int32) (h_1 : xs 1 = 0) : mxRn 124 0 [(0, .ref 9), (1, .int 0)] [] (shA, IA, JA, QA) (some (.int 0), (shA, IA, JA, QA)) := by
  refine mxRn.c2 4 0 (z := 81) (lz := [(0, .int 0), (1, .int 10), (2, .int 16)]) (w1 := (shA, IA, JA, QA)) (pc' := 8) (lv' := [(0, .ref 9), (1, .int 0)]) (r := []) (fun n => rfl) (p1_c16v0_z3 xs h_1) ?_
  show mxRn 124 8 [(0, .ref 9), (1, .int 0)] [.int 0] (shA, IA, JA, QA) _
  refine mxRn.g2 6 0 (pc' := 57) (lv' := [(0, .ref 9), (1, .int 0)]) (st' := [.int 0]) (w' := (shA, IA, JA, QA)) (fun n => rfl) ?_
  exact mxRn.ret 1 (fun n => rfl)
set_option maxRecDepth 1000000 in
set_option maxHeartbeats 4000000 in
theorem p1_c16v0 (xs : Nat → Int32) (h_1 : xs 1 = 0) : mxOk 6 xs 33 [(0, .retAddr 2), (1, .ref 0), (2, .ref 9), (3, .int 0)] [.int 16] (shA, IA, JA, QA) := by
  refine mxOk.g2 6 0 (pc' := 609) (lv' := [(0, .retAddr 2), (1, .ref 0), (2, .ref 9), (3, .int 0)]) (st' := [.int 1, .retAddr 2, .ref 0]) (w' := (shA, IA, JA, QA)) (fun n => rfl) ?_
  refine mxOk.g2 1 0 (pc' := 610) (lv' := [(0, .retAddr 2), (1, .ref 0), (2, .ref 9), (3, .int 0)]) (st' := [.int (xs 1), .ref 0]) (w' := (shA, IA, JA, QA)) (fun n => rfl) ?_
  rw [h_1]
  refine mxOk.c2 1 0 (z := 79) (lz := [(0, .ref 0), (1, .int 0)]) (w1 := (shA, IA, JA, QA)) (pc' := 613) (lv' := [(0, .retAddr 2), (1, .ref 0), (2, .ref 9), (3, .int 0)]) (r := []) (fun n => rfl) (p1_c16v0_z1 xs h_1) ?_
  show mxOk 6 xs 613 [(0, .retAddr 2), (1, .ref 0), (2, .ref 9), (3, .int 0)] [.int 0] (shA, IA, JA, QA)
  refine mxOk.g2 6 0 (pc' := 619) (lv' := [(0, .retAddr 2), (1, .ref 0), (2, .ref 9), (3, .int 0)]) (st' := [.int (xs 1), .ref 9, .int 0]) (w' := (shA, IA, JA, QA)) (fun n => rfl) ?_
  rw [h_1]
  refine mxOk.c2 1 0 (z := 124) (lz := [(0, .ref 9), (1, .int 0)]) (w1 := (shA, IA, JA, QA)) (pc' := 622) (lv' := [(0, .retAddr 2), (1, .ref 0), (2, .ref 9), (3, .int 0)]) (r := [.int 0]) (fun n => rfl) (p1_c16v0_z2 xs h_1) ?_
  show mxOk 6 xs 622 [(0, .retAddr 2), (1, .ref 0), (2, .ref 9), (3, .int 0)] [.int 0, .int 0] (shA, IA, JA, QA)
  refine mxOk.g2 6 0 (pc' := 21) (lv' := [(0, .retAddr 2), (1, .ref 0), (2, .ref 9), (3, .int 6)]) (st' := [.int 6, .int 6]) (w' := (shA, IA, JA, QA)) (fun n => rfl) ?_
  exact mxOk.ret 5 (w' := (shA, IA, JA, QA)) (fun n => rfl) (show shA.length ≤ 600000 from Nat.le_of_ble_eq_true rfl) (show (shA.map (fun q => q.2)).sum ≤ 7302250 from Nat.le_of_ble_eq_true rfl)
set_option maxRecDepth 1000000 in
set_option maxHeartbeats 4000000 in
theorem p1_c16v1_z1 (xs : Nat → Int32) (h_1 : xs 1 = 1) : mxRn 79 0 [(0, .ref 0), (1, .int 1)] [] (shA, IA, JA, QA) (some (.int 0), (shA, IA, JA, QA)) := by
  refine mxRn.g2 6 0 (pc' := 54) (lv' := [(0, .ref 0), (1, .int 1)]) (st' := [.ref 0]) (w' := (shA, IA, JA, QA)) (fun n => rfl) ?_
  exact mxRn.ret 2 (fun n => rfl)
set_option maxRecDepth 1000000 in
set_option maxHeartbeats 4000000 in
theorem p1_c16v1_z3 (xs : Nat → Int32) (h_1 : xs 1 = 1) : mxRn 81 0 [(0, .int 1), (1, .int 10), (2, .int 16)] [] (shA, IA, JA, QA) (some (.int 0), (shA, IA, JA, QA)) := by
  exact mxRn.ret 5 (fun n => rfl)
set_option maxRecDepth 1000000 in
set_option maxHeartbeats 4000000 in
theorem p1_c16v1_z2 (xs : Nat → Int32) (h_1 : xs 1 = 1) : mxRn 124 0 [(0, .ref 9), (1, .int 1)] [] (shA, IA, JA, QA) (some (.int 0), (shA, IA, JA, QA)) := by
  refine mxRn.c2 4 0 (z := 81) (lz := [(0, .int 1), (1, .int 10), (2, .int 16)]) (w1 := (shA, IA, JA, QA)) (pc' := 8) (lv' := [(0, .ref 9), (1, .int 1)]) (r := []) (fun n => rfl) (p1_c16v1_z3 xs h_1) ?_
  show mxRn 124 8 [(0, .ref 9), (1, .int 1)] [.int 0] (shA, IA, JA, QA) _
  refine mxRn.g2 6 0 (pc' := 37) (lv' := [(0, .ref 9), (1, .int 1)]) (st' := []) (w' := (shA, IA, JA, QA)) (fun n => rfl) ?_
  exact mxRn.ret 4 (fun n => rfl)
set_option maxRecDepth 1000000 in
set_option maxHeartbeats 4000000 in
theorem p1_c16v1 (xs : Nat → Int32) (h_1 : xs 1 = 1) : mxOk 6 xs 33 [(0, .retAddr 2), (1, .ref 0), (2, .ref 9), (3, .int 0)] [.int 16] (shA, IA, JA, QA) := by
  refine mxOk.g2 6 0 (pc' := 609) (lv' := [(0, .retAddr 2), (1, .ref 0), (2, .ref 9), (3, .int 0)]) (st' := [.int 1, .retAddr 2, .ref 0]) (w' := (shA, IA, JA, QA)) (fun n => rfl) ?_
  refine mxOk.g2 1 0 (pc' := 610) (lv' := [(0, .retAddr 2), (1, .ref 0), (2, .ref 9), (3, .int 0)]) (st' := [.int (xs 1), .ref 0]) (w' := (shA, IA, JA, QA)) (fun n => rfl) ?_
  rw [h_1]
  refine mxOk.c2 1 0 (z := 79) (lz := [(0, .ref 0), (1, .int 1)]) (w1 := (shA, IA, JA, QA)) (pc' := 613) (lv' := [(0, .retAddr 2), (1, .ref 0), (2, .ref 9), (3, .int 0)]) (r := []) (fun n => rfl) (p1_c16v1_z1 xs h_1) ?_
  show mxOk 6 xs 613 [(0, .retAddr 2), (1, .ref 0), (2, .ref 9), (3, .int 0)] [.int 0] (shA, IA, JA, QA)
  refine mxOk.g2 6 0 (pc' := 619) (lv' := [(0, .retAddr 2), (1, .ref 0), (2, .ref 9), (3, .int 0)]) (st' := [.int (xs 1), .ref 9, .int 0]) (w' := (shA, IA, JA, QA)) (fun n => rfl) ?_
  rw [h_1]
  refine mxOk.c2 1 0 (z := 124) (lz := [(0, .ref 9), (1, .int 1)]) (w1 := (shA, IA, JA, QA)) (pc' := 622) (lv' := [(0, .retAddr 2), (1, .ref 0), (2, .ref 9), (3, .int 0)]) (r := [.int 0]) (fun n => rfl) (p1_c16v1_z2 xs h_1) ?_
  show mxOk 6 xs 622 [(0, .retAddr 2), (1, .ref 0), (2, .ref 9), (3, .int 0)] [.int 0, .int 0] (shA, IA, JA, QA)
  refine mxOk.g2 6 0 (pc' := 21) (lv' := [(0, .retAddr 2), (1, .ref 0), (2, .ref 9), (3, .int 6)]) (st' := [.int 6, .int 6]) (w' := (shA, IA, JA, QA)) (fun n => rfl) ?_
  exact mxOk.ret 5 (w' := (shA, IA, JA, QA)) (fun n => rfl) (show shA.length ≤ 600000 from Nat.le_of_ble_eq_true rfl) (show (shA.map (fun q => q.2)).sum ≤ 7302250 from Nat.le_of_ble_eq_true rfl)
set_option maxRecDepth 1000000 in
set_option maxHeartbeats 4000000 in
theorem p1_c16v2_z1 (xs : Nat → Int32) (h_1 : xs 1 = 2) : mxRn 79 0 [(0, .ref 0), (1, .int 2)] [] (shA, IA, JA, QA) (some (.int 0), (shA, IA, JA, QA)) := by
  refine mxRn.g2 6 0 (pc' := 59) (lv' := [(0, .ref 0), (1, .int 2)]) (st' := [.ref 0]) (w' := (shA, IA, JA, QA)) (fun n => rfl) ?_
  exact mxRn.ret 2 (fun n => rfl)
set_option maxRecDepth 1000000 in
set_option maxHeartbeats 4000000 in
theorem p1_c16v2_z3 (xs : Nat → Int32) (h_1 : xs 1 = 2) : mxRn 81 0 [(0, .int 2), (1, .int 10), (2, .int 16)] [] (shA, IA, JA, QA) (some (.int 0), (shA, IA, JA, QA)) := by
  exact mxRn.ret 5 (fun n => rfl)
set_option maxRecDepth 1000000 in
set_option maxHeartbeats 4000000 in
theorem p1_c16v2_z2 (xs : Nat → Int32) (h_1 : xs 1 = 2) : mxRn 124 0 [(0, .ref 9), (1, .int 2)] [] (shA, IA, JA, QA) (some (.int 0), (shA, IA, JA, QA)) := by
  refine mxRn.c2 4 0 (z := 81) (lz := [(0, .int 2), (1, .int 10), (2, .int 16)]) (w1 := (shA, IA, JA, QA)) (pc' := 8) (lv' := [(0, .ref 9), (1, .int 2)]) (r := []) (fun n => rfl) (p1_c16v2_z3 xs h_1) ?_
  show mxRn 124 8 [(0, .ref 9), (1, .int 2)] [.int 0] (shA, IA, JA, QA) _
  refine mxRn.g2 6 0 (pc' := 44) (lv' := [(0, .ref 9), (1, .int 2)]) (st' := []) (w' := (shA, IA, JA, QA)) (fun n => rfl) ?_
  refine mxRn.g2 6 0 (pc' := 57) (lv' := [(0, .ref 9), (1, .int 2)]) (st' := [.int 0]) (w' := (shA, IA, JA, QA)) (fun n => rfl) ?_
  exact mxRn.ret 1 (fun n => rfl)
set_option maxRecDepth 1000000 in
set_option maxHeartbeats 4000000 in
theorem p1_c16v2 (xs : Nat → Int32) (h_1 : xs 1 = 2) : mxOk 6 xs 33 [(0, .retAddr 2), (1, .ref 0), (2, .ref 9), (3, .int 0)] [.int 16] (shA, IA, JA, QA) := by
  refine mxOk.g2 6 0 (pc' := 609) (lv' := [(0, .retAddr 2), (1, .ref 0), (2, .ref 9), (3, .int 0)]) (st' := [.int 1, .retAddr 2, .ref 0]) (w' := (shA, IA, JA, QA)) (fun n => rfl) ?_
  refine mxOk.g2 1 0 (pc' := 610) (lv' := [(0, .retAddr 2), (1, .ref 0), (2, .ref 9), (3, .int 0)]) (st' := [.int (xs 1), .ref 0]) (w' := (shA, IA, JA, QA)) (fun n => rfl) ?_
  rw [h_1]
  refine mxOk.c2 1 0 (z := 79) (lz := [(0, .ref 0), (1, .int 2)]) (w1 := (shA, IA, JA, QA)) (pc' := 613) (lv' := [(0, .retAddr 2), (1, .ref 0), (2, .ref 9), (3, .int 0)]) (r := []) (fun n => rfl) (p1_c16v2_z1 xs h_1) ?_
  show mxOk 6 xs 613 [(0, .retAddr 2), (1, .ref 0), (2, .ref 9), (3, .int 0)] [.int 0] (shA, IA, JA, QA)
  refine mxOk.g2 6 0 (pc' := 619) (lv' := [(0, .retAddr 2), (1, .ref 0), (2, .ref 9), (3, .int 0)]) (st' := [.int (xs 1), .ref 9, .int 0]) (w' := (shA, IA, JA, QA)) (fun n => rfl) ?_
  rw [h_1]
  refine mxOk.c2 1 0 (z := 124) (lz := [(0, .ref 9), (1, .int 2)]) (w1 := (shA, IA, JA, QA)) (pc' := 622) (lv' := [(0, .retAddr 2), (1, .ref 0), (2, .ref 9), (3, .int 0)]) (r := [.int 0]) (fun n => rfl) (p1_c16v2_z2 xs h_1) ?_
  show mxOk 6 xs 622 [(0, .retAddr 2), (1, .ref 0), (2, .ref 9), (3, .int 0)] [.int 0, .int 0] (shA, IA, JA, QA)
  refine mxOk.g2 6 0 (pc' := 21) (lv' := [(0, .retAddr 2), (1, .ref 0), (2, .ref 9), (3, .int 6)]) (st' := [.int 6, .int 6]) (w' := (shA, IA, JA, QA)) (fun n => rfl) ?_
  exact mxOk.ret 5 (w' := (shA, IA, JA, QA)) (fun n => rfl) (show shA.length ≤ 600000 from Nat.le_of_ble_eq_true rfl) (show (shA.map (fun q => q.2)).sum ≤ 7302250 from Nat.le_of_ble_eq_true rfl)
set_option maxRecDepth 1000000 in
set_option maxHeartbeats 4000000 in
theorem p1_c16m_z1 (xs : Nat → Int32) (h_1 : 3 ≤ (xs 1).toInt ∧ (xs 1).toInt ≤ 9) : mxRn 79 0 [(0, .ref 0), (1, .int (xs 1))] [] (shA, IA, JA, QA) (some (.int (-1)), (shA, IA, JA, QA)) := by
  refine mxRn.it2 3 0 (bb := Op.if_icmp.holds .lt (xs 1) (10 : Int32)) (pc' := 22) (lv' := [(0, .ref 0), (1, .int (xs 1))]) (st' := []) (w' := (shA, IA, JA, QA)) (X := fun nf => mxev (nf + 0) 79 6 [(0, .ref 0), (1, .int (xs 1))] [] (shA, IA, JA, QA)) (fun n => rfl) (hc_lt_t 10 rfl (by omega)) ?_
  refine mxRn.it2 2 0 (bb := decide (((xs 1)).toInt < 0) || decide (2 < ((xs 1)).toInt)) (pc' := 63) (lv' := [(0, .ref 0), (1, .int (xs 1))]) (st' := []) (w' := (shA, IA, JA, QA)) (fun n => rfl) (by simp; omega) ?_
  exact mxRn.ret 2 (fun n => rfl)
set_option maxRecDepth 1000000 in
set_option maxHeartbeats 4000000 in
theorem p1_c16m_z3 (xs : Nat → Int32) (h_1 : 3 ≤ (xs 1).toInt ∧ (xs 1).toInt ≤ 9) : mxRn 81 0 [(0, .int (xs 1)), (1, .int 10), (2, .int 16)] [] (shA, IA, JA, QA) (some (.int 0), (shA, IA, JA, QA)) := by
  refine mxRn.it2 3 0 (bb := Op.if_icmp.holds .lt (xs 1) (10 : Int32)) (pc' := 14) (lv' := [(0, .int (xs 1)), (1, .int 10), (2, .int 16)]) (st' := []) (w' := (shA, IA, JA, QA)) (X := fun nf => mxev (nf + 0) 81 5 [(0, .int (xs 1)), (1, .int 10), (2, .int 16)] [] (shA, IA, JA, QA)) (fun n => rfl) (hc_lt_t 10 rfl (by omega)) ?_
  exact mxRn.ret 2 (fun n => rfl)
set_option maxRecDepth 1000000 in
set_option maxHeartbeats 4000000 in
theorem p1_c16m_z2 (xs : Nat → Int32) (h_1 : 3 ≤ (xs 1).toInt ∧ (xs 1).toInt ≤ 9) : mxRn 124 0 [(0, .ref 9), (1, .int (xs 1))] [] (shA, IA, JA, QA) (some (.int (-1)), (shA, IA, JA, QA)) := by
  refine mxRn.c2 4 0 (z := 81) (lz := [(0, .int (xs 1)), (1, .int 10), (2, .int 16)]) (w1 := (shA, IA, JA, QA)) (pc' := 8) (lv' := [(0, .ref 9), (1, .int (xs 1))]) (r := []) (fun n => rfl) (p1_c16m_z3 xs h_1) ?_
  show mxRn 124 8 [(0, .ref 9), (1, .int (xs 1))] [.int 0] (shA, IA, JA, QA) _
  refine mxRn.it2 3 0 (bb := Op.ifCond.holds .ne (xs 1)) (pc' := 32) (lv' := [(0, .ref 9), (1, .int (xs 1))]) (st' := []) (w' := (shA, IA, JA, QA)) (X := fun nf => mxev (nf + 0) 124 25 [(0, .ref 9), (1, .int (xs 1))] [] (shA, IA, JA, QA)) (fun n => rfl) (hd_ne_t (by omega)) ?_
  refine mxRn.it2 3 0 (bb := Op.if_icmp.holds .ne (xs 1) (1 : Int32)) (pc' := 44) (lv' := [(0, .ref 9), (1, .int (xs 1))]) (st' := []) (w' := (shA, IA, JA, QA)) (X := fun nf => mxev (nf + 0) 124 37 [(0, .ref 9), (1, .int (xs 1))] [] (shA, IA, JA, QA)) (fun n => rfl) (hc_ne_t 1 rfl (by omega)) ?_
  refine mxRn.it2 3 0 (bb := Op.if_icmp.holds .ne (xs 1) (2 : Int32)) (pc' := 56) (lv' := [(0, .ref 9), (1, .int (xs 1))]) (st' := []) (w' := (shA, IA, JA, QA)) (X := fun nf => mxev (nf + 0) 124 49 [(0, .ref 9), (1, .int (xs 1))] [] (shA, IA, JA, QA)) (fun n => rfl) (hc_ne_t 2 rfl (by omega)) ?_
  exact mxRn.ret 2 (fun n => rfl)
set_option maxRecDepth 1000000 in
set_option maxHeartbeats 4000000 in
theorem p1_c16m (xs : Nat → Int32) (h_1 : 3 ≤ (xs 1).toInt ∧ (xs 1).toInt ≤ 9) : mxOk 6 xs 33 [(0, .retAddr 2), (1, .ref 0), (2, .ref 9), (3, .int 0)] [.int 16] (shA, IA, JA, QA) := by
  refine mxOk.g2 6 0 (pc' := 609) (lv' := [(0, .retAddr 2), (1, .ref 0), (2, .ref 9), (3, .int 0)]) (st' := [.int 1, .retAddr 2, .ref 0]) (w' := (shA, IA, JA, QA)) (fun n => rfl) ?_
  refine mxOk.c2 2 0 (z := 79) (lz := [(0, .ref 0), (1, .int (xs 1))]) (w1 := (shA, IA, JA, QA)) (pc' := 613) (lv' := [(0, .retAddr 2), (1, .ref 0), (2, .ref 9), (3, .int 0)]) (r := []) (fun n => rfl) (p1_c16m_z1 xs h_1) ?_
  show mxOk 6 xs 613 [(0, .retAddr 2), (1, .ref 0), (2, .ref 9), (3, .int 0)] [.int (-1)] (shA, IA, JA, QA)
  refine mxOk.g2 6 0 (pc' := 619) (lv' := [(0, .retAddr 2), (1, .ref 0), (2, .ref 9), (3, .int 0)]) (st' := [.int (xs 1), .ref 9, .int (-1)]) (w' := (shA, IA, JA, QA)) (fun n => rfl) ?_
  refine mxOk.c2 1 0 (z := 124) (lz := [(0, .ref 9), (1, .int (xs 1))]) (w1 := (shA, IA, JA, QA)) (pc' := 622) (lv' := [(0, .retAddr 2), (1, .ref 0), (2, .ref 9), (3, .int 0)]) (r := [.int (-1)]) (fun n => rfl) (p1_c16m_z2 xs h_1) ?_
  show mxOk 6 xs 622 [(0, .retAddr 2), (1, .ref 0), (2, .ref 9), (3, .int 0)] [.int (-1), .int (-1)] (shA, IA, JA, QA)
  refine mxOk.g2 6 0 (pc' := 21) (lv' := [(0, .retAddr 2), (1, .ref 0), (2, .ref 9), (3, .int 6)]) (st' := [.int 6, .int 6]) (w' := (shA, IA, JA, QA)) (fun n => rfl) ?_
  exact mxOk.ret 5 (w' := (shA, IA, JA, QA)) (fun n => rfl) (show shA.length ≤ 600000 from Nat.le_of_ble_eq_true rfl) (show (shA.map (fun q => q.2)).sum ≤ 7302250 from Nat.le_of_ble_eq_true rfl)
