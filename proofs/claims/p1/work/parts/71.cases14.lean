set_option maxRecDepth 1000000 in
set_option maxHeartbeats 4000000 in
theorem p1_c4v1b_z1 (xs : Nat → Int32) (h_1 : xs 1 = 1) (h_2 : (xs 2).toInt < 0) : mxRn 59 0 [(0, .ref 0), (1, .int 1), (2, .int (xs 2))] [] (shA, IA, JA, QA) (some (.int (-1)), (shA, IA, JA, QA)) := by
  refine mxRn.g2 6 0 (pc' := 11) (lv' := [(0, .ref 0), (1, .int 1), (2, .int (xs 2))]) (st' := [.int (xs 2)]) (w' := (shA, IA, JA, QA)) (fun n => rfl) ?_
  refine mxRn.it2 1 0 (bb := Op.ifCond.holds .lt (xs 2)) (pc' := 20) (lv' := [(0, .ref 0), (1, .int 1), (2, .int (xs 2))]) (st' := []) (w' := (shA, IA, JA, QA)) (X := fun nf => mxev (nf + 0) 59 14 [(0, .ref 0), (1, .int 1), (2, .int (xs 2))] [] (shA, IA, JA, QA)) (fun n => rfl) (hd_lt_t (by omega)) ?_
  exact mxRn.ret 2 (fun n => rfl)
set_option maxRecDepth 1000000 in
set_option maxHeartbeats 4000000 in
theorem p1_c4v1b_z3 (xs : Nat → Int32) (h_1 : xs 1 = 1) (h_2 : (xs 2).toInt < 0) : mxRn 81 0 [(0, .int 1), (1, .int 0), (2, .int 6)] [] (shA, IA, JA, QA) (some (.int 1), (shA, IA, JA, QA)) := by
  refine mxRn.g2 6 0 (pc' := 10) (lv' := [(0, .int 1), (1, .int 0), (2, .int 6)]) (st' := []) (w' := (shA, IA, JA, QA)) (fun n => rfl) ?_
  exact mxRn.ret 3 (fun n => rfl)
set_option maxRecDepth 1000000 in
set_option maxHeartbeats 4000000 in
theorem p1_c4v1b_z4 (xs : Nat → Int32) (h_1 : xs 1 = 1) (h_2 : (xs 2).toInt < 0) : mxRn 81 0 [(0, .int (xs 2)), (1, .int 0), (2, .int 99)] [] (shA, IA, JA, QA) (some (.int 0), (shA, IA, JA, QA)) := by
  refine mxRn.it2 3 0 (bb := Op.if_icmp.holds .lt (xs 2) (0 : Int32)) (pc' := 14) (lv' := [(0, .int (xs 2)), (1, .int 0), (2, .int 99)]) (st' := []) (w' := (shA, IA, JA, QA)) (X := fun nf => mxev (nf + 0) 81 5 [(0, .int (xs 2)), (1, .int 0), (2, .int 99)] [] (shA, IA, JA, QA)) (fun n => rfl) (hc_lt_t 0 rfl (by omega)) ?_
  exact mxRn.ret 2 (fun n => rfl)
set_option maxRecDepth 1000000 in
set_option maxHeartbeats 4000000 in
theorem p1_c4v1b_z2 (xs : Nat → Int32) (h_1 : xs 1 = 1) (h_2 : (xs 2).toInt < 0) : mxRn 122 0 [(0, .ref 9), (1, .int 1), (2, .int (xs 2))] [] (shA, IA, JA, QA) (some (.int (-1)), (shA, IA, JA, QA)) := by
  refine mxRn.c2 4 0 (z := 81) (lz := [(0, .int 1), (1, .int 0), (2, .int 6)]) (w1 := (shA, IA, JA, QA)) (pc' := 7) (lv' := [(0, .ref 9), (1, .int 1), (2, .int (xs 2))]) (r := []) (fun n => rfl) (p1_c4v1b_z3 xs h_1 h_2) ?_
  show mxRn 122 7 [(0, .ref 9), (1, .int 1), (2, .int (xs 2))] [.int 1] (shA, IA, JA, QA) _
  refine mxRn.c2 5 0 (z := 81) (lz := [(0, .int (xs 2)), (1, .int 0), (2, .int 99)]) (w1 := (shA, IA, JA, QA)) (pc' := 17) (lv' := [(0, .ref 9), (1, .int 1), (2, .int (xs 2))]) (r := []) (fun n => rfl) (p1_c4v1b_z4 xs h_1 h_2) ?_
  show mxRn 122 17 [(0, .ref 9), (1, .int 1), (2, .int (xs 2))] [.int 0] (shA, IA, JA, QA) _
  exact mxRn.ret 3 (fun n => rfl)
set_option maxRecDepth 1000000 in
set_option maxHeartbeats 4000000 in
theorem p1_c4v1b (xs : Nat → Int32) (h_1 : xs 1 = 1) (h_2 : (xs 2).toInt < 0) : mxOk 6 xs 33 [(0, .retAddr 2), (1, .ref 0), (2, .ref 9), (3, .int 0)] [.int 4] (shA, IA, JA, QA) := by
  refine mxOk.g2 6 0 (pc' := 243) (lv' := [(0, .retAddr 2), (1, .ref 0), (2, .ref 9), (3, .int 0)]) (st' := [.int 1, .retAddr 2, .ref 0]) (w' := (shA, IA, JA, QA)) (fun n => rfl) ?_
  refine mxOk.g2 1 0 (pc' := 244) (lv' := [(0, .retAddr 2), (1, .ref 0), (2, .ref 9), (3, .int 0)]) (st' := [.int (xs 1), .ref 0]) (w' := (shA, IA, JA, QA)) (fun n => rfl) ?_
  rw [h_1]
  refine mxOk.c2 6 0 (z := 59) (lz := [(0, .ref 0), (1, .int 1), (2, .int (xs 2))]) (w1 := (shA, IA, JA, QA)) (pc' := 252) (lv' := [(0, .retAddr 2), (1, .ref 0), (2, .ref 9), (3, .int 0)]) (r := []) (fun n => rfl) (p1_c4v1b_z1 xs h_1 h_2) ?_
  show mxOk 6 xs 252 [(0, .retAddr 2), (1, .ref 0), (2, .ref 9), (3, .int 0)] [.int (-1)] (shA, IA, JA, QA)
  refine mxOk.g2 6 0 (pc' := 258) (lv' := [(0, .retAddr 2), (1, .ref 0), (2, .ref 9), (3, .int 0)]) (st' := [.int (xs 1), .ref 9, .int (-1)]) (w' := (shA, IA, JA, QA)) (fun n => rfl) ?_
  rw [h_1]
  refine mxOk.c2 6 0 (z := 122) (lz := [(0, .ref 9), (1, .int 1), (2, .int (xs 2))]) (w1 := (shA, IA, JA, QA)) (pc' := 266) (lv' := [(0, .retAddr 2), (1, .ref 0), (2, .ref 9), (3, .int 0)]) (r := [.int (-1)]) (fun n => rfl) (p1_c4v1b_z2 xs h_1 h_2) ?_
  show mxOk 6 xs 266 [(0, .retAddr 2), (1, .ref 0), (2, .ref 9), (3, .int 0)] [.int (-1), .int (-1)] (shA, IA, JA, QA)
  refine mxOk.g2 6 0 (pc' := 21) (lv' := [(0, .retAddr 2), (1, .ref 0), (2, .ref 9), (3, .int 6)]) (st' := [.int 6, .int 6]) (w' := (shA, IA, JA, QA)) (fun n => rfl) ?_
  exact mxOk.ret 5 (w' := (shA, IA, JA, QA)) (fun n => rfl) (show shA.length ≤ 600000 from Nat.le_of_ble_eq_true rfl) (show (shA.map (fun q => q.2)).sum ≤ 7302250 from Nat.le_of_ble_eq_true rfl)
set_option maxRecDepth 1000000 in
set_option maxHeartbeats 4000000 in
theorem p1_c4v1a_z1 (xs : Nat → Int32) (h_1 : xs 1 = 1) (h_2 : 99 < (xs 2).toInt) : mxRn 59 0 [(0, .ref 0), (1, .int 1), (2, .int (xs 2))] [] (shA, IA, JA, QA) (some (.int (-1)), (shA, IA, JA, QA)) := by
  refine mxRn.g2 6 0 (pc' := 11) (lv' := [(0, .ref 0), (1, .int 1), (2, .int (xs 2))]) (st' := [.int (xs 2)]) (w' := (shA, IA, JA, QA)) (fun n => rfl) ?_
  refine mxRn.if2 1 0 (bb := Op.ifCond.holds .lt (xs 2)) (pc' := 14) (lv' := [(0, .ref 0), (1, .int 1), (2, .int (xs 2))]) (st' := []) (w' := (shA, IA, JA, QA)) (X := fun nf => mxev (nf + 0) 59 20 [(0, .ref 0), (1, .int 1), (2, .int (xs 2))] [] (shA, IA, JA, QA)) (fun n => rfl) (hd_lt_f (by omega)) ?_
  refine mxRn.if2 3 0 (bb := Op.if_icmp.holds .le (xs 2) (99 : Int32)) (pc' := 20) (lv' := [(0, .ref 0), (1, .int 1), (2, .int (xs 2))]) (st' := []) (w' := (shA, IA, JA, QA)) (X := fun nf => mxev (nf + 0) 59 22 [(0, .ref 0), (1, .int 1), (2, .int (xs 2))] [] (shA, IA, JA, QA)) (fun n => rfl) (hc_le_f 99 rfl (by omega)) ?_
  exact mxRn.ret 2 (fun n => rfl)
set_option maxRecDepth 1000000 in
set_option maxHeartbeats 4000000 in
theorem p1_c4v1a_z3 (xs : Nat → Int32) (h_1 : xs 1 = 1) (h_2 : 99 < (xs 2).toInt) : mxRn 81 0 [(0, .int 1), (1, .int 0), (2, .int 6)] [] (shA, IA, JA, QA) (some (.int 1), (shA, IA, JA, QA)) := by
  refine mxRn.g2 6 0 (pc' := 10) (lv' := [(0, .int 1), (1, .int 0), (2, .int 6)]) (st' := []) (w' := (shA, IA, JA, QA)) (fun n => rfl) ?_
  exact mxRn.ret 3 (fun n => rfl)
set_option maxRecDepth 1000000 in
set_option maxHeartbeats 4000000 in
theorem p1_c4v1a_z4 (xs : Nat → Int32) (h_1 : xs 1 = 1) (h_2 : 99 < (xs 2).toInt) : mxRn 81 0 [(0, .int (xs 2)), (1, .int 0), (2, .int 99)] [] (shA, IA, JA, QA) (some (.int 0), (shA, IA, JA, QA)) := by
  refine mxRn.if2 3 0 (bb := Op.if_icmp.holds .lt (xs 2) (0 : Int32)) (pc' := 5) (lv' := [(0, .int (xs 2)), (1, .int 0), (2, .int 99)]) (st' := []) (w' := (shA, IA, JA, QA)) (X := fun nf => mxev (nf + 0) 81 14 [(0, .int (xs 2)), (1, .int 0), (2, .int 99)] [] (shA, IA, JA, QA)) (fun n => rfl) (hc_lt_f 0 rfl (by omega)) ?_
  refine mxRn.it2 3 0 (bb := Op.if_icmp.holds .gt (xs 2) (99 : Int32)) (pc' := 14) (lv' := [(0, .int (xs 2)), (1, .int 0), (2, .int 99)]) (st' := []) (w' := (shA, IA, JA, QA)) (X := fun nf => mxev (nf + 0) 81 10 [(0, .int (xs 2)), (1, .int 0), (2, .int 99)] [] (shA, IA, JA, QA)) (fun n => rfl) (hc_gt_t 99 rfl (by omega)) ?_
  exact mxRn.ret 2 (fun n => rfl)
set_option maxRecDepth 1000000 in
set_option maxHeartbeats 4000000 in
theorem p1_c4v1a_z2 (xs : Nat → Int32) (h_1 : xs 1 = 1) (h_2 : 99 < (xs 2).toInt) : mxRn 122 0 [(0, .ref 9), (1, .int 1), (2, .int (xs 2))] [] (shA, IA, JA, QA) (some (.int (-1)), (shA, IA, JA, QA)) := by
  refine mxRn.c2 4 0 (z := 81) (lz := [(0, .int 1), (1, .int 0), (2, .int 6)]) (w1 := (shA, IA, JA, QA)) (pc' := 7) (lv' := [(0, .ref 9), (1, .int 1), (2, .int (xs 2))]) (r := []) (fun n => rfl) (p1_c4v1a_z3 xs h_1 h_2) ?_
  show mxRn 122 7 [(0, .ref 9), (1, .int 1), (2, .int (xs 2))] [.int 1] (shA, IA, JA, QA) _
  refine mxRn.c2 5 0 (z := 81) (lz := [(0, .int (xs 2)), (1, .int 0), (2, .int 99)]) (w1 := (shA, IA, JA, QA)) (pc' := 17) (lv' := [(0, .ref 9), (1, .int 1), (2, .int (xs 2))]) (r := []) (fun n => rfl) (p1_c4v1a_z4 xs h_1 h_2) ?_
  show mxRn 122 17 [(0, .ref 9), (1, .int 1), (2, .int (xs 2))] [.int 0] (shA, IA, JA, QA) _
  exact mxRn.ret 3 (fun n => rfl)
set_option maxRecDepth 1000000 in
set_option maxHeartbeats 4000000 in
theorem p1_c4v1a (xs : Nat → Int32) (h_1 : xs 1 = 1) (h_2 : 99 < (xs 2).toInt) : mxOk 6 xs 33 [(0, .retAddr 2), (1, .ref 0), (2, .ref 9), (3, .int 0)] [.int 4] (shA, IA, JA, QA) := by
  refine mxOk.g2 6 0 (pc' := 243) (lv' := [(0, .retAddr 2), (1, .ref 0), (2, .ref 9), (3, .int 0)]) (st' := [.int 1, .retAddr 2, .ref 0]) (w' := (shA, IA, JA, QA)) (fun n => rfl) ?_
  refine mxOk.g2 1 0 (pc' := 244) (lv' := [(0, .retAddr 2), (1, .ref 0), (2, .ref 9), (3, .int 0)]) (st' := [.int (xs 1), .ref 0]) (w' := (shA, IA, JA, QA)) (fun n => rfl) ?_
  rw [h_1]
  refine mxOk.c2 6 0 (z := 59) (lz := [(0, .ref 0), (1, .int 1), (2, .int (xs 2))]) (w1 := (shA, IA, JA, QA)) (pc' := 252) (lv' := [(0, .retAddr 2), (1, .ref 0), (2, .ref 9), (3, .int 0)]) (r := []) (fun n => rfl) (p1_c4v1a_z1 xs h_1 h_2) ?_
  show mxOk 6 xs 252 [(0, .retAddr 2), (1, .ref 0), (2, .ref 9), (3, .int 0)] [.int (-1)] (shA, IA, JA, QA)
  refine mxOk.g2 6 0 (pc' := 258) (lv' := [(0, .retAddr 2), (1, .ref 0), (2, .ref 9), (3, .int 0)]) (st' := [.int (xs 1), .ref 9, .int (-1)]) (w' := (shA, IA, JA, QA)) (fun n => rfl) ?_
  rw [h_1]
  refine mxOk.c2 6 0 (z := 122) (lz := [(0, .ref 9), (1, .int 1), (2, .int (xs 2))]) (w1 := (shA, IA, JA, QA)) (pc' := 266) (lv' := [(0, .retAddr 2), (1, .ref 0), (2, .ref 9), (3, .int 0)]) (r := [.int (-1)]) (fun n => rfl) (p1_c4v1a_z2 xs h_1 h_2) ?_
  show mxOk 6 xs 266 [(0, .retAddr 2), (1, .ref 0), (2, .ref 9), (3, .int 0)] [.int (-1), .int (-1)] (shA, IA, JA, QA)
  refine mxOk.g2 6 0 (pc' := 21) (lv' := [(0, .retAddr 2), (1, .ref 0), (2, .ref 9), (3, .int 6)]) (st' := [.int 6, .int 6]) (w' := (shA, IA, JA, QA)) (fun n => rfl) ?_
  exact mxOk.ret 5 (w' := (shA, IA, JA, QA)) (fun n => rfl) (show shA.length ≤ 600000 from Nat.le_of_ble_eq_true rfl) (show (shA.map (fun q => q.2)).sum ≤ 7302250 from Nat.le_of_ble_eq_true rfl)
set_option maxRecDepth 1000000 in
set_option maxHeartbeats 4000000 in
theorem p1_c4v1s_z1 (xs : Nat → Int32) (h_1 : xs 1 = 1) (h_2 : 0 ≤ (xs 2).toInt ∧ (xs 2).toInt ≤ 99) : mxRn 59 0 [(0, .ref 0), (1, .int 1), (2, .int (xs 2))] [] (shA, IA, JA, QA) (some (.int 1), (shA, (mxI IA 4 1 (xs 2)), JA, QA)) := by
  refine mxRn.g2 6 0 (pc' := 11) (lv' := [(0, .ref 0), (1, .int 1), (2, .int (xs 2))]) (st' := [.int (xs 2)]) (w' := (shA, IA, JA, QA)) (fun n => rfl) ?_
  refine mxRn.if2 1 0 (bb := Op.ifCond.holds .lt (xs 2)) (pc' := 14) (lv' := [(0, .ref 0), (1, .int 1), (2, .int (xs 2))]) (st' := []) (w' := (shA, IA, JA, QA)) (X := fun nf => mxev (nf + 0) 59 20 [(0, .ref 0), (1, .int 1), (2, .int (xs 2))] [] (shA, IA, JA, QA)) (fun n => rfl) (hd_lt_f (by omega)) ?_
  refine mxRn.it2 3 0 (bb := Op.if_icmp.holds .le (xs 2) (99 : Int32)) (pc' := 22) (lv' := [(0, .ref 0), (1, .int 1), (2, .int (xs 2))]) (st' := []) (w' := (shA, IA, JA, QA)) (X := fun nf => mxev (nf + 0) 59 20 [(0, .ref 0), (1, .int 1), (2, .int (xs 2))] [] (shA, IA, JA, QA)) (fun n => rfl) (hc_le_t 99 rfl (by omega)) ?_
  refine mxRn.g2 6 0 (pc' := 30) (lv' := [(0, .ref 0), (1, .int 1), (2, .int (xs 2)), (3, .int 1)]) (st' := [.ref 0]) (w' := (shA, IA, JA, QA)) (fun n => rfl) ?_
  exact mxRn.ret 6 (fun n => rfl)
set_option maxRecDepth 1000000 in
set_option maxHeartbeats 4000000 in
theorem p1_c4v1s_z3 (xs : Nat → Int32) (h_1 : xs 1 = 1) (h_2 : 0 ≤ (xs 2).toInt ∧ (xs 2).toInt ≤ 99) : mxRn 81 0 [(0, .int 1), (1, .int 0), (2, .int 6)] [] (shA, (mxI IA 4 1 (xs 2)), JA, QA) (some (.int 1), (shA, (mxI IA 4 1 (xs 2)), JA, QA)) := by
  refine mxRn.g2 6 0 (pc' := 10) (lv' := [(0, .int 1), (1, .int 0), (2, .int 6)]) (st' := []) (w' := (shA, (mxI IA 4 1 (xs 2)), JA, QA)) (fun n => rfl) ?_
  exact mxRn.ret 3 (fun n => rfl)
set_option maxRecDepth 1000000 in
set_option maxHeartbeats 4000000 in
theorem p1_c4v1s_z4 (xs : Nat → Int32) (h_1 : xs 1 = 1) (h_2 : 0 ≤ (xs 2).toInt ∧ (xs 2).toInt ≤ 99) : mxRn 81 0 [(0, .int (xs 2)), (1, .int 0), (2, .int 99)] [] (shA, (mxI IA 4 1 (xs 2)), JA, QA) (some (.int 1), (shA, (mxI IA 4 1 (xs 2)), JA, QA)) := by
  refine mxRn.if2 3 0 (bb := Op.if_icmp.holds .lt (xs 2) (0 : Int32)) (pc' := 5) (lv' := [(0, .int (xs 2)), (1, .int 0), (2, .int 99)]) (st' := []) (w' := (shA, (mxI IA 4 1 (xs 2)), JA, QA)) (X := fun nf => mxev (nf + 0) 81 14 [(0, .int (xs 2)), (1, .int 0), (2, .int 99)] [] (shA, (mxI IA 4 1 (xs 2)), JA, QA)) (fun n => rfl) (hc_lt_f 0 rfl (by omega)) ?_
  refine mxRn.if2 3 0 (bb := Op.if_icmp.holds .gt (xs 2) (99 : Int32)) (pc' := 10) (lv' := [(0, .int (xs 2)), (1, .int 0), (2, .int 99)]) (st' := []) (w' := (shA, (mxI IA 4 1 (xs 2)), JA, QA)) (X := fun nf => mxev (nf + 0) 81 14 [(0, .int (xs 2)), (1, .int 0), (2, .int 99)] [] (shA, (mxI IA 4 1 (xs 2)), JA, QA)) (fun n => rfl) (hc_gt_f 99 rfl (by omega)) ?_
  exact mxRn.ret 3 (fun n => rfl)
set_option maxRecDepth 1000000 in
set_option maxHeartbeats 4000000 in
theorem p1_c4v1s_z2 (xs : Nat → Int32) (h_1 : xs 1 = 1) (h_2 : 0 ≤ (xs 2).toInt ∧ (xs 2).toInt ≤ 99) : mxRn 122 0 [(0, .ref 9), (1, .int 1), (2, .int (xs 2))] [] (shA, (mxI IA 4 1 (xs 2)), JA, QA) (some (.int 1), (shA, (mxI (mxI IA 4 1 (xs 2)) 27 1 (xs 2)), JA, QA)) := by
  refine mxRn.c2 4 0 (z := 81) (lz := [(0, .int 1), (1, .int 0), (2, .int 6)]) (w1 := (shA, (mxI IA 4 1 (xs 2)), JA, QA)) (pc' := 7) (lv' := [(0, .ref 9), (1, .int 1), (2, .int (xs 2))]) (r := []) (fun n => rfl) (p1_c4v1s_z3 xs h_1 h_2) ?_
  show mxRn 122 7 [(0, .ref 9), (1, .int 1), (2, .int (xs 2))] [.int 1] (shA, (mxI IA 4 1 (xs 2)), JA, QA) _
  refine mxRn.c2 5 0 (z := 81) (lz := [(0, .int (xs 2)), (1, .int 0), (2, .int 99)]) (w1 := (shA, (mxI IA 4 1 (xs 2)), JA, QA)) (pc' := 17) (lv' := [(0, .ref 9), (1, .int 1), (2, .int (xs 2))]) (r := []) (fun n => rfl) (p1_c4v1s_z4 xs h_1 h_2) ?_
  show mxRn 122 17 [(0, .ref 9), (1, .int 1), (2, .int (xs 2))] [.int 1] (shA, (mxI IA 4 1 (xs 2)), JA, QA) _
  refine mxRn.g2 6 0 (pc' := 29) (lv' := [(0, .ref 9), (1, .int 1), (2, .int (xs 2)), (3, .int 1)]) (st' := []) (w' := (shA, (mxI IA 4 1 (xs 2)), JA, QA)) (fun n => rfl) ?_
  refine mxRn.g2 6 0 (pc' := 37) (lv' := [(0, .ref 9), (1, .int 1), (2, .int (xs 2)), (3, .int 1)]) (st' := [.int 1]) (w' := (shA, (mxI (mxI IA 4 1 (xs 2)) 27 1 (xs 2)), JA, QA)) (fun n => rfl) ?_
  exact mxRn.ret 1 (fun n => rfl)
set_option maxRecDepth 1000000 in
set_option maxHeartbeats 4000000 in
theorem p1_c4v1s (xs : Nat → Int32) (h_1 : xs 1 = 1) (h_2 : 0 ≤ (xs 2).toInt ∧ (xs 2).toInt ≤ 99) : mxOk 6 xs 33 [(0, .retAddr 2), (1, .ref 0), (2, .ref 9), (3, .int 0)] [.int 4] (shA, IA, JA, QA) := by
  refine mxOk.g2 6 0 (pc' := 243) (lv' := [(0, .retAddr 2), (1, .ref 0), (2, .ref 9), (3, .int 0)]) (st' := [.int 1, .retAddr 2, .ref 0]) (w' := (shA, IA, JA, QA)) (fun n => rfl) ?_
  refine mxOk.g2 1 0 (pc' := 244) (lv' := [(0, .retAddr 2), (1, .ref 0), (2, .ref 9), (3, .int 0)]) (st' := [.int (xs 1), .ref 0]) (w' := (shA, IA, JA, QA)) (fun n => rfl) ?_
  rw [h_1]
  refine mxOk.c2 6 0 (z := 59) (lz := [(0, .ref 0), (1, .int 1), (2, .int (xs 2))]) (w1 := (shA, IA, JA, QA)) (pc' := 252) (lv' := [(0, .retAddr 2), (1, .ref 0), (2, .ref 9), (3, .int 0)]) (r := []) (fun n => rfl) (p1_c4v1s_z1 xs h_1 h_2) ?_
  show mxOk 6 xs 252 [(0, .retAddr 2), (1, .ref 0), (2, .ref 9), (3, .int 0)] [.int 1] (shA, (mxI IA 4 1 (xs 2)), JA, QA)
  refine mxOk.g2 6 0 (pc' := 258) (lv' := [(0, .retAddr 2), (1, .ref 0), (2, .ref 9), (3, .int 0)]) (st' := [.int (xs 1), .ref 9, .int 1]) (w' := (shA, (mxI IA 4 1 (xs 2)), JA, QA)) (fun n => rfl) ?_
  rw [h_1]
  refine mxOk.c2 6 0 (z := 122) (lz := [(0, .ref 9), (1, .int 1), (2, .int (xs 2))]) (w1 := (shA, (mxI IA 4 1 (xs 2)), JA, QA)) (pc' := 266) (lv' := [(0, .retAddr 2), (1, .ref 0), (2, .ref 9), (3, .int 0)]) (r := [.int 1]) (fun n => rfl) (p1_c4v1s_z2 xs h_1 h_2) ?_
  show mxOk 6 xs 266 [(0, .retAddr 2), (1, .ref 0), (2, .ref 9), (3, .int 0)] [.int 1, .int 1] (shA, (mxI (mxI IA 4 1 (xs 2)) 27 1 (xs 2)), JA, QA)
  refine mxOk.g2 6 0 (pc' := 21) (lv' := [(0, .retAddr 2), (1, .ref 0), (2, .ref 9), (3, .int 6)]) (st' := [.int 6, .int 6]) (w' := (shA, (mxI (mxI IA 4 1 (xs 2)) 27 1 (xs 2)), JA, QA)) (fun n => rfl) ?_
  exact mxOk.ret 5 (w' := (shA, (mxI (mxI IA 4 1 (xs 2)) 27 1 (xs 2)), JA, QA)) (fun n => rfl) (show shA.length ≤ 600000 from Nat.le_of_ble_eq_true rfl) (show (shA.map (fun q => q.2)).sum ≤ 7302250 from Nat.le_of_ble_eq_true rfl)
set_option maxRecDepth 1000000 in
set_option maxHeartbeats 4000000 in
theorem p1_c4v2b_z1 (xs : Nat → Int32) (h_1 : xs 1 = 2) (h_2 : (xs 2).toInt < 0) : mxRn 59 0 [(0, .ref 0), (1, .int 2), (2, .int (xs 2))] [] (shA, IA, JA, QA) (some (.int (-1)), (shA, IA, JA, QA)) := by
  refine mxRn.g2 6 0 (pc' := 11) (lv' := [(0, .ref 0), (1, .int 2), (2, .int (xs 2))]) (st' := [.int (xs 2)]) (w' := (shA, IA, JA, QA)) (fun n => rfl) ?_
  refine mxRn.it2 1 0 (bb := Op.ifCond.holds .lt (xs 2)) (pc' := 20) (lv' := [(0, .ref 0), (1, .int 2), (2, .int (xs 2))]) (st' := []) (w' := (shA, IA, JA, QA)) (X := fun nf => mxev (nf + 0) 59 14 [(0, .ref 0), (1, .int 2), (2, .int (xs 2))] [] (shA, IA, JA, QA)) (fun n => rfl) (hd_lt_t (by omega)) ?_
  exact mxRn.ret 2 (fun n => rfl)
set_option maxRecDepth 1000000 in
set_option maxHeartbeats 4000000 in
theorem p1_c4v2b_z3 (xs : Nat → Int32) (h_1 : xs 1 = 2) (h_2 : (xs 2).toInt < 0) : mxRn 81 0 [(0, .int 2), (1, .int 0), (2, .int 6)] [] (shA, IA, JA, QA) (some (.int 1), (shA, IA, JA, QA)) := by
  refine mxRn.g2 6 0 (pc' := 10) (lv' := [(0, .int 2), (1, .int 0), (2, .int 6)]) (st' := []) (w' := (shA, IA, JA, QA)) (fun n => rfl) ?_
  exact mxRn.ret 3 (fun n => rfl)
set_option maxRecDepth 1000000 in
set_option maxHeartbeats 4000000 in
theorem p1_c4v2b_z4 (xs : Nat → Int32) (h_1 : xs 1 = 2) (h_2 : (xs 2).toInt < 0) : mxRn 81 0 [(0, .int (xs 2)), (1, .int 0), (2, .int 99)] [] (shA, IA, JA, QA) (some (.int 0), (shA, IA, JA, QA)) := by
  refine mxRn.it2 3 0 (bb := Op.if_icmp.holds .lt (xs 2) (0 : Int32)) (pc' := 14) (lv' := [(0, .int (xs 2)), (1, .int 0), (2, .int 99)]) (st' := []) (w' := (shA, IA, JA, QA)) (X := fun nf => mxev (nf + 0) 81 5 [(0, .int (xs 2)), (1, .int 0), (2, .int 99)] [] (shA, IA, JA, QA)) (fun n => rfl) (hc_lt_t 0 rfl (by omega)) ?_
  exact mxRn.ret 2 (fun n => rfl)
set_option maxRecDepth 1000000 in
set_option maxHeartbeats 4000000 in
theorem p1_c4v2b_z2 (xs : Nat → Int32) (h_1 : xs 1 = 2) (h_2 : (xs 2).toInt < 0) : mxRn 122 0 [(0, .ref 9), (1, .int 2), (2, .int (xs 2))] [] (shA, IA, JA, QA) (some (.int (-1)), (shA, IA, JA, QA)) := by
  refine mxRn.c2 4 0 (z := 81) (lz := [(0, .int 2), (1, .int 0), (2, .int 6)]) (w1 := (shA, IA, JA, QA)) (pc' := 7) (lv' := [(0, .ref 9), (1, .int 2), (2, .int (xs 2))]) (r := []) (fun n => rfl) (p1_c4v2b_z3 xs h_1 h_2) ?_
  show mxRn 122 7 [(0, .ref 9), (1, .int 2), (2, .int (xs 2))] [.int 1] (shA, IA, JA, QA) _
  refine mxRn.c2 5 0 (z := 81) (lz := [(0, .int (xs 2)), (1, .int 0), (2, .int 99)]) (w1 := (shA, IA, JA, QA)) (pc' := 17) (lv' := [(0, .ref 9), (1, .int 2), (2, .int (xs 2))]) (r := []) (fun n => rfl) (p1_c4v2b_z4 xs h_1 h_2) ?_
  show mxRn 122 17 [(0, .ref 9), (1, .int 2), (2, .int (xs 2))] [.int 0] (shA, IA, JA, QA) _
  exact mxRn.ret 3 (fun n => rfl)
set_option maxRecDepth 1000000 in
set_option maxHeartbeats 4000000 in
theorem p1_c4v2b (xs : Nat → Int32) (h_1 : xs 1 = 2) (h_2 : (xs 2).toInt < 0) : mxOk 6 xs 33 [(0, .retAddr 2), (1, .ref 0), (2, .ref 9), (3, .int 0)] [.int 4] (shA, IA, JA, QA) := by
  refine mxOk.g2 6 0 (pc' := 243) (lv' := [(0, .retAddr 2), (1, .ref 0), (2, .ref 9), (3, .int 0)]) (st' := [.int 1, .retAddr 2, .ref 0]) (w' := (shA, IA, JA, QA)) (fun n => rfl) ?_
  refine mxOk.g2 1 0 (pc' := 244) (lv' := [(0, .retAddr 2), (1, .ref 0), (2, .ref 9), (3, .int 0)]) (st' := [.int (xs 1), .ref 0]) (w' := (shA, IA, JA, QA)) (fun n => rfl) ?_
  rw [h_1]
  refine mxOk.c2 6 0 (z := 59) (lz := [(0, .ref 0), (1, .int 2), (2, .int (xs 2))]) (w1 := (shA, IA, JA, QA)) (pc' := 252) (lv' := [(0, .retAddr 2), (1, .ref 0), (2, .ref 9), (3, .int 0)]) (r := []) (fun n => rfl) (p1_c4v2b_z1 xs h_1 h_2) ?_
  show mxOk 6 xs 252 [(0, .retAddr 2), (1, .ref 0), (2, .ref 9), (3, .int 0)] [.int (-1)] (shA, IA, JA, QA)
  refine mxOk.g2 6 0 (pc' := 258) (lv' := [(0, .retAddr 2), (1, .ref 0), (2, .ref 9), (3, .int 0)]) (st' := [.int (xs 1), .ref 9, .int (-1)]) (w' := (shA, IA, JA, QA)) (fun n => rfl) ?_
  rw [h_1]
  refine mxOk.c2 6 0 (z := 122) (lz := [(0, .ref 9), (1, .int 2), (2, .int (xs 2))]) (w1 := (shA, IA, JA, QA)) (pc' := 266) (lv' := [(0, .retAddr 2), (1, .ref 0), (2, .ref 9), (3, .int 0)]) (r := [.int (-1)]) (fun n => rfl) (p1_c4v2b_z2 xs h_1 h_2) ?_
  show mxOk 6 xs 266 [(0, .retAddr 2), (1, .ref 0), (2, .ref 9), (3, .int 0)] [.int (-1), .int (-1)] (shA, IA, JA, QA)
  refine mxOk.g2 6 0 (pc' := 21) (lv' := [(0, .retAddr 2), (1, .ref 0), (2, .ref 9), (3, .int 6)]) (st' := [.int 6, .int 6]) (w' := (shA, IA, JA, QA)) (fun n => rfl) ?_
  exact mxOk.ret 5 (w' := (shA, IA, JA, QA)) (fun n => rfl) (show shA.length ≤ 600000 from Nat.le_of_ble_eq_true rfl) (show (shA.map (fun q => q.2)).sum ≤ 7302250 from Nat.le_of_ble_eq_true rfl)
set_option maxRecDepth 1000000 in
set_option maxHeartbeats 4000000 in
theorem p1_c4v2a_z1 (xs : Nat → Int32) (h_1 : xs 1 = 2) (h_2 : 99 < (xs 2).toInt) : mxRn 59 0 [(0, .ref 0), (1, .int 2), (2, .int (xs 2))] [] (shA, IA, JA, QA) (some (.int (-1)), (shA, IA, JA, QA)) := by
  refine mxRn.g2 6 0 (pc' := 11) (lv' := [(0, .ref 0), (1, .int 2), (2, .int (xs 2))]) (st' := [.int (xs 2)]) (w' := (shA, IA, JA, QA)) (fun n => rfl) ?_
  refine mxRn.if2 1 0 (bb := Op.ifCond.holds .lt (xs 2)) (pc' := 14) (lv' := [(0, .ref 0), (1, .int 2), (2, .int (xs 2))]) (st' := []) (w' := (shA, IA, JA, QA)) (X := fun nf => mxev (nf + 0) 59 20 [(0, .ref 0), (1, .int 2), (2, .int (xs 2))] [] (shA, IA, JA, QA)) (fun n => rfl) (hd_lt_f (by omega)) ?_
  refine mxRn.if2 3 0 (bb := Op.if_icmp.holds .le (xs 2) (99 : Int32)) (pc' := 20) (lv' := [(0, .ref 0), (1, .int 2), (2, .int (xs 2))]) (st' := []) (w' := (shA, IA, JA, QA)) (X := fun nf => mxev (nf + 0) 59 22 [(0, .ref 0), (1, .int 2), (2, .int (xs 2))] [] (shA, IA, JA, QA)) (fun n => rfl) (hc_le_f 99 rfl (by omega)) ?_
  exact mxRn.ret 2 (fun n => rfl)
set_option maxRecDepth 1000000 in
set_option maxHeartbeats 4000000 in
theorem p1_c4v2a_z3 (xs : Nat → Int32) (h_1 : xs 1 = 2) (h_2 : 99 < (xs 2).toInt) : mxRn 81 0 [(0, .int 2), (1, .int 0), (2, .int 6)] [] (shA, IA, JA, QA) (some (.int 1), (shA, IA, JA, QA)) := by
  refine mxRn.g2 6 0 (pc' := 10) (lv' := [(0, .int 2), (1, .int 0), (2, .int 6)]) (st' := []) (w' := (shA, IA, JA, QA)) (fun n => rfl) ?_
  exact mxRn.ret 3 (fun n => rfl)
set_option maxRecDepth 1000000 in
set_option maxHeartbeats 4000000 in
theorem p1_c4v2a_z4 (xs : Nat → Int32) (h_1 : xs 1 = 2) (h_2 : 99 < (xs 2).toInt) : mxRn 81 0 [(0, .int (xs 2)), (1, .int 0), (2, .int 99)] [] (shA, IA, JA, QA) (some (.int 0), (shA, IA, JA, QA)) := by
  refine mxRn.if2 3 0 (bb := Op.if_icmp.holds .lt (xs 2) (0 : Int32)) (pc' := 5) (lv' := [(0, .int (xs 2)), (1, .int 0), (2, .int 99)]) (st' := []) (w' := (shA, IA, JA, QA)) (X := fun nf => mxev (nf + 0) 81 14 [(0, .int (xs 2)), (1, .int 0), (2, .int 99)] [] (shA, IA, JA, QA)) (fun n => rfl) (hc_lt_f 0 rfl (by omega)) ?_
  refine mxRn.it2 3 0 (bb := Op.if_icmp.holds .gt (xs 2) (99 : Int32)) (pc' := 14) (lv' := [(0, .int (xs 2)), (1, .int 0), (2, .int 99)]) (st' := []) (w' := (shA, IA, JA, QA)) (X := fun nf => mxev (nf + 0) 81 10 [(0, .int (xs 2)), (1, .int 0), (2, .int 99)] [] (shA, IA, JA, QA)) (fun n => rfl) (hc_gt_t 99 rfl (by omega)) ?_
  exact mxRn.ret 2 (fun n => rfl)
set_option maxRecDepth 1000000 in
set_option maxHeartbeats 4000000 in
theorem p1_c4v2a_z2 (xs : Nat → Int32) (h_1 : xs 1 = 2) (h_2 : 99 < (xs 2).toInt) : mxRn 122 0 [(0, .ref 9), (1, .int 2), (2, .int (xs 2))] [] (shA, IA, JA, QA) (some (.int (-1)), (shA, IA, JA, QA)) := by
  refine mxRn.c2 4 0 (z := 81) (lz := [(0, .int 2), (1, .int 0), (2, .int 6)]) (w1 := (shA, IA, JA, QA)) (pc' := 7) (lv' := [(0, .ref 9), (1, .int 2), (2, .int (xs 2))]) (r := []) (fun n => rfl) (p1_c4v2a_z3 xs h_1 h_2) ?_
  show mxRn 122 7 [(0, .ref 9), (1, .int 2), (2, .int (xs 2))] [.int 1] (shA, IA, JA, QA) _
  refine mxRn.c2 5 0 (z := 81) (lz := [(0, .int (xs 2)), (1, .int 0), (2, .int 99)]) (w1 := (shA, IA, JA, QA)) (pc' := 17) (lv' := [(0, .ref 9), (1, .int 2), (2, .int (xs 2))]) (r := []) (fun n => rfl) (p1_c4v2a_z4 xs h_1 h_2) ?_
  show mxRn 122 17 [(0, .ref 9), (1, .int 2), (2, .int (xs 2))] [.int 0] (shA, IA, JA, QA) _
  exact mxRn.ret 3 (fun n => rfl)
set_option maxRecDepth 1000000 in
set_option maxHeartbeats 4000000 in
theorem p1_c4v2a (xs : Nat → Int32) (h_1 : xs 1 = 2) (h_2 : 99 < (xs 2).toInt) : mxOk 6 xs 33 [(0, .retAddr 2), (1, .ref 0), (2, .ref 9), (3, .int 0)] [.int 4] (shA, IA, JA, QA) := by
  refine mxOk.g2 6 0 (pc' := 243) (lv' := [(0, .retAddr 2), (1, .ref 0), (2, .ref 9), (3, .int 0)]) (st' := [.int 1, .retAddr 2, .ref 0]) (w' := (shA, IA, JA, QA)) (fun n => rfl) ?_
  refine mxOk.g2 1 0 (pc' := 244) (lv' := [(0, .retAddr 2), (1, .ref 0), (2, .ref 9), (3, .int 0)]) (st' := [.int (xs 1), .ref 0]) (w' := (shA, IA, JA, QA)) (fun n => rfl) ?_
  rw [h_1]
  refine mxOk.c2 6 0 (z := 59) (lz := [(0, .ref 0), (1, .int 2), (2, .int (xs 2))]) (w1 := (shA, IA, JA, QA)) (pc' := 252) (lv' := [(0, .retAddr 2), (1, .ref 0), (2, .ref 9), (3, .int 0)]) (r := []) (fun n => rfl) (p1_c4v2a_z1 xs h_1 h_2) ?_
  show mxOk 6 xs 252 [(0, .retAddr 2), (1, .ref 0), (2, .ref 9), (3, .int 0)] [.int (-1)] (shA, IA, JA, QA)
  refine mxOk.g2 6 0 (pc' := 258) (lv' := [(0, .retAddr 2), (1, .ref 0), (2, .ref 9), (3, .int 0)]) (st' := [.int (xs 1), .ref 9, .int (-1)]) (w' := (shA, IA, JA, QA)) (fun n => rfl) ?_
  rw [h_1]
  refine mxOk.c2 6 0 (z := 122) (lz := [(0, .ref 9), (1, .int 2), (2, .int (xs 2))]) (w1 := (shA, IA, JA, QA)) (pc' := 266) (lv' := [(0, .retAddr 2), (1, .ref 0), (2, .ref 9), (3, .int 0)]) (r := [.int (-1)]) (fun n => rfl) (p1_c4v2a_z2 xs h_1 h_2) ?_
  show mxOk 6 xs 266 [(0, .retAddr 2), (1, .ref 0), (2, .ref 9), (3, .int 0)] [.int (-1), .int (-1)] (shA, IA, JA, QA)
  refine mxOk.g2 6 0 (pc' := 21) (lv' := [(0, .retAddr 2), (1, .ref 0), (2, .ref 9), (3, .int 6)]) (st' := [.int 6, .int 6]) (w' := (shA, IA, JA, QA)) (fun n => rfl) ?_
  exact mxOk.ret 5 (w' := (shA, IA, JA, QA)) (fun n => rfl) (show shA.length ≤ 600000 from Nat.le_of_ble_eq_true rfl) (show (shA.map (fun q => q.2)).sum ≤ 7302250 from Nat.le_of_ble_eq_true rfl)
set_option maxRecDepth 1000000 in
set_option maxHeartbeats 4000000 in
theorem p1_c4v2s_z1 (xs : Nat → Int32) (h_1 : xs 1 = 2) (h_2 : 0 ≤ (xs 2).toInt ∧ (xs 2).toInt ≤ 99) : mxRn 59 0 [(0, .ref 0), (1, .int 2), (2, .int (xs 2))] [] (shA, IA, JA, QA) (some (.int 1), (shA, (mxI IA 4 2 (xs 2)), JA, QA)) := by
  refine mxRn.g2 6 0 (pc' := 11) (lv' := [(0, .ref 0), (1, .int 2), (2, .int (xs 2))]) (st' := [.int (xs 2)]) (w' := (shA, IA, JA, QA)) (fun n => rfl) ?_
  refine mxRn.if2 1 0 (bb := Op.ifCond.holds .lt (xs 2)) (pc' := 14) (lv' := [(0, .ref 0), (1, .int 2), (2, .int (xs 2))]) (st' := []) (w' := (shA, IA, JA, QA)) (X := fun nf => mxev (nf + 0) 59 20 [(0, .ref 0), (1, .int 2), (2, .int (xs 2))] [] (shA, IA, JA, QA)) (fun n => rfl) (hd_lt_f (by omega)) ?_
  refine mxRn.it2 3 0 (bb := Op.if_icmp.holds .le (xs 2) (99 : Int32)) (pc' := 22) (lv' := [(0, .ref 0), (1, .int 2), (2, .int (xs 2))]) (st' := []) (w' := (shA, IA, JA, QA)) (X := fun nf => mxev (nf + 0) 59 20 [(0, .ref 0), (1, .int 2), (2, .int (xs 2))] [] (shA, IA, JA, QA)) (fun n => rfl) (hc_le_t 99 rfl (by omega)) ?_
  refine mxRn.g2 6 0 (pc' := 30) (lv' := [(0, .ref 0), (1, .int 2), (2, .int (xs 2)), (3, .int 1)]) (st' := [.ref 0]) (w' := (shA, IA, JA, QA)) (fun n => rfl) ?_
  exact mxRn.ret 6 (fun n => rfl)
set_option maxRecDepth 1000000 in
set_option maxHeartbeats 4000000 in
theorem p1_c4v2s_z3 (xs : Nat → Int32) (h_1 : xs 1 = 2) (h_2 : 0 ≤ (xs 2).toInt ∧ (xs 2).toInt ≤ 99) : mxRn 81 0 [(0, .int 2), (1, .int 0), (2, .int 6)] [] (shA, (mxI IA 4 2 (xs 2)), JA, QA) (some (.int 1), (shA, (mxI IA 4 2 (xs 2)), JA, QA)) := by
  refine mxRn.g2 6 0 (pc' := 10) (lv' := [(0, .int 2), (1, .int 0), (2, .int 6)]) (st' := []) (w' := (shA, (mxI IA 4 2 (xs 2)), JA, QA)) (fun n => rfl) ?_
  exact mxRn.ret 3 (fun n => rfl)
set_option maxRecDepth 1000000 in
set_option maxHeartbeats 4000000 in
theorem p1_c4v2s_z4 (xs : Nat → Int32) (h_1 : xs 1 = 2) (h_2 : 0 ≤ (xs 2).toInt ∧ (xs 2).toInt ≤ 99) : mxRn 81 0 [(0, .int (xs 2)), (1, .int 0), (2, .int 99)] [] (shA, (mxI IA 4 2 (xs 2)), JA, QA) (some (.int 1), (shA, (mxI IA 4 2 (xs 2)), JA, QA)) := by
  refine mxRn.if2 3 0 (bb := Op.if_icmp.holds .lt (xs 2) (0 : Int32)) (pc' := 5) (lv' := [(0, .int (xs 2)), (1, .int 0), (2, .int 99)]) (st' := []) (w' := (shA, (mxI IA 4 2 (xs 2)), JA, QA)) (X := fun nf => mxev (nf + 0) 81 14 [(0, .int (xs 2)), (1, .int 0), (2, .int 99)] [] (shA, (mxI IA 4 2 (xs 2)), JA, QA)) (fun n => rfl) (hc_lt_f 0 rfl (by omega)) ?_
  refine mxRn.if2 3 0 (bb := Op.if_icmp.holds .gt (xs 2) (99 : Int32)) (pc' := 10) (lv' := [(0, .int (xs 2)), (1, .int 0), (2, .int 99)]) (st' := []) (w' := (shA, (mxI IA 4 2 (xs 2)), JA, QA)) (X := fun nf => mxev (nf + 0) 81 14 [(0, .int (xs 2)), (1, .int 0), (2, .int 99)] [] (shA, (mxI IA 4 2 (xs 2)), JA, QA)) (fun n => rfl) (hc_gt_f 99 rfl (by omega)) ?_
  exact mxRn.ret 3 (fun n => rfl)
set_option maxRecDepth 1000000 in
set_option maxHeartbeats 4000000 in
theorem p1_c4v2s_z2 (xs : Nat → Int32) (h_1 : xs 1 = 2) (h_2 : 0 ≤ (xs 2).toInt ∧ (xs 2).toInt ≤ 99) : mxRn 122 0 [(0, .ref 9), (1, .int 2), (2, .int (xs 2))] [] (shA, (mxI IA 4 2 (xs 2)), JA, QA) (some (.int 1), (shA, (mxI (mxI IA 4 2 (xs 2)) 27 2 (xs 2)), JA, QA)) := by
  refine mxRn.c2 4 0 (z := 81) (lz := [(0, .int 2), (1, .int 0), (2, .int 6)]) (w1 := (shA, (mxI IA 4 2 (xs 2)), JA, QA)) (pc' := 7) (lv' := [(0, .ref 9), (1, .int 2), (2, .int (xs 2))]) (r := []) (fun n => rfl) (p1_c4v2s_z3 xs h_1 h_2) ?_
  show mxRn 122 7 [(0, .ref 9), (1, .int 2), (2, .int (xs 2))] [.int 1] (shA, (mxI IA 4 2 (xs 2)), JA, QA) _
  refine mxRn.c2 5 0 (z := 81) (lz := [(0, .int (xs 2)), (1, .int 0), (2, .int 99)]) (w1 := (shA, (mxI IA 4 2 (xs 2)), JA, QA)) (pc' := 17) (lv' := [(0, .ref 9), (1, .int 2), (2, .int (xs 2))]) (r := []) (fun n => rfl) (p1_c4v2s_z4 xs h_1 h_2) ?_
  show mxRn 122 17 [(0, .ref 9), (1, .int 2), (2, .int (xs 2))] [.int 1] (shA, (mxI IA 4 2 (xs 2)), JA, QA) _
  refine mxRn.g2 6 0 (pc' := 29) (lv' := [(0, .ref 9), (1, .int 2), (2, .int (xs 2)), (3, .int 1)]) (st' := []) (w' := (shA, (mxI IA 4 2 (xs 2)), JA, QA)) (fun n => rfl) ?_
  refine mxRn.g2 6 0 (pc' := 37) (lv' := [(0, .ref 9), (1, .int 2), (2, .int (xs 2)), (3, .int 1)]) (st' := [.int 1]) (w' := (shA, (mxI (mxI IA 4 2 (xs 2)) 27 2 (xs 2)), JA, QA)) (fun n => rfl) ?_
  exact mxRn.ret 1 (fun n => rfl)
set_option maxRecDepth 1000000 in
set_option maxHeartbeats 4000000 in
theorem p1_c4v2s (xs : Nat → Int32) (h_1 : xs 1 = 2) (h_2 : 0 ≤ (xs 2).toInt ∧ (xs 2).toInt ≤ 99) : mxOk 6 xs 33 [(0, .retAddr 2), (1, .ref 0), (2, .ref 9), (3, .int 0)] [.int 4] (shA, IA, JA, QA) := by
  refine mxOk.g2 6 0 (pc' := 243) (lv' := [(0, .retAddr 2), (1, .ref 0), (2, .ref 9), (3, .int 0)]) (st' := [.int 1, .retAddr 2, .ref 0]) (w' := (shA, IA, JA, QA)) (fun n => rfl) ?_
  refine mxOk.g2 1 0 (pc' := 244) (lv' := [(0, .retAddr 2), (1, .ref 0), (2, .ref 9), (3, .int 0)]) (st' := [.int (xs 1), .ref 0]) (w' := (shA, IA, JA, QA)) (fun n => rfl) ?_
  rw [h_1]
  refine mxOk.c2 6 0 (z := 59) (lz := [(0, .ref 0), (1, .int 2), (2, .int (xs 2))]) (w1 := (shA, IA, JA, QA)) (pc' := 252) (lv' := [(0, .retAddr 2), (1, .ref 0), (2, .ref 9), (3, .int 0)]) (r := []) (fun n => rfl) (p1_c4v2s_z1 xs h_1 h_2) ?_
  show mxOk 6 xs 252 [(0, .retAddr 2), (1, .ref 0), (2, .ref 9), (3, .int 0)] [.int 1] (shA, (mxI IA 4 2 (xs 2)), JA, QA)
  refine mxOk.g2 6 0 (pc' := 258) (lv' := [(0, .retAddr 2), (1, .ref 0), (2, .ref 9), (3, .int 0)]) (st' := [.int (xs 1), .ref 9, .int 1]) (w' := (shA, (mxI IA 4 2 (xs 2)), JA, QA)) (fun n => rfl) ?_
  rw [h_1]
  refine mxOk.c2 6 0 (z := 122) (lz := [(0, .ref 9), (1, .int 2), (2, .int (xs 2))]) (w1 := (shA, (mxI IA 4 2 (xs 2)), JA, QA)) (pc' := 266) (lv' := [(0, .retAddr 2), (1, .ref 0), (2, .ref 9), (3, .int 0)]) (r := [.int 1]) (fun n => rfl) (p1_c4v2s_z2 xs h_1 h_2) ?_
  show mxOk 6 xs 266 [(0, .retAddr 2), (1, .ref 0), (2, .ref 9), (3, .int 0)] [.int 1, .int 1] (shA, (mxI (mxI IA 4 2 (xs 2)) 27 2 (xs 2)), JA, QA)
  refine mxOk.g2 6 0 (pc' := 21) (lv' := [(0, .retAddr 2), (1, .ref 0), (2, .ref 9), (3, .int 6)]) (st' := [.int 6, .int 6]) (w' := (shA, (mxI (mxI IA 4 2 (xs 2)) 27 2 (xs 2)), JA, QA)) (fun n => rfl) ?_
  exact mxOk.ret 5 (w' := (shA, (mxI (mxI IA 4 2 (xs 2)) 27 2 (xs 2)), JA, QA)) (fun n => rfl) (show shA.length ≤ 600000 from Nat.le_of_ble_eq_true rfl) (show (shA.map (fun q => q.2)).sum ≤ 7302250 from Nat.le_of_ble_eq_true rfl)
set_option maxRecDepth 1000000 in
set_option maxHeartbeats 4000000 in
theorem p1_c4v3b_z1 (xs : Nat → Int32) (h_1 : xs 1 = 3) (h_2 : (xs 2).toInt < 0) : mxRn 59 0 [(0, .ref 0), (1, .int 3), (2, .int (xs 2))] [] (shA, IA, JA, QA) (some (.int (-1)), (shA, IA, JA, QA)) := by
  refine mxRn.g2 6 0 (pc' := 11) (lv' := [(0, .ref 0), (1, .int 3), (2, .int (xs 2))]) (st' := [.int (xs 2)]) (w' := (shA, IA, JA, QA)) (fun n => rfl) ?_
  refine mxRn.it2 1 0 (bb := Op.ifCond.holds .lt (xs 2)) (pc' := 20) (lv' := [(0, .ref 0), (1, .int 3), (2, .int (xs 2))]) (st' := []) (w' := (shA, IA, JA, QA)) (X := fun nf => mxev (nf + 0) 59 14 [(0, .ref 0), (1, .int 3), (2, .int (xs 2))] [] (shA, IA, JA, QA)) (fun n => rfl) (hd_lt_t (by omega)) ?_
  exact mxRn.ret 2 (fun n => rfl)
set_option maxRecDepth 1000000 in
set_option maxHeartbeats 4000000 in
theorem p1_c4v3b_z3 (xs : Nat → Int32) (h_1 : xs 1 = 3) (h_2 : (xs 2).toInt < 0) : mxRn 81 0 [(0, .int 3), (1, .int 0), (2, .int 6)] [] (shA, IA, JA, QA) (some (.int 1), (shA, IA, JA, QA)) := by
  refine mxRn.g2 6 0 (pc' := 10) (lv' := [(0, .int 3), (1, .int 0), (2, .int 6)]) (st' := []) (w' := (shA, IA, JA, QA)) (fun n => rfl) ?_
  exact mxRn.ret 3 (fun n => rfl)
set_option maxRecDepth 1000000 in
set_option maxHeartbeats 4000000 in
theorem p1_c4v3b_z4 (xs : Nat → Int32) (h_1 : xs 1 = 3) (h_2 : (xs 2).toInt < 0) : mxRn 81 0 [(0, .int (xs 2)), (1, .int 0), (2, .int 99)] [] (shA, IA, JA, QA) (some (.int 0), (shA, IA, JA, QA)) := by
  refine mxRn.it2 3 0 (bb := Op.if_icmp.holds .lt (xs 2) (0 : Int32)) (pc' := 14) (lv' := [(0, .int (xs 2)), (1, .int 0), (2, .int 99)]) (st' := []) (w' := (shA, IA, JA, QA)) (X := fun nf => mxev (nf + 0) 81 5 [(0, .int (xs 2)), (1, .int 0), (2, .int 99)] [] (shA, IA, JA, QA)) (fun n => rfl) (hc_lt_t 0 rfl (by omega)) ?_
  exact mxRn.ret 2 (fun n => rfl)
set_option maxRecDepth 1000000 in
set_option maxHeartbeats 4000000 in
theorem p1_c4v3b_z2 (xs : Nat → Int32) (h_1 : xs 1 = 3) (h_2 : (xs 2).toInt < 0) : mxRn 122 0 [(0, .ref 9), (1, .int 3), (2, .int (xs 2))] [] (shA, IA, JA, QA) (some (.int (-1)), (shA, IA, JA, QA)) := by
  refine mxRn.c2 4 0 (z := 81) (lz := [(0, .int 3), (1, .int 0), (2, .int 6)]) (w1 := (shA, IA, JA, QA)) (pc' := 7) (lv' := [(0, .ref 9), (1, .int 3), (2, .int (xs 2))]) (r := []) (fun n => rfl) (p1_c4v3b_z3 xs h_1 h_2) ?_
  show mxRn 122 7 [(0, .ref 9), (1, .int 3), (2, .int (xs 2))] [.int 1] (shA, IA, JA, QA) _
  refine mxRn.c2 5 0 (z := 81) (lz := [(0, .int (xs 2)), (1, .int 0), (2, .int 99)]) (w1 := (shA, IA, JA, QA)) (pc' := 17) (lv' := [(0, .ref 9), (1, .int 3), (2, .int (xs 2))]) (r := []) (fun n => rfl) (p1_c4v3b_z4 xs h_1 h_2) ?_
  show mxRn 122 17 [(0, .ref 9), (1, .int 3), (2, .int (xs 2))] [.int 0] (shA, IA, JA, QA) _
  exact mxRn.ret 3 (fun n => rfl)
set_option maxRecDepth 1000000 in
set_option maxHeartbeats 4000000 in
theorem p1_c4v3b (xs : Nat → Int32) (h_1 : xs 1 = 3) (h_2 : (xs 2).toInt < 0) : mxOk 6 xs 33 [(0, .retAddr 2), (1, .ref 0), (2, .ref 9), (3, .int 0)] [.int 4] (shA, IA, JA, QA) := by
  refine mxOk.g2 6 0 (pc' := 243) (lv' := [(0, .retAddr 2), (1, .ref 0), (2, .ref 9), (3, .int 0)]) (st' := [.int 1, .retAddr 2, .ref 0]) (w' := (shA, IA, JA, QA)) (fun n => rfl) ?_
  refine mxOk.g2 1 0 (pc' := 244) (lv' := [(0, .retAddr 2), (1, .ref 0), (2, .ref 9), (3, .int 0)]) (st' := [.int (xs 1), .ref 0]) (w' := (shA, IA, JA, QA)) (fun n => rfl) ?_
  rw [h_1]
  refine mxOk.c2 6 0 (z := 59) (lz := [(0, .ref 0), (1, .int 3), (2, .int (xs 2))]) (w1 := (shA, IA, JA, QA)) (pc' := 252) (lv' := [(0, .retAddr 2), (1, .ref 0), (2, .ref 9), (3, .int 0)]) (r := []) (fun n => rfl) (p1_c4v3b_z1 xs h_1 h_2) ?_
  show mxOk 6 xs 252 [(0, .retAddr 2), (1, .ref 0), (2, .ref 9), (3, .int 0)] [.int (-1)] (shA, IA, JA, QA)
  refine mxOk.g2 6 0 (pc' := 258) (lv' := [(0, .retAddr 2), (1, .ref 0), (2, .ref 9), (3, .int 0)]) (st' := [.int (xs 1), .ref 9, .int (-1)]) (w' := (shA, IA, JA, QA)) (fun n => rfl) ?_
  rw [h_1]
  refine mxOk.c2 6 0 (z := 122) (lz := [(0, .ref 9), (1, .int 3), (2, .int (xs 2))]) (w1 := (shA, IA, JA, QA)) (pc' := 266) (lv' := [(0, .retAddr 2), (1, .ref 0), (2, .ref 9), (3, .int 0)]) (r := [.int (-1)]) (fun n => rfl) (p1_c4v3b_z2 xs h_1 h_2) ?_
  show mxOk 6 xs 266 [(0, .retAddr 2), (1, .ref 0), (2, .ref 9), (3, .int 0)] [.int (-1), .int (-1)] (shA, IA, JA, QA)
  refine mxOk.g2 6 0 (pc' := 21) (lv' := [(0, .retAddr 2), (1, .ref 0), (2, .ref 9), (3, .int 6)]) (st' := [.int 6, .int 6]) (w' := (shA, IA, JA, QA)) (fun n => rfl) ?_
  exact mxOk.ret 5 (w' := (shA, IA, JA, QA)) (fun n => rfl) (show shA.length ≤ 600000 from Nat.le_of_ble_eq_true rfl) (show (shA.map (fun q => q.2)).sum ≤ 7302250 from Nat.le_of_ble_eq_true rfl)
set_option maxRecDepth 1000000 in
set_option maxHeartbeats 4000000 in
theorem p1_c4v3a_z1 (xs : Nat → Int32) (h_1 : xs 1 = 3) (h_2 : 99 < (xs 2).toInt) : mxRn 59 0 [(0, .ref 0), (1, .int 3), (2, .int (xs 2))] [] (shA, IA, JA, QA) (some (.int (-1)), (shA, IA, JA, QA)) := by
  refine mxRn.g2 6 0 (pc' := 11) (lv' := [(0, .ref 0), (1, .int 3), (2, .int (xs 2))]) (st' := [.int (xs 2)]) (w' := (shA, IA, JA, QA)) (fun n => rfl) ?_
  refine mxRn.if2 1 0 (bb := Op.ifCond.holds .lt (xs 2)) (pc' := 14) (lv' := [(0, .ref 0), (1, .int 3), (2, .int (xs 2))]) (st' := []) (w' := (shA, IA, JA, QA)) (X := fun nf => mxev (nf + 0) 59 20 [(0, .ref 0), (1, .int 3), (2, .int (xs 2))] [] (shA, IA, JA, QA)) (fun n => rfl) (hd_lt_f (by omega)) ?_
  refine mxRn.if2 3 0 (bb := Op.if_icmp.holds .le (xs 2) (99 : Int32)) (pc' := 20) (lv' := [(0, .ref 0), (1, .int 3), (2, .int (xs 2))]) (st' := []) (w' := (shA, IA, JA, QA)) (X := fun nf => mxev (nf + 0) 59 22 [(0, .ref 0), (1, .int 3), (2, .int (xs 2))] [] (shA, IA, JA, QA)) (fun n => rfl) (hc_le_f 99 rfl (by omega)) ?_
  exact mxRn.ret 2 (fun n => rfl)
set_option maxRecDepth 1000000 in
set_option maxHeartbeats 4000000 in
theorem p1_c4v3a_z3 (xs : Nat → Int32) (h_1 : xs 1 = 3) (h_2 : 99 < (xs 2).toInt) : mxRn 81 0 [(0, .int 3), (1, .int 0), (2, .int 6)] [] (shA, IA, JA, QA) (some (.int 1), (shA, IA, JA, QA)) := by
  refine mxRn.g2 6 0 (pc' := 10) (lv' := [(0, .int 3), (1, .int 0), (2, .int 6)]) (st' := []) (w' := (shA, IA, JA, QA)) (fun n => rfl) ?_
  exact mxRn.ret 3 (fun n => rfl)
set_option maxRecDepth 1000000 in
set_option maxHeartbeats 4000000 in
theorem p1_c4v3a_z4 (xs : Nat → Int32) (h_1 : xs 1 = 3) (h_2 : 99 < (xs 2).toInt) : mxRn 81 0 [(0, .int (xs 2)), (1, .int 0), (2, .int 99)] [] (shA, IA, JA, QA) (some (.int 0), (shA, IA, JA, QA)) := by
  refine mxRn.if2 3 0 (bb := Op.if_icmp.holds .lt (xs 2) (0 : Int32)) (pc' := 5) (lv' := [(0, .int (xs 2)), (1, .int 0), (2, .int 99)]) (st' := []) (w' := (shA, IA, JA, QA)) (X := fun nf => mxev (nf + 0) 81 14 [(0, .int (xs 2)), (1, .int 0), (2, .int 99)] [] (shA, IA, JA, QA)) (fun n => rfl) (hc_lt_f 0 rfl (by omega)) ?_
  refine mxRn.it2 3 0 (bb := Op.if_icmp.holds .gt (xs 2) (99 : Int32)) (pc' := 14) (lv' := [(0, .int (xs 2)), (1, .int 0), (2, .int 99)]) (st' := []) (w' := (shA, IA, JA, QA)) (X := fun nf => mxev (nf + 0) 81 10 [(0, .int (xs 2)), (1, .int 0), (2, .int 99)] [] (shA, IA, JA, QA)) (fun n => rfl) (hc_gt_t 99 rfl (by omega)) ?_
  exact mxRn.ret 2 (fun n => rfl)
set_option maxRecDepth 1000000 in
set_option maxHeartbeats 4000000 in
theorem p1_c4v3a_z2 (xs : Nat → Int32) (h_1 : xs 1 = 3) (h_2 : 99 < (xs 2).toInt) : mxRn 122 0 [(0, .ref 9), (1, .int 3), (2, .int (xs 2))] [] (shA, IA, JA, QA) (some (.int (-1)), (shA, IA, JA, QA)) := by
  refine mxRn.c2 4 0 (z := 81) (lz := [(0, .int 3), (1, .int 0), (2, .int 6)]) (w1 := (shA, IA, JA, QA)) (pc' := 7) (lv' := [(0, .ref 9), (1, .int 3), (2, .int (xs 2))]) (r := []) (fun n => rfl) (p1_c4v3a_z3 xs h_1 h_2) ?_
  show mxRn 122 7 [(0, .ref 9), (1, .int 3), (2, .int (xs 2))] [.int 1] (shA, IA, JA, QA) _
  refine mxRn.c2 5 0 (z := 81) (lz := [(0, .int (xs 2)), (1, .int 0), (2, .int 99)]) (w1 := (shA, IA, JA, QA)) (pc' := 17) (lv' := [(0, .ref 9), (1, .int 3), (2, .int (xs 2))]) (r := []) (fun n => rfl) (p1_c4v3a_z4 xs h_1 h_2) ?_
  show mxRn 122 17 [(0, .ref 9), (1, .int 3), (2, .int (xs 2))] [.int 0] (shA, IA, JA, QA) _
  exact mxRn.ret 3 (fun n => rfl)
set_option maxRecDepth 1000000 in
set_option maxHeartbeats 4000000 in
theorem p1_c4v3a (xs : Nat → Int32) (h_1 : xs 1 = 3) (h_2 : 99 < (xs 2).toInt) : mxOk 6 xs 33 [(0, .retAddr 2), (1, .ref 0), (2, .ref 9), (3, .int 0)] [.int 4] (shA, IA, JA, QA) := by
  refine mxOk.g2 6 0 (pc' := 243) (lv' := [(0, .retAddr 2), (1, .ref 0), (2, .ref 9), (3, .int 0)]) (st' := [.int 1, .retAddr 2, .ref 0]) (w' := (shA, IA, JA, QA)) (fun n => rfl) ?_
  refine mxOk.g2 1 0 (pc' := 244) (lv' := [(0, .retAddr 2), (1, .ref 0), (2, .ref 9), (3, .int 0)]) (st' := [.int (xs 1), .ref 0]) (w' := (shA, IA, JA, QA)) (fun n => rfl) ?_
  rw [h_1]
  refine mxOk.c2 6 0 (z := 59) (lz := [(0, .ref 0), (1, .int 3), (2, .int (xs 2))]) (w1 := (shA, IA, JA, QA)) (pc' := 252) (lv' := [(0, .retAddr 2), (1, .ref 0), (2, .ref 9), (3, .int 0)]) (r := []) (fun n => rfl) (p1_c4v3a_z1 xs h_1 h_2) ?_
  show mxOk 6 xs 252 [(0, .retAddr 2), (1, .ref 0), (2, .ref 9), (3, .int 0)] [.int (-1)] (shA, IA, JA, QA)
  refine mxOk.g2 6 0 (pc' := 258) (lv' := [(0, .retAddr 2), (1, .ref 0), (2, .ref 9), (3, .int 0)]) (st' := [.int (xs 1), .ref 9, .int (-1)]) (w' := (shA, IA, JA, QA)) (fun n => rfl) ?_
  rw [h_1]
  refine mxOk.c2 6 0 (z := 122) (lz := [(0, .ref 9), (1, .int 3), (2, .int (xs 2))]) (w1 := (shA, IA, JA, QA)) (pc' := 266) (lv' := [(0, .retAddr 2), (1, .ref 0), (2, .ref 9), (3, .int 0)]) (r := [.int (-1)]) (fun n => rfl) (p1_c4v3a_z2 xs h_1 h_2) ?_
  show mxOk 6 xs 266 [(0, .retAddr 2), (1, .ref 0), (2, .ref 9), (3, .int 0)] [.int (-1), .int (-1)] (shA, IA, JA, QA)
  refine mxOk.g2 6 0 (pc' := 21) (lv' := [(0, .retAddr 2), (1, .ref 0), (2, .ref 9), (3, .int 6)]) (st' := [.int 6, .int 6]) (w' := (shA, IA, JA, QA)) (fun n => rfl) ?_
  exact mxOk.ret 5 (w' := (shA, IA, JA, QA)) (fun n => rfl) (show shA.length ≤ 600000 from Nat.le_of_ble_eq_true rfl) (show (shA.map (fun q => q.2)).sum ≤ 7302250 from Nat.le_of_ble_eq_true rfl)
set_option maxRecDepth 1000000 in
set_option maxHeartbeats 4000000 in
theorem p1_c4v3s_z1 (xs : Nat → Int32) (h_1 : xs 1 = 3) (h_2 : 0 ≤ (xs 2).toInt ∧ (xs 2).toInt ≤ 99) : mxRn 59 0 [(0, .ref 0), (1, .int 3), (2, .int (xs 2))] [] (shA, IA, JA, QA) (some (.int 1), (shA, (mxI IA 4 3 (xs 2)), JA, QA)) := by
  refine mxRn.g2 6 0 (pc' := 11) (lv' := [(0, .ref 0), (1, .int 3), (2, .int (xs 2))]) (st' := [.int (xs 2)]) (w' := (shA, IA, JA, QA)) (fun n => rfl) ?_
  refine mxRn.if2 1 0 (bb := Op.ifCond.holds .lt (xs 2)) (pc' := 14) (lv' := [(0, .ref 0), (1, .int 3), (2, .int (xs 2))]) (st' := []) (w' := (shA, IA, JA, QA)) (X := fun nf => mxev (nf + 0) 59 20 [(0, .ref 0), (1, .int 3), (2, .int (xs 2))] [] (shA, IA, JA, QA)) (fun n => rfl) (hd_lt_f (by omega)) ?_
  refine mxRn.it2 3 0 (bb := Op.if_icmp.holds .le (xs 2) (99 : Int32)) (pc' := 22) (lv' := [(0, .ref 0), (1, .int 3), (2, .int (xs 2))]) (st' := []) (w' := (shA, IA, JA, QA)) (X := fun nf => mxev (nf + 0) 59 20 [(0, .ref 0), (1, .int 3), (2, .int (xs 2))] [] (shA, IA, JA, QA)) (fun n => rfl) (hc_le_t 99 rfl (by omega)) ?_
  refine mxRn.g2 6 0 (pc' := 30) (lv' := [(0, .ref 0), (1, .int 3), (2, .int (xs 2)), (3, .int 1)]) (st' := [.ref 0]) (w' := (shA, IA, JA, QA)) (fun n => rfl) ?_
  exact mxRn.ret 6 (fun n => rfl)
set_option maxRecDepth 1000000 in
set_option maxHeartbeats 4000000 in
theorem p1_c4v3s_z3 (xs : Nat → Int32) (h_1 : xs 1 = 3) (h_2 : 0 ≤ (xs 2).toInt ∧ (xs 2).toInt ≤ 99) : mxRn 81 0 [(0, .int 3), (1, .int 0), (2, .int 6)] [] (shA, (mxI IA 4 3 (xs 2)), JA, QA) (some (.int 1), (shA, (mxI IA 4 3 (xs 2)), JA, QA)) := by
  refine mxRn.g2 6 0 (pc' := 10) (lv' := [(0, .int 3), (1, .int 0), (2, .int 6)]) (st' := []) (w' := (shA, (mxI IA 4 3 (xs 2)), JA, QA)) (fun n => rfl) ?_
  exact mxRn.ret 3 (fun n => rfl)
set_option maxRecDepth 1000000 in
set_option maxHeartbeats 4000000 in
theorem p1_c4v3s_z4 (xs : Nat → Int32) (h_1 : xs 1 = 3) (h_2 : 0 ≤ (xs 2).toInt ∧ (xs 2).toInt ≤ 99) : mxRn 81 0 [(0, .int (xs 2)), (1, .int 0), (2, .int 99)] [] (shA, (mxI IA 4 3 (xs 2)), JA, QA) (some (.int 1), (shA, (mxI IA 4 3 (xs 2)), JA, QA)) := by
  refine mxRn.if2 3 0 (bb := Op.if_icmp.holds .lt (xs 2) (0 : Int32)) (pc' := 5) (lv' := [(0, .int (xs 2)), (1, .int 0), (2, .int 99)]) (st' := []) (w' := (shA, (mxI IA 4 3 (xs 2)), JA, QA)) (X := fun nf => mxev (nf + 0) 81 14 [(0, .int (xs 2)), (1, .int 0), (2, .int 99)] [] (shA, (mxI IA 4 3 (xs 2)), JA, QA)) (fun n => rfl) (hc_lt_f 0 rfl (by omega)) ?_
  refine mxRn.if2 3 0 (bb := Op.if_icmp.holds .gt (xs 2) (99 : Int32)) (pc' := 10) (lv' := [(0, .int (xs 2)), (1, .int 0), (2, .int 99)]) (st' := []) (w' := (shA, (mxI IA 4 3 (xs 2)), JA, QA)) (X := fun nf => mxev (nf + 0) 81 14 [(0, .int (xs 2)), (1, .int 0), (2, .int 99)] [] (shA, (mxI IA 4 3 (xs 2)), JA, QA)) (fun n => rfl) (hc_gt_f 99 rfl (by omega)) ?_
  exact mxRn.ret 3 (fun n => rfl)
set_option maxRecDepth 1000000 in
set_option maxHeartbeats 4000000 in
theorem p1_c4v3s_z2 (xs : Nat → Int32) (h_1 : xs 1 = 3) (h_2 : 0 ≤ (xs 2).toInt ∧ (xs 2).toInt ≤ 99) : mxRn 122 0 [(0, .ref 9), (1, .int 3), (2, .int (xs 2))] [] (shA, (mxI IA 4 3 (xs 2)), JA, QA) (some (.int 1), (shA, (mxI (mxI IA 4 3 (xs 2)) 27 3 (xs 2)), JA, QA)) := by
  refine mxRn.c2 4 0 (z := 81) (lz := [(0, .int 3), (1, .int 0), (2, .int 6)]) (w1 := (shA, (mxI IA 4 3 (xs 2)), JA, QA)) (pc' := 7) (lv' := [(0, .ref 9), (1, .int 3), (2, .int (xs 2))]) (r := []) (fun n => rfl) (p1_c4v3s_z3 xs h_1 h_2) ?_
  show mxRn 122 7 [(0, .ref 9), (1, .int 3), (2, .int (xs 2))] [.int 1] (shA, (mxI IA 4 3 (xs 2)), JA, QA) _
  refine mxRn.c2 5 0 (z := 81) (lz := [(0, .int (xs 2)), (1, .int 0), (2, .int 99)]) (w1 := (shA, (mxI IA 4 3 (xs 2)), JA, QA)) (pc' := 17) (lv' := [(0, .ref 9), (1, .int 3), (2, .int (xs 2))]) (r := []) (fun n => rfl) (p1_c4v3s_z4 xs h_1 h_2) ?_
  show mxRn 122 17 [(0, .ref 9), (1, .int 3), (2, .int (xs 2))] [.int 1] (shA, (mxI IA 4 3 (xs 2)), JA, QA) _
  refine mxRn.g2 6 0 (pc' := 29) (lv' := [(0, .ref 9), (1, .int 3), (2, .int (xs 2)), (3, .int 1)]) (st' := []) (w' := (shA, (mxI IA 4 3 (xs 2)), JA, QA)) (fun n => rfl) ?_
  refine mxRn.g2 6 0 (pc' := 37) (lv' := [(0, .ref 9), (1, .int 3), (2, .int (xs 2)), (3, .int 1)]) (st' := [.int 1]) (w' := (shA, (mxI (mxI IA 4 3 (xs 2)) 27 3 (xs 2)), JA, QA)) (fun n => rfl) ?_
  exact mxRn.ret 1 (fun n => rfl)
set_option maxRecDepth 1000000 in
set_option maxHeartbeats 4000000 in
theorem p1_c4v3s (xs : Nat → Int32) (h_1 : xs 1 = 3) (h_2 : 0 ≤ (xs 2).toInt ∧ (xs 2).toInt ≤ 99) : mxOk 6 xs 33 [(0, .retAddr 2), (1, .ref 0), (2, .ref 9), (3, .int 0)] [.int 4] (shA, IA, JA, QA) := by
  refine mxOk.g2 6 0 (pc' := 243) (lv' := [(0, .retAddr 2), (1, .ref 0), (2, .ref 9), (3, .int 0)]) (st' := [.int 1, .retAddr 2, .ref 0]) (w' := (shA, IA, JA, QA)) (fun n => rfl) ?_
  refine mxOk.g2 1 0 (pc' := 244) (lv' := [(0, .retAddr 2), (1, .ref 0), (2, .ref 9), (3, .int 0)]) (st' := [.int (xs 1), .ref 0]) (w' := (shA, IA, JA, QA)) (fun n => rfl) ?_
  rw [h_1]
  refine mxOk.c2 6 0 (z := 59) (lz := [(0, .ref 0), (1, .int 3), (2, .int (xs 2))]) (w1 := (shA, IA, JA, QA)) (pc' := 252) (lv' := [(0, .retAddr 2), (1, .ref 0), (2, .ref 9), (3, .int 0)]) (r := []) (fun n => rfl) (p1_c4v3s_z1 xs h_1 h_2) ?_
  show mxOk 6 xs 252 [(0, .retAddr 2), (1, .ref 0), (2, .ref 9), (3, .int 0)] [.int 1] (shA, (mxI IA 4 3 (xs 2)), JA, QA)
  refine mxOk.g2 6 0 (pc' := 258) (lv' := [(0, .retAddr 2), (1, .ref 0), (2, .ref 9), (3, .int 0)]) (st' := [.int (xs 1), .ref 9, .int 1]) (w' := (shA, (mxI IA 4 3 (xs 2)), JA, QA)) (fun n => rfl) ?_
  rw [h_1]
  refine mxOk.c2 6 0 (z := 122) (lz := [(0, .ref 9), (1, .int 3), (2, .int (xs 2))]) (w1 := (shA, (mxI IA 4 3 (xs 2)), JA, QA)) (pc' := 266) (lv' := [(0, .retAddr 2), (1, .ref 0), (2, .ref 9), (3, .int 0)]) (r := [.int 1]) (fun n => rfl) (p1_c4v3s_z2 xs h_1 h_2) ?_
  show mxOk 6 xs 266 [(0, .retAddr 2), (1, .ref 0), (2, .ref 9), (3, .int 0)] [.int 1, .int 1] (shA, (mxI (mxI IA 4 3 (xs 2)) 27 3 (xs 2)), JA, QA)
  refine mxOk.g2 6 0 (pc' := 21) (lv' := [(0, .retAddr 2), (1, .ref 0), (2, .ref 9), (3, .int 6)]) (st' := [.int 6, .int 6]) (w' := (shA, (mxI (mxI IA 4 3 (xs 2)) 27 3 (xs 2)), JA, QA)) (fun n => rfl) ?_
  exact mxOk.ret 5 (w' := (shA, (mxI (mxI IA 4 3 (xs 2)) 27 3 (xs 2)), JA, QA)) (fun n => rfl) (show shA.length ≤ 600000 from Nat.le_of_ble_eq_true rfl) (show (shA.map (fun q => q.2)).sum ≤ 7302250 from Nat.le_of_ble_eq_true rfl)
set_option maxRecDepth 1000000 in
set_option maxHeartbeats 4000000 in
theorem p1_c4v4b_z1 (xs : Nat → Int32) (h_1 : xs 1 = 4) (h_2 : (xs 2).toInt < 0) : mxRn 59 0 [(0, .ref 0), (1, .int 4), (2, .int (xs 2))] [] (shA, IA, JA, QA) (some (.int (-1)), (shA, IA, JA, QA)) := by
  refine mxRn.g2 6 0 (pc' := 11) (lv' := [(0, .ref 0), (1, .int 4), (2, .int (xs 2))]) (st' := [.int (xs 2)]) (w' := (shA, IA, JA, QA)) (fun n => rfl) ?_
  refine mxRn.it2 1 0 (bb := Op.ifCond.holds .lt (xs 2)) (pc' := 20) (lv' := [(0, .ref 0), (1, .int 4), (2, .int (xs 2))]) (st' := []) (w' := (shA, IA, JA, QA)) (X := fun nf => mxev (nf + 0) 59 14 [(0, .ref 0), (1, .int 4), (2, .int (xs 2))] [] (shA, IA, JA, QA)) (fun n => rfl) (hd_lt_t (by omega)) ?_
  exact mxRn.ret 2 (fun n => rfl)
set_option maxRecDepth 1000000 in
set_option maxHeartbeats 4000000 in
theorem p1_c4v4b_z3 (xs : Nat → Int32) (h_1 : xs 1 = 4) (h_2 : (xs 2).toInt < 0) : mxRn 81 0 [(0, .int 4), (1, .int 0), (2, .int 6)] [] (shA, IA, JA, QA) (some (.int 1), (shA, IA, JA, QA)) := by
  refine mxRn.g2 6 0 (pc' := 10) (lv' := [(0, .int 4), (1, .int 0), (2, .int 6)]) (st' := []) (w' := (shA, IA, JA, QA)) (fun n => rfl) ?_
  exact mxRn.ret 3 (fun n => rfl)
set_option maxRecDepth 1000000 in
set_option maxHeartbeats 4000000 in
theorem p1_c4v4b_z4 (xs : Nat → Int32) (h_1 : xs 1 = 4) (h_2 : (xs 2).toInt < 0) : mxRn 81 0 [(0, .int (xs 2)), (1, .int 0), (2, .int 99)] [] (shA, IA, JA, QA) (some (.int 0), (shA, IA, JA, QA)) := by
  refine mxRn.it2 3 0 (bb := Op.if_icmp.holds .lt (xs 2) (0 : Int32)) (pc' := 14) (lv' := [(0, .int (xs 2)), (1, .int 0), (2, .int 99)]) (st' := []) (w' := (shA, IA, JA, QA)) (X := fun nf => mxev (nf + 0) 81 5 [(0, .int (xs 2)), (1, .int 0), (2, .int 99)] [] (shA, IA, JA, QA)) (fun n => rfl) (hc_lt_t 0 rfl (by omega)) ?_
  exact mxRn.ret 2 (fun n => rfl)
set_option maxRecDepth 1000000 in
set_option maxHeartbeats 4000000 in
theorem p1_c4v4b_z2 (xs : Nat → Int32) (h_1 : xs 1 = 4) (h_2 : (xs 2).toInt < 0) : mxRn 122 0 [(0, .ref 9), (1, .int 4), (2, .int (xs 2))] [] (shA, IA, JA, QA) (some (.int (-1)), (shA, IA, JA, QA)) := by
  refine mxRn.c2 4 0 (z := 81) (lz := [(0, .int 4), (1, .int 0), (2, .int 6)]) (w1 := (shA, IA, JA, QA)) (pc' := 7) (lv' := [(0, .ref 9), (1, .int 4), (2, .int (xs 2))]) (r := []) (fun n => rfl) (p1_c4v4b_z3 xs h_1 h_2) ?_
  show mxRn 122 7 [(0, .ref 9), (1, .int 4), (2, .int (xs 2))] [.int 1] (shA, IA, JA, QA) _
  refine mxRn.c2 5 0 (z := 81) (lz := [(0, .int (xs 2)), (1, .int 0), (2, .int 99)]) (w1 := (shA, IA, JA, QA)) (pc' := 17) (lv' := [(0, .ref 9), (1, .int 4), (2, .int (xs 2))]) (r := []) (fun n => rfl) (p1_c4v4b_z4 xs h_1 h_2) ?_
  show mxRn 122 17 [(0, .ref 9), (1, .int 4), (2, .int (xs 2))] [.int 0] (shA, IA, JA, QA) _
  exact mxRn.ret 3 (fun n => rfl)
set_option maxRecDepth 1000000 in
set_option maxHeartbeats 4000000 in
theorem p1_c4v4b (xs : Nat → Int32) (h_1 : xs 1 = 4) (h_2 : (xs 2).toInt < 0) : mxOk 6 xs 33 [(0, .retAddr 2), (1, .ref 0), (2, .ref 9), (3, .int 0)] [.int 4] (shA, IA, JA, QA) := by
  refine mxOk.g2 6 0 (pc' := 243) (lv' := [(0, .retAddr 2), (1, .ref 0), (2, .ref 9), (3, .int 0)]) (st' := [.int 1, .retAddr 2, .ref 0]) (w' := (shA, IA, JA, QA)) (fun n => rfl) ?_
  refine mxOk.g2 1 0 (pc' := 244) (lv' := [(0, .retAddr 2), (1, .ref 0), (2, .ref 9), (3, .int 0)]) (st' := [.int (xs 1), .ref 0]) (w' := (shA, IA, JA, QA)) (fun n => rfl) ?_
  rw [h_1]
  refine mxOk.c2 6 0 (z := 59) (lz := [(0, .ref 0), (1, .int 4), (2, .int (xs 2))]) (w1 := (shA, IA, JA, QA)) (pc' := 252) (lv' := [(0, .retAddr 2), (1, .ref 0), (2, .ref 9), (3, .int 0)]) (r := []) (fun n => rfl) (p1_c4v4b_z1 xs h_1 h_2) ?_
  show mxOk 6 xs 252 [(0, .retAddr 2), (1, .ref 0), (2, .ref 9), (3, .int 0)] [.int (-1)] (shA, IA, JA, QA)
  refine mxOk.g2 6 0 (pc' := 258) (lv' := [(0, .retAddr 2), (1, .ref 0), (2, .ref 9), (3, .int 0)]) (st' := [.int (xs 1), .ref 9, .int (-1)]) (w' := (shA, IA, JA, QA)) (fun n => rfl) ?_
  rw [h_1]
  refine mxOk.c2 6 0 (z := 122) (lz := [(0, .ref 9), (1, .int 4), (2, .int (xs 2))]) (w1 := (shA, IA, JA, QA)) (pc' := 266) (lv' := [(0, .retAddr 2), (1, .ref 0), (2, .ref 9), (3, .int 0)]) (r := [.int (-1)]) (fun n => rfl) (p1_c4v4b_z2 xs h_1 h_2) ?_
  show mxOk 6 xs 266 [(0, .retAddr 2), (1, .ref 0), (2, .ref 9), (3, .int 0)] [.int (-1), .int (-1)] (shA, IA, JA, QA)
  refine mxOk.g2 6 0 (pc' := 21) (lv' := [(0, .retAddr 2), (1, .ref 0), (2, .ref 9), (3, .int 6)]) (st' := [.int 6, .int 6]) (w' := (shA, IA, JA, QA)) (fun n => rfl) ?_
  exact mxOk.ret 5 (w' := (shA, IA, JA, QA)) (fun n => rfl) (show shA.length ≤ 600000 from Nat.le_of_ble_eq_true rfl) (show (shA.map (fun q => q.2)).sum ≤ 7302250 from Nat.le_of_ble_eq_true rfl)
set_option maxRecDepth 1000000 in
set_option maxHeartbeats 4000000 in
theorem p1_c4v4a_z1 (xs : Nat → Int32) (h_1 : xs 1 = 4) (h_2 : 99 < (xs 2).toInt) : mxRn 59 0 [(0, .ref 0), (1, .int 4), (2, .int (xs 2))] [] (shA, IA, JA, QA) (some (.int (-1)), (shA, IA, JA, QA)) := by
  refine mxRn.g2 6 0 (pc' := 11) (lv' := [(0, .ref 0), (1, .int 4), (2, .int (xs 2))]) (st' := [.int (xs 2)]) (w' := (shA, IA, JA, QA)) (fun n => rfl) ?_
  refine mxRn.if2 1 0 (bb := Op.ifCond.holds .lt (xs 2)) (pc' := 14) (lv' := [(0, .ref 0), (1, .int 4), (2, .int (xs 2))]) (st' := []) (w' := (shA, IA, JA, QA)) (X := fun nf => mxev (nf + 0) 59 20 [(0, .ref 0), (1, .int 4), (2, .int (xs 2))] [] (shA, IA, JA, QA)) (fun n => rfl) (hd_lt_f (by omega)) ?_
  refine mxRn.if2 3 0 (bb := Op.if_icmp.holds .le (xs 2) (99 : Int32)) (pc' := 20) (lv' := [(0, .ref 0), (1, .int 4), (2, .int (xs 2))]) (st' := []) (w' := (shA, IA, JA, QA)) (X := fun nf => mxev (nf + 0) 59 22 [(0, .ref 0), (1, .int 4), (2, .int (xs 2))] [] (shA, IA, JA, QA)) (fun n => rfl) (hc_le_f 99 rfl (by omega)) ?_
  exact mxRn.ret 2 (fun n => rfl)
set_option maxRecDepth 1000000 in
set_option maxHeartbeats 4000000 in
theorem p1_c4v4a_z3 (xs : Nat → Int32) (h_1 : xs 1 = 4) (h_2 : 99 < (xs 2).toInt) : mxRn 81 0 [(0, .int 4), (1, .int 0), (2, .int 6)] [] (shA, IA, JA, QA) (some (.int 1), (shA, IA, JA, QA)) := by
  refine mxRn.g2 6 0 (pc' := 10) (lv' := [(0, .int 4), (1, .int 0), (2, .int 6)]) (st' := []) (w' := (shA, IA, JA, QA)) (fun n => rfl) ?_
  exact mxRn.ret 3 (fun n => rfl)
set_option maxRecDepth 1000000 in
set_option maxHeartbeats 4000000 in
theorem p1_c4v4a_z4 (xs : Nat → Int32) (h_1 : xs 1 = 4) (h_2 : 99 < (xs 2).toInt) : mxRn 81 0 [(0, .int (xs 2)), (1, .int 0), (2, .int 99)] [] (shA, IA, JA, QA) (some (.int 0), (shA, IA, JA, QA)) := by
  refine mxRn.if2 3 0 (bb := Op.if_icmp.holds .lt (xs 2) (0 : Int32)) (pc' := 5) (lv' := [(0, .int (xs 2)), (1, .int 0), (2, .int 99)]) (st' := []) (w' := (shA, IA, JA, QA)) (X := fun nf => mxev (nf + 0) 81 14 [(0, .int (xs 2)), (1, .int 0), (2, .int 99)] [] (shA, IA, JA, QA)) (fun n => rfl) (hc_lt_f 0 rfl (by omega)) ?_
  refine mxRn.it2 3 0 (bb := Op.if_icmp.holds .gt (xs 2) (99 : Int32)) (pc' := 14) (lv' := [(0, .int (xs 2)), (1, .int 0), (2, .int 99)]) (st' := []) (w' := (shA, IA, JA, QA)) (X := fun nf => mxev (nf + 0) 81 10 [(0, .int (xs 2)), (1, .int 0), (2, .int 99)] [] (shA, IA, JA, QA)) (fun n => rfl) (hc_gt_t 99 rfl (by omega)) ?_
  exact mxRn.ret 2 (fun n => rfl)
set_option maxRecDepth 1000000 in
set_option maxHeartbeats 4000000 in
theorem p1_c4v4a_z2 (xs : Nat → Int32) (h_1 : xs 1 = 4) (h_2 : 99 < (xs 2).toInt) : mxRn 122 0 [(0, .ref 9), (1, .int 4), (2, .int (xs 2))] [] (shA, IA, JA, QA) (some (.int (-1)), (shA, IA, JA, QA)) := by
  refine mxRn.c2 4 0 (z := 81) (lz := [(0, .int 4), (1, .int 0), (2, .int 6)]) (w1 := (shA, IA, JA, QA)) (pc' := 7) (lv' := [(0, .ref 9), (1, .int 4), (2, .int (xs 2))]) (r := []) (fun n => rfl) (p1_c4v4a_z3 xs h_1 h_2) ?_
  show mxRn 122 7 [(0, .ref 9), (1, .int 4), (2, .int (xs 2))] [.int 1] (shA, IA, JA, QA) _
  refine mxRn.c2 5 0 (z := 81) (lz := [(0, .int (xs 2)), (1, .int 0), (2, .int 99)]) (w1 := (shA, IA, JA, QA)) (pc' := 17) (lv' := [(0, .ref 9), (1, .int 4), (2, .int (xs 2))]) (r := []) (fun n => rfl) (p1_c4v4a_z4 xs h_1 h_2) ?_
  show mxRn 122 17 [(0, .ref 9), (1, .int 4), (2, .int (xs 2))] [.int 0] (shA, IA, JA, QA) _
  exact mxRn.ret 3 (fun n => rfl)
set_option maxRecDepth 1000000 in
set_option maxHeartbeats 4000000 in
theorem p1_c4v4a (xs : Nat → Int32) (h_1 : xs 1 = 4) (h_2 : 99 < (xs 2).toInt) : mxOk 6 xs 33 [(0, .retAddr 2), (1, .ref 0), (2, .ref 9), (3, .int 0)] [.int 4] (shA, IA, JA, QA) := by
  refine mxOk.g2 6 0 (pc' := 243) (lv' := [(0, .retAddr 2), (1, .ref 0), (2, .ref 9), (3, .int 0)]) (st' := [.int 1, .retAddr 2, .ref 0]) (w' := (shA, IA, JA, QA)) (fun n => rfl) ?_
  refine mxOk.g2 1 0 (pc' := 244) (lv' := [(0, .retAddr 2), (1, .ref 0), (2, .ref 9), (3, .int 0)]) (st' := [.int (xs 1), .ref 0]) (w' := (shA, IA, JA, QA)) (fun n => rfl) ?_
  rw [h_1]
  refine mxOk.c2 6 0 (z := 59) (lz := [(0, .ref 0), (1, .int 4), (2, .int (xs 2))]) (w1 := (shA, IA, JA, QA)) (pc' := 252) (lv' := [(0, .retAddr 2), (1, .ref 0), (2, .ref 9), (3, .int 0)]) (r := []) (fun n => rfl) (p1_c4v4a_z1 xs h_1 h_2) ?_
  show mxOk 6 xs 252 [(0, .retAddr 2), (1, .ref 0), (2, .ref 9), (3, .int 0)] [.int (-1)] (shA, IA, JA, QA)
  refine mxOk.g2 6 0 (pc' := 258) (lv' := [(0, .retAddr 2), (1, .ref 0), (2, .ref 9), (3, .int 0)]) (st' := [.int (xs 1), .ref 9, .int (-1)]) (w' := (shA, IA, JA, QA)) (fun n => rfl) ?_
  rw [h_1]
  refine mxOk.c2 6 0 (z := 122) (lz := [(0, .ref 9), (1, .int 4), (2, .int (xs 2))]) (w1 := (shA, IA, JA, QA)) (pc' := 266) (lv' := [(0, .retAddr 2), (1, .ref 0), (2, .ref 9), (3, .int 0)]) (r := [.int (-1)]) (fun n => rfl) (p1_c4v4a_z2 xs h_1 h_2) ?_
  show mxOk 6 xs 266 [(0, .retAddr 2), (1, .ref 0), (2, .ref 9), (3, .int 0)] [.int (-1), .int (-1)] (shA, IA, JA, QA)
  refine mxOk.g2 6 0 (pc' := 21) (lv' := [(0, .retAddr 2), (1, .ref 0), (2, .ref 9), (3, .int 6)]) (st' := [.int 6, .int 6]) (w' := (shA, IA, JA, QA)) (fun n => rfl) ?_
  exact mxOk.ret 5 (w' := (shA, IA, JA, QA)) (fun n => rfl) (show shA.length ≤ 600000 from Nat.le_of_ble_eq_true rfl) (show (shA.map (fun q => q.2)).sum ≤ 7302250 from Nat.le_of_ble_eq_true rfl)
