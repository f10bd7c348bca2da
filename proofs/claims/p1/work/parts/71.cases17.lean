set_option maxRecDepth 1000000 in
set_option maxHeartbeats 4000000 in
theorem p1_c12la_z2 (xs : Nat → Int32) (h_1 : 0 ≤ (xs 1).toInt ∧ (xs 1).toInt ≤ 127) (h_2 : 10 < (xs 2).toInt) : mxRn 71 0 [(0, .int (xs 1))] [] (shA, IA, JA, QA) (some (.int 1), (shA, IA, JA, QA)) := by
  refine mxRn.if2 2 0 (bb := Op.ifCond.holds .lt (xs 1)) (pc' := 4) (lv' := [(0, .int (xs 1))]) (st' := []) (w' := (shA, IA, JA, QA)) (X := fun nf => mxev (nf + 0) 71 15 [(0, .int (xs 1))] [] (shA, IA, JA, QA)) (fun n => rfl) (hd_lt_f (by omega)) ?_
  refine mxRn.if2 3 0 (bb := Op.if_icmp.holds .ge (xs 1) (128 : Int32)) (pc' := 11) (lv' := [(0, .int (xs 1))]) (st' := []) (w' := (shA, IA, JA, QA)) (X := fun nf => mxev (nf + 0) 71 15 [(0, .int (xs 1))] [] (shA, IA, JA, QA)) (fun n => rfl) (hc_ge_f 128 rfl (by omega)) ?_
  exact mxRn.ret 3 (fun n => rfl)
set_option maxRecDepth 1000000 in
set_option maxHeartbeats 4000000 in
theorem p1_c12la_z3 (xs : Nat → Int32) (h_1 : 0 ≤ (xs 1).toInt ∧ (xs 1).toInt ≤ 127) (h_2 : 10 < (xs 2).toInt) : mxRn 72 0 [(0, .int (xs 2)), (1, .int (xs 3))] [] (shA, IA, JA, QA) (some (.int 0), (shA, IA, JA, QA)) := by
  refine mxRn.if2 3 0 (bb := Op.if_icmp.holds .lt (xs 2) (1 : Int32)) (pc' := 5) (lv' := [(0, .int (xs 2)), (1, .int (xs 3))]) (st' := []) (w' := (shA, IA, JA, QA)) (X := fun nf => mxev (nf + 0) 72 26 [(0, .int (xs 2)), (1, .int (xs 3))] [] (shA, IA, JA, QA)) (fun n => rfl) (hc_lt_f 1 rfl (by omega)) ?_
  refine mxRn.it2 3 0 (bb := Op.if_icmp.holds .gt (xs 2) (10 : Int32)) (pc' := 26) (lv' := [(0, .int (xs 2)), (1, .int (xs 3))]) (st' := []) (w' := (shA, IA, JA, QA)) (X := fun nf => mxev (nf + 0) 72 11 [(0, .int (xs 2)), (1, .int (xs 3))] [] (shA, IA, JA, QA)) (fun n => rfl) (hc_gt_t 10 rfl (by omega)) ?_
  exact mxRn.ret 2 (fun n => rfl)
set_option maxRecDepth 1000000 in
set_option maxHeartbeats 4000000 in
theorem p1_c12la_z1 (xs : Nat → Int32) (h_1 : 0 ≤ (xs 1).toInt ∧ (xs 1).toInt ≤ 127) (h_2 : 10 < (xs 2).toInt) : mxRn 69 0 [(0, .ref 0), (1, .int (xs 1)), (2, .int (xs 2)), (3, .int (xs 3))] [] (shA, IA, JA, QA) (some (.int (-1)), (shA, IA, JA, QA)) := by
  refine mxRn.c2 2 0 (z := 71) (lz := [(0, .int (xs 1))]) (w1 := (shA, IA, JA, QA)) (pc' := 4) (lv' := [(0, .ref 0), (1, .int (xs 1)), (2, .int (xs 2)), (3, .int (xs 3))]) (r := []) (fun n => rfl) (p1_c12la_z2 xs h_1 h_2) ?_
  show mxRn 69 4 [(0, .ref 0), (1, .int (xs 1)), (2, .int (xs 2)), (3, .int (xs 3))] [.int 1] (shA, IA, JA, QA) _
  refine mxRn.c2 4 0 (z := 72) (lz := [(0, .int (xs 2)), (1, .int (xs 3))]) (w1 := (shA, IA, JA, QA)) (pc' := 12) (lv' := [(0, .ref 0), (1, .int (xs 1)), (2, .int (xs 2)), (3, .int (xs 3))]) (r := []) (fun n => rfl) (p1_c12la_z3 xs h_1 h_2) ?_
  show mxRn 69 12 [(0, .ref 0), (1, .int (xs 1)), (2, .int (xs 2)), (3, .int (xs 3))] [.int 0] (shA, IA, JA, QA) _
  exact mxRn.ret 3 (fun n => rfl)
set_option maxRecDepth 1000000 in
set_option maxHeartbeats 4000000 in
theorem p1_c12la_z5 (xs : Nat → Int32) (h_1 : 0 ≤ (xs 1).toInt ∧ (xs 1).toInt ≤ 127) (h_2 : 10 < (xs 2).toInt) : mxRn 81 0 [(0, .int (xs 1)), (1, .int 0), (2, .int 127)] [] (shA, IA, JA, QA) (some (.int 1), (shA, IA, JA, QA)) := by
  refine mxRn.if2 3 0 (bb := Op.if_icmp.holds .lt (xs 1) (0 : Int32)) (pc' := 5) (lv' := [(0, .int (xs 1)), (1, .int 0), (2, .int 127)]) (st' := []) (w' := (shA, IA, JA, QA)) (X := fun nf => mxev (nf + 0) 81 14 [(0, .int (xs 1)), (1, .int 0), (2, .int 127)] [] (shA, IA, JA, QA)) (fun n => rfl) (hc_lt_f 0 rfl (by omega)) ?_
  refine mxRn.if2 3 0 (bb := Op.if_icmp.holds .gt (xs 1) (127 : Int32)) (pc' := 10) (lv' := [(0, .int (xs 1)), (1, .int 0), (2, .int 127)]) (st' := []) (w' := (shA, IA, JA, QA)) (X := fun nf => mxev (nf + 0) 81 14 [(0, .int (xs 1)), (1, .int 0), (2, .int 127)] [] (shA, IA, JA, QA)) (fun n => rfl) (hc_gt_f 127 rfl (by omega)) ?_
  exact mxRn.ret 3 (fun n => rfl)
set_option maxRecDepth 1000000 in
set_option maxHeartbeats 4000000 in
theorem p1_c12la_z6 (xs : Nat → Int32) (h_1 : 0 ≤ (xs 1).toInt ∧ (xs 1).toInt ≤ 127) (h_2 : 10 < (xs 2).toInt) : mxRn 81 0 [(0, .int (xs 2)), (1, .int 1), (2, .int 10)] [] (shA, IA, JA, QA) (some (.int 0), (shA, IA, JA, QA)) := by
  refine mxRn.if2 3 0 (bb := Op.if_icmp.holds .lt (xs 2) (1 : Int32)) (pc' := 5) (lv' := [(0, .int (xs 2)), (1, .int 1), (2, .int 10)]) (st' := []) (w' := (shA, IA, JA, QA)) (X := fun nf => mxev (nf + 0) 81 14 [(0, .int (xs 2)), (1, .int 1), (2, .int 10)] [] (shA, IA, JA, QA)) (fun n => rfl) (hc_lt_f 1 rfl (by omega)) ?_
  refine mxRn.it2 3 0 (bb := Op.if_icmp.holds .gt (xs 2) (10 : Int32)) (pc' := 14) (lv' := [(0, .int (xs 2)), (1, .int 1), (2, .int 10)]) (st' := []) (w' := (shA, IA, JA, QA)) (X := fun nf => mxev (nf + 0) 81 10 [(0, .int (xs 2)), (1, .int 1), (2, .int 10)] [] (shA, IA, JA, QA)) (fun n => rfl) (hc_gt_t 10 rfl (by omega)) ?_
  exact mxRn.ret 2 (fun n => rfl)
set_option maxRecDepth 1000000 in
set_option maxHeartbeats 4000000 in
theorem p1_c12la_z4 (xs : Nat → Int32) (h_1 : 0 ≤ (xs 1).toInt ∧ (xs 1).toInt ≤ 127) (h_2 : 10 < (xs 2).toInt) : mxRn 119 0 [(0, .ref 9), (1, .int (xs 1)), (2, .int (xs 2)), (3, .int (xs 3))] [] (shA, IA, JA, QA) (some (.int (-1)), (shA, IA, JA, QA)) := by
  refine mxRn.c2 4 0 (z := 81) (lz := [(0, .int (xs 1)), (1, .int 0), (2, .int 127)]) (w1 := (shA, IA, JA, QA)) (pc' := 7) (lv' := [(0, .ref 9), (1, .int (xs 1)), (2, .int (xs 2)), (3, .int (xs 3))]) (r := []) (fun n => rfl) (p1_c12la_z5 xs h_1 h_2) ?_
  show mxRn 119 7 [(0, .ref 9), (1, .int (xs 1)), (2, .int (xs 2)), (3, .int (xs 3))] [.int 1] (shA, IA, JA, QA) _
  refine mxRn.c2 5 0 (z := 81) (lz := [(0, .int (xs 2)), (1, .int 1), (2, .int 10)]) (w1 := (shA, IA, JA, QA)) (pc' := 17) (lv' := [(0, .ref 9), (1, .int (xs 1)), (2, .int (xs 2)), (3, .int (xs 3))]) (r := []) (fun n => rfl) (p1_c12la_z6 xs h_1 h_2) ?_
  show mxRn 119 17 [(0, .ref 9), (1, .int (xs 1)), (2, .int (xs 2)), (3, .int (xs 3))] [.int 0] (shA, IA, JA, QA) _
  exact mxRn.ret 3 (fun n => rfl)
set_option maxRecDepth 1000000 in
set_option maxHeartbeats 4000000 in
theorem p1_c12la (xs : Nat → Int32) (h_1 : 0 ≤ (xs 1).toInt ∧ (xs 1).toInt ≤ 127) (h_2 : 10 < (xs 2).toInt) : mxOk 6 xs 33 [(0, .retAddr 2), (1, .ref 0), (2, .ref 9), (3, .int 0)] [.int 12] (shA, IA, JA, QA) := by
  refine mxOk.g2 6 0 (pc' := 487) (lv' := [(0, .retAddr 2), (1, .ref 0), (2, .ref 9), (3, .int 0)]) (st' := [.int 1, .retAddr 2, .ref 0]) (w' := (shA, IA, JA, QA)) (fun n => rfl) ?_
  refine mxOk.g2 6 0 (pc' := 493) (lv' := [(0, .retAddr 2), (1, .ref 0), (2, .ref 9), (3, .int 0)]) (st' := [.int (xs 2), .int (xs 1), .ref 0]) (w' := (shA, IA, JA, QA)) (fun n => rfl) ?_
  refine mxOk.c2 6 0 (z := 69) (lz := [(0, .ref 0), (1, .int (xs 1)), (2, .int (xs 2)), (3, .int (xs 3))]) (w1 := (shA, IA, JA, QA)) (pc' := 501) (lv' := [(0, .retAddr 2), (1, .ref 0), (2, .ref 9), (3, .int 0)]) (r := []) (fun n => rfl) (p1_c12la_z1 xs h_1 h_2) ?_
  show mxOk 6 xs 501 [(0, .retAddr 2), (1, .ref 0), (2, .ref 9), (3, .int 0)] [.int (-1)] (shA, IA, JA, QA)
  refine mxOk.g2 6 0 (pc' := 507) (lv' := [(0, .retAddr 2), (1, .ref 0), (2, .ref 9), (3, .int 0)]) (st' := [.int (xs 1), .ref 9, .int (-1)]) (w' := (shA, IA, JA, QA)) (fun n => rfl) ?_
  refine mxOk.g2 6 0 (pc' := 513) (lv' := [(0, .retAddr 2), (1, .ref 0), (2, .ref 9), (3, .int 0)]) (st' := [.retAddr 2, .int (xs 2), .int (xs 1), .ref 9, .int (-1)]) (w' := (shA, IA, JA, QA)) (fun n => rfl) ?_
  refine mxOk.c2 5 0 (z := 119) (lz := [(0, .ref 9), (1, .int (xs 1)), (2, .int (xs 2)), (3, .int (xs 3))]) (w1 := (shA, IA, JA, QA)) (pc' := 520) (lv' := [(0, .retAddr 2), (1, .ref 0), (2, .ref 9), (3, .int 0)]) (r := [.int (-1)]) (fun n => rfl) (p1_c12la_z4 xs h_1 h_2) ?_
  show mxOk 6 xs 520 [(0, .retAddr 2), (1, .ref 0), (2, .ref 9), (3, .int 0)] [.int (-1), .int (-1)] (shA, IA, JA, QA)
  refine mxOk.g2 6 0 (pc' := 21) (lv' := [(0, .retAddr 2), (1, .ref 0), (2, .ref 9), (3, .int 6)]) (st' := [.int 6, .int 6]) (w' := (shA, IA, JA, QA)) (fun n => rfl) ?_
  exact mxOk.ret 5 (w' := (shA, IA, JA, QA)) (fun n => rfl) (show shA.length ≤ 600000 from Nat.le_of_ble_eq_true rfl) (show (shA.map (fun q => q.2)).sum ≤ 7302250 from Nat.le_of_ble_eq_true rfl)
set_option maxRecDepth 1000000 in
set_option maxHeartbeats 4000000 in
theorem p1_c12kb_z2 (xs : Nat → Int32) (h_1 : 0 ≤ (xs 1).toInt ∧ (xs 1).toInt ≤ 127) (h_2 : 1 ≤ (xs 2).toInt ∧ (xs 2).toInt ≤ 10) (h_3 : (xs 3).toInt < 1) : mxRn 71 0 [(0, .int (xs 1))] [] (shA, IA, JA, QA) (some (.int 1), (shA, IA, JA, QA)) := by
  refine mxRn.if2 2 0 (bb := Op.ifCond.holds .lt (xs 1)) (pc' := 4) (lv' := [(0, .int (xs 1))]) (st' := []) (w' := (shA, IA, JA, QA)) (X := fun nf => mxev (nf + 0) 71 15 [(0, .int (xs 1))] [] (shA, IA, JA, QA)) (fun n => rfl) (hd_lt_f (by omega)) ?_
  refine mxRn.if2 3 0 (bb := Op.if_icmp.holds .ge (xs 1) (128 : Int32)) (pc' := 11) (lv' := [(0, .int (xs 1))]) (st' := []) (w' := (shA, IA, JA, QA)) (X := fun nf => mxev (nf + 0) 71 15 [(0, .int (xs 1))] [] (shA, IA, JA, QA)) (fun n => rfl) (hc_ge_f 128 rfl (by omega)) ?_
  exact mxRn.ret 3 (fun n => rfl)
set_option maxRecDepth 1000000 in
set_option maxHeartbeats 4000000 in
theorem p1_c12kb_z3 (xs : Nat → Int32) (h_1 : 0 ≤ (xs 1).toInt ∧ (xs 1).toInt ≤ 127) (h_2 : 1 ≤ (xs 2).toInt ∧ (xs 2).toInt ≤ 10) (h_3 : (xs 3).toInt < 1) : mxRn 72 0 [(0, .int (xs 2)), (1, .int (xs 3))] [] (shA, IA, JA, QA) (some (.int 0), (shA, IA, JA, QA)) := by
  refine mxRn.if2 3 0 (bb := Op.if_icmp.holds .lt (xs 2) (1 : Int32)) (pc' := 5) (lv' := [(0, .int (xs 2)), (1, .int (xs 3))]) (st' := []) (w' := (shA, IA, JA, QA)) (X := fun nf => mxev (nf + 0) 72 26 [(0, .int (xs 2)), (1, .int (xs 3))] [] (shA, IA, JA, QA)) (fun n => rfl) (hc_lt_f 1 rfl (by omega)) ?_
  refine mxRn.if2 3 0 (bb := Op.if_icmp.holds .gt (xs 2) (10 : Int32)) (pc' := 11) (lv' := [(0, .int (xs 2)), (1, .int (xs 3))]) (st' := []) (w' := (shA, IA, JA, QA)) (X := fun nf => mxev (nf + 0) 72 26 [(0, .int (xs 2)), (1, .int (xs 3))] [] (shA, IA, JA, QA)) (fun n => rfl) (hc_gt_f 10 rfl (by omega)) ?_
  refine mxRn.it2 3 0 (bb := Op.if_icmp.holds .lt (xs 3) (1 : Int32)) (pc' := 26) (lv' := [(0, .int (xs 2)), (1, .int (xs 3))]) (st' := []) (w' := (shA, IA, JA, QA)) (X := fun nf => mxev (nf + 0) 72 16 [(0, .int (xs 2)), (1, .int (xs 3))] [] (shA, IA, JA, QA)) (fun n => rfl) (hc_lt_t 1 rfl (by omega)) ?_
  exact mxRn.ret 2 (fun n => rfl)
set_option maxRecDepth 1000000 in
set_option maxHeartbeats 4000000 in
theorem p1_c12kb_z1 (xs : Nat → Int32) (h_1 : 0 ≤ (xs 1).toInt ∧ (xs 1).toInt ≤ 127) (h_2 : 1 ≤ (xs 2).toInt ∧ (xs 2).toInt ≤ 10) (h_3 : (xs 3).toInt < 1) : mxRn 69 0 [(0, .ref 0), (1, .int (xs 1)), (2, .int (xs 2)), (3, .int (xs 3))] [] (shA, IA, JA, QA) (some (.int (-1)), (shA, IA, JA, QA)) := by
  refine mxRn.c2 2 0 (z := 71) (lz := [(0, .int (xs 1))]) (w1 := (shA, IA, JA, QA)) (pc' := 4) (lv' := [(0, .ref 0), (1, .int (xs 1)), (2, .int (xs 2)), (3, .int (xs 3))]) (r := []) (fun n => rfl) (p1_c12kb_z2 xs h_1 h_2 h_3) ?_
  show mxRn 69 4 [(0, .ref 0), (1, .int (xs 1)), (2, .int (xs 2)), (3, .int (xs 3))] [.int 1] (shA, IA, JA, QA) _
  refine mxRn.c2 4 0 (z := 72) (lz := [(0, .int (xs 2)), (1, .int (xs 3))]) (w1 := (shA, IA, JA, QA)) (pc' := 12) (lv' := [(0, .ref 0), (1, .int (xs 1)), (2, .int (xs 2)), (3, .int (xs 3))]) (r := []) (fun n => rfl) (p1_c12kb_z3 xs h_1 h_2 h_3) ?_
  show mxRn 69 12 [(0, .ref 0), (1, .int (xs 1)), (2, .int (xs 2)), (3, .int (xs 3))] [.int 0] (shA, IA, JA, QA) _
  exact mxRn.ret 3 (fun n => rfl)
set_option maxRecDepth 1000000 in
set_option maxHeartbeats 4000000 in
theorem p1_c12kb_z5 (xs : Nat → Int32) (h_1 : 0 ≤ (xs 1).toInt ∧ (xs 1).toInt ≤ 127) (h_2 : 1 ≤ (xs 2).toInt ∧ (xs 2).toInt ≤ 10) (h_3 : (xs 3).toInt < 1) : mxRn 81 0 [(0, .int (xs 1)), (1, .int 0), (2, .int 127)] [] (shA, IA, JA, QA) (some (.int 1), (shA, IA, JA, QA)) := by
  refine mxRn.if2 3 0 (bb := Op.if_icmp.holds .lt (xs 1) (0 : Int32)) (pc' := 5) (lv' := [(0, .int (xs 1)), (1, .int 0), (2, .int 127)]) (st' := []) (w' := (shA, IA, JA, QA)) (X := fun nf => mxev (nf + 0) 81 14 [(0, .int (xs 1)), (1, .int 0), (2, .int 127)] [] (shA, IA, JA, QA)) (fun n => rfl) (hc_lt_f 0 rfl (by omega)) ?_
  refine mxRn.if2 3 0 (bb := Op.if_icmp.holds .gt (xs 1) (127 : Int32)) (pc' := 10) (lv' := [(0, .int (xs 1)), (1, .int 0), (2, .int 127)]) (st' := []) (w' := (shA, IA, JA, QA)) (X := fun nf => mxev (nf + 0) 81 14 [(0, .int (xs 1)), (1, .int 0), (2, .int 127)] [] (shA, IA, JA, QA)) (fun n => rfl) (hc_gt_f 127 rfl (by omega)) ?_
  exact mxRn.ret 3 (fun n => rfl)
set_option maxRecDepth 1000000 in
set_option maxHeartbeats 4000000 in
theorem p1_c12kb_z6 (xs : Nat → Int32) (h_1 : 0 ≤ (xs 1).toInt ∧ (xs 1).toInt ≤ 127) (h_2 : 1 ≤ (xs 2).toInt ∧ (xs 2).toInt ≤ 10) (h_3 : (xs 3).toInt < 1) : mxRn 81 0 [(0, .int (xs 2)), (1, .int 1), (2, .int 10)] [] (shA, IA, JA, QA) (some (.int 1), (shA, IA, JA, QA)) := by
  refine mxRn.if2 3 0 (bb := Op.if_icmp.holds .lt (xs 2) (1 : Int32)) (pc' := 5) (lv' := [(0, .int (xs 2)), (1, .int 1), (2, .int 10)]) (st' := []) (w' := (shA, IA, JA, QA)) (X := fun nf => mxev (nf + 0) 81 14 [(0, .int (xs 2)), (1, .int 1), (2, .int 10)] [] (shA, IA, JA, QA)) (fun n => rfl) (hc_lt_f 1 rfl (by omega)) ?_
  refine mxRn.if2 3 0 (bb := Op.if_icmp.holds .gt (xs 2) (10 : Int32)) (pc' := 10) (lv' := [(0, .int (xs 2)), (1, .int 1), (2, .int 10)]) (st' := []) (w' := (shA, IA, JA, QA)) (X := fun nf => mxev (nf + 0) 81 14 [(0, .int (xs 2)), (1, .int 1), (2, .int 10)] [] (shA, IA, JA, QA)) (fun n => rfl) (hc_gt_f 10 rfl (by omega)) ?_
  exact mxRn.ret 3 (fun n => rfl)
set_option maxRecDepth 1000000 in
set_option maxHeartbeats 4000000 in
theorem p1_c12kb_z7 (xs : Nat → Int32) (h_1 : 0 ≤ (xs 1).toInt ∧ (xs 1).toInt ≤ 127) (h_2 : 1 ≤ (xs 2).toInt ∧ (xs 2).toInt ≤ 10) (h_3 : (xs 3).toInt < 1) : mxRn 81 0 [(0, .int (xs 3)), (1, .int 1), (2, .int 7)] [] (shA, IA, JA, QA) (some (.int 0), (shA, IA, JA, QA)) := by
  refine mxRn.it2 3 0 (bb := Op.if_icmp.holds .lt (xs 3) (1 : Int32)) (pc' := 14) (lv' := [(0, .int (xs 3)), (1, .int 1), (2, .int 7)]) (st' := []) (w' := (shA, IA, JA, QA)) (X := fun nf => mxev (nf + 0) 81 5 [(0, .int (xs 3)), (1, .int 1), (2, .int 7)] [] (shA, IA, JA, QA)) (fun n => rfl) (hc_lt_t 1 rfl (by omega)) ?_
  exact mxRn.ret 2 (fun n => rfl)
set_option maxRecDepth 1000000 in
set_option maxHeartbeats 4000000 in
theorem p1_c12kb_z4 (xs : Nat → Int32) (h_1 : 0 ≤ (xs 1).toInt ∧ (xs 1).toInt ≤ 127) (h_2 : 1 ≤ (xs 2).toInt ∧ (xs 2).toInt ≤ 10) (h_3 : (xs 3).toInt < 1) : mxRn 119 0 [(0, .ref 9), (1, .int (xs 1)), (2, .int (xs 2)), (3, .int (xs 3))] [] (shA, IA, JA, QA) (some (.int (-1)), (shA, IA, JA, QA)) := by
  refine mxRn.c2 4 0 (z := 81) (lz := [(0, .int (xs 1)), (1, .int 0), (2, .int 127)]) (w1 := (shA, IA, JA, QA)) (pc' := 7) (lv' := [(0, .ref 9), (1, .int (xs 1)), (2, .int (xs 2)), (3, .int (xs 3))]) (r := []) (fun n => rfl) (p1_c12kb_z5 xs h_1 h_2 h_3) ?_
  show mxRn 119 7 [(0, .ref 9), (1, .int (xs 1)), (2, .int (xs 2)), (3, .int (xs 3))] [.int 1] (shA, IA, JA, QA) _
  refine mxRn.c2 5 0 (z := 81) (lz := [(0, .int (xs 2)), (1, .int 1), (2, .int 10)]) (w1 := (shA, IA, JA, QA)) (pc' := 17) (lv' := [(0, .ref 9), (1, .int (xs 1)), (2, .int (xs 2)), (3, .int (xs 3))]) (r := []) (fun n => rfl) (p1_c12kb_z6 xs h_1 h_2 h_3) ?_
  show mxRn 119 17 [(0, .ref 9), (1, .int (xs 1)), (2, .int (xs 2)), (3, .int (xs 3))] [.int 1] (shA, IA, JA, QA) _
  refine mxRn.c2 5 0 (z := 81) (lz := [(0, .int (xs 3)), (1, .int 1), (2, .int 7)]) (w1 := (shA, IA, JA, QA)) (pc' := 27) (lv' := [(0, .ref 9), (1, .int (xs 1)), (2, .int (xs 2)), (3, .int (xs 3))]) (r := []) (fun n => rfl) (p1_c12kb_z7 xs h_1 h_2 h_3) ?_
  show mxRn 119 27 [(0, .ref 9), (1, .int (xs 1)), (2, .int (xs 2)), (3, .int (xs 3))] [.int 0] (shA, IA, JA, QA) _
  exact mxRn.ret 3 (fun n => rfl)
set_option maxRecDepth 1000000 in
set_option maxHeartbeats 4000000 in
theorem p1_c12kb (xs : Nat → Int32) (h_1 : 0 ≤ (xs 1).toInt ∧ (xs 1).toInt ≤ 127) (h_2 : 1 ≤ (xs 2).toInt ∧ (xs 2).toInt ≤ 10) (h_3 : (xs 3).toInt < 1) : mxOk 6 xs 33 [(0, .retAddr 2), (1, .ref 0), (2, .ref 9), (3, .int 0)] [.int 12] (shA, IA, JA, QA) := by
  refine mxOk.g2 6 0 (pc' := 487) (lv' := [(0, .retAddr 2), (1, .ref 0), (2, .ref 9), (3, .int 0)]) (st' := [.int 1, .retAddr 2, .ref 0]) (w' := (shA, IA, JA, QA)) (fun n => rfl) ?_
  refine mxOk.g2 6 0 (pc' := 493) (lv' := [(0, .retAddr 2), (1, .ref 0), (2, .ref 9), (3, .int 0)]) (st' := [.int (xs 2), .int (xs 1), .ref 0]) (w' := (shA, IA, JA, QA)) (fun n => rfl) ?_
  refine mxOk.c2 6 0 (z := 69) (lz := [(0, .ref 0), (1, .int (xs 1)), (2, .int (xs 2)), (3, .int (xs 3))]) (w1 := (shA, IA, JA, QA)) (pc' := 501) (lv' := [(0, .retAddr 2), (1, .ref 0), (2, .ref 9), (3, .int 0)]) (r := []) (fun n => rfl) (p1_c12kb_z1 xs h_1 h_2 h_3) ?_
  show mxOk 6 xs 501 [(0, .retAddr 2), (1, .ref 0), (2, .ref 9), (3, .int 0)] [.int (-1)] (shA, IA, JA, QA)
  refine mxOk.g2 6 0 (pc' := 507) (lv' := [(0, .retAddr 2), (1, .ref 0), (2, .ref 9), (3, .int 0)]) (st' := [.int (xs 1), .ref 9, .int (-1)]) (w' := (shA, IA, JA, QA)) (fun n => rfl) ?_
  refine mxOk.g2 6 0 (pc' := 513) (lv' := [(0, .retAddr 2), (1, .ref 0), (2, .ref 9), (3, .int 0)]) (st' := [.retAddr 2, .int (xs 2), .int (xs 1), .ref 9, .int (-1)]) (w' := (shA, IA, JA, QA)) (fun n => rfl) ?_
  refine mxOk.c2 5 0 (z := 119) (lz := [(0, .ref 9), (1, .int (xs 1)), (2, .int (xs 2)), (3, .int (xs 3))]) (w1 := (shA, IA, JA, QA)) (pc' := 520) (lv' := [(0, .retAddr 2), (1, .ref 0), (2, .ref 9), (3, .int 0)]) (r := [.int (-1)]) (fun n => rfl) (p1_c12kb_z4 xs h_1 h_2 h_3) ?_
  show mxOk 6 xs 520 [(0, .retAddr 2), (1, .ref 0), (2, .ref 9), (3, .int 0)] [.int (-1), .int (-1)] (shA, IA, JA, QA)
  refine mxOk.g2 6 0 (pc' := 21) (lv' := [(0, .retAddr 2), (1, .ref 0), (2, .ref 9), (3, .int 6)]) (st' := [.int 6, .int 6]) (w' := (shA, IA, JA, QA)) (fun n => rfl) ?_
  exact mxOk.ret 5 (w' := (shA, IA, JA, QA)) (fun n => rfl) (show shA.length ≤ 600000 from Nat.le_of_ble_eq_true rfl) (show (shA.map (fun q => q.2)).sum ≤ 7302250 from Nat.le_of_ble_eq_true rfl)
set_option maxRecDepth 1000000 in
set_option maxHeartbeats 4000000 in
theorem p1_c12ka_z2 (xs : Nat → Int32) (h_1 : 0 ≤ (xs 1).toInt ∧ (xs 1).toInt ≤ 127) (h_2 : 1 ≤ (xs 2).toInt ∧ (xs 2).toInt ≤ 10) (h_3 : 7 < (xs 3).toInt) : mxRn 71 0 [(0, .int (xs 1))] [] (shA, IA, JA, QA) (some (.int 1), (shA, IA, JA, QA)) := by
  refine mxRn.if2 2 0 (bb := Op.ifCond.holds .lt (xs 1)) (pc' := 4) (lv' := [(0, .int (xs 1))]) (st' := []) (w' := (shA, IA, JA, QA)) (X := fun nf => mxev (nf + 0) 71 15 [(0, .int (xs 1))] [] (shA, IA, JA, QA)) (fun n => rfl) (hd_lt_f (by omega)) ?_
  refine mxRn.if2 3 0 (bb := Op.if_icmp.holds .ge (xs 1) (128 : Int32)) (pc' := 11) (lv' := [(0, .int (xs 1))]) (st' := []) (w' := (shA, IA, JA, QA)) (X := fun nf => mxev (nf + 0) 71 15 [(0, .int (xs 1))] [] (shA, IA, JA, QA)) (fun n => rfl) (hc_ge_f 128 rfl (by omega)) ?_
  exact mxRn.ret 3 (fun n => rfl)
set_option maxRecDepth 1000000 in
set_option maxHeartbeats 4000000 in
theorem p1_c12ka_z3 (xs : Nat → Int32) (h_1 : 0 ≤ (xs 1).toInt ∧ (xs 1).toInt ≤ 127) (h_2 : 1 ≤ (xs 2).toInt ∧ (xs 2).toInt ≤ 10) (h_3 : 7 < (xs 3).toInt) : mxRn 72 0 [(0, .int (xs 2)), (1, .int (xs 3))] [] (shA, IA, JA, QA) (some (.int 0), (shA, IA, JA, QA)) := by
  refine mxRn.if2 3 0 (bb := Op.if_icmp.holds .lt (xs 2) (1 : Int32)) (pc' := 5) (lv' := [(0, .int (xs 2)), (1, .int (xs 3))]) (st' := []) (w' := (shA, IA, JA, QA)) (X := fun nf => mxev (nf + 0) 72 26 [(0, .int (xs 2)), (1, .int (xs 3))] [] (shA, IA, JA, QA)) (fun n => rfl) (hc_lt_f 1 rfl (by omega)) ?_
  refine mxRn.if2 3 0 (bb := Op.if_icmp.holds .gt (xs 2) (10 : Int32)) (pc' := 11) (lv' := [(0, .int (xs 2)), (1, .int (xs 3))]) (st' := []) (w' := (shA, IA, JA, QA)) (X := fun nf => mxev (nf + 0) 72 26 [(0, .int (xs 2)), (1, .int (xs 3))] [] (shA, IA, JA, QA)) (fun n => rfl) (hc_gt_f 10 rfl (by omega)) ?_
  refine mxRn.if2 3 0 (bb := Op.if_icmp.holds .lt (xs 3) (1 : Int32)) (pc' := 16) (lv' := [(0, .int (xs 2)), (1, .int (xs 3))]) (st' := []) (w' := (shA, IA, JA, QA)) (X := fun nf => mxev (nf + 0) 72 26 [(0, .int (xs 2)), (1, .int (xs 3))] [] (shA, IA, JA, QA)) (fun n => rfl) (hc_lt_f 1 rfl (by omega)) ?_
  refine mxRn.it2 3 0 (bb := Op.if_icmp.holds .gt (xs 3) (7 : Int32)) (pc' := 26) (lv' := [(0, .int (xs 2)), (1, .int (xs 3))]) (st' := []) (w' := (shA, IA, JA, QA)) (X := fun nf => mxev (nf + 0) 72 22 [(0, .int (xs 2)), (1, .int (xs 3))] [] (shA, IA, JA, QA)) (fun n => rfl) (hc_gt_t 7 rfl (by omega)) ?_
  exact mxRn.ret 2 (fun n => rfl)
set_option maxRecDepth 1000000 in
set_option maxHeartbeats 4000000 in
theorem p1_c12ka_z1 (xs : Nat → Int32) (h_1 : 0 ≤ (xs 1).toInt ∧ (xs 1).toInt ≤ 127) (h_2 : 1 ≤ (xs 2).toInt ∧ (xs 2).toInt ≤ 10) (h_3 : 7 < (xs 3).toInt) : mxRn 69 0 [(0, .ref 0), (1, .int (xs 1)), (2, .int (xs 2)), (3, .int (xs 3))] [] (shA, IA, JA, QA) (some (.int (-1)), (shA, IA, JA, QA)) := by
  refine mxRn.c2 2 0 (z := 71) (lz := [(0, .int (xs 1))]) (w1 := (shA, IA, JA, QA)) (pc' := 4) (lv' := [(0, .ref 0), (1, .int (xs 1)), (2, .int (xs 2)), (3, .int (xs 3))]) (r := []) (fun n => rfl) (p1_c12ka_z2 xs h_1 h_2 h_3) ?_
  show mxRn 69 4 [(0, .ref 0), (1, .int (xs 1)), (2, .int (xs 2)), (3, .int (xs 3))] [.int 1] (shA, IA, JA, QA) _
  refine mxRn.c2 4 0 (z := 72) (lz := [(0, .int (xs 2)), (1, .int (xs 3))]) (w1 := (shA, IA, JA, QA)) (pc' := 12) (lv' := [(0, .ref 0), (1, .int (xs 1)), (2, .int (xs 2)), (3, .int (xs 3))]) (r := []) (fun n => rfl) (p1_c12ka_z3 xs h_1 h_2 h_3) ?_
  show mxRn 69 12 [(0, .ref 0), (1, .int (xs 1)), (2, .int (xs 2)), (3, .int (xs 3))] [.int 0] (shA, IA, JA, QA) _
  exact mxRn.ret 3 (fun n => rfl)
set_option maxRecDepth 1000000 in
set_option maxHeartbeats 4000000 in
theorem p1_c12ka_z5 (xs : Nat → Int32) (h_1 : 0 ≤ (xs 1).toInt ∧ (xs 1).toInt ≤ 127) (h_2 : 1 ≤ (xs 2).toInt ∧ (xs 2).toInt ≤ 10) (h_3 : 7 < (xs 3).toInt) : mxRn 81 0 [(0, .int (xs 1)), (1, .int 0), (2, .int 127)] [] (shA, IA, JA, QA) (some (.int 1), (shA, IA, JA, QA)) := by
  refine mxRn.if2 3 0 (bb := Op.if_icmp.holds .lt (xs 1) (0 : Int32)) (pc' := 5) (lv' := [(0, .int (xs 1)), (1, .int 0), (2, .int 127)]) (st' := []) (w' := (shA, IA, JA, QA)) (X := fun nf => mxev (nf + 0) 81 14 [(0, .int (xs 1)), (1, .int 0), (2, .int 127)] [] (shA, IA, JA, QA)) (fun n => rfl) (hc_lt_f 0 rfl (by omega)) ?_
  refine mxRn.if2 3 0 (bb := Op.if_icmp.holds .gt (xs 1) (127 : Int32)) (pc' := 10) (lv' := [(0, .int (xs 1)), (1, .int 0), (2, .int 127)]) (st' := []) (w' := (shA, IA, JA, QA)) (X := fun nf => mxev (nf + 0) 81 14 [(0, .int (xs 1)), (1, .int 0), (2, .int 127)] [] (shA, IA, JA, QA)) (fun n => rfl) (hc_gt_f 127 rfl (by omega)) ?_
  exact mxRn.ret 3 (fun n => rfl)
set_option maxRecDepth 1000000 in
set_option maxHeartbeats 4000000 in
theorem p1_c12ka_z6 (xs : Nat → Int32) (h_1 : 0 ≤ (xs 1).toInt ∧ (xs 1).toInt ≤ 127) (h_2 : 1 ≤ (xs 2).toInt ∧ (xs 2).toInt ≤ 10) (h_3 : 7 < (xs 3).toInt) : mxRn 81 0 [(0, .int (xs 2)), (1, .int 1), (2, .int 10)] [] (shA, IA, JA, QA) (some (.int 1), (shA, IA, JA, QA)) := by
  refine mxRn.if2 3 0 (bb := Op.if_icmp.holds .lt (xs 2) (1 : Int32)) (pc' := 5) (lv' := [(0, .int (xs 2)), (1, .int 1), (2, .int 10)]) (st' := []) (w' := (shA, IA, JA, QA)) (X := fun nf => mxev (nf + 0) 81 14 [(0, .int (xs 2)), (1, .int 1), (2, .int 10)] [] (shA, IA, JA, QA)) (fun n => rfl) (hc_lt_f 1 rfl (by omega)) ?_
  refine mxRn.if2 3 0 (bb := Op.if_icmp.holds .gt (xs 2) (10 : Int32)) (pc' := 10) (lv' := [(0, .int (xs 2)), (1, .int 1), (2, .int 10)]) (st' := []) (w' := (shA, IA, JA, QA)) (X := fun nf => mxev (nf + 0) 81 14 [(0, .int (xs 2)), (1, .int 1), (2, .int 10)] [] (shA, IA, JA, QA)) (fun n => rfl) (hc_gt_f 10 rfl (by omega)) ?_
  exact mxRn.ret 3 (fun n => rfl)
set_option maxRecDepth 1000000 in
set_option maxHeartbeats 4000000 in
theorem p1_c12ka_z7 (xs : Nat → Int32) (h_1 : 0 ≤ (xs 1).toInt ∧ (xs 1).toInt ≤ 127) (h_2 : 1 ≤ (xs 2).toInt ∧ (xs 2).toInt ≤ 10) (h_3 : 7 < (xs 3).toInt) : mxRn 81 0 [(0, .int (xs 3)), (1, .int 1), (2, .int 7)] [] (shA, IA, JA, QA) (some (.int 0), (shA, IA, JA, QA)) := by
  refine mxRn.if2 3 0 (bb := Op.if_icmp.holds .lt (xs 3) (1 : Int32)) (pc' := 5) (lv' := [(0, .int (xs 3)), (1, .int 1), (2, .int 7)]) (st' := []) (w' := (shA, IA, JA, QA)) (X := fun nf => mxev (nf + 0) 81 14 [(0, .int (xs 3)), (1, .int 1), (2, .int 7)] [] (shA, IA, JA, QA)) (fun n => rfl) (hc_lt_f 1 rfl (by omega)) ?_
  refine mxRn.it2 3 0 (bb := Op.if_icmp.holds .gt (xs 3) (7 : Int32)) (pc' := 14) (lv' := [(0, .int (xs 3)), (1, .int 1), (2, .int 7)]) (st' := []) (w' := (shA, IA, JA, QA)) (X := fun nf => mxev (nf + 0) 81 10 [(0, .int (xs 3)), (1, .int 1), (2, .int 7)] [] (shA, IA, JA, QA)) (fun n => rfl) (hc_gt_t 7 rfl (by omega)) ?_
  exact mxRn.ret 2 (fun n => rfl)
set_option maxRecDepth 1000000 in
set_option maxHeartbeats 4000000 in
theorem p1_c12ka_z4 (xs : Nat → Int32) (h_1 : 0 ≤ (xs 1).toInt ∧ (xs 1).toInt ≤ 127) (h_2 : 1 ≤ (xs 2).toInt ∧ (xs 2).toInt ≤ 10) (h_3 : 7 < (xs 3).toInt) : mxRn 119 0 [(0, .ref 9), (1, .int (xs 1)), (2, .int (xs 2)), (3, .int (xs 3))] [] (shA, IA, JA, QA) (some (.int (-1)), (shA, IA, JA, QA)) := by
  refine mxRn.c2 4 0 (z := 81) (lz := [(0, .int (xs 1)), (1, .int 0), (2, .int 127)]) (w1 := (shA, IA, JA, QA)) (pc' := 7) (lv' := [(0, .ref 9), (1, .int (xs 1)), (2, .int (xs 2)), (3, .int (xs 3))]) (r := []) (fun n => rfl) (p1_c12ka_z5 xs h_1 h_2 h_3) ?_
  show mxRn 119 7 [(0, .ref 9), (1, .int (xs 1)), (2, .int (xs 2)), (3, .int (xs 3))] [.int 1] (shA, IA, JA, QA) _
  refine mxRn.c2 5 0 (z := 81) (lz := [(0, .int (xs 2)), (1, .int 1), (2, .int 10)]) (w1 := (shA, IA, JA, QA)) (pc' := 17) (lv' := [(0, .ref 9), (1, .int (xs 1)), (2, .int (xs 2)), (3, .int (xs 3))]) (r := []) (fun n => rfl) (p1_c12ka_z6 xs h_1 h_2 h_3) ?_
  show mxRn 119 17 [(0, .ref 9), (1, .int (xs 1)), (2, .int (xs 2)), (3, .int (xs 3))] [.int 1] (shA, IA, JA, QA) _
  refine mxRn.c2 5 0 (z := 81) (lz := [(0, .int (xs 3)), (1, .int 1), (2, .int 7)]) (w1 := (shA, IA, JA, QA)) (pc' := 27) (lv' := [(0, .ref 9), (1, .int (xs 1)), (2, .int (xs 2)), (3, .int (xs 3))]) (r := []) (fun n => rfl) (p1_c12ka_z7 xs h_1 h_2 h_3) ?_
  show mxRn 119 27 [(0, .ref 9), (1, .int (xs 1)), (2, .int (xs 2)), (3, .int (xs 3))] [.int 0] (shA, IA, JA, QA) _
  exact mxRn.ret 3 (fun n => rfl)
set_option maxRecDepth 1000000 in
set_option maxHeartbeats 4000000 in
theorem p1_c12ka (xs : Nat → Int32) (h_1 : 0 ≤ (xs 1).toInt ∧ (xs 1).toInt ≤ 127) (h_2 : 1 ≤ (xs 2).toInt ∧ (xs 2).toInt ≤ 10) (h_3 : 7 < (xs 3).toInt) : mxOk 6 xs 33 [(0, .retAddr 2), (1, .ref 0), (2, .ref 9), (3, .int 0)] [.int 12] (shA, IA, JA, QA) := by
  refine mxOk.g2 6 0 (pc' := 487) (lv' := [(0, .retAddr 2), (1, .ref 0), (2, .ref 9), (3, .int 0)]) (st' := [.int 1, .retAddr 2, .ref 0]) (w' := (shA, IA, JA, QA)) (fun n => rfl) ?_
  refine mxOk.g2 6 0 (pc' := 493) (lv' := [(0, .retAddr 2), (1, .ref 0), (2, .ref 9), (3, .int 0)]) (st' := [.int (xs 2), .int (xs 1), .ref 0]) (w' := (shA, IA, JA, QA)) (fun n => rfl) ?_
  refine mxOk.c2 6 0 (z := 69) (lz := [(0, .ref 0), (1, .int (xs 1)), (2, .int (xs 2)), (3, .int (xs 3))]) (w1 := (shA, IA, JA, QA)) (pc' := 501) (lv' := [(0, .retAddr 2), (1, .ref 0), (2, .ref 9), (3, .int 0)]) (r := []) (fun n => rfl) (p1_c12ka_z1 xs h_1 h_2 h_3) ?_
  show mxOk 6 xs 501 [(0, .retAddr 2), (1, .ref 0), (2, .ref 9), (3, .int 0)] [.int (-1)] (shA, IA, JA, QA)
  refine mxOk.g2 6 0 (pc' := 507) (lv' := [(0, .retAddr 2), (1, .ref 0), (2, .ref 9), (3, .int 0)]) (st' := [.int (xs 1), .ref 9, .int (-1)]) (w' := (shA, IA, JA, QA)) (fun n => rfl) ?_
  refine mxOk.g2 6 0 (pc' := 513) (lv' := [(0, .retAddr 2), (1, .ref 0), (2, .ref 9), (3, .int 0)]) (st' := [.retAddr 2, .int (xs 2), .int (xs 1), .ref 9, .int (-1)]) (w' := (shA, IA, JA, QA)) (fun n => rfl) ?_
  refine mxOk.c2 5 0 (z := 119) (lz := [(0, .ref 9), (1, .int (xs 1)), (2, .int (xs 2)), (3, .int (xs 3))]) (w1 := (shA, IA, JA, QA)) (pc' := 520) (lv' := [(0, .retAddr 2), (1, .ref 0), (2, .ref 9), (3, .int 0)]) (r := [.int (-1)]) (fun n => rfl) (p1_c12ka_z4 xs h_1 h_2 h_3) ?_
  show mxOk 6 xs 520 [(0, .retAddr 2), (1, .ref 0), (2, .ref 9), (3, .int 0)] [.int (-1), .int (-1)] (shA, IA, JA, QA)
  refine mxOk.g2 6 0 (pc' := 21) (lv' := [(0, .retAddr 2), (1, .ref 0), (2, .ref 9), (3, .int 6)]) (st' := [.int 6, .int 6]) (w' := (shA, IA, JA, QA)) (fun n => rfl) ?_
  exact mxOk.ret 5 (w' := (shA, IA, JA, QA)) (fun n => rfl) (show shA.length ≤ 600000 from Nat.le_of_ble_eq_true rfl) (show (shA.map (fun q => q.2)).sum ≤ 7302250 from Nat.le_of_ble_eq_true rfl)
set_option maxRecDepth 1000000 in
set_option maxHeartbeats 4000000 in
theorem p1_c15lb_z2 (xs : Nat → Int32) (h_1 : (xs 1).toInt < 1) : mxRn 72 0 [(0, .int (xs 1)), (1, .int (xs 2))] [] (shA, IA, JA, QA) (some (.int 0), (shA, IA, JA, QA)) := by
  refine mxRn.it2 3 0 (bb := Op.if_icmp.holds .lt (xs 1) (1 : Int32)) (pc' := 26) (lv' := [(0, .int (xs 1)), (1, .int (xs 2))]) (st' := []) (w' := (shA, IA, JA, QA)) (X := fun nf => mxev (nf + 0) 72 5 [(0, .int (xs 1)), (1, .int (xs 2))] [] (shA, IA, JA, QA)) (fun n => rfl) (hc_lt_t 1 rfl (by omega)) ?_
  exact mxRn.ret 2 (fun n => rfl)
set_option maxRecDepth 1000000 in
set_option maxHeartbeats 4000000 in
theorem p1_c15lb_z1 (xs : Nat → Int32) (h_1 : (xs 1).toInt < 1) : mxRn 75 0 [(0, .ref 0), (1, .int (xs 1)), (2, .int (xs 2))] [] (shA, IA, JA, QA) (some (.int (-1)), (shA, IA, JA, QA)) := by
  refine mxRn.c2 3 0 (z := 72) (lz := [(0, .int (xs 1)), (1, .int (xs 2))]) (w1 := (shA, IA, JA, QA)) (pc' := 5) (lv' := [(0, .ref 0), (1, .int (xs 1)), (2, .int (xs 2))]) (r := []) (fun n => rfl) (p1_c15lb_z2 xs h_1) ?_
  show mxRn 75 5 [(0, .ref 0), (1, .int (xs 1)), (2, .int (xs 2))] [.int 0] (shA, IA, JA, QA) _
  exact mxRn.ret 3 (fun n => rfl)
set_option maxRecDepth 1000000 in
set_option maxHeartbeats 4000000 in
theorem p1_c15lb_z4 (xs : Nat → Int32) (h_1 : (xs 1).toInt < 1) : mxRn 81 0 [(0, .int (xs 1)), (1, .int 1), (2, .int 10)] [] (shA, IA, JA, QA) (some (.int 0), (shA, IA, JA, QA)) := by
  refine mxRn.it2 3 0 (bb := Op.if_icmp.holds .lt (xs 1) (1 : Int32)) (pc' := 14) (lv' := [(0, .int (xs 1)), (1, .int 1), (2, .int 10)]) (st' := []) (w' := (shA, IA, JA, QA)) (X := fun nf => mxev (nf + 0) 81 5 [(0, .int (xs 1)), (1, .int 1), (2, .int 10)] [] (shA, IA, JA, QA)) (fun n => rfl) (hc_lt_t 1 rfl (by omega)) ?_
  exact mxRn.ret 2 (fun n => rfl)
set_option maxRecDepth 1000000 in
set_option maxHeartbeats 4000000 in
theorem p1_c15lb_z3 (xs : Nat → Int32) (h_1 : (xs 1).toInt < 1) : mxRn 123 0 [(0, .ref 9), (1, .int (xs 1)), (2, .int (xs 2))] [] (shA, IA, JA, QA) (some (.int (-1)), (shA, IA, JA, QA)) := by
  refine mxRn.c2 4 0 (z := 81) (lz := [(0, .int (xs 1)), (1, .int 1), (2, .int 10)]) (w1 := (shA, IA, JA, QA)) (pc' := 7) (lv' := [(0, .ref 9), (1, .int (xs 1)), (2, .int (xs 2))]) (r := []) (fun n => rfl) (p1_c15lb_z4 xs h_1) ?_
  show mxRn 123 7 [(0, .ref 9), (1, .int (xs 1)), (2, .int (xs 2))] [.int 0] (shA, IA, JA, QA) _
  exact mxRn.ret 3 (fun n => rfl)
set_option maxRecDepth 1000000 in
set_option maxHeartbeats 4000000 in
theorem p1_c15lb (xs : Nat → Int32) (h_1 : (xs 1).toInt < 1) : mxOk 6 xs 33 [(0, .retAddr 2), (1, .ref 0), (2, .ref 9), (3, .int 0)] [.int 15] (shA, IA, JA, QA) := by
  refine mxOk.g2 6 0 (pc' := 576) (lv' := [(0, .retAddr 2), (1, .ref 0), (2, .ref 9), (3, .int 0)]) (st' := [.int 1, .retAddr 2, .ref 0]) (w' := (shA, IA, JA, QA)) (fun n => rfl) ?_
  refine mxOk.g2 6 0 (pc' := 582) (lv' := [(0, .retAddr 2), (1, .ref 0), (2, .ref 9), (3, .int 0)]) (st' := [.int (xs 2), .int (xs 1), .ref 0]) (w' := (shA, IA, JA, QA)) (fun n => rfl) ?_
  refine mxOk.c2 1 0 (z := 75) (lz := [(0, .ref 0), (1, .int (xs 1)), (2, .int (xs 2))]) (w1 := (shA, IA, JA, QA)) (pc' := 585) (lv' := [(0, .retAddr 2), (1, .ref 0), (2, .ref 9), (3, .int 0)]) (r := []) (fun n => rfl) (p1_c15lb_z1 xs h_1) ?_
  show mxOk 6 xs 585 [(0, .retAddr 2), (1, .ref 0), (2, .ref 9), (3, .int 0)] [.int (-1)] (shA, IA, JA, QA)
  refine mxOk.g2 6 0 (pc' := 591) (lv' := [(0, .retAddr 2), (1, .ref 0), (2, .ref 9), (3, .int 0)]) (st' := [.int (xs 1), .ref 9, .int (-1)]) (w' := (shA, IA, JA, QA)) (fun n => rfl) ?_
  refine mxOk.c2 6 0 (z := 123) (lz := [(0, .ref 9), (1, .int (xs 1)), (2, .int (xs 2))]) (w1 := (shA, IA, JA, QA)) (pc' := 599) (lv' := [(0, .retAddr 2), (1, .ref 0), (2, .ref 9), (3, .int 0)]) (r := [.int (-1)]) (fun n => rfl) (p1_c15lb_z3 xs h_1) ?_
  show mxOk 6 xs 599 [(0, .retAddr 2), (1, .ref 0), (2, .ref 9), (3, .int 0)] [.int (-1), .int (-1)] (shA, IA, JA, QA)
  refine mxOk.g2 6 0 (pc' := 21) (lv' := [(0, .retAddr 2), (1, .ref 0), (2, .ref 9), (3, .int 6)]) (st' := [.int 6, .int 6]) (w' := (shA, IA, JA, QA)) (fun n => rfl) ?_
  exact mxOk.ret 5 (w' := (shA, IA, JA, QA)) (fun n => rfl) (show shA.length ≤ 600000 from Nat.le_of_ble_eq_true rfl) (show (shA.map (fun q => q.2)).sum ≤ 7302250 from Nat.le_of_ble_eq_true rfl)
set_option maxRecDepth 1000000 in
set_option maxHeartbeats 4000000 in
theorem p1_c15la_z2 (xs : Nat → Int32) (h_1 : 10 < (xs 1).toInt) : mxRn 72 0 [(0, .int (xs 1)), (1, .int (xs 2))] [] (shA, IA, JA, QA) (some (.int 0), (shA, IA, JA, QA)) := by
  refine mxRn.if2 3 0 (bb := Op.if_icmp.holds .lt (xs 1) (1 : Int32)) (pc' := 5) (lv' := [(0, .int (xs 1)), (1, .int (xs 2))]) (st' := []) (w' := (shA, IA, JA, QA)) (X := fun nf => mxev (nf + 0) 72 26 [(0, .int (xs 1)), (1, .int (xs 2))] [] (shA, IA, JA, QA)) (fun n => rfl) (hc_lt_f 1 rfl (by omega)) ?_
  refine mxRn.it2 3 0 (bb := Op.if_icmp.holds .gt (xs 1) (10 : Int32)) (pc' := 26) (lv' := [(0, .int (xs 1)), (1, .int (xs 2))]) (st' := []) (w' := (shA, IA, JA, QA)) (X := fun nf => mxev (nf + 0) 72 11 [(0, .int (xs 1)), (1, .int (xs 2))] [] (shA, IA, JA, QA)) (fun n => rfl) (hc_gt_t 10 rfl (by omega)) ?_
  exact mxRn.ret 2 (fun n => rfl)
set_option maxRecDepth 1000000 in
set_option maxHeartbeats 4000000 in
theorem p1_c15la_z1 (xs : Nat → Int32) (h_1 : 10 < (xs 1).toInt) : mxRn 75 0 [(0, .ref 0), (1, .int (xs 1)), (2, .int (xs 2))] [] (shA, IA, JA, QA) (some (.int (-1)), (shA, IA, JA, QA)) := by
  refine mxRn.c2 3 0 (z := 72) (lz := [(0, .int (xs 1)), (1, .int (xs 2))]) (w1 := (shA, IA, JA, QA)) (pc' := 5) (lv' := [(0, .ref 0), (1, .int (xs 1)), (2, .int (xs 2))]) (r := []) (fun n => rfl) (p1_c15la_z2 xs h_1) ?_
  show mxRn 75 5 [(0, .ref 0), (1, .int (xs 1)), (2, .int (xs 2))] [.int 0] (shA, IA, JA, QA) _
  exact mxRn.ret 3 (fun n => rfl)
set_option maxRecDepth 1000000 in
set_option maxHeartbeats 4000000 in
theorem p1_c15la_z4 (xs : Nat → Int32) (h_1 : 10 < (xs 1).toInt) : mxRn 81 0 [(0, .int (xs 1)), (1, .int 1), (2, .int 10)] [] (shA, IA, JA, QA) (some (.int 0), (shA, IA, JA, QA)) := by
  refine mxRn.if2 3 0 (bb := Op.if_icmp.holds .lt (xs 1) (1 : Int32)) (pc' := 5) (lv' := [(0, .int (xs 1)), (1, .int 1), (2, .int 10)]) (st' := []) (w' := (shA, IA, JA, QA)) (X := fun nf => mxev (nf + 0) 81 14 [(0, .int (xs 1)), (1, .int 1), (2, .int 10)] [] (shA, IA, JA, QA)) (fun n => rfl) (hc_lt_f 1 rfl (by omega)) ?_
  refine mxRn.it2 3 0 (bb := Op.if_icmp.holds .gt (xs 1) (10 : Int32)) (pc' := 14) (lv' := [(0, .int (xs 1)), (1, .int 1), (2, .int 10)]) (st' := []) (w' := (shA, IA, JA, QA)) (X := fun nf => mxev (nf + 0) 81 10 [(0, .int (xs 1)), (1, .int 1), (2, .int 10)] [] (shA, IA, JA, QA)) (fun n => rfl) (hc_gt_t 10 rfl (by omega)) ?_
  exact mxRn.ret 2 (fun n => rfl)
set_option maxRecDepth 1000000 in
set_option maxHeartbeats 4000000 in
theorem p1_c15la_z3 (xs : Nat → Int32) (h_1 : 10 < (xs 1).toInt) : mxRn 123 0 [(0, .ref 9), (1, .int (xs 1)), (2, .int (xs 2))] [] (shA, IA, JA, QA) (some (.int (-1)), (shA, IA, JA, QA)) := by
  refine mxRn.c2 4 0 (z := 81) (lz := [(0, .int (xs 1)), (1, .int 1), (2, .int 10)]) (w1 := (shA, IA, JA, QA)) (pc' := 7) (lv' := [(0, .ref 9), (1, .int (xs 1)), (2, .int (xs 2))]) (r := []) (fun n => rfl) (p1_c15la_z4 xs h_1) ?_
  show mxRn 123 7 [(0, .ref 9), (1, .int (xs 1)), (2, .int (xs 2))] [.int 0] (shA, IA, JA, QA) _
  exact mxRn.ret 3 (fun n => rfl)
set_option maxRecDepth 1000000 in
set_option maxHeartbeats 4000000 in
theorem p1_c15la (xs : Nat → Int32) (h_1 : 10 < (xs 1).toInt) : mxOk 6 xs 33 [(0, .retAddr 2), (1, .ref 0), (2, .ref 9), (3, .int 0)] [.int 15] (shA, IA, JA, QA) := by
  refine mxOk.g2 6 0 (pc' := 576) (lv' := [(0, .retAddr 2), (1, .ref 0), (2, .ref 9), (3, .int 0)]) (st' := [.int 1, .retAddr 2, .ref 0]) (w' := (shA, IA, JA, QA)) (fun n => rfl) ?_
  refine mxOk.g2 6 0 (pc' := 582) (lv' := [(0, .retAddr 2), (1, .ref 0), (2, .ref 9), (3, .int 0)]) (st' := [.int (xs 2), .int (xs 1), .ref 0]) (w' := (shA, IA, JA, QA)) (fun n => rfl) ?_
  refine mxOk.c2 1 0 (z := 75) (lz := [(0, .ref 0), (1, .int (xs 1)), (2, .int (xs 2))]) (w1 := (shA, IA, JA, QA)) (pc' := 585) (lv' := [(0, .retAddr 2), (1, .ref 0), (2, .ref 9), (3, .int 0)]) (r := []) (fun n => rfl) (p1_c15la_z1 xs h_1) ?_
  show mxOk 6 xs 585 [(0, .retAddr 2), (1, .ref 0), (2, .ref 9), (3, .int 0)] [.int (-1)] (shA, IA, JA, QA)
  refine mxOk.g2 6 0 (pc' := 591) (lv' := [(0, .retAddr 2), (1, .ref 0), (2, .ref 9), (3, .int 0)]) (st' := [.int (xs 1), .ref 9, .int (-1)]) (w' := (shA, IA, JA, QA)) (fun n => rfl) ?_
  refine mxOk.c2 6 0 (z := 123) (lz := [(0, .ref 9), (1, .int (xs 1)), (2, .int (xs 2))]) (w1 := (shA, IA, JA, QA)) (pc' := 599) (lv' := [(0, .retAddr 2), (1, .ref 0), (2, .ref 9), (3, .int 0)]) (r := [.int (-1)]) (fun n => rfl) (p1_c15la_z3 xs h_1) ?_
  show mxOk 6 xs 599 [(0, .retAddr 2), (1, .ref 0), (2, .ref 9), (3, .int 0)] [.int (-1), .int (-1)] (shA, IA, JA, QA)
  refine mxOk.g2 6 0 (pc' := 21) (lv' := [(0, .retAddr 2), (1, .ref 0), (2, .ref 9), (3, .int 6)]) (st' := [.int 6, .int 6]) (w' := (shA, IA, JA, QA)) (fun n => rfl) ?_
  exact mxOk.ret 5 (w' := (shA, IA, JA, QA)) (fun n => rfl) (show shA.length ≤ 600000 from Nat.le_of_ble_eq_true rfl) (show (shA.map (fun q => q.2)).sum ≤ 7302250 from Nat.le_of_ble_eq_true rfl)
set_option maxRecDepth 1000000 in
set_option maxHeartbeats 4000000 in
theorem p1_c15kb_z2 (xs : Nat → Int32) (h_1 : 1 ≤ (xs 1).toInt ∧ (xs 1).toInt ≤ 10) (h_2 : (xs 2).toInt < 1) : mxRn 72 0 [(0, .int (xs 1)), (1, .int (xs 2))] [] (shA, IA, JA, QA) (some (.int 0), (shA, IA, JA, QA)) := by
  refine mxRn.if2 3 0 (bb := Op.if_icmp.holds .lt (xs 1) (1 : Int32)) (pc' := 5) (lv' := [(0, .int (xs 1)), (1, .int (xs 2))]) (st' := []) (w' := (shA, IA, JA, QA)) (X := fun nf => mxev (nf + 0) 72 26 [(0, .int (xs 1)), (1, .int (xs 2))] [] (shA, IA, JA, QA)) (fun n => rfl) (hc_lt_f 1 rfl (by omega)) ?_
  refine mxRn.if2 3 0 (bb := Op.if_icmp.holds .gt (xs 1) (10 : Int32)) (pc' := 11) (lv' := [(0, .int (xs 1)), (1, .int (xs 2))]) (st' := []) (w' := (shA, IA, JA, QA)) (X := fun nf => mxev (nf + 0) 72 26 [(0, .int (xs 1)), (1, .int (xs 2))] [] (shA, IA, JA, QA)) (fun n => rfl) (hc_gt_f 10 rfl (by omega)) ?_
  refine mxRn.it2 3 0 (bb := Op.if_icmp.holds .lt (xs 2) (1 : Int32)) (pc' := 26) (lv' := [(0, .int (xs 1)), (1, .int (xs 2))]) (st' := []) (w' := (shA, IA, JA, QA)) (X := fun nf => mxev (nf + 0) 72 16 [(0, .int (xs 1)), (1, .int (xs 2))] [] (shA, IA, JA, QA)) (fun n => rfl) (hc_lt_t 1 rfl (by omega)) ?_
  exact mxRn.ret 2 (fun n => rfl)
set_option maxRecDepth 1000000 in
set_option maxHeartbeats 4000000 in
theorem p1_c15kb_z1 (xs : Nat → Int32) (h_1 : 1 ≤ (xs 1).toInt ∧ (xs 1).toInt ≤ 10) (h_2 : (xs 2).toInt < 1) : mxRn 75 0 [(0, .ref 0), (1, .int (xs 1)), (2, .int (xs 2))] [] (shA, IA, JA, QA) (some (.int (-1)), (shA, IA, JA, QA)) := by
  refine mxRn.c2 3 0 (z := 72) (lz := [(0, .int (xs 1)), (1, .int (xs 2))]) (w1 := (shA, IA, JA, QA)) (pc' := 5) (lv' := [(0, .ref 0), (1, .int (xs 1)), (2, .int (xs 2))]) (r := []) (fun n => rfl) (p1_c15kb_z2 xs h_1 h_2) ?_
  show mxRn 75 5 [(0, .ref 0), (1, .int (xs 1)), (2, .int (xs 2))] [.int 0] (shA, IA, JA, QA) _
  exact mxRn.ret 3 (fun n => rfl)
set_option maxRecDepth 1000000 in
set_option maxHeartbeats 4000000 in
theorem p1_c15kb_z4 (xs : Nat → Int32) (h_1 : 1 ≤ (xs 1).toInt ∧ (xs 1).toInt ≤ 10) (h_2 : (xs 2).toInt < 1) : mxRn 81 0 [(0, .int (xs 1)), (1, .int 1), (2, .int 10)] [] (shA, IA, JA, QA) (some (.int 1), (shA, IA, JA, QA)) := by
  refine mxRn.if2 3 0 (bb := Op.if_icmp.holds .lt (xs 1) (1 : Int32)) (pc' := 5) (lv' := [(0, .int (xs 1)), (1, .int 1), (2, .int 10)]) (st' := []) (w' := (shA, IA, JA, QA)) (X := fun nf => mxev (nf + 0) 81 14 [(0, .int (xs 1)), (1, .int 1), (2, .int 10)] [] (shA, IA, JA, QA)) (fun n => rfl) (hc_lt_f 1 rfl (by omega)) ?_
  refine mxRn.if2 3 0 (bb := Op.if_icmp.holds .gt (xs 1) (10 : Int32)) (pc' := 10) (lv' := [(0, .int (xs 1)), (1, .int 1), (2, .int 10)]) (st' := []) (w' := (shA, IA, JA, QA)) (X := fun nf => mxev (nf + 0) 81 14 [(0, .int (xs 1)), (1, .int 1), (2, .int 10)] [] (shA, IA, JA, QA)) (fun n => rfl) (hc_gt_f 10 rfl (by omega)) ?_
  exact mxRn.ret 3 (fun n => rfl)
set_option maxRecDepth 1000000 in
set_option maxHeartbeats 4000000 in
theorem p1_c15kb_z5 (xs : Nat → Int32) (h_1 : 1 ≤ (xs 1).toInt ∧ (xs 1).toInt ≤ 10) (h_2 : (xs 2).toInt < 1) : mxRn 81 0 [(0, .int (xs 2)), (1, .int 1), (2, .int 7)] [] (shA, IA, JA, QA) (some (.int 0), (shA, IA, JA, QA)) := by
  refine mxRn.it2 3 0 (bb := Op.if_icmp.holds .lt (xs 2) (1 : Int32)) (pc' := 14) (lv' := [(0, .int (xs 2)), (1, .int 1), (2, .int 7)]) (st' := []) (w' := (shA, IA, JA, QA)) (X := fun nf => mxev (nf + 0) 81 5 [(0, .int (xs 2)), (1, .int 1), (2, .int 7)] [] (shA, IA, JA, QA)) (fun n => rfl) (hc_lt_t 1 rfl (by omega)) ?_
  exact mxRn.ret 2 (fun n => rfl)
set_option maxRecDepth 1000000 in
set_option maxHeartbeats 4000000 in
theorem p1_c15kb_z3 (xs : Nat → Int32) (h_1 : 1 ≤ (xs 1).toInt ∧ (xs 1).toInt ≤ 10) (h_2 : (xs 2).toInt < 1) : mxRn 123 0 [(0, .ref 9), (1, .int (xs 1)), (2, .int (xs 2))] [] (shA, IA, JA, QA) (some (.int (-1)), (shA, IA, JA, QA)) := by
  refine mxRn.c2 4 0 (z := 81) (lz := [(0, .int (xs 1)), (1, .int 1), (2, .int 10)]) (w1 := (shA, IA, JA, QA)) (pc' := 7) (lv' := [(0, .ref 9), (1, .int (xs 1)), (2, .int (xs 2))]) (r := []) (fun n => rfl) (p1_c15kb_z4 xs h_1 h_2) ?_
  show mxRn 123 7 [(0, .ref 9), (1, .int (xs 1)), (2, .int (xs 2))] [.int 1] (shA, IA, JA, QA) _
  refine mxRn.c2 5 0 (z := 81) (lz := [(0, .int (xs 2)), (1, .int 1), (2, .int 7)]) (w1 := (shA, IA, JA, QA)) (pc' := 17) (lv' := [(0, .ref 9), (1, .int (xs 1)), (2, .int (xs 2))]) (r := []) (fun n => rfl) (p1_c15kb_z5 xs h_1 h_2) ?_
  show mxRn 123 17 [(0, .ref 9), (1, .int (xs 1)), (2, .int (xs 2))] [.int 0] (shA, IA, JA, QA) _
  exact mxRn.ret 3 (fun n => rfl)
set_option maxRecDepth 1000000 in
set_option maxHeartbeats 4000000 in
theorem p1_c15kb (xs : Nat → Int32) (h_1 : 1 ≤ (xs 1).toInt ∧ (xs 1).toInt ≤ 10) (h_2 : (xs 2).toInt < 1) : mxOk 6 xs 33 [(0, .retAddr 2), (1, .ref 0), (2, .ref 9), (3, .int 0)] [.int 15] (shA, IA, JA, QA) := by
  refine mxOk.g2 6 0 (pc' := 576) (lv' := [(0, .retAddr 2), (1, .ref 0), (2, .ref 9), (3, .int 0)]) (st' := [.int 1, .retAddr 2, .ref 0]) (w' := (shA, IA, JA, QA)) (fun n => rfl) ?_
  refine mxOk.g2 6 0 (pc' := 582) (lv' := [(0, .retAddr 2), (1, .ref 0), (2, .ref 9), (3, .int 0)]) (st' := [.int (xs 2), .int (xs 1), .ref 0]) (w' := (shA, IA, JA, QA)) (fun n => rfl) ?_
  refine mxOk.c2 1 0 (z := 75) (lz := [(0, .ref 0), (1, .int (xs 1)), (2, .int (xs 2))]) (w1 := (shA, IA, JA, QA)) (pc' := 585) (lv' := [(0, .retAddr 2), (1, .ref 0), (2, .ref 9), (3, .int 0)]) (r := []) (fun n => rfl) (p1_c15kb_z1 xs h_1 h_2) ?_
  show mxOk 6 xs 585 [(0, .retAddr 2), (1, .ref 0), (2, .ref 9), (3, .int 0)] [.int (-1)] (shA, IA, JA, QA)
  refine mxOk.g2 6 0 (pc' := 591) (lv' := [(0, .retAddr 2), (1, .ref 0), (2, .ref 9), (3, .int 0)]) (st' := [.int (xs 1), .ref 9, .int (-1)]) (w' := (shA, IA, JA, QA)) (fun n => rfl) ?_
  refine mxOk.c2 6 0 (z := 123) (lz := [(0, .ref 9), (1, .int (xs 1)), (2, .int (xs 2))]) (w1 := (shA, IA, JA, QA)) (pc' := 599) (lv' := [(0, .retAddr 2), (1, .ref 0), (2, .ref 9), (3, .int 0)]) (r := [.int (-1)]) (fun n => rfl) (p1_c15kb_z3 xs h_1 h_2) ?_
  show mxOk 6 xs 599 [(0, .retAddr 2), (1, .ref 0), (2, .ref 9), (3, .int 0)] [.int (-1), .int (-1)] (shA, IA, JA, QA)
  refine mxOk.g2 6 0 (pc' := 21) (lv' := [(0, .retAddr 2), (1, .ref 0), (2, .ref 9), (3, .int 6)]) (st' := [.int 6, .int 6]) (w' := (shA, IA, JA, QA)) (fun n => rfl) ?_
  exact mxOk.ret 5 (w' := (shA, IA, JA, QA)) (fun n => rfl) (show shA.length ≤ 600000 from Nat.le_of_ble_eq_true rfl) (show (shA.map (fun q => q.2)).sum ≤ 7302250 from Nat.le_of_ble_eq_true rfl)
set_option maxRecDepth 1000000 in
set_option maxHeartbeats 4000000 in
theorem p1_c15ka_z2 (xs : Nat → Int32) (h_1 : 1 ≤ (xs 1).toInt ∧ (xs 1).toInt ≤ 10) (h_2 : 7 < (xs 2).toInt) : mxRn 72 0 [(0, .int (xs 1)), (1, .int (xs 2))] [] (shA, IA, JA, QA) (some (.int 0), (shA, IA, JA, QA)) := by
  refine mxRn.if2 3 0 (bb := Op.if_icmp.holds .lt (xs 1) (1 : Int32)) (pc' := 5) (lv' := [(0, .int (xs 1)), (1, .int (xs 2))]) (st' := []) (w' := (shA, IA, JA, QA)) (X := fun nf => mxev (nf + 0) 72 26 [(0, .int (xs 1)), (1, .int (xs 2))] [] (shA, IA, JA, QA)) (fun n => rfl) (hc_lt_f 1 rfl (by omega)) ?_
  refine mxRn.if2 3 0 (bb := Op.if_icmp.holds .gt (xs 1) (10 : Int32)) (pc' := 11) (lv' := [(0, .int (xs 1)), (1, .int (xs 2))]) (st' := []) (w' := (shA, IA, JA, QA)) (X := fun nf => mxev (nf + 0) 72 26 [(0, .int (xs 1)), (1, .int (xs 2))] [] (shA, IA, JA, QA)) (fun n => rfl) (hc_gt_f 10 rfl (by omega)) ?_
  refine mxRn.if2 3 0 (bb := Op.if_icmp.holds .lt (xs 2) (1 : Int32)) (pc' := 16) (lv' := [(0, .int (xs 1)), (1, .int (xs 2))]) (st' := []) (w' := (shA, IA, JA, QA)) (X := fun nf => mxev (nf + 0) 72 26 [(0, .int (xs 1)), (1, .int (xs 2))] [] (shA, IA, JA, QA)) (fun n => rfl) (hc_lt_f 1 rfl (by omega)) ?_
  refine mxRn.it2 3 0 (bb := Op.if_icmp.holds .gt (xs 2) (7 : Int32)) (pc' := 26) (lv' := [(0, .int (xs 1)), (1, .int (xs 2))]) (st' := []) (w' := (shA, IA, JA, QA)) (X := fun nf => mxev (nf + 0) 72 22 [(0, .int (xs 1)), (1, .int (xs 2))] [] (shA, IA, JA, QA)) (fun n => rfl) (hc_gt_t 7 rfl (by omega)) ?_
  exact mxRn.ret 2 (fun n => rfl)
set_option maxRecDepth 1000000 in
set_option maxHeartbeats 4000000 in
theorem p1_c15ka_z1 (xs : Nat → Int32) (h_1 : 1 ≤ (xs 1).toInt ∧ (xs 1).toInt ≤ 10) (h_2 : 7 < (xs 2).toInt) : mxRn 75 0 [(0, .ref 0), (1, .int (xs 1)), (2, .int (xs 2))] [] (shA, IA, JA, QA) (some (.int (-1)), (shA, IA, JA, QA)) := by
  refine mxRn.c2 3 0 (z := 72) (lz := [(0, .int (xs 1)), (1, .int (xs 2))]) (w1 := (shA, IA, JA, QA)) (pc' := 5) (lv' := [(0, .ref 0), (1, .int (xs 1)), (2, .int (xs 2))]) (r := []) (fun n => rfl) (p1_c15ka_z2 xs h_1 h_2) ?_
  show mxRn 75 5 [(0, .ref 0), (1, .int (xs 1)), (2, .int (xs 2))] [.int 0] (shA, IA, JA, QA) _
  exact mxRn.ret 3 (fun n => rfl)
set_option maxRecDepth 1000000 in
set_option maxHeartbeats 4000000 in
theorem p1_c15ka_z4 (xs : Nat → Int32) (h_1 : 1 ≤ (xs 1).toInt ∧ (xs 1).toInt ≤ 10) (h_2 : 7 < (xs 2).toInt) : mxRn 81 0 [(0, .int (xs 1)), (1, .int 1), (2, .int 10)] [] (shA, IA, JA, QA) (some (.int 1), (shA, IA, JA, QA)) := by
  refine mxRn.if2 3 0 (bb := Op.if_icmp.holds .lt (xs 1) (1 : Int32)) (pc' := 5) (lv' := [(0, .int (xs 1)), (1, .int 1), (2, .int 10)]) (st' := []) (w' := (shA, IA, JA, QA)) (X := fun nf => mxev (nf + 0) 81 14 [(0, .int (xs 1)), (1, .int 1), (2, .int 10)] [] (shA, IA, JA, QA)) (fun n => rfl) (hc_lt_f 1 rfl (by omega)) ?_
  refine mxRn.if2 3 0 (bb := Op.if_icmp.holds .gt (xs 1) (10 : Int32)) (pc' := 10) (lv' := [(0, .int (xs 1)), (1, .int 1), (2, .int 10)]) (st' := []) (w' := (shA, IA, JA, QA)) (X := fun nf => mxev (nf + 0) 81 14 [(0, .int (xs 1)), (1, .int 1), (2, .int 10)] [] (shA, IA, JA, QA)) (fun n => rfl) (hc_gt_f 10 rfl (by omega)) ?_
  exact mxRn.ret 3 (fun n => rfl)
set_option maxRecDepth 1000000 in
set_option maxHeartbeats 4000000 in
theorem p1_c15ka_z5 (xs : Nat → Int32) (h_1 : 1 ≤ (xs 1).toInt ∧ (xs 1).toInt ≤ 10) (h_2 : 7 < (xs 2).toInt) : mxRn 81 0 [(0, .int (xs 2)), (1, .int 1), (2, .int 7)] [] (shA, IA, JA, QA) (some (.int 0), (shA, IA, JA, QA)) := by
  refine mxRn.if2 3 0 (bb := Op.if_icmp.holds .lt (xs 2) (1 : Int32)) (pc' := 5) (lv' := [(0, .int (xs 2)), (1, .int 1), (2, .int 7)]) (st' := []) (w' := (shA, IA, JA, QA)) (X := fun nf => mxev (nf + 0) 81 14 [(0, .int (xs 2)), (1, .int 1), (2, .int 7)] [] (shA, IA, JA, QA)) (fun n => rfl) (hc_lt_f 1 rfl (by omega)) ?_
  refine mxRn.it2 3 0 (bb := Op.if_icmp.holds .gt (xs 2) (7 : Int32)) (pc' := 14) (lv' := [(0, .int (xs 2)), (1, .int 1), (2, .int 7)]) (st' := []) (w' := (shA, IA, JA, QA)) (X := fun nf => mxev (nf + 0) 81 10 [(0, .int (xs 2)), (1, .int 1), (2, .int 7)] [] (shA, IA, JA, QA)) (fun n => rfl) (hc_gt_t 7 rfl (by omega)) ?_
  exact mxRn.ret 2 (fun n => rfl)
set_option maxRecDepth 1000000 in
set_option maxHeartbeats 4000000 in
theorem p1_c15ka_z3 (xs : Nat → Int32) (h_1 : 1 ≤ (xs 1).toInt ∧ (xs 1).toInt ≤ 10) (h_2 : 7 < (xs 2).toInt) : mxRn 123 0 [(0, .ref 9), (1, .int (xs 1)), (2, .int (xs 2))] [] (shA, IA, JA, QA) (some (.int (-1)), (shA, IA, JA, QA)) := by
  refine mxRn.c2 4 0 (z := 81) (lz := [(0, .int (xs 1)), (1, .int 1), (2, .int 10)]) (w1 := (shA, IA, JA, QA)) (pc' := 7) (lv' := [(0, .ref 9), (1, .int (xs 1)), (2, .int (xs 2))]) (r := []) (fun n => rfl) (p1_c15ka_z4 xs h_1 h_2) ?_
  show mxRn 123 7 [(0, .ref 9), (1, .int (xs 1)), (2, .int (xs 2))] [.int 1] (shA, IA, JA, QA) _
  refine mxRn.c2 5 0 (z := 81) (lz := [(0, .int (xs 2)), (1, .int 1), (2, .int 7)]) (w1 := (shA, IA, JA, QA)) (pc' := 17) (lv' := [(0, .ref 9), (1, .int (xs 1)), (2, .int (xs 2))]) (r := []) (fun n => rfl) (p1_c15ka_z5 xs h_1 h_2) ?_
  show mxRn 123 17 [(0, .ref 9), (1, .int (xs 1)), (2, .int (xs 2))] [.int 0] (shA, IA, JA, QA) _
  exact mxRn.ret 3 (fun n => rfl)
set_option maxRecDepth 1000000 in
set_option maxHeartbeats 4000000 in
theorem p1_c15ka (xs : Nat → Int32) (h_1 : 1 ≤ (xs 1).toInt ∧ (xs 1).toInt ≤ 10) (h_2 : 7 < (xs 2).toInt) : mxOk 6 xs 33 [(0, .retAddr 2), (1, .ref 0), (2, .ref 9), (3, .int 0)] [.int 15] (shA, IA, JA, QA) := by
  refine mxOk.g2 6 0 (pc' := 576) (lv' := [(0, .retAddr 2), (1, .ref 0), (2, .ref 9), (3, .int 0)]) (st' := [.int 1, .retAddr 2, .ref 0]) (w' := (shA, IA, JA, QA)) (fun n => rfl) ?_
  refine mxOk.g2 6 0 (pc' := 582) (lv' := [(0, .retAddr 2), (1, .ref 0), (2, .ref 9), (3, .int 0)]) (st' := [.int (xs 2), .int (xs 1), .ref 0]) (w' := (shA, IA, JA, QA)) (fun n => rfl) ?_
  refine mxOk.c2 1 0 (z := 75) (lz := [(0, .ref 0), (1, .int (xs 1)), (2, .int (xs 2))]) (w1 := (shA, IA, JA, QA)) (pc' := 585) (lv' := [(0, .retAddr 2), (1, .ref 0), (2, .ref 9), (3, .int 0)]) (r := []) (fun n => rfl) (p1_c15ka_z1 xs h_1 h_2) ?_
  show mxOk 6 xs 585 [(0, .retAddr 2), (1, .ref 0), (2, .ref 9), (3, .int 0)] [.int (-1)] (shA, IA, JA, QA)
  refine mxOk.g2 6 0 (pc' := 591) (lv' := [(0, .retAddr 2), (1, .ref 0), (2, .ref 9), (3, .int 0)]) (st' := [.int (xs 1), .ref 9, .int (-1)]) (w' := (shA, IA, JA, QA)) (fun n => rfl) ?_
  refine mxOk.c2 6 0 (z := 123) (lz := [(0, .ref 9), (1, .int (xs 1)), (2, .int (xs 2))]) (w1 := (shA, IA, JA, QA)) (pc' := 599) (lv' := [(0, .retAddr 2), (1, .ref 0), (2, .ref 9), (3, .int 0)]) (r := [.int (-1)]) (fun n => rfl) (p1_c15ka_z3 xs h_1 h_2) ?_
  show mxOk 6 xs 599 [(0, .retAddr 2), (1, .ref 0), (2, .ref 9), (3, .int 0)] [.int (-1), .int (-1)] (shA, IA, JA, QA)
  refine mxOk.g2 6 0 (pc' := 21) (lv' := [(0, .retAddr 2), (1, .ref 0), (2, .ref 9), (3, .int 6)]) (st' := [.int 6, .int 6]) (w' := (shA, IA, JA, QA)) (fun n => rfl) ?_
  exact mxOk.ret 5 (w' := (shA, IA, JA, QA)) (fun n => rfl) (show shA.length ≤ 600000 from Nat.le_of_ble_eq_true rfl) (show (shA.map (fun q => q.2)).sum ≤ 7302250 from Nat.le_of_ble_eq_true rfl)
set_option maxRecDepth 1000000 in
set_option maxHeartbeats 4000000 in
theorem p1_c17 (xs : Nat → Int32) : mxOk 6 xs 33 [(0, .retAddr 2), (1, .ref 0), (2, .ref 9), (3, .int 0)] [.int 17] (shA, IA, JA, QA) := by
  refine mxOk.g2 6 0 (pc' := 21) (lv' := [(0, .retAddr 2), (1, .ref 0), (2, .ref 9), (3, .int 6)]) (st' := [.int 6, .int 6]) (w' := (shA, IA, JA, QA)) (fun n => rfl) ?_
  exact mxOk.ret 5 (w' := (shA, IA, JA, QA)) (fun n => rfl) (show shA.length ≤ 600000 from Nat.le_of_ble_eq_true rfl) (show (shA.map (fun q => q.2)).sum ≤ 7302250 from Nat.le_of_ble_eq_true rfl)
set_option maxRecDepth 1000000 in
set_option maxHeartbeats 4000000 in
theorem p1_c18 (xs : Nat → Int32) : mxOk 6 xs 33 [(0, .retAddr 2), (1, .ref 0), (2, .ref 9), (3, .int 0)] [.int 18] (shA, IA, JA, QA) := by
  refine mxOk.g2 6 0 (pc' := 21) (lv' := [(0, .retAddr 2), (1, .ref 0), (2, .ref 9), (3, .int 6)]) (st' := [.int 6, .int 6]) (w' := (shA, IA, JA, QA)) (fun n => rfl) ?_
  exact mxOk.ret 5 (w' := (shA, IA, JA, QA)) (fun n => rfl) (show shA.length ≤ 600000 from Nat.le_of_ble_eq_true rfl) (show (shA.map (fun q => q.2)).sum ≤ 7302250 from Nat.le_of_ble_eq_true rfl)
set_option maxRecDepth 1000000 in
set_option maxHeartbeats 4000000 in
theorem p1_c19 (xs : Nat → Int32) : mxOk 6 xs 33 [(0, .retAddr 2), (1, .ref 0), (2, .ref 9), (3, .int 0)] [.int 19] (shA, IA, JA, QA) := by
  refine mxOk.g2 6 0 (pc' := 21) (lv' := [(0, .retAddr 2), (1, .ref 0), (2, .ref 9), (3, .int 6)]) (st' := [.int 6, .int 6]) (w' := (shA, IA, JA, QA)) (fun n => rfl) ?_
  exact mxOk.ret 5 (w' := (shA, IA, JA, QA)) (fun n => rfl) (show shA.length ≤ 600000 from Nat.le_of_ble_eq_true rfl) (show (shA.map (fun q => q.2)).sum ≤ 7302250 from Nat.le_of_ble_eq_true rfl)
set_option maxRecDepth 1000000 in
set_option maxHeartbeats 4000000 in
theorem p1_c20 (xs : Nat → Int32) : mxOk 6 xs 33 [(0, .retAddr 2), (1, .ref 0), (2, .ref 9), (3, .int 0)] [.int 20] (shA, IA, JA, QA) := by
  refine mxOk.g2 6 0 (pc' := 21) (lv' := [(0, .retAddr 2), (1, .ref 0), (2, .ref 9), (3, .int 6)]) (st' := [.int 6, .int 6]) (w' := (shA, IA, JA, QA)) (fun n => rfl) ?_
  exact mxOk.ret 5 (w' := (shA, IA, JA, QA)) (fun n => rfl) (show shA.length ≤ 600000 from Nat.le_of_ble_eq_true rfl) (show (shA.map (fun q => q.2)).sum ≤ 7302250 from Nat.le_of_ble_eq_true rfl)
set_option maxRecDepth 1000000 in
set_option maxHeartbeats 4000000 in
theorem p1_c21 (xs : Nat → Int32) : mxOk 6 xs 33 [(0, .retAddr 2), (1, .ref 0), (2, .ref 9), (3, .int 0)] [.int 21] (shA, IA, JA, QA) := by
  refine mxOk.g2 6 0 (pc' := 21) (lv' := [(0, .retAddr 2), (1, .ref 0), (2, .ref 9), (3, .int 6)]) (st' := [.int 6, .int 6]) (w' := (shA, IA, JA, QA)) (fun n => rfl) ?_
  exact mxOk.ret 5 (w' := (shA, IA, JA, QA)) (fun n => rfl) (show shA.length ≤ 600000 from Nat.le_of_ble_eq_true rfl) (show (shA.map (fun q => q.2)).sum ≤ 7302250 from Nat.le_of_ble_eq_true rfl)
set_option maxRecDepth 1000000 in
set_option maxHeartbeats 4000000 in
theorem p1_c22 (xs : Nat → Int32) : mxOk 6 xs 33 [(0, .retAddr 2), (1, .ref 0), (2, .ref 9), (3, .int 0)] [.int 22] (shA, IA, JA, QA) := by
  refine mxOk.g2 6 0 (pc' := 21) (lv' := [(0, .retAddr 2), (1, .ref 0), (2, .ref 9), (3, .int 6)]) (st' := [.int 6, .int 6]) (w' := (shA, IA, JA, QA)) (fun n => rfl) ?_
  exact mxOk.ret 5 (w' := (shA, IA, JA, QA)) (fun n => rfl) (show shA.length ≤ 600000 from Nat.le_of_ble_eq_true rfl) (show (shA.map (fun q => q.2)).sum ≤ 7302250 from Nat.le_of_ble_eq_true rfl)
set_option maxRecDepth 1000000 in
set_option maxHeartbeats 4000000 in
theorem p1_c23 (xs : Nat → Int32) : mxOk 6 xs 33 [(0, .retAddr 2), (1, .ref 0), (2, .ref 9), (3, .int 0)] [.int 23] (shA, IA, JA, QA) := by
  refine mxOk.g2 6 0 (pc' := 21) (lv' := [(0, .retAddr 2), (1, .ref 0), (2, .ref 9), (3, .int 6)]) (st' := [.int 6, .int 6]) (w' := (shA, IA, JA, QA)) (fun n => rfl) ?_
  exact mxOk.ret 5 (w' := (shA, IA, JA, QA)) (fun n => rfl) (show shA.length ≤ 600000 from Nat.le_of_ble_eq_true rfl) (show (shA.map (fun q => q.2)).sum ≤ 7302250 from Nat.le_of_ble_eq_true rfl)
set_option maxRecDepth 1000000 in
set_option maxHeartbeats 4000000 in
theorem p1_c24 (xs : Nat → Int32) : mxOk 6 xs 33 [(0, .retAddr 2), (1, .ref 0), (2, .ref 9), (3, .int 0)] [.int 24] (shA, IA, JA, QA) := by
  refine mxOk.g2 6 0 (pc' := 21) (lv' := [(0, .retAddr 2), (1, .ref 0), (2, .ref 9), (3, .int 6)]) (st' := [.int 6, .int 6]) (w' := (shA, IA, JA, QA)) (fun n => rfl) ?_
  exact mxOk.ret 5 (w' := (shA, IA, JA, QA)) (fun n => rfl) (show shA.length ≤ 600000 from Nat.le_of_ble_eq_true rfl) (show (shA.map (fun q => q.2)).sum ≤ 7302250 from Nat.le_of_ble_eq_true rfl)
set_option maxRecDepth 1000000 in
set_option maxHeartbeats 4000000 in
theorem p1_c25 (xs : Nat → Int32) : mxOk 6 xs 33 [(0, .retAddr 2), (1, .ref 0), (2, .ref 9), (3, .int 0)] [.int 25] (shA, IA, JA, QA) := by
  refine mxOk.g2 6 0 (pc' := 21) (lv' := [(0, .retAddr 2), (1, .ref 0), (2, .ref 9), (3, .int 6)]) (st' := [.int 6, .int 6]) (w' := (shA, IA, JA, QA)) (fun n => rfl) ?_
  exact mxOk.ret 5 (w' := (shA, IA, JA, QA)) (fun n => rfl) (show shA.length ≤ 600000 from Nat.le_of_ble_eq_true rfl) (show (shA.map (fun q => q.2)).sum ≤ 7302250 from Nat.le_of_ble_eq_true rfl)
set_option maxRecDepth 1000000 in
set_option maxHeartbeats 4000000 in
theorem p1_c26 (xs : Nat → Int32) : mxOk 6 xs 33 [(0, .retAddr 2), (1, .ref 0), (2, .ref 9), (3, .int 0)] [.int 26] (shA, IA, JA, QA) := by
  refine mxOk.g2 6 0 (pc' := 21) (lv' := [(0, .retAddr 2), (1, .ref 0), (2, .ref 9), (3, .int 6)]) (st' := [.int 6, .int 6]) (w' := (shA, IA, JA, QA)) (fun n => rfl) ?_
  exact mxOk.ret 5 (w' := (shA, IA, JA, QA)) (fun n => rfl) (show shA.length ≤ 600000 from Nat.le_of_ble_eq_true rfl) (show (shA.map (fun q => q.2)).sum ≤ 7302250 from Nat.le_of_ble_eq_true rfl)
set_option maxRecDepth 1000000 in
set_option maxHeartbeats 4000000 in
theorem p1_c27 (xs : Nat → Int32) : mxOk 6 xs 33 [(0, .retAddr 2), (1, .ref 0), (2, .ref 9), (3, .int 0)] [.int 27] (shA, IA, JA, QA) := by
  refine mxOk.g2 6 0 (pc' := 21) (lv' := [(0, .retAddr 2), (1, .ref 0), (2, .ref 9), (3, .int 6)]) (st' := [.int 6, .int 6]) (w' := (shA, IA, JA, QA)) (fun n => rfl) ?_
  exact mxOk.ret 5 (w' := (shA, IA, JA, QA)) (fun n => rfl) (show shA.length ≤ 600000 from Nat.le_of_ble_eq_true rfl) (show (shA.map (fun q => q.2)).sum ≤ 7302250 from Nat.le_of_ble_eq_true rfl)
set_option maxRecDepth 1000000 in
set_option maxHeartbeats 4000000 in
theorem p1_c28 (xs : Nat → Int32) : mxOk 6 xs 33 [(0, .retAddr 2), (1, .ref 0), (2, .ref 9), (3, .int 0)] [.int 28] (shA, IA, JA, QA) := by
  refine mxOk.g2 6 0 (pc' := 21) (lv' := [(0, .retAddr 2), (1, .ref 0), (2, .ref 9), (3, .int 6)]) (st' := [.int 6, .int 6]) (w' := (shA, IA, JA, QA)) (fun n => rfl) ?_
  exact mxOk.ret 5 (w' := (shA, IA, JA, QA)) (fun n => rfl) (show shA.length ≤ 600000 from Nat.le_of_ble_eq_true rfl) (show (shA.map (fun q => q.2)).sum ≤ 7302250 from Nat.le_of_ble_eq_true rfl)
set_option maxRecDepth 1000000 in
set_option maxHeartbeats 4000000 in
theorem p1_c29 (xs : Nat → Int32) : mxOk 6 xs 33 [(0, .retAddr 2), (1, .ref 0), (2, .ref 9), (3, .int 0)] [.int 29] (shA, IA, JA, QA) := by
  refine mxOk.g2 6 0 (pc' := 21) (lv' := [(0, .retAddr 2), (1, .ref 0), (2, .ref 9), (3, .int 6)]) (st' := [.int 6, .int 6]) (w' := (shA, IA, JA, QA)) (fun n => rfl) ?_
  exact mxOk.ret 5 (w' := (shA, IA, JA, QA)) (fun n => rfl) (show shA.length ≤ 600000 from Nat.le_of_ble_eq_true rfl) (show (shA.map (fun q => q.2)).sum ≤ 7302250 from Nat.le_of_ble_eq_true rfl)
set_option maxRecDepth 1000000 in
set_option maxHeartbeats 4000000 in
theorem p1_c30 (xs : Nat → Int32) : mxOk 6 xs 33 [(0, .retAddr 2), (1, .ref 0), (2, .ref 9), (3, .int 0)] [.int 30] (shA, IA, JA, QA) := by
  refine mxOk.g2 6 0 (pc' := 21) (lv' := [(0, .retAddr 2), (1, .ref 0), (2, .ref 9), (3, .int 6)]) (st' := [.int 6, .int 6]) (w' := (shA, IA, JA, QA)) (fun n => rfl) ?_
  exact mxOk.ret 5 (w' := (shA, IA, JA, QA)) (fun n => rfl) (show shA.length ≤ 600000 from Nat.le_of_ble_eq_true rfl) (show (shA.map (fun q => q.2)).sum ≤ 7302250 from Nat.le_of_ble_eq_true rfl)
set_option maxRecDepth 1000000 in
set_option maxHeartbeats 4000000 in
theorem p1_c31 (xs : Nat → Int32) : mxOk 6 xs 33 [(0, .retAddr 2), (1, .ref 0), (2, .ref 9), (3, .int 0)] [.int 31] (shA, IA, JA, QA) := by
  refine mxOk.g2 6 0 (pc' := 21) (lv' := [(0, .retAddr 2), (1, .ref 0), (2, .ref 9), (3, .int 6)]) (st' := [.int 6, .int 6]) (w' := (shA, IA, JA, QA)) (fun n => rfl) ?_
  exact mxOk.ret 5 (w' := (shA, IA, JA, QA)) (fun n => rfl) (show shA.length ≤ 600000 from Nat.le_of_ble_eq_true rfl) (show (shA.map (fun q => q.2)).sum ≤ 7302250 from Nat.le_of_ble_eq_true rfl)
