set_option maxRecDepth 1000000 in
set_option maxHeartbeats 4000000 in
theorem p1_c16a_z1 (xs : Nat → Int32) (h_1 : 16 < (xs 1).toInt) : mxRn 79 0 [(0, .ref 0), (1, .int (xs 1))] [] (shA, IA, JA, QA) (some (.int (-1)), (shA, IA, JA, QA)) := by
  refine mxRn.if2 3 0 (bb := Op.if_icmp.holds .lt (xs 1) (10 : Int32)) (pc' := 6) (lv' := [(0, .ref 0), (1, .int (xs 1))]) (st' := []) (w' := (shA, IA, JA, QA)) (X := fun nf => mxev (nf + 0) 79 22 [(0, .ref 0), (1, .int (xs 1))] [] (shA, IA, JA, QA)) (fun n => rfl) (hc_lt_f 10 rfl (by omega)) ?_
  refine mxRn.it2 3 0 (bb := Op.if_icmp.holds .ge (xs 1) (17 : Int32)) (pc' := 22) (lv' := [(0, .ref 0), (1, .int (xs 1))]) (st' := []) (w' := (shA, IA, JA, QA)) (X := fun nf => mxev (nf + 0) 79 12 [(0, .ref 0), (1, .int (xs 1))] [] (shA, IA, JA, QA)) (fun n => rfl) (hc_ge_t 17 rfl (by omega)) ?_
  refine mxRn.it2 2 0 (bb := decide (((xs 1)).toInt < 0) || decide (2 < ((xs 1)).toInt)) (pc' := 63) (lv' := [(0, .ref 0), (1, .int (xs 1))]) (st' := []) (w' := (shA, IA, JA, QA)) (fun n => rfl) (by simp; omega) ?_
  exact mxRn.ret 2 (fun n => rfl)
set_option maxRecDepth 1000000 in
set_option maxHeartbeats 4000000 in
theorem p1_c16a_z3 (xs : Nat → Int32) (h_1 : 16 < (xs 1).toInt) : mxRn 81 0 [(0, .int (xs 1)), (1, .int 10), (2, .int 16)] [] (shA, IA, JA, QA) (some (.int 0), (shA, IA, JA, QA)) := by
  refine mxRn.if2 3 0 (bb := Op.if_icmp.holds .lt (xs 1) (10 : Int32)) (pc' := 5) (lv' := [(0, .int (xs 1)), (1, .int 10), (2, .int 16)]) (st' := []) (w' := (shA, IA, JA, QA)) (X := fun nf => mxev (nf + 0) 81 14 [(0, .int (xs 1)), (1, .int 10), (2, .int 16)] [] (shA, IA, JA, QA)) (fun n => rfl) (hc_lt_f 10 rfl (by omega)) ?_
  refine mxRn.it2 3 0 (bb := Op.if_icmp.holds .gt (xs 1) (16 : Int32)) (pc' := 14) (lv' := [(0, .int (xs 1)), (1, .int 10), (2, .int 16)]) (st' := []) (w' := (shA, IA, JA, QA)) (X := fun nf => mxev (nf + 0) 81 10 [(0, .int (xs 1)), (1, .int 10), (2, .int 16)] [] (shA, IA, JA, QA)) (fun n => rfl) (hc_gt_t 16 rfl (by omega)) ?_
  exact mxRn.ret 2 (fun n => rfl)
set_option maxRecDepth 1000000 in
set_option maxHeartbeats 4000000 in
theorem p1_c16a_z2 (xs : Nat → Int32) (h_1 : 16 < (xs 1).toInt) : mxRn 124 0 [(0, .ref 9), (1, .int (xs 1))] [] (shA, IA, JA, QA) (some (.int (-1)), (shA, IA, JA, QA)) := by
  refine mxRn.c2 4 0 (z := 81) (lz := [(0, .int (xs 1)), (1, .int 10), (2, .int 16)]) (w1 := (shA, IA, JA, QA)) (pc' := 8) (lv' := [(0, .ref 9), (1, .int (xs 1))]) (r := []) (fun n => rfl) (p1_c16a_z3 xs h_1) ?_
  show mxRn 124 8 [(0, .ref 9), (1, .int (xs 1))] [.int 0] (shA, IA, JA, QA) _
  refine mxRn.it2 3 0 (bb := Op.ifCond.holds .ne (xs 1)) (pc' := 32) (lv' := [(0, .ref 9), (1, .int (xs 1))]) (st' := []) (w' := (shA, IA, JA, QA)) (X := fun nf => mxev (nf + 0) 124 25 [(0, .ref 9), (1, .int (xs 1))] [] (shA, IA, JA, QA)) (fun n => rfl) (hd_ne_t (by omega)) ?_
  refine mxRn.it2 3 0 (bb := Op.if_icmp.holds .ne (xs 1) (1 : Int32)) (pc' := 44) (lv' := [(0, .ref 9), (1, .int (xs 1))]) (st' := []) (w' := (shA, IA, JA, QA)) (X := fun nf => mxev (nf + 0) 124 37 [(0, .ref 9), (1, .int (xs 1))] [] (shA, IA, JA, QA)) (fun n => rfl) (hc_ne_t 1 rfl (by omega)) ?_
  refine mxRn.it2 3 0 (bb := Op.if_icmp.holds .ne (xs 1) (2 : Int32)) (pc' := 56) (lv' := [(0, .ref 9), (1, .int (xs 1))]) (st' := []) (w' := (shA, IA, JA, QA)) (X := fun nf => mxev (nf + 0) 124 49 [(0, .ref 9), (1, .int (xs 1))] [] (shA, IA, JA, QA)) (fun n => rfl) (hc_ne_t 2 rfl (by omega)) ?_
  exact mxRn.ret 2 (fun n => rfl)
set_option maxRecDepth 1000000 in
set_option maxHeartbeats 4000000 in
theorem p1_c16a (xs : Nat → Int32) (h_1 : 16 < (xs 1).toInt) : mxOk 6 xs 33 [(0, .retAddr 2), (1, .ref 0), (2, .ref 9), (3, .int 0)] [.int 16] (shA, IA, JA, QA) := by
  refine mxOk.g2 6 0 (pc' := 609) (lv' := [(0, .retAddr 2), (1, .ref 0), (2, .ref 9), (3, .int 0)]) (st' := [.int 1, .retAddr 2, .ref 0]) (w' := (shA, IA, JA, QA)) (fun n => rfl) ?_
  refine mxOk.c2 2 0 (z := 79) (lz := [(0, .ref 0), (1, .int (xs 1))]) (w1 := (shA, IA, JA, QA)) (pc' := 613) (lv' := [(0, .retAddr 2), (1, .ref 0), (2, .ref 9), (3, .int 0)]) (r := []) (fun n => rfl) (p1_c16a_z1 xs h_1) ?_
  show mxOk 6 xs 613 [(0, .retAddr 2), (1, .ref 0), (2, .ref 9), (3, .int 0)] [.int (-1)] (shA, IA, JA, QA)
  refine mxOk.g2 6 0 (pc' := 619) (lv' := [(0, .retAddr 2), (1, .ref 0), (2, .ref 9), (3, .int 0)]) (st' := [.int (xs 1), .ref 9, .int (-1)]) (w' := (shA, IA, JA, QA)) (fun n => rfl) ?_
  refine mxOk.c2 1 0 (z := 124) (lz := [(0, .ref 9), (1, .int (xs 1))]) (w1 := (shA, IA, JA, QA)) (pc' := 622) (lv' := [(0, .retAddr 2), (1, .ref 0), (2, .ref 9), (3, .int 0)]) (r := [.int (-1)]) (fun n => rfl) (p1_c16a_z2 xs h_1) ?_
  show mxOk 6 xs 622 [(0, .retAddr 2), (1, .ref 0), (2, .ref 9), (3, .int 0)] [.int (-1), .int (-1)] (shA, IA, JA, QA)
  refine mxOk.g2 6 0 (pc' := 21) (lv' := [(0, .retAddr 2), (1, .ref 0), (2, .ref 9), (3, .int 6)]) (st' := [.int 6, .int 6]) (w' := (shA, IA, JA, QA)) (fun n => rfl) ?_
  exact mxOk.ret 5 (w' := (shA, IA, JA, QA)) (fun n => rfl) (show shA.length ≤ 600000 from Nat.le_of_ble_eq_true rfl) (show (shA.map (fun q => q.2)).sum ≤ 7302250 from Nat.le_of_ble_eq_true rfl)
set_option maxRecDepth 1000000 in
set_option maxHeartbeats 4000000 in
theorem p1_c16v10_z1 (xs : Nat → Int32) (h_1 : xs 1 = 10) : mxRn 79 0 [(0, .ref 0), (1, .int 10)] [] (shA, IA, JA, QA) (some (.int 1), (shA, IA, JA, QA)) := by
  refine mxRn.g2 6 0 (pc' := 12) (lv' := [(0, .ref 0), (1, .int 10)]) (st' := []) (w' := (shA, IA, JA, QA)) (fun n => rfl) ?_
  refine mxRn.g2 6 0 (pc' := 21) (lv' := [(0, .ref 0), (1, .int 10)]) (st' := [.int 1]) (w' := (shA, IA, JA, QA)) (fun n => rfl) ?_
  exact mxRn.ret 1 (fun n => rfl)
set_option maxRecDepth 1000000 in
set_option maxHeartbeats 4000000 in
theorem p1_c16v10_z3 (xs : Nat → Int32) (h_1 : xs 1 = 10) : mxRn 81 0 [(0, .int 10), (1, .int 10), (2, .int 16)] [] (shA, IA, JA, QA) (some (.int 1), (shA, IA, JA, QA)) := by
  refine mxRn.g2 6 0 (pc' := 10) (lv' := [(0, .int 10), (1, .int 10), (2, .int 16)]) (st' := []) (w' := (shA, IA, JA, QA)) (fun n => rfl) ?_
  exact mxRn.ret 3 (fun n => rfl)
set_option maxRecDepth 1000000 in
set_option maxHeartbeats 4000000 in
theorem p1_c16v10_z2 (xs : Nat → Int32) (h_1 : xs 1 = 10) : mxRn 124 0 [(0, .ref 9), (1, .int 10)] [] (shA, IA, JA, QA) (some (.int 1), (shA, IA, JA, QA)) := by
  refine mxRn.c2 4 0 (z := 81) (lz := [(0, .int 10), (1, .int 10), (2, .int 16)]) (w1 := (shA, IA, JA, QA)) (pc' := 8) (lv' := [(0, .ref 9), (1, .int 10)]) (r := []) (fun n => rfl) (p1_c16v10_z3 xs h_1) ?_
  show mxRn 124 8 [(0, .ref 9), (1, .int 10)] [.int 1] (shA, IA, JA, QA) _
  refine mxRn.g2 6 0 (pc' := 19) (lv' := [(0, .ref 9), (1, .int 10)]) (st' := [.int 0, .ref 27]) (w' := (shA, IA, JA, QA)) (fun n => rfl) ?_
  exact mxRn.ret 2 (fun n => rfl)
set_option maxRecDepth 1000000 in
set_option maxHeartbeats 4000000 in
theorem p1_c16v10 (xs : Nat → Int32) (h_1 : xs 1 = 10) : mxOk 6 xs 33 [(0, .retAddr 2), (1, .ref 0), (2, .ref 9), (3, .int 0)] [.int 16] (shA, IA, JA, QA) := by
  refine mxOk.g2 6 0 (pc' := 609) (lv' := [(0, .retAddr 2), (1, .ref 0), (2, .ref 9), (3, .int 0)]) (st' := [.int 1, .retAddr 2, .ref 0]) (w' := (shA, IA, JA, QA)) (fun n => rfl) ?_
  refine mxOk.g2 1 0 (pc' := 610) (lv' := [(0, .retAddr 2), (1, .ref 0), (2, .ref 9), (3, .int 0)]) (st' := [.int (xs 1), .ref 0]) (w' := (shA, IA, JA, QA)) (fun n => rfl) ?_
  rw [h_1]
  refine mxOk.c2 1 0 (z := 79) (lz := [(0, .ref 0), (1, .int 10)]) (w1 := (shA, IA, JA, QA)) (pc' := 613) (lv' := [(0, .retAddr 2), (1, .ref 0), (2, .ref 9), (3, .int 0)]) (r := []) (fun n => rfl) (p1_c16v10_z1 xs h_1) ?_
  show mxOk 6 xs 613 [(0, .retAddr 2), (1, .ref 0), (2, .ref 9), (3, .int 0)] [.int 1] (shA, IA, JA, QA)
  refine mxOk.g2 6 0 (pc' := 619) (lv' := [(0, .retAddr 2), (1, .ref 0), (2, .ref 9), (3, .int 0)]) (st' := [.int (xs 1), .ref 9, .int 1]) (w' := (shA, IA, JA, QA)) (fun n => rfl) ?_
  rw [h_1]
  refine mxOk.c2 1 0 (z := 124) (lz := [(0, .ref 9), (1, .int 10)]) (w1 := (shA, IA, JA, QA)) (pc' := 622) (lv' := [(0, .retAddr 2), (1, .ref 0), (2, .ref 9), (3, .int 0)]) (r := [.int 1]) (fun n => rfl) (p1_c16v10_z2 xs h_1) ?_
  show mxOk 6 xs 622 [(0, .retAddr 2), (1, .ref 0), (2, .ref 9), (3, .int 0)] [.int 1, .int 1] (shA, IA, JA, QA)
  refine mxOk.g2 6 0 (pc' := 21) (lv' := [(0, .retAddr 2), (1, .ref 0), (2, .ref 9), (3, .int 6)]) (st' := [.int 6, .int 6]) (w' := (shA, IA, JA, QA)) (fun n => rfl) ?_
  exact mxOk.ret 5 (w' := (shA, IA, JA, QA)) (fun n => rfl) (show shA.length ≤ 600000 from Nat.le_of_ble_eq_true rfl) (show (shA.map (fun q => q.2)).sum ≤ 7302250 from Nat.le_of_ble_eq_true rfl)
set_option maxRecDepth 1000000 in
set_option maxHeartbeats 4000000 in
theorem p1_c16v11_z1 (xs : Nat → Int32) (h_1 : xs 1 = 11) : mxRn 79 0 [(0, .ref 0), (1, .int 11)] [] (shA, IA, JA, QA) (some (.int 1), (shA, IA, JA, QA)) := by
  refine mxRn.g2 6 0 (pc' := 12) (lv' := [(0, .ref 0), (1, .int 11)]) (st' := []) (w' := (shA, IA, JA, QA)) (fun n => rfl) ?_
  refine mxRn.g2 6 0 (pc' := 21) (lv' := [(0, .ref 0), (1, .int 11)]) (st' := [.int 1]) (w' := (shA, IA, JA, QA)) (fun n => rfl) ?_
  exact mxRn.ret 1 (fun n => rfl)
set_option maxRecDepth 1000000 in
set_option maxHeartbeats 4000000 in
theorem p1_c16v11_z3 (xs : Nat → Int32) (h_1 : xs 1 = 11) : mxRn 81 0 [(0, .int 11), (1, .int 10), (2, .int 16)] [] (shA, IA, JA, QA) (some (.int 1), (shA, IA, JA, QA)) := by
  refine mxRn.g2 6 0 (pc' := 10) (lv' := [(0, .int 11), (1, .int 10), (2, .int 16)]) (st' := []) (w' := (shA, IA, JA, QA)) (fun n => rfl) ?_
  exact mxRn.ret 3 (fun n => rfl)
set_option maxRecDepth 1000000 in
set_option maxHeartbeats 4000000 in
theorem p1_c16v11_z2 (xs : Nat → Int32) (h_1 : xs 1 = 11) : mxRn 124 0 [(0, .ref 9), (1, .int 11)] [] (shA, IA, JA, QA) (some (.int 1), (shA, IA, JA, QA)) := by
  refine mxRn.c2 4 0 (z := 81) (lz := [(0, .int 11), (1, .int 10), (2, .int 16)]) (w1 := (shA, IA, JA, QA)) (pc' := 8) (lv' := [(0, .ref 9), (1, .int 11)]) (r := []) (fun n => rfl) (p1_c16v11_z3 xs h_1) ?_
  show mxRn 124 8 [(0, .ref 9), (1, .int 11)] [.int 1] (shA, IA, JA, QA) _
  refine mxRn.g2 6 0 (pc' := 19) (lv' := [(0, .ref 9), (1, .int 11)]) (st' := [.int 1, .ref 27]) (w' := (shA, IA, JA, QA)) (fun n => rfl) ?_
  exact mxRn.ret 2 (fun n => rfl)
set_option maxRecDepth 1000000 in
set_option maxHeartbeats 4000000 in
theorem p1_c16v11 (xs : Nat → Int32) (h_1 : xs 1 = 11) : mxOk 6 xs 33 [(0, .retAddr 2), (1, .ref 0), (2, .ref 9), (3, .int 0)] [.int 16] (shA, IA, JA, QA) := by
  refine mxOk.g2 6 0 (pc' := 609) (lv' := [(0, .retAddr 2), (1, .ref 0), (2, .ref 9), (3, .int 0)]) (st' := [.int 1, .retAddr 2, .ref 0]) (w' := (shA, IA, JA, QA)) (fun n => rfl) ?_
  refine mxOk.g2 1 0 (pc' := 610) (lv' := [(0, .retAddr 2), (1, .ref 0), (2, .ref 9), (3, .int 0)]) (st' := [.int (xs 1), .ref 0]) (w' := (shA, IA, JA, QA)) (fun n => rfl) ?_
  rw [h_1]
  refine mxOk.c2 1 0 (z := 79) (lz := [(0, .ref 0), (1, .int 11)]) (w1 := (shA, IA, JA, QA)) (pc' := 613) (lv' := [(0, .retAddr 2), (1, .ref 0), (2, .ref 9), (3, .int 0)]) (r := []) (fun n => rfl) (p1_c16v11_z1 xs h_1) ?_
  show mxOk 6 xs 613 [(0, .retAddr 2), (1, .ref 0), (2, .ref 9), (3, .int 0)] [.int 1] (shA, IA, JA, QA)
  refine mxOk.g2 6 0 (pc' := 619) (lv' := [(0, .retAddr 2), (1, .ref 0), (2, .ref 9), (3, .int 0)]) (st' := [.int (xs 1), .ref 9, .int 1]) (w' := (shA, IA, JA, QA)) (fun n => rfl) ?_
  rw [h_1]
  refine mxOk.c2 1 0 (z := 124) (lz := [(0, .ref 9), (1, .int 11)]) (w1 := (shA, IA, JA, QA)) (pc' := 622) (lv' := [(0, .retAddr 2), (1, .ref 0), (2, .ref 9), (3, .int 0)]) (r := [.int 1]) (fun n => rfl) (p1_c16v11_z2 xs h_1) ?_
  show mxOk 6 xs 622 [(0, .retAddr 2), (1, .ref 0), (2, .ref 9), (3, .int 0)] [.int 1, .int 1] (shA, IA, JA, QA)
  refine mxOk.g2 6 0 (pc' := 21) (lv' := [(0, .retAddr 2), (1, .ref 0), (2, .ref 9), (3, .int 6)]) (st' := [.int 6, .int 6]) (w' := (shA, IA, JA, QA)) (fun n => rfl) ?_
  exact mxOk.ret 5 (w' := (shA, IA, JA, QA)) (fun n => rfl) (show shA.length ≤ 600000 from Nat.le_of_ble_eq_true rfl) (show (shA.map (fun q => q.2)).sum ≤ 7302250 from Nat.le_of_ble_eq_true rfl)
set_option maxRecDepth 1000000 in
set_option maxHeartbeats 4000000 in
theorem p1_c16v12_z1 (xs : Nat → Int32) (h_1 : xs 1 = 12) : mxRn 79 0 [(0, .ref 0), (1, .int 12)] [] (shA, IA, JA, QA) (some (.int 1), (shA, IA, JA, QA)) := by
  refine mxRn.g2 6 0 (pc' := 12) (lv' := [(0, .ref 0), (1, .int 12)]) (st' := []) (w' := (shA, IA, JA, QA)) (fun n => rfl) ?_
  refine mxRn.g2 6 0 (pc' := 21) (lv' := [(0, .ref 0), (1, .int 12)]) (st' := [.int 1]) (w' := (shA, IA, JA, QA)) (fun n => rfl) ?_
  exact mxRn.ret 1 (fun n => rfl)
set_option maxRecDepth 1000000 in
set_option maxHeartbeats 4000000 in
theorem p1_c16v12_z3 (xs : Nat → Int32) (h_1 : xs 1 = 12) : mxRn 81 0 [(0, .int 12), (1, .int 10), (2, .int 16)] [] (shA, IA, JA, QA) (some (.int 1), (shA, IA, JA, QA)) := by
  refine mxRn.g2 6 0 (pc' := 10) (lv' := [(0, .int 12), (1, .int 10), (2, .int 16)]) (st' := []) (w' := (shA, IA, JA, QA)) (fun n => rfl) ?_
  exact mxRn.ret 3 (fun n => rfl)
set_option maxRecDepth 1000000 in
set_option maxHeartbeats 4000000 in
theorem p1_c16v12_z2 (xs : Nat → Int32) (h_1 : xs 1 = 12) : mxRn 124 0 [(0, .ref 9), (1, .int 12)] [] (shA, IA, JA, QA) (some (.int 1), (shA, IA, JA, QA)) := by
  refine mxRn.c2 4 0 (z := 81) (lz := [(0, .int 12), (1, .int 10), (2, .int 16)]) (w1 := (shA, IA, JA, QA)) (pc' := 8) (lv' := [(0, .ref 9), (1, .int 12)]) (r := []) (fun n => rfl) (p1_c16v12_z3 xs h_1) ?_
  show mxRn 124 8 [(0, .ref 9), (1, .int 12)] [.int 1] (shA, IA, JA, QA) _
  refine mxRn.g2 6 0 (pc' := 19) (lv' := [(0, .ref 9), (1, .int 12)]) (st' := [.int 2, .ref 27]) (w' := (shA, IA, JA, QA)) (fun n => rfl) ?_
  exact mxRn.ret 2 (fun n => rfl)
set_option maxRecDepth 1000000 in
set_option maxHeartbeats 4000000 in
theorem p1_c16v12 (xs : Nat → Int32) (h_1 : xs 1 = 12) : mxOk 6 xs 33 [(0, .retAddr 2), (1, .ref 0), (2, .ref 9), (3, .int 0)] [.int 16] (shA, IA, JA, QA) := by
  refine mxOk.g2 6 0 (pc' := 609) (lv' := [(0, .retAddr 2), (1, .ref 0), (2, .ref 9), (3, .int 0)]) (st' := [.int 1, .retAddr 2, .ref 0]) (w' := (shA, IA, JA, QA)) (fun n => rfl) ?_
  refine mxOk.g2 1 0 (pc' := 610) (lv' := [(0, .retAddr 2), (1, .ref 0), (2, .ref 9), (3, .int 0)]) (st' := [.int (xs 1), .ref 0]) (w' := (shA, IA, JA, QA)) (fun n => rfl) ?_
  rw [h_1]
  refine mxOk.c2 1 0 (z := 79) (lz := [(0, .ref 0), (1, .int 12)]) (w1 := (shA, IA, JA, QA)) (pc' := 613) (lv' := [(0, .retAddr 2), (1, .ref 0), (2, .ref 9), (3, .int 0)]) (r := []) (fun n => rfl) (p1_c16v12_z1 xs h_1) ?_
  show mxOk 6 xs 613 [(0, .retAddr 2), (1, .ref 0), (2, .ref 9), (3, .int 0)] [.int 1] (shA, IA, JA, QA)
  refine mxOk.g2 6 0 (pc' := 619) (lv' := [(0, .retAddr 2), (1, .ref 0), (2, .ref 9), (3, .int 0)]) (st' := [.int (xs 1), .ref 9, .int 1]) (w' := (shA, IA, JA, QA)) (fun n => rfl) ?_
  rw [h_1]
  refine mxOk.c2 1 0 (z := 124) (lz := [(0, .ref 9), (1, .int 12)]) (w1 := (shA, IA, JA, QA)) (pc' := 622) (lv' := [(0, .retAddr 2), (1, .ref 0), (2, .ref 9), (3, .int 0)]) (r := [.int 1]) (fun n => rfl) (p1_c16v12_z2 xs h_1) ?_
  show mxOk 6 xs 622 [(0, .retAddr 2), (1, .ref 0), (2, .ref 9), (3, .int 0)] [.int 1, .int 1] (shA, IA, JA, QA)
  refine mxOk.g2 6 0 (pc' := 21) (lv' := [(0, .retAddr 2), (1, .ref 0), (2, .ref 9), (3, .int 6)]) (st' := [.int 6, .int 6]) (w' := (shA, IA, JA, QA)) (fun n => rfl) ?_
  exact mxOk.ret 5 (w' := (shA, IA, JA, QA)) (fun n => rfl) (show shA.length ≤ 600000 from Nat.le_of_ble_eq_true rfl) (show (shA.map (fun q => q.2)).sum ≤ 7302250 from Nat.le_of_ble_eq_true rfl)
set_option maxRecDepth 1000000 in
set_option maxHeartbeats 4000000 in
theorem p1_c16v13_z1 (xs : Nat → Int32) (h_1 : xs 1 = 13) : mxRn 79 0 [(0, .ref 0), (1, .int 13)] [] (shA, IA, JA, QA) (some (.int 1), (shA, IA, JA, QA)) := by
  refine mxRn.g2 6 0 (pc' := 12) (lv' := [(0, .ref 0), (1, .int 13)]) (st' := []) (w' := (shA, IA, JA, QA)) (fun n => rfl) ?_
  refine mxRn.g2 6 0 (pc' := 21) (lv' := [(0, .ref 0), (1, .int 13)]) (st' := [.int 1]) (w' := (shA, IA, JA, QA)) (fun n => rfl) ?_
  exact mxRn.ret 1 (fun n => rfl)
set_option maxRecDepth 1000000 in
set_option maxHeartbeats 4000000 in
theorem p1_c16v13_z3 (xs : Nat → Int32) (h_1 : xs 1 = 13) : mxRn 81 0 [(0, .int 13), (1, .int 10), (2, .int 16)] [] (shA, IA, JA, QA) (some (.int 1), (shA, IA, JA, QA)) := by
  refine mxRn.g2 6 0 (pc' := 10) (lv' := [(0, .int 13), (1, .int 10), (2, .int 16)]) (st' := []) (w' := (shA, IA, JA, QA)) (fun n => rfl) ?_
  exact mxRn.ret 3 (fun n => rfl)
set_option maxRecDepth 1000000 in
set_option maxHeartbeats 4000000 in
theorem p1_c16v13_z2 (xs : Nat → Int32) (h_1 : xs 1 = 13) : mxRn 124 0 [(0, .ref 9), (1, .int 13)] [] (shA, IA, JA, QA) (some (.int 1), (shA, IA, JA, QA)) := by
  refine mxRn.c2 4 0 (z := 81) (lz := [(0, .int 13), (1, .int 10), (2, .int 16)]) (w1 := (shA, IA, JA, QA)) (pc' := 8) (lv' := [(0, .ref 9), (1, .int 13)]) (r := []) (fun n => rfl) (p1_c16v13_z3 xs h_1) ?_
  show mxRn 124 8 [(0, .ref 9), (1, .int 13)] [.int 1] (shA, IA, JA, QA) _
  refine mxRn.g2 6 0 (pc' := 19) (lv' := [(0, .ref 9), (1, .int 13)]) (st' := [.int 3, .ref 27]) (w' := (shA, IA, JA, QA)) (fun n => rfl) ?_
  exact mxRn.ret 2 (fun n => rfl)
set_option maxRecDepth 1000000 in
set_option maxHeartbeats 4000000 in
theorem p1_c16v13 (xs : Nat → Int32) (h_1 : xs 1 = 13) : mxOk 6 xs 33 [(0, .retAddr 2), (1, .ref 0), (2, .ref 9), (3, .int 0)] [.int 16] (shA, IA, JA, QA) := by
  refine mxOk.g2 6 0 (pc' := 609) (lv' := [(0, .retAddr 2), (1, .ref 0), (2, .ref 9), (3, .int 0)]) (st' := [.int 1, .retAddr 2, .ref 0]) (w' := (shA, IA, JA, QA)) (fun n => rfl) ?_
  refine mxOk.g2 1 0 (pc' := 610) (lv' := [(0, .retAddr 2), (1, .ref 0), (2, .ref 9), (3, .int 0)]) (st' := [.int (xs 1), .ref 0]) (w' := (shA, IA, JA, QA)) (fun n => rfl) ?_
  rw [h_1]
  refine mxOk.c2 1 0 (z := 79) (lz := [(0, .ref 0), (1, .int 13)]) (w1 := (shA, IA, JA, QA)) (pc' := 613) (lv' := [(0, .retAddr 2), (1, .ref 0), (2, .ref 9), (3, .int 0)]) (r := []) (fun n => rfl) (p1_c16v13_z1 xs h_1) ?_
  show mxOk 6 xs 613 [(0, .retAddr 2), (1, .ref 0), (2, .ref 9), (3, .int 0)] [.int 1] (shA, IA, JA, QA)
  refine mxOk.g2 6 0 (pc' := 619) (lv' := [(0, .retAddr 2), (1, .ref 0), (2, .ref 9), (3, .int 0)]) (st' := [.int (xs 1), .ref 9, .int 1]) (w' := (shA, IA, JA, QA)) (fun n => rfl) ?_
  rw [h_1]
  refine mxOk.c2 1 0 (z := 124) (lz := [(0, .ref 9), (1, .int 13)]) (w1 := (shA, IA, JA, QA)) (pc' := 622) (lv' := [(0, .retAddr 2), (1, .ref 0), (2, .ref 9), (3, .int 0)]) (r := [.int 1]) (fun n => rfl) (p1_c16v13_z2 xs h_1) ?_
  show mxOk 6 xs 622 [(0, .retAddr 2), (1, .ref 0), (2, .ref 9), (3, .int 0)] [.int 1, .int 1] (shA, IA, JA, QA)
  refine mxOk.g2 6 0 (pc' := 21) (lv' := [(0, .retAddr 2), (1, .ref 0), (2, .ref 9), (3, .int 6)]) (st' := [.int 6, .int 6]) (w' := (shA, IA, JA, QA)) (fun n => rfl) ?_
  exact mxOk.ret 5 (w' := (shA, IA, JA, QA)) (fun n => rfl) (show shA.length ≤ 600000 from Nat.le_of_ble_eq_true rfl) (show (shA.map (fun q => q.2)).sum ≤ 7302250 from Nat.le_of_ble_eq_true rfl)
set_option maxRecDepth 1000000 in
set_option maxHeartbeats 4000000 in
theorem p1_c16v14_z1 (xs : Nat → Int32) (h_1 : xs 1 = 14) : mxRn 79 0 [(0, .ref 0), (1, .int 14)] [] (shA, IA, JA, QA) (some (.int 1), (shA, IA, JA, QA)) := by
  refine mxRn.g2 6 0 (pc' := 12) (lv' := [(0, .ref 0), (1, .int 14)]) (st' := []) (w' := (shA, IA, JA, QA)) (fun n => rfl) ?_
  refine mxRn.g2 6 0 (pc' := 21) (lv' := [(0, .ref 0), (1, .int 14)]) (st' := [.int 1]) (w' := (shA, IA, JA, QA)) (fun n => rfl) ?_
  exact mxRn.ret 1 (fun n => rfl)
set_option maxRecDepth 1000000 in
set_option maxHeartbeats 4000000 in
theorem p1_c16v14_z3 (xs : Nat → Int32) (h_1 : xs 1 = 14) : mxRn 81 0 [(0, .int 14), (1, .int 10), (2, .int 16)] [] (shA, IA, JA, QA) (some (.int 1), (shA, IA, JA, QA)) := by
  refine mxRn.g2 6 0 (pc' := 10) (lv' := [(0, .int 14), (1, .int 10), (2, .int 16)]) (st' := []) (w' := (shA, IA, JA, QA)) (fun n => rfl) ?_
  exact mxRn.ret 3 (fun n => rfl)
set_option maxRecDepth 1000000 in
set_option maxHeartbeats 4000000 in
theorem p1_c16v14_z2 (xs : Nat → Int32) (h_1 : xs 1 = 14) : mxRn 124 0 [(0, .ref 9), (1, .int 14)] [] (shA, IA, JA, QA) (some (.int 1), (shA, IA, JA, QA)) := by
  refine mxRn.c2 4 0 (z := 81) (lz := [(0, .int 14), (1, .int 10), (2, .int 16)]) (w1 := (shA, IA, JA, QA)) (pc' := 8) (lv' := [(0, .ref 9), (1, .int 14)]) (r := []) (fun n => rfl) (p1_c16v14_z3 xs h_1) ?_
  show mxRn 124 8 [(0, .ref 9), (1, .int 14)] [.int 1] (shA, IA, JA, QA) _
  refine mxRn.g2 6 0 (pc' := 19) (lv' := [(0, .ref 9), (1, .int 14)]) (st' := [.int 4, .ref 27]) (w' := (shA, IA, JA, QA)) (fun n => rfl) ?_
  exact mxRn.ret 2 (fun n => rfl)
set_option maxRecDepth 1000000 in
set_option maxHeartbeats 4000000 in
theorem p1_c16v14 (xs : Nat → Int32) (h_1 : xs 1 = 14) : mxOk 6 xs 33 [(0, .retAddr 2), (1, .ref 0), (2, .ref 9), (3, .int 0)] [.int 16] (shA, IA, JA, QA) := by
  refine mxOk.g2 6 0 (pc' := 609) (lv' := [(0, .retAddr 2), (1, .ref 0), (2, .ref 9), (3, .int 0)]) (st' := [.int 1, .retAddr 2, .ref 0]) (w' := (shA, IA, JA, QA)) (fun n => rfl) ?_
  refine mxOk.g2 1 0 (pc' := 610) (lv' := [(0, .retAddr 2), (1, .ref 0), (2, .ref 9), (3, .int 0)]) (st' := [.int (xs 1), .ref 0]) (w' := (shA, IA, JA, QA)) (fun n => rfl) ?_
  rw [h_1]
  refine mxOk.c2 1 0 (z := 79) (lz := [(0, .ref 0), (1, .int 14)]) (w1 := (shA, IA, JA, QA)) (pc' := 613) (lv' := [(0, .retAddr 2), (1, .ref 0), (2, .ref 9), (3, .int 0)]) (r := []) (fun n => rfl) (p1_c16v14_z1 xs h_1) ?_
  show mxOk 6 xs 613 [(0, .retAddr 2), (1, .ref 0), (2, .ref 9), (3, .int 0)] [.int 1] (shA, IA, JA, QA)
  refine mxOk.g2 6 0 (pc' := 619) (lv' := [(0, .retAddr 2), (1, .ref 0), (2, .ref 9), (3, .int 0)]) (st' := [.int (xs 1), .ref 9, .int 1]) (w' := (shA, IA, JA, QA)) (fun n => rfl) ?_
  rw [h_1]
  refine mxOk.c2 1 0 (z := 124) (lz := [(0, .ref 9), (1, .int 14)]) (w1 := (shA, IA, JA, QA)) (pc' := 622) (lv' := [(0, .retAddr 2), (1, .ref 0), (2, .ref 9), (3, .int 0)]) (r := [.int 1]) (fun n => rfl) (p1_c16v14_z2 xs h_1) ?_
  show mxOk 6 xs 622 [(0, .retAddr 2), (1, .ref 0), (2, .ref 9), (3, .int 0)] [.int 1, .int 1] (shA, IA, JA, QA)
  refine mxOk.g2 6 0 (pc' := 21) (lv' := [(0, .retAddr 2), (1, .ref 0), (2, .ref 9), (3, .int 6)]) (st' := [.int 6, .int 6]) (w' := (shA, IA, JA, QA)) (fun n => rfl) ?_
  exact mxOk.ret 5 (w' := (shA, IA, JA, QA)) (fun n => rfl) (show shA.length ≤ 600000 from Nat.le_of_ble_eq_true rfl) (show (shA.map (fun q => q.2)).sum ≤ 7302250 from Nat.le_of_ble_eq_true rfl)
set_option maxRecDepth 1000000 in
set_option maxHeartbeats 4000000 in
theorem p1_c16v15_z1 (xs : Nat → Int32) (h_1 : xs 1 = 15) : mxRn 79 0 [(0, .ref 0), (1, .int 15)] [] (shA, IA, JA, QA) (some (.int 1), (shA, IA, JA, QA)) := by
  refine mxRn.g2 6 0 (pc' := 12) (lv' := [(0, .ref 0), (1, .int 15)]) (st' := []) (w' := (shA, IA, JA, QA)) (fun n => rfl) ?_
  refine mxRn.g2 6 0 (pc' := 21) (lv' := [(0, .ref 0), (1, .int 15)]) (st' := [.int 1]) (w' := (shA, IA, JA, QA)) (fun n => rfl) ?_
  exact mxRn.ret 1 (fun n => rfl)
set_option maxRecDepth 1000000 in
set_option maxHeartbeats 4000000 in
theorem p1_c16v15_z3 (xs : Nat → Int32) (h_1 : xs 1 = 15) : mxRn 81 0 [(0, .int 15), (1, .int 10), (2, .int 16)] [] (shA, IA, JA, QA) (some (.int 1), (shA, IA, JA, QA)) := by
  refine mxRn.g2 6 0 (pc' := 10) (lv' := [(0, .int 15), (1, .int 10), (2, .int 16)]) (st' := []) (w' := (shA, IA, JA, QA)) (fun n => rfl) ?_
  exact mxRn.ret 3 (fun n => rfl)
set_option maxRecDepth 1000000 in
set_option maxHeartbeats 4000000 in
theorem p1_c16v15_z2 (xs : Nat → Int32) (h_1 : xs 1 = 15) : mxRn 124 0 [(0, .ref 9), (1, .int 15)] [] (shA, IA, JA, QA) (some (.int 1), (shA, IA, JA, QA)) := by
  refine mxRn.c2 4 0 (z := 81) (lz := [(0, .int 15), (1, .int 10), (2, .int 16)]) (w1 := (shA, IA, JA, QA)) (pc' := 8) (lv' := [(0, .ref 9), (1, .int 15)]) (r := []) (fun n => rfl) (p1_c16v15_z3 xs h_1) ?_
  show mxRn 124 8 [(0, .ref 9), (1, .int 15)] [.int 1] (shA, IA, JA, QA) _
  refine mxRn.g2 6 0 (pc' := 19) (lv' := [(0, .ref 9), (1, .int 15)]) (st' := [.int 5, .ref 27]) (w' := (shA, IA, JA, QA)) (fun n => rfl) ?_
  exact mxRn.ret 2 (fun n => rfl)
set_option maxRecDepth 1000000 in
set_option maxHeartbeats 4000000 in
theorem p1_c16v15 (xs : Nat → Int32) (h_1 : xs 1 = 15) : mxOk 6 xs 33 [(0, .retAddr 2), (1, .ref 0), (2, .ref 9), (3, .int 0)] [.int 16] (shA, IA, JA, QA) := by
  refine mxOk.g2 6 0 (pc' := 609) (lv' := [(0, .retAddr 2), (1, .ref 0), (2, .ref 9), (3, .int 0)]) (st' := [.int 1, .retAddr 2, .ref 0]) (w' := (shA, IA, JA, QA)) (fun n => rfl) ?_
  refine mxOk.g2 1 0 (pc' := 610) (lv' := [(0, .retAddr 2), (1, .ref 0), (2, .ref 9), (3, .int 0)]) (st' := [.int (xs 1), .ref 0]) (w' := (shA, IA, JA, QA)) (fun n => rfl) ?_
  rw [h_1]
  refine mxOk.c2 1 0 (z := 79) (lz := [(0, .ref 0), (1, .int 15)]) (w1 := (shA, IA, JA, QA)) (pc' := 613) (lv' := [(0, .retAddr 2), (1, .ref 0), (2, .ref 9), (3, .int 0)]) (r := []) (fun n => rfl) (p1_c16v15_z1 xs h_1) ?_
  show mxOk 6 xs 613 [(0, .retAddr 2), (1, .ref 0), (2, .ref 9), (3, .int 0)] [.int 1] (shA, IA, JA, QA)
  refine mxOk.g2 6 0 (pc' := 619) (lv' := [(0, .retAddr 2), (1, .ref 0), (2, .ref 9), (3, .int 0)]) (st' := [.int (xs 1), .ref 9, .int 1]) (w' := (shA, IA, JA, QA)) (fun n => rfl) ?_
  rw [h_1]
  refine mxOk.c2 1 0 (z := 124) (lz := [(0, .ref 9), (1, .int 15)]) (w1 := (shA, IA, JA, QA)) (pc' := 622) (lv' := [(0, .retAddr 2), (1, .ref 0), (2, .ref 9), (3, .int 0)]) (r := [.int 1]) (fun n => rfl) (p1_c16v15_z2 xs h_1) ?_
  show mxOk 6 xs 622 [(0, .retAddr 2), (1, .ref 0), (2, .ref 9), (3, .int 0)] [.int 1, .int 1] (shA, IA, JA, QA)
  refine mxOk.g2 6 0 (pc' := 21) (lv' := [(0, .retAddr 2), (1, .ref 0), (2, .ref 9), (3, .int 6)]) (st' := [.int 6, .int 6]) (w' := (shA, IA, JA, QA)) (fun n => rfl) ?_
  exact mxOk.ret 5 (w' := (shA, IA, JA, QA)) (fun n => rfl) (show shA.length ≤ 600000 from Nat.le_of_ble_eq_true rfl) (show (shA.map (fun q => q.2)).sum ≤ 7302250 from Nat.le_of_ble_eq_true rfl)
set_option maxRecDepth 1000000 in
set_option maxHeartbeats 4000000 in
theorem p1_c16v16_z1 (xs : Nat → Int32) (h_1 : xs 1 = 16) : mxRn 79 0 [(0, .ref 0), (1, .int 16)] [] (shA, IA, JA, QA) (some (.int 1), (shA, IA, JA, QA)) := by
  refine mxRn.g2 6 0 (pc' := 12) (lv' := [(0, .ref 0), (1, .int 16)]) (st' := []) (w' := (shA, IA, JA, QA)) (fun n => rfl) ?_
  refine mxRn.g2 6 0 (pc' := 21) (lv' := [(0, .ref 0), (1, .int 16)]) (st' := [.int 1]) (w' := (shA, IA, JA, QA)) (fun n => rfl) ?_
  exact mxRn.ret 1 (fun n => rfl)
set_option maxRecDepth 1000000 in
set_option maxHeartbeats 4000000 in
theorem p1_c16v16_z3 (xs : Nat → Int32) (h_1 : xs 1 = 16) : mxRn 81 0 [(0, .int 16), (1, .int 10), (2, .int 16)] [] (shA, IA, JA, QA) (some (.int 1), (shA, IA, JA, QA)) := by
  refine mxRn.g2 6 0 (pc' := 10) (lv' := [(0, .int 16), (1, .int 10), (2, .int 16)]) (st' := []) (w' := (shA, IA, JA, QA)) (fun n => rfl) ?_
  exact mxRn.ret 3 (fun n => rfl)
set_option maxRecDepth 1000000 in
set_option maxHeartbeats 4000000 in
theorem p1_c16v16_z2 (xs : Nat → Int32) (h_1 : xs 1 = 16) : mxRn 124 0 [(0, .ref 9), (1, .int 16)] [] (shA, IA, JA, QA) (some (.int 1), (shA, IA, JA, QA)) := by
  refine mxRn.c2 4 0 (z := 81) (lz := [(0, .int 16), (1, .int 10), (2, .int 16)]) (w1 := (shA, IA, JA, QA)) (pc' := 8) (lv' := [(0, .ref 9), (1, .int 16)]) (r := []) (fun n => rfl) (p1_c16v16_z3 xs h_1) ?_
  show mxRn 124 8 [(0, .ref 9), (1, .int 16)] [.int 1] (shA, IA, JA, QA) _
  refine mxRn.g2 6 0 (pc' := 19) (lv' := [(0, .ref 9), (1, .int 16)]) (st' := [.int 6, .ref 27]) (w' := (shA, IA, JA, QA)) (fun n => rfl) ?_
  exact mxRn.ret 2 (fun n => rfl)
set_option maxRecDepth 1000000 in
set_option maxHeartbeats 4000000 in
theorem p1_c16v16 (xs : Nat → Int32) (h_1 : xs 1 = 16) : mxOk 6 xs 33 [(0, .retAddr 2), (1, .ref 0), (2, .ref 9), (3, .int 0)] [.int 16] (shA, IA, JA, QA) := by
  refine mxOk.g2 6 0 (pc' := 609) (lv' := [(0, .retAddr 2), (1, .ref 0), (2, .ref 9), (3, .int 0)]) (st' := [.int 1, .retAddr 2, .ref 0]) (w' := (shA, IA, JA, QA)) (fun n => rfl) ?_
  refine mxOk.g2 1 0 (pc' := 610) (lv' := [(0, .retAddr 2), (1, .ref 0), (2, .ref 9), (3, .int 0)]) (st' := [.int (xs 1), .ref 0]) (w' := (shA, IA, JA, QA)) (fun n => rfl) ?_
  rw [h_1]
  refine mxOk.c2 1 0 (z := 79) (lz := [(0, .ref 0), (1, .int 16)]) (w1 := (shA, IA, JA, QA)) (pc' := 613) (lv' := [(0, .retAddr 2), (1, .ref 0), (2, .ref 9), (3, .int 0)]) (r := []) (fun n => rfl) (p1_c16v16_z1 xs h_1) ?_
  show mxOk 6 xs 613 [(0, .retAddr 2), (1, .ref 0), (2, .ref 9), (3, .int 0)] [.int 1] (shA, IA, JA, QA)
  refine mxOk.g2 6 0 (pc' := 619) (lv' := [(0, .retAddr 2), (1, .ref 0), (2, .ref 9), (3, .int 0)]) (st' := [.int (xs 1), .ref 9, .int 1]) (w' := (shA, IA, JA, QA)) (fun n => rfl) ?_
  rw [h_1]
  refine mxOk.c2 1 0 (z := 124) (lz := [(0, .ref 9), (1, .int 16)]) (w1 := (shA, IA, JA, QA)) (pc' := 622) (lv' := [(0, .retAddr 2), (1, .ref 0), (2, .ref 9), (3, .int 0)]) (r := [.int 1]) (fun n => rfl) (p1_c16v16_z2 xs h_1) ?_
  show mxOk 6 xs 622 [(0, .retAddr 2), (1, .ref 0), (2, .ref 9), (3, .int 0)] [.int 1, .int 1] (shA, IA, JA, QA)
  refine mxOk.g2 6 0 (pc' := 21) (lv' := [(0, .retAddr 2), (1, .ref 0), (2, .ref 9), (3, .int 6)]) (st' := [.int 6, .int 6]) (w' := (shA, IA, JA, QA)) (fun n => rfl) ?_
  exact mxOk.ret 5 (w' := (shA, IA, JA, QA)) (fun n => rfl) (show shA.length ≤ 600000 from Nat.le_of_ble_eq_true rfl) (show (shA.map (fun q => q.2)).sum ≤ 7302250 from Nat.le_of_ble_eq_true rfl)
set_option maxRecDepth 1000000 in
set_option maxHeartbeats 4000000 in
theorem p1_c5b_z1 (xs : Nat → Int32) (h_1 : (xs 1).toInt < 1) : mxRn 60 0 [(0, .ref 0), (1, .int (xs 1)), (2, .long (((((xs 2)).toInt64) <<< (((32 : Int32)).toInt64 &&& 63)) ||| ((((xs 3)).toInt64) &&& (4294967295 : Int64))))] [] (shA, IA, JA, QA) (some (.int (-1)), (shA, IA, JA, QA)) := by
  refine mxRn.it2 3 0 (bb := Op.if_icmp.holds .lt (xs 1) (1 : Int32)) (pc' := 20) (lv' := [(0, .ref 0), (1, .int (xs 1)), (2, .long (((((xs 2)).toInt64) <<< (((32 : Int32)).toInt64 &&& 63)) ||| ((((xs 3)).toInt64) &&& (4294967295 : Int64))))]) (st' := []) (w' := (shA, IA, JA, QA)) (X := fun nf => mxev (nf + 0) 60 5 [(0, .ref 0), (1, .int (xs 1)), (2, .long (((((xs 2)).toInt64) <<< (((32 : Int32)).toInt64 &&& 63)) ||| ((((xs 3)).toInt64) &&& (4294967295 : Int64))))] [] (shA, IA, JA, QA)) (fun n => rfl) (hc_lt_t 1 rfl (by omega)) ?_
  exact mxRn.ret 2 (fun n => rfl)
set_option maxRecDepth 1000000 in
set_option maxHeartbeats 4000000 in
theorem p1_c5b_z3 (xs : Nat → Int32) (h_1 : (xs 1).toInt < 1) : mxRn 81 0 [(0, .int (xs 1)), (1, .int 1), (2, .int 8)] [] (shA, IA, JA, QA) (some (.int 0), (shA, IA, JA, QA)) := by
  refine mxRn.it2 3 0 (bb := Op.if_icmp.holds .lt (xs 1) (1 : Int32)) (pc' := 14) (lv' := [(0, .int (xs 1)), (1, .int 1), (2, .int 8)]) (st' := []) (w' := (shA, IA, JA, QA)) (X := fun nf => mxev (nf + 0) 81 5 [(0, .int (xs 1)), (1, .int 1), (2, .int 8)] [] (shA, IA, JA, QA)) (fun n => rfl) (hc_lt_t 1 rfl (by omega)) ?_
  exact mxRn.ret 2 (fun n => rfl)
set_option maxRecDepth 1000000 in
set_option maxHeartbeats 4000000 in
theorem p1_c5b_z2 (xs : Nat → Int32) (h_1 : (xs 1).toInt < 1) : mxRn 111 0 [(0, .ref 9), (1, .int (xs 1)), (2, .long (((((xs 2)).toInt64) <<< (((32 : Int32)).toInt64 &&& 63)) ||| ((((xs 3)).toInt64) &&& (4294967295 : Int64))))] [] (shA, IA, JA, QA) (some (.int (-1)), (shA, IA, JA, QA)) := by
  refine mxRn.g2 6 0 (pc' := 11) (lv' := [(0, .ref 9), (1, .int (xs 1)), (2, .long (((((xs 2)).toInt64) <<< (((32 : Int32)).toInt64 &&& 63)) ||| ((((xs 3)).toInt64) &&& (4294967295 : Int64))))]) (st' := [.int 1, .int (xs 1)]) (w' := (shA, IA, JA, QA)) (fun n => rfl) ?_
  refine mxRn.c2 2 0 (z := 81) (lz := [(0, .int (xs 1)), (1, .int 1), (2, .int 8)]) (w1 := (shA, IA, JA, QA)) (pc' := 16) (lv' := [(0, .ref 9), (1, .int (xs 1)), (2, .long (((((xs 2)).toInt64) <<< (((32 : Int32)).toInt64 &&& 63)) ||| ((((xs 3)).toInt64) &&& (4294967295 : Int64))))]) (r := []) (fun n => rfl) (p1_c5b_z3 xs h_1) ?_
  show mxRn 111 16 [(0, .ref 9), (1, .int (xs 1)), (2, .long (((((xs 2)).toInt64) <<< (((32 : Int32)).toInt64 &&& 63)) ||| ((((xs 3)).toInt64) &&& (4294967295 : Int64))))] [.int 0] (shA, IA, JA, QA) _
  exact mxRn.ret 3 (fun n => rfl)
set_option maxRecDepth 1000000 in
set_option maxHeartbeats 4000000 in
theorem p1_c5b_p1 (xs : Nat → Int32) (h_1 : (xs 1).toInt < 1) : mxOk 6 xs 21 [(0, .retAddr 2), (1, .ref 0), (2, .ref 9), (3, .int 6)] [.int 6, .int 6] (shA, IA, JA, QA) := by
  exact mxOk.ret 5 (w' := (shA, IA, JA, QA)) (fun n => rfl) (show shA.length ≤ 600000 from Nat.le_of_ble_eq_true rfl) (show (shA.map (fun q => q.2)).sum ≤ 7302250 from Nat.le_of_ble_eq_true rfl)
set_option maxRecDepth 1000000 in
set_option maxHeartbeats 4000000 in
theorem p1_c5b (xs : Nat → Int32) (h_1 : (xs 1).toInt < 1) : mxOk 6 xs 33 [(0, .retAddr 2), (1, .ref 0), (2, .ref 9), (3, .int 0)] [.int 5] (shA, IA, JA, QA) := by
  refine mxOk.g2 6 0 (pc' := 276) (lv' := [(0, .retAddr 2), (1, .ref 0), (2, .ref 9), (3, .int 0)]) (st' := [.int 1, .retAddr 2, .ref 0]) (w' := (shA, IA, JA, QA)) (fun n => rfl) ?_
  refine mxOk.g2 6 0 (pc' := 282) (lv' := [(0, .retAddr 2), (1, .ref 0), (2, .ref 9), (3, .int 0)]) (st' := [.int (xs 2), .int (xs 1), .ref 0]) (w' := (shA, IA, JA, QA)) (fun n => rfl) ?_
  refine mxOk.g2 6 0 (pc' := 289) (lv' := [(0, .retAddr 2), (1, .ref 0), (2, .ref 9), (3, .int 0)]) (st' := [.int 3, .int 0, .retAddr 2, .long ((((xs 2)).toInt64) <<< (((32 : Int32)).toInt64 &&& 63)), .int (xs 1), .ref 0]) (w' := (shA, IA, JA, QA)) (fun n => rfl) ?_
  refine mxOk.g2 6 0 (pc' := 297) (lv' := [(0, .retAddr 2), (1, .ref 0), (2, .ref 9), (3, .int 0)]) (st' := [.long (((((xs 2)).toInt64) <<< (((32 : Int32)).toInt64 &&& 63)) ||| ((((xs 3)).toInt64) &&& (4294967295 : Int64))), .int (xs 1), .ref 0]) (w' := (shA, IA, JA, QA)) (fun n => rfl) ?_
  refine mxOk.c2 1 0 (z := 60) (lz := [(0, .ref 0), (1, .int (xs 1)), (2, .long (((((xs 2)).toInt64) <<< (((32 : Int32)).toInt64 &&& 63)) ||| ((((xs 3)).toInt64) &&& (4294967295 : Int64))))]) (w1 := (shA, IA, JA, QA)) (pc' := 300) (lv' := [(0, .retAddr 2), (1, .ref 0), (2, .ref 9), (3, .int 0)]) (r := []) (fun n => rfl) (p1_c5b_z1 xs h_1) ?_
  show mxOk 6 xs 300 [(0, .retAddr 2), (1, .ref 0), (2, .ref 9), (3, .int 0)] [.int (-1)] (shA, IA, JA, QA)
  refine mxOk.g2 6 0 (pc' := 306) (lv' := [(0, .retAddr 2), (1, .ref 0), (2, .ref 9), (3, .int 0)]) (st' := [.int (xs 1), .ref 9, .int (-1)]) (w' := (shA, IA, JA, QA)) (fun n => rfl) ?_
  refine mxOk.g2 6 0 (pc' := 312) (lv' := [(0, .retAddr 2), (1, .ref 0), (2, .ref 9), (3, .int 0)]) (st' := [.long (((xs 2)).toInt64), .int (xs 1), .ref 9, .int (-1)]) (w' := (shA, IA, JA, QA)) (fun n => rfl) ?_
  refine mxOk.g2 6 0 (pc' := 319) (lv' := [(0, .retAddr 2), (1, .ref 0), (2, .ref 9), (3, .int 0)]) (st' := [.int 3, .retAddr 2, .long ((((xs 2)).toInt64) <<< (((32 : Int32)).toInt64 &&& 63)), .int (xs 1), .ref 9, .int (-1)]) (w' := (shA, IA, JA, QA)) (fun n => rfl) ?_
  refine mxOk.c2 6 0 (z := 111) (lz := [(0, .ref 9), (1, .int (xs 1)), (2, .long (((((xs 2)).toInt64) <<< (((32 : Int32)).toInt64 &&& 63)) ||| ((((xs 3)).toInt64) &&& (4294967295 : Int64))))]) (w1 := (shA, IA, JA, QA)) (pc' := 329) (lv' := [(0, .retAddr 2), (1, .ref 0), (2, .ref 9), (3, .int 0)]) (r := [.int (-1)]) (fun n => rfl) (p1_c5b_z2 xs h_1) ?_
  show mxOk 6 xs 329 [(0, .retAddr 2), (1, .ref 0), (2, .ref 9), (3, .int 0)] [.int (-1), .int (-1)] (shA, IA, JA, QA)
  refine mxOk.g2 6 0 (pc' := 21) (lv' := [(0, .retAddr 2), (1, .ref 0), (2, .ref 9), (3, .int 6)]) (st' := [.int 6, .int 6]) (w' := (shA, IA, JA, QA)) (fun n => rfl) ?_
  exact p1_c5b_p1 xs h_1
set_option maxRecDepth 1000000 in
set_option maxHeartbeats 4000000 in
theorem p1_c5a_z1 (xs : Nat → Int32) (h_1 : 8 < (xs 1).toInt) : mxRn 60 0 [(0, .ref 0), (1, .int (xs 1)), (2, .long (((((xs 2)).toInt64) <<< (((32 : Int32)).toInt64 &&& 63)) ||| ((((xs 3)).toInt64) &&& (4294967295 : Int64))))] [] (shA, IA, JA, QA) (some (.int (-1)), (shA, IA, JA, QA)) := by
  refine mxRn.if2 3 0 (bb := Op.if_icmp.holds .lt (xs 1) (1 : Int32)) (pc' := 5) (lv' := [(0, .ref 0), (1, .int (xs 1)), (2, .long (((((xs 2)).toInt64) <<< (((32 : Int32)).toInt64 &&& 63)) ||| ((((xs 3)).toInt64) &&& (4294967295 : Int64))))]) (st' := []) (w' := (shA, IA, JA, QA)) (X := fun nf => mxev (nf + 0) 60 20 [(0, .ref 0), (1, .int (xs 1)), (2, .long (((((xs 2)).toInt64) <<< (((32 : Int32)).toInt64 &&& 63)) ||| ((((xs 3)).toInt64) &&& (4294967295 : Int64))))] [] (shA, IA, JA, QA)) (fun n => rfl) (hc_lt_f 1 rfl (by omega)) ?_
  refine mxRn.it2 3 0 (bb := Op.if_icmp.holds .gt (xs 1) (8 : Int32)) (pc' := 20) (lv' := [(0, .ref 0), (1, .int (xs 1)), (2, .long (((((xs 2)).toInt64) <<< (((32 : Int32)).toInt64 &&& 63)) ||| ((((xs 3)).toInt64) &&& (4294967295 : Int64))))]) (st' := []) (w' := (shA, IA, JA, QA)) (X := fun nf => mxev (nf + 0) 60 11 [(0, .ref 0), (1, .int (xs 1)), (2, .long (((((xs 2)).toInt64) <<< (((32 : Int32)).toInt64 &&& 63)) ||| ((((xs 3)).toInt64) &&& (4294967295 : Int64))))] [] (shA, IA, JA, QA)) (fun n => rfl) (hc_gt_t 8 rfl (by omega)) ?_
  exact mxRn.ret 2 (fun n => rfl)
set_option maxRecDepth 1000000 in
set_option maxHeartbeats 4000000 in
theorem p1_c5a_z3 (xs : Nat → Int32) (h_1 : 8 < (xs 1).toInt) : mxRn 81 0 [(0, .int (xs 1)), (1, .int 1), (2, .int 8)] [] (shA, IA, JA, QA) (some (.int 0), (shA, IA, JA, QA)) := by
  refine mxRn.if2 3 0 (bb := Op.if_icmp.holds .lt (xs 1) (1 : Int32)) (pc' := 5) (lv' := [(0, .int (xs 1)), (1, .int 1), (2, .int 8)]) (st' := []) (w' := (shA, IA, JA, QA)) (X := fun nf => mxev (nf + 0) 81 14 [(0, .int (xs 1)), (1, .int 1), (2, .int 8)] [] (shA, IA, JA, QA)) (fun n => rfl) (hc_lt_f 1 rfl (by omega)) ?_
  refine mxRn.it2 3 0 (bb := Op.if_icmp.holds .gt (xs 1) (8 : Int32)) (pc' := 14) (lv' := [(0, .int (xs 1)), (1, .int 1), (2, .int 8)]) (st' := []) (w' := (shA, IA, JA, QA)) (X := fun nf => mxev (nf + 0) 81 10 [(0, .int (xs 1)), (1, .int 1), (2, .int 8)] [] (shA, IA, JA, QA)) (fun n => rfl) (hc_gt_t 8 rfl (by omega)) ?_
  exact mxRn.ret 2 (fun n => rfl)
set_option maxRecDepth 1000000 in
set_option maxHeartbeats 4000000 in
theorem p1_c5a_z2 (xs : Nat → Int32) (h_1 : 8 < (xs 1).toInt) : mxRn 111 0 [(0, .ref 9), (1, .int (xs 1)), (2, .long (((((xs 2)).toInt64) <<< (((32 : Int32)).toInt64 &&& 63)) ||| ((((xs 3)).toInt64) &&& (4294967295 : Int64))))] [] (shA, IA, JA, QA) (some (.int (-1)), (shA, IA, JA, QA)) := by
  refine mxRn.g2 6 0 (pc' := 11) (lv' := [(0, .ref 9), (1, .int (xs 1)), (2, .long (((((xs 2)).toInt64) <<< (((32 : Int32)).toInt64 &&& 63)) ||| ((((xs 3)).toInt64) &&& (4294967295 : Int64))))]) (st' := [.int 1, .int (xs 1)]) (w' := (shA, IA, JA, QA)) (fun n => rfl) ?_
  refine mxRn.c2 2 0 (z := 81) (lz := [(0, .int (xs 1)), (1, .int 1), (2, .int 8)]) (w1 := (shA, IA, JA, QA)) (pc' := 16) (lv' := [(0, .ref 9), (1, .int (xs 1)), (2, .long (((((xs 2)).toInt64) <<< (((32 : Int32)).toInt64 &&& 63)) ||| ((((xs 3)).toInt64) &&& (4294967295 : Int64))))]) (r := []) (fun n => rfl) (p1_c5a_z3 xs h_1) ?_
  show mxRn 111 16 [(0, .ref 9), (1, .int (xs 1)), (2, .long (((((xs 2)).toInt64) <<< (((32 : Int32)).toInt64 &&& 63)) ||| ((((xs 3)).toInt64) &&& (4294967295 : Int64))))] [.int 0] (shA, IA, JA, QA) _
  exact mxRn.ret 3 (fun n => rfl)
set_option maxRecDepth 1000000 in
set_option maxHeartbeats 4000000 in
theorem p1_c5a_p1 (xs : Nat → Int32) (h_1 : 8 < (xs 1).toInt) : mxOk 6 xs 21 [(0, .retAddr 2), (1, .ref 0), (2, .ref 9), (3, .int 6)] [.int 6, .int 6] (shA, IA, JA, QA) := by
  exact mxOk.ret 5 (w' := (shA, IA, JA, QA)) (fun n => rfl) (show shA.length ≤ 600000 from Nat.le_of_ble_eq_true rfl) (show (shA.map (fun q => q.2)).sum ≤ 7302250 from Nat.le_of_ble_eq_true rfl)
set_option maxRecDepth 1000000 in
set_option maxHeartbeats 4000000 in
theorem p1_c5a (xs : Nat → Int32) (h_1 : 8 < (xs 1).toInt) : mxOk 6 xs 33 [(0, .retAddr 2), (1, .ref 0), (2, .ref 9), (3, .int 0)] [.int 5] (shA, IA, JA, QA) := by
  refine mxOk.g2 6 0 (pc' := 276) (lv' := [(0, .retAddr 2), (1, .ref 0), (2, .ref 9), (3, .int 0)]) (st' := [.int 1, .retAddr 2, .ref 0]) (w' := (shA, IA, JA, QA)) (fun n => rfl) ?_
  refine mxOk.g2 6 0 (pc' := 282) (lv' := [(0, .retAddr 2), (1, .ref 0), (2, .ref 9), (3, .int 0)]) (st' := [.int (xs 2), .int (xs 1), .ref 0]) (w' := (shA, IA, JA, QA)) (fun n => rfl) ?_
  refine mxOk.g2 6 0 (pc' := 289) (lv' := [(0, .retAddr 2), (1, .ref 0), (2, .ref 9), (3, .int 0)]) (st' := [.int 3, .int 0, .retAddr 2, .long ((((xs 2)).toInt64) <<< (((32 : Int32)).toInt64 &&& 63)), .int (xs 1), .ref 0]) (w' := (shA, IA, JA, QA)) (fun n => rfl) ?_
  refine mxOk.g2 6 0 (pc' := 297) (lv' := [(0, .retAddr 2), (1, .ref 0), (2, .ref 9), (3, .int 0)]) (st' := [.long (((((xs 2)).toInt64) <<< (((32 : Int32)).toInt64 &&& 63)) ||| ((((xs 3)).toInt64) &&& (4294967295 : Int64))), .int (xs 1), .ref 0]) (w' := (shA, IA, JA, QA)) (fun n => rfl) ?_
  refine mxOk.c2 1 0 (z := 60) (lz := [(0, .ref 0), (1, .int (xs 1)), (2, .long (((((xs 2)).toInt64) <<< (((32 : Int32)).toInt64 &&& 63)) ||| ((((xs 3)).toInt64) &&& (4294967295 : Int64))))]) (w1 := (shA, IA, JA, QA)) (pc' := 300) (lv' := [(0, .retAddr 2), (1, .ref 0), (2, .ref 9), (3, .int 0)]) (r := []) (fun n => rfl) (p1_c5a_z1 xs h_1) ?_
  show mxOk 6 xs 300 [(0, .retAddr 2), (1, .ref 0), (2, .ref 9), (3, .int 0)] [.int (-1)] (shA, IA, JA, QA)
  refine mxOk.g2 6 0 (pc' := 306) (lv' := [(0, .retAddr 2), (1, .ref 0), (2, .ref 9), (3, .int 0)]) (st' := [.int (xs 1), .ref 9, .int (-1)]) (w' := (shA, IA, JA, QA)) (fun n => rfl) ?_
  refine mxOk.g2 6 0 (pc' := 312) (lv' := [(0, .retAddr 2), (1, .ref 0), (2, .ref 9), (3, .int 0)]) (st' := [.long (((xs 2)).toInt64), .int (xs 1), .ref 9, .int (-1)]) (w' := (shA, IA, JA, QA)) (fun n => rfl) ?_
  refine mxOk.g2 6 0 (pc' := 319) (lv' := [(0, .retAddr 2), (1, .ref 0), (2, .ref 9), (3, .int 0)]) (st' := [.int 3, .retAddr 2, .long ((((xs 2)).toInt64) <<< (((32 : Int32)).toInt64 &&& 63)), .int (xs 1), .ref 9, .int (-1)]) (w' := (shA, IA, JA, QA)) (fun n => rfl) ?_
  refine mxOk.c2 6 0 (z := 111) (lz := [(0, .ref 9), (1, .int (xs 1)), (2, .long (((((xs 2)).toInt64) <<< (((32 : Int32)).toInt64 &&& 63)) ||| ((((xs 3)).toInt64) &&& (4294967295 : Int64))))]) (w1 := (shA, IA, JA, QA)) (pc' := 329) (lv' := [(0, .retAddr 2), (1, .ref 0), (2, .ref 9), (3, .int 0)]) (r := [.int (-1)]) (fun n => rfl) (p1_c5a_z2 xs h_1) ?_
  show mxOk 6 xs 329 [(0, .retAddr 2), (1, .ref 0), (2, .ref 9), (3, .int 0)] [.int (-1), .int (-1)] (shA, IA, JA, QA)
  refine mxOk.g2 6 0 (pc' := 21) (lv' := [(0, .retAddr 2), (1, .ref 0), (2, .ref 9), (3, .int 6)]) (st' := [.int 6, .int 6]) (w' := (shA, IA, JA, QA)) (fun n => rfl) ?_
  exact p1_c5a_p1 xs h_1
set_option maxRecDepth 1000000 in
set_option maxHeartbeats 4000000 in
theorem p1_c12rb_z2 (xs : Nat → Int32) (h_1 : (xs 1).toInt < 0) : mxRn 71 0 [(0, .int (xs 1))] [] (shA, IA, JA, QA) (some (.int 0), (shA, IA, JA, QA)) := by
  refine mxRn.it2 2 0 (bb := Op.ifCond.holds .lt (xs 1)) (pc' := 15) (lv' := [(0, .int (xs 1))]) (st' := []) (w' := (shA, IA, JA, QA)) (X := fun nf => mxev (nf + 0) 71 4 [(0, .int (xs 1))] [] (shA, IA, JA, QA)) (fun n => rfl) (hd_lt_t (by omega)) ?_
  exact mxRn.ret 2 (fun n => rfl)
set_option maxRecDepth 1000000 in
set_option maxHeartbeats 4000000 in
theorem p1_c12rb_z1 (xs : Nat → Int32) (h_1 : (xs 1).toInt < 0) : mxRn 69 0 [(0, .ref 0), (1, .int (xs 1)), (2, .int (xs 2)), (3, .int (xs 3))] [] (shA, IA, JA, QA) (some (.int (-1)), (shA, IA, JA, QA)) := by
  refine mxRn.c2 2 0 (z := 71) (lz := [(0, .int (xs 1))]) (w1 := (shA, IA, JA, QA)) (pc' := 4) (lv' := [(0, .ref 0), (1, .int (xs 1)), (2, .int (xs 2)), (3, .int (xs 3))]) (r := []) (fun n => rfl) (p1_c12rb_z2 xs h_1) ?_
  show mxRn 69 4 [(0, .ref 0), (1, .int (xs 1)), (2, .int (xs 2)), (3, .int (xs 3))] [.int 0] (shA, IA, JA, QA) _
  exact mxRn.ret 3 (fun n => rfl)
set_option maxRecDepth 1000000 in
set_option maxHeartbeats 4000000 in
theorem p1_c12rb_z4 (xs : Nat → Int32) (h_1 : (xs 1).toInt < 0) : mxRn 81 0 [(0, .int (xs 1)), (1, .int 0), (2, .int 127)] [] (shA, IA, JA, QA) (some (.int 0), (shA, IA, JA, QA)) := by
  refine mxRn.it2 3 0 (bb := Op.if_icmp.holds .lt (xs 1) (0 : Int32)) (pc' := 14) (lv' := [(0, .int (xs 1)), (1, .int 0), (2, .int 127)]) (st' := []) (w' := (shA, IA, JA, QA)) (X := fun nf => mxev (nf + 0) 81 5 [(0, .int (xs 1)), (1, .int 0), (2, .int 127)] [] (shA, IA, JA, QA)) (fun n => rfl) (hc_lt_t 0 rfl (by omega)) ?_
  exact mxRn.ret 2 (fun n => rfl)
set_option maxRecDepth 1000000 in
set_option maxHeartbeats 4000000 in
theorem p1_c12rb_z3 (xs : Nat → Int32) (h_1 : (xs 1).toInt < 0) : mxRn 119 0 [(0, .ref 9), (1, .int (xs 1)), (2, .int (xs 2)), (3, .int (xs 3))] [] (shA, IA, JA, QA) (some (.int (-1)), (shA, IA, JA, QA)) := by
  refine mxRn.c2 4 0 (z := 81) (lz := [(0, .int (xs 1)), (1, .int 0), (2, .int 127)]) (w1 := (shA, IA, JA, QA)) (pc' := 7) (lv' := [(0, .ref 9), (1, .int (xs 1)), (2, .int (xs 2)), (3, .int (xs 3))]) (r := []) (fun n => rfl) (p1_c12rb_z4 xs h_1) ?_
  show mxRn 119 7 [(0, .ref 9), (1, .int (xs 1)), (2, .int (xs 2)), (3, .int (xs 3))] [.int 0] (shA, IA, JA, QA) _
  exact mxRn.ret 3 (fun n => rfl)
set_option maxRecDepth 1000000 in
set_option maxHeartbeats 4000000 in
theorem p1_c12rb (xs : Nat → Int32) (h_1 : (xs 1).toInt < 0) : mxOk 6 xs 33 [(0, .retAddr 2), (1, .ref 0), (2, .ref 9), (3, .int 0)] [.int 12] (shA, IA, JA, QA) := by
  refine mxOk.g2 6 0 (pc' := 487) (lv' := [(0, .retAddr 2), (1, .ref 0), (2, .ref 9), (3, .int 0)]) (st' := [.int 1, .retAddr 2, .ref 0]) (w' := (shA, IA, JA, QA)) (fun n => rfl) ?_
  refine mxOk.g2 6 0 (pc' := 493) (lv' := [(0, .retAddr 2), (1, .ref 0), (2, .ref 9), (3, .int 0)]) (st' := [.int (xs 2), .int (xs 1), .ref 0]) (w' := (shA, IA, JA, QA)) (fun n => rfl) ?_
  refine mxOk.c2 6 0 (z := 69) (lz := [(0, .ref 0), (1, .int (xs 1)), (2, .int (xs 2)), (3, .int (xs 3))]) (w1 := (shA, IA, JA, QA)) (pc' := 501) (lv' := [(0, .retAddr 2), (1, .ref 0), (2, .ref 9), (3, .int 0)]) (r := []) (fun n => rfl) (p1_c12rb_z1 xs h_1) ?_
  show mxOk 6 xs 501 [(0, .retAddr 2), (1, .ref 0), (2, .ref 9), (3, .int 0)] [.int (-1)] (shA, IA, JA, QA)
  refine mxOk.g2 6 0 (pc' := 507) (lv' := [(0, .retAddr 2), (1, .ref 0), (2, .ref 9), (3, .int 0)]) (st' := [.int (xs 1), .ref 9, .int (-1)]) (w' := (shA, IA, JA, QA)) (fun n => rfl) ?_
  refine mxOk.g2 6 0 (pc' := 513) (lv' := [(0, .retAddr 2), (1, .ref 0), (2, .ref 9), (3, .int 0)]) (st' := [.retAddr 2, .int (xs 2), .int (xs 1), .ref 9, .int (-1)]) (w' := (shA, IA, JA, QA)) (fun n => rfl) ?_
  refine mxOk.c2 5 0 (z := 119) (lz := [(0, .ref 9), (1, .int (xs 1)), (2, .int (xs 2)), (3, .int (xs 3))]) (w1 := (shA, IA, JA, QA)) (pc' := 520) (lv' := [(0, .retAddr 2), (1, .ref 0), (2, .ref 9), (3, .int 0)]) (r := [.int (-1)]) (fun n => rfl) (p1_c12rb_z3 xs h_1) ?_
  show mxOk 6 xs 520 [(0, .retAddr 2), (1, .ref 0), (2, .ref 9), (3, .int 0)] [.int (-1), .int (-1)] (shA, IA, JA, QA)
  refine mxOk.g2 6 0 (pc' := 21) (lv' := [(0, .retAddr 2), (1, .ref 0), (2, .ref 9), (3, .int 6)]) (st' := [.int 6, .int 6]) (w' := (shA, IA, JA, QA)) (fun n => rfl) ?_
  exact mxOk.ret 5 (w' := (shA, IA, JA, QA)) (fun n => rfl) (show shA.length ≤ 600000 from Nat.le_of_ble_eq_true rfl) (show (shA.map (fun q => q.2)).sum ≤ 7302250 from Nat.le_of_ble_eq_true rfl)
set_option maxRecDepth 1000000 in
set_option maxHeartbeats 4000000 in
theorem p1_c12ra_z2 (xs : Nat → Int32) (h_1 : 127 < (xs 1).toInt) : mxRn 71 0 [(0, .int (xs 1))] [] (shA, IA, JA, QA) (some (.int 0), (shA, IA, JA, QA)) := by
  refine mxRn.if2 2 0 (bb := Op.ifCond.holds .lt (xs 1)) (pc' := 4) (lv' := [(0, .int (xs 1))]) (st' := []) (w' := (shA, IA, JA, QA)) (X := fun nf => mxev (nf + 0) 71 15 [(0, .int (xs 1))] [] (shA, IA, JA, QA)) (fun n => rfl) (hd_lt_f (by omega)) ?_
  refine mxRn.it2 3 0 (bb := Op.if_icmp.holds .ge (xs 1) (128 : Int32)) (pc' := 15) (lv' := [(0, .int (xs 1))]) (st' := []) (w' := (shA, IA, JA, QA)) (X := fun nf => mxev (nf + 0) 71 11 [(0, .int (xs 1))] [] (shA, IA, JA, QA)) (fun n => rfl) (hc_ge_t 128 rfl (by omega)) ?_
  exact mxRn.ret 2 (fun n => rfl)
set_option maxRecDepth 1000000 in
set_option maxHeartbeats 4000000 in
theorem p1_c12ra_z1 (xs : Nat → Int32) (h_1 : 127 < (xs 1).toInt) : mxRn 69 0 [(0, .ref 0), (1, .int (xs 1)), (2, .int (xs 2)), (3, .int (xs 3))] [] (shA, IA, JA, QA) (some (.int (-1)), (shA, IA, JA, QA)) := by
  refine mxRn.c2 2 0 (z := 71) (lz := [(0, .int (xs 1))]) (w1 := (shA, IA, JA, QA)) (pc' := 4) (lv' := [(0, .ref 0), (1, .int (xs 1)), (2, .int (xs 2)), (3, .int (xs 3))]) (r := []) (fun n => rfl) (p1_c12ra_z2 xs h_1) ?_
  show mxRn 69 4 [(0, .ref 0), (1, .int (xs 1)), (2, .int (xs 2)), (3, .int (xs 3))] [.int 0] (shA, IA, JA, QA) _
  exact mxRn.ret 3 (fun n => rfl)
set_option maxRecDepth 1000000 in
set_option maxHeartbeats 4000000 in
theorem p1_c12ra_z4 (xs : Nat → Int32) (h_1 : 127 < (xs 1).toInt) : mxRn 81 0 [(0, .int (xs 1)), (1, .int 0), (2, .int 127)] [] (shA, IA, JA, QA) (some (.int 0), (shA, IA, JA, QA)) := by
  refine mxRn.if2 3 0 (bb := Op.if_icmp.holds .lt (xs 1) (0 : Int32)) (pc' := 5) (lv' := [(0, .int (xs 1)), (1, .int 0), (2, .int 127)]) (st' := []) (w' := (shA, IA, JA, QA)) (X := fun nf => mxev (nf + 0) 81 14 [(0, .int (xs 1)), (1, .int 0), (2, .int 127)] [] (shA, IA, JA, QA)) (fun n => rfl) (hc_lt_f 0 rfl (by omega)) ?_
  refine mxRn.it2 3 0 (bb := Op.if_icmp.holds .gt (xs 1) (127 : Int32)) (pc' := 14) (lv' := [(0, .int (xs 1)), (1, .int 0), (2, .int 127)]) (st' := []) (w' := (shA, IA, JA, QA)) (X := fun nf => mxev (nf + 0) 81 10 [(0, .int (xs 1)), (1, .int 0), (2, .int 127)] [] (shA, IA, JA, QA)) (fun n => rfl) (hc_gt_t 127 rfl (by omega)) ?_
  exact mxRn.ret 2 (fun n => rfl)
set_option maxRecDepth 1000000 in
set_option maxHeartbeats 4000000 in
theorem p1_c12ra_z3 (xs : Nat → Int32) (h_1 : 127 < (xs 1).toInt) : mxRn 119 0 [(0, .ref 9), (1, .int (xs 1)), (2, .int (xs 2)), (3, .int (xs 3))] [] (shA, IA, JA, QA) (some (.int (-1)), (shA, IA, JA, QA)) := by
  refine mxRn.c2 4 0 (z := 81) (lz := [(0, .int (xs 1)), (1, .int 0), (2, .int 127)]) (w1 := (shA, IA, JA, QA)) (pc' := 7) (lv' := [(0, .ref 9), (1, .int (xs 1)), (2, .int (xs 2)), (3, .int (xs 3))]) (r := []) (fun n => rfl) (p1_c12ra_z4 xs h_1) ?_
  show mxRn 119 7 [(0, .ref 9), (1, .int (xs 1)), (2, .int (xs 2)), (3, .int (xs 3))] [.int 0] (shA, IA, JA, QA) _
  exact mxRn.ret 3 (fun n => rfl)
set_option maxRecDepth 1000000 in
set_option maxHeartbeats 4000000 in
theorem p1_c12ra (xs : Nat → Int32) (h_1 : 127 < (xs 1).toInt) : mxOk 6 xs 33 [(0, .retAddr 2), (1, .ref 0), (2, .ref 9), (3, .int 0)] [.int 12] (shA, IA, JA, QA) := by
  refine mxOk.g2 6 0 (pc' := 487) (lv' := [(0, .retAddr 2), (1, .ref 0), (2, .ref 9), (3, .int 0)]) (st' := [.int 1, .retAddr 2, .ref 0]) (w' := (shA, IA, JA, QA)) (fun n => rfl) ?_
  refine mxOk.g2 6 0 (pc' := 493) (lv' := [(0, .retAddr 2), (1, .ref 0), (2, .ref 9), (3, .int 0)]) (st' := [.int (xs 2), .int (xs 1), .ref 0]) (w' := (shA, IA, JA, QA)) (fun n => rfl) ?_
  refine mxOk.c2 6 0 (z := 69) (lz := [(0, .ref 0), (1, .int (xs 1)), (2, .int (xs 2)), (3, .int (xs 3))]) (w1 := (shA, IA, JA, QA)) (pc' := 501) (lv' := [(0, .retAddr 2), (1, .ref 0), (2, .ref 9), (3, .int 0)]) (r := []) (fun n => rfl) (p1_c12ra_z1 xs h_1) ?_
  show mxOk 6 xs 501 [(0, .retAddr 2), (1, .ref 0), (2, .ref 9), (3, .int 0)] [.int (-1)] (shA, IA, JA, QA)
  refine mxOk.g2 6 0 (pc' := 507) (lv' := [(0, .retAddr 2), (1, .ref 0), (2, .ref 9), (3, .int 0)]) (st' := [.int (xs 1), .ref 9, .int (-1)]) (w' := (shA, IA, JA, QA)) (fun n => rfl) ?_
  refine mxOk.g2 6 0 (pc' := 513) (lv' := [(0, .retAddr 2), (1, .ref 0), (2, .ref 9), (3, .int 0)]) (st' := [.retAddr 2, .int (xs 2), .int (xs 1), .ref 9, .int (-1)]) (w' := (shA, IA, JA, QA)) (fun n => rfl) ?_
  refine mxOk.c2 5 0 (z := 119) (lz := [(0, .ref 9), (1, .int (xs 1)), (2, .int (xs 2)), (3, .int (xs 3))]) (w1 := (shA, IA, JA, QA)) (pc' := 520) (lv' := [(0, .retAddr 2), (1, .ref 0), (2, .ref 9), (3, .int 0)]) (r := [.int (-1)]) (fun n => rfl) (p1_c12ra_z3 xs h_1) ?_
  show mxOk 6 xs 520 [(0, .retAddr 2), (1, .ref 0), (2, .ref 9), (3, .int 0)] [.int (-1), .int (-1)] (shA, IA, JA, QA)
  refine mxOk.g2 6 0 (pc' := 21) (lv' := [(0, .retAddr 2), (1, .ref 0), (2, .ref 9), (3, .int 6)]) (st' := [.int 6, .int 6]) (w' := (shA, IA, JA, QA)) (fun n => rfl) ?_
  exact mxOk.ret 5 (w' := (shA, IA, JA, QA)) (fun n => rfl) (show shA.length ≤ 600000 from Nat.le_of_ble_eq_true rfl) (show (shA.map (fun q => q.2)).sum ≤ 7302250 from Nat.le_of_ble_eq_true rfl)
set_option maxRecDepth 1000000 in
set_option maxHeartbeats 4000000 in
theorem p1_c12lb_z2 (xs : Nat → Int32) (h_1 : 0 ≤ (xs 1).toInt ∧ (xs 1).toInt ≤ 127) (h_2 : (xs 2).toInt < 1) : mxRn 71 0 [(0, .int (xs 1))] [] (shA, IA, JA, QA) (some (.int 1), (shA, IA, JA, QA)) := by
  refine mxRn.if2 2 0 (bb := Op.ifCond.holds .lt (xs 1)) (pc' := 4) (lv' := [(0, .int (xs 1))]) (st' := []) (w' := (shA, IA, JA, QA)) (X := fun nf => mxev (nf + 0) 71 15 [(0, .int (xs 1))] [] (shA, IA, JA, QA)) (fun n => rfl) (hd_lt_f (by omega)) ?_
  refine mxRn.if2 3 0 (bb := Op.if_icmp.holds .ge (xs 1) (128 : Int32)) (pc' := 11) (lv' := [(0, .int (xs 1))]) (st' := []) (w' := (shA, IA, JA, QA)) (X := fun nf => mxev (nf + 0) 71 15 [(0, .int (xs 1))] [] (shA, IA, JA, QA)) (fun n => rfl) (hc_ge_f 128 rfl (by omega)) ?_
  exact mxRn.ret 3 (fun n => rfl)
set_option maxRecDepth 1000000 in
set_option maxHeartbeats 4000000 in
theorem p1_c12lb_z3 (xs : Nat → Int32) (h_1 : 0 ≤ (xs 1).toInt ∧ (xs 1).toInt ≤ 127) (h_2 : (xs 2).toInt < 1) : mxRn 72 0 [(0, .int (xs 2)), (1, .int (xs 3))] [] (shA, IA, JA, QA) (some (.int 0), (shA, IA, JA, QA)) := by
  refine mxRn.it2 3 0 (bb := Op.if_icmp.holds .lt (xs 2) (1 : Int32)) (pc' := 26) (lv' := [(0, .int (xs 2)), (1, .int (xs 3))]) (st' := []) (w' := (shA, IA, JA, QA)) (X := fun nf => mxev (nf + 0) 72 5 [(0, .int (xs 2)), (1, .int (xs 3))] [] (shA, IA, JA, QA)) (fun n => rfl) (hc_lt_t 1 rfl (by omega)) ?_
  exact mxRn.ret 2 (fun n => rfl)
set_option maxRecDepth 1000000 in
set_option maxHeartbeats 4000000 in
theorem p1_c12lb_z1 (xs : Nat → Int32) (h_1 : 0 ≤ (xs 1).toInt ∧ (xs 1).toInt ≤ 127) (h_2 : (xs 2).toInt < 1) : mxRn 69 0 [(0, .ref 0), (1, .int (xs 1)), (2, .int (xs 2)), (3, .int (xs 3))] [] (shA, IA, JA, QA) (some (.int (-1)), (shA, IA, JA, QA)) := by
  refine mxRn.c2 2 0 (z := 71) (lz := [(0, .int (xs 1))]) (w1 := (shA, IA, JA, QA)) (pc' := 4) (lv' := [(0, .ref 0), (1, .int (xs 1)), (2, .int (xs 2)), (3, .int (xs 3))]) (r := []) (fun n => rfl) (p1_c12lb_z2 xs h_1 h_2) ?_
  show mxRn 69 4 [(0, .ref 0), (1, .int (xs 1)), (2, .int (xs 2)), (3, .int (xs 3))] [.int 1] (shA, IA, JA, QA) _
  refine mxRn.c2 4 0 (z := 72) (lz := [(0, .int (xs 2)), (1, .int (xs 3))]) (w1 := (shA, IA, JA, QA)) (pc' := 12) (lv' := [(0, .ref 0), (1, .int (xs 1)), (2, .int (xs 2)), (3, .int (xs 3))]) (r := []) (fun n => rfl) (p1_c12lb_z3 xs h_1 h_2) ?_
  show mxRn 69 12 [(0, .ref 0), (1, .int (xs 1)), (2, .int (xs 2)), (3, .int (xs 3))] [.int 0] (shA, IA, JA, QA) _
  exact mxRn.ret 3 (fun n => rfl)
set_option maxRecDepth 1000000 in
set_option maxHeartbeats 4000000 in
theorem p1_c12lb_z5 (xs : Nat → Int32) (h_1 : 0 ≤ (xs 1).toInt ∧ (xs 1).toInt ≤ 127) (h_2 : (xs 2).toInt < 1) : mxRn 81 0 [(0, .int (xs 1)), (1, .int 0), (2, .int 127)] [] (shA, IA, JA, QA) (some (.int 1), (shA, IA, JA, QA)) := by
  refine mxRn.if2 3 0 (bb := Op.if_icmp.holds .lt (xs 1) (0 : Int32)) (pc' := 5) (lv' := [(0, .int (xs 1)), (1, .int 0), (2, .int 127)]) (st' := []) (w' := (shA, IA, JA, QA)) (X := fun nf => mxev (nf + 0) 81 14 [(0, .int (xs 1)), (1, .int 0), (2, .int 127)] [] (shA, IA, JA, QA)) (fun n => rfl) (hc_lt_f 0 rfl (by omega)) ?_
  refine mxRn.if2 3 0 (bb := Op.if_icmp.holds .gt (xs 1) (127 : Int32)) (pc' := 10) (lv' := [(0, .int (xs 1)), (1, .int 0), (2, .int 127)]) (st' := []) (w' := (shA, IA, JA, QA)) (X := fun nf => mxev (nf + 0) 81 14 [(0, .int (xs 1)), (1, .int 0), (2, .int 127)] [] (shA, IA, JA, QA)) (fun n => rfl) (hc_gt_f 127 rfl (by omega)) ?_
  exact mxRn.ret 3 (fun n => rfl)
set_option maxRecDepth 1000000 in
set_option maxHeartbeats 4000000 in
theorem p1_c12lb_z6 (xs : Nat → Int32) (h_1 : 0 ≤ (xs 1).toInt ∧ (xs 1).toInt ≤ 127) (h_2 : (xs 2).toInt < 1) : mxRn 81 0 [(0, .int (xs 2)), (1, .int 1), (2, .int 10)] [] (shA, IA, JA, QA) (some (.int 0), (shA, IA, JA, QA)) := by
  refine mxRn.it2 3 0 (bb := Op.if_icmp.holds .lt (xs 2) (1 : Int32)) (pc' := 14) (lv' := [(0, .int (xs 2)), (1, .int 1), (2, .int 10)]) (st' := []) (w' := (shA, IA, JA, QA)) (X := fun nf => mxev (nf + 0) 81 5 [(0, .int (xs 2)), (1, .int 1), (2, .int 10)] [] (shA, IA, JA, QA)) (fun n => rfl) (hc_lt_t 1 rfl (by omega)) ?_
  exact mxRn.ret 2 (fun n => rfl)
set_option maxRecDepth 1000000 in
set_option maxHeartbeats 4000000 in
theorem p1_c12lb_z4 (xs : Nat → Int32) (h_1 : 0 ≤ (xs 1).toInt ∧ (xs 1).toInt ≤ 127) (h_2 : (xs 2).toInt < 1) : mxRn 119 0 [(0, .ref 9), (1, .int (xs 1)), (2, .int (xs 2)), (3, .int (xs 3))] [] (shA, IA, JA, QA) (some (.int (-1)), (shA, IA, JA, QA)) := by
  refine mxRn.c2 4 0 (z := 81) (lz := [(0, .int (xs 1)), (1, .int 0), (2, .int 127)]) (w1 := (shA, IA, JA, QA)) (pc' := 7) (lv' := [(0, .ref 9), (1, .int (xs 1)), (2, .int (xs 2)), (3, .int (xs 3))]) (r := []) (fun n => rfl) (p1_c12lb_z5 xs h_1 h_2) ?_
  show mxRn 119 7 [(0, .ref 9), (1, .int (xs 1)), (2, .int (xs 2)), (3, .int (xs 3))] [.int 1] (shA, IA, JA, QA) _
  refine mxRn.c2 5 0 (z := 81) (lz := [(0, .int (xs 2)), (1, .int 1), (2, .int 10)]) (w1 := (shA, IA, JA, QA)) (pc' := 17) (lv' := [(0, .ref 9), (1, .int (xs 1)), (2, .int (xs 2)), (3, .int (xs 3))]) (r := []) (fun n => rfl) (p1_c12lb_z6 xs h_1 h_2) ?_
  show mxRn 119 17 [(0, .ref 9), (1, .int (xs 1)), (2, .int (xs 2)), (3, .int (xs 3))] [.int 0] (shA, IA, JA, QA) _
  exact mxRn.ret 3 (fun n => rfl)
set_option maxRecDepth 1000000 in
set_option maxHeartbeats 4000000 in
theorem p1_c12lb (xs : Nat → Int32) (h_1 : 0 ≤ (xs 1).toInt ∧ (xs 1).toInt ≤ 127) (h_2 : (xs 2).toInt < 1) : mxOk 6 xs 33 [(0, .retAddr 2), (1, .ref 0), (2, .ref 9), (3, .int 0)] [.int 12] (shA, IA, JA, QA) := by
  refine mxOk.g2 6 0 (pc' := 487) (lv' := [(0, .retAddr 2), (1, .ref 0), (2, .ref 9), (3, .int 0)]) (st' := [.int 1, .retAddr 2, .ref 0]) (w' := (shA, IA, JA, QA)) (fun n => rfl) ?_
  refine mxOk.g2 6 0 (pc' := 493) (lv' := [(0, .retAddr 2), (1, .ref 0), (2, .ref 9), (3, .int 0)]) (st' := [.int (xs 2), .int (xs 1), .ref 0]) (w' := (shA, IA, JA, QA)) (fun n => rfl) ?_
  refine mxOk.c2 6 0 (z := 69) (lz := [(0, .ref 0), (1, .int (xs 1)), (2, .int (xs 2)), (3, .int (xs 3))]) (w1 := (shA, IA, JA, QA)) (pc' := 501) (lv' := [(0, .retAddr 2), (1, .ref 0), (2, .ref 9), (3, .int 0)]) (r := []) (fun n => rfl) (p1_c12lb_z1 xs h_1 h_2) ?_
  show mxOk 6 xs 501 [(0, .retAddr 2), (1, .ref 0), (2, .ref 9), (3, .int 0)] [.int (-1)] (shA, IA, JA, QA)
  refine mxOk.g2 6 0 (pc' := 507) (lv' := [(0, .retAddr 2), (1, .ref 0), (2, .ref 9), (3, .int 0)]) (st' := [.int (xs 1), .ref 9, .int (-1)]) (w' := (shA, IA, JA, QA)) (fun n => rfl) ?_
  refine mxOk.g2 6 0 (pc' := 513) (lv' := [(0, .retAddr 2), (1, .ref 0), (2, .ref 9), (3, .int 0)]) (st' := [.retAddr 2, .int (xs 2), .int (xs 1), .ref 9, .int (-1)]) (w' := (shA, IA, JA, QA)) (fun n => rfl) ?_
  refine mxOk.c2 5 0 (z := 119) (lz := [(0, .ref 9), (1, .int (xs 1)), (2, .int (xs 2)), (3, .int (xs 3))]) (w1 := (shA, IA, JA, QA)) (pc' := 520) (lv' := [(0, .retAddr 2), (1, .ref 0), (2, .ref 9), (3, .int 0)]) (r := [.int (-1)]) (fun n => rfl) (p1_c12lb_z4 xs h_1 h_2) ?_
  show mxOk 6 xs 520 [(0, .retAddr 2), (1, .ref 0), (2, .ref 9), (3, .int 0)] [.int (-1), .int (-1)] (shA, IA, JA, QA)
  refine mxOk.g2 6 0 (pc' := 21) (lv' := [(0, .retAddr 2), (1, .ref 0), (2, .ref 9), (3, .int 6)]) (st' := [.int 6, .int 6]) (w' := (shA, IA, JA, QA)) (fun n => rfl) ?_
  exact mxOk.ret 5 (w' := (shA, IA, JA, QA)) (fun n => rfl) (show shA.length ≤ 600000 from Nat.le_of_ble_eq_true rfl) (show (shA.map (fun q => q.2)).sum ≤ 7302250 from Nat.le_of_ble_eq_true rfl)
