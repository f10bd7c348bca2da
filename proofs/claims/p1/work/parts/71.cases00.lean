set_option maxRecDepth 1000000 in
set_option maxHeartbeats 4000000 in
theorem p1_c1b_z1 (xs : Nat → Int32) (h_1 : (xs 1).toInt < 0) : mxRn 56 0 [(0, .ref 0), (1, .int (xs 1))] [] (shA, IA, JA, QA) (some (.int (-1)), (shA, IA, JA, QA)) := by
  refine mxRn.it2 2 0 (bb := Op.ifCond.holds .lt (xs 1)) (pc' := 12) (lv' := [(0, .ref 0), (1, .int (xs 1))]) (st' := []) (w' := (shA, IA, JA, QA)) (X := fun nf => mxev (nf + 0) 56 4 [(0, .ref 0), (1, .int (xs 1))] [] (shA, IA, JA, QA)) (fun n => rfl) (hd_lt_t (by omega)) ?_
  exact mxRn.ret 2 (fun n => rfl)
set_option maxRecDepth 1000000 in
set_option maxHeartbeats 4000000 in
theorem p1_c1b_z2 (xs : Nat → Int32) (h_1 : (xs 1).toInt < 0) : mxRn 84 0 [(0, .ref 9), (1, .int (xs 1))] [] (shA, IA, JA, QA) (some (.int (-1)), (shA, IA, JA, QA)) := by
  refine mxRn.it2 2 0 (bb := Op.ifCond.holds .lt (xs 1)) (pc' := 12) (lv' := [(0, .ref 9), (1, .int (xs 1))]) (st' := []) (w' := (shA, IA, JA, QA)) (X := fun nf => mxev (nf + 0) 84 4 [(0, .ref 9), (1, .int (xs 1))] [] (shA, IA, JA, QA)) (fun n => rfl) (hd_lt_t (by omega)) ?_
  exact mxRn.ret 2 (fun n => rfl)
set_option maxRecDepth 1000000 in
set_option maxHeartbeats 4000000 in
theorem p1_c1b (xs : Nat → Int32) (h_1 : (xs 1).toInt < 0) : mxOk 6 xs 33 [(0, .retAddr 2), (1, .ref 0), (2, .ref 9), (3, .int 0)] [.int 1] (shA, IA, JA, QA) := by
  refine mxOk.g2 6 0 (pc' := 184) (lv' := [(0, .retAddr 2), (1, .ref 0), (2, .ref 9), (3, .int 0)]) (st' := [.int 1, .retAddr 2, .ref 0]) (w' := (shA, IA, JA, QA)) (fun n => rfl) ?_
  refine mxOk.c2 2 0 (z := 56) (lz := [(0, .ref 0), (1, .int (xs 1))]) (w1 := (shA, IA, JA, QA)) (pc' := 188) (lv' := [(0, .retAddr 2), (1, .ref 0), (2, .ref 9), (3, .int 0)]) (r := []) (fun n => rfl) (p1_c1b_z1 xs h_1) ?_
  show mxOk 6 xs 188 [(0, .retAddr 2), (1, .ref 0), (2, .ref 9), (3, .int 0)] [.int (-1)] (shA, IA, JA, QA)
  refine mxOk.g2 6 0 (pc' := 194) (lv' := [(0, .retAddr 2), (1, .ref 0), (2, .ref 9), (3, .int 0)]) (st' := [.int (xs 1), .ref 9, .int (-1)]) (w' := (shA, IA, JA, QA)) (fun n => rfl) ?_
  refine mxOk.c2 1 0 (z := 84) (lz := [(0, .ref 9), (1, .int (xs 1))]) (w1 := (shA, IA, JA, QA)) (pc' := 197) (lv' := [(0, .retAddr 2), (1, .ref 0), (2, .ref 9), (3, .int 0)]) (r := [.int (-1)]) (fun n => rfl) (p1_c1b_z2 xs h_1) ?_
  show mxOk 6 xs 197 [(0, .retAddr 2), (1, .ref 0), (2, .ref 9), (3, .int 0)] [.int (-1), .int (-1)] (shA, IA, JA, QA)
  refine mxOk.g2 6 0 (pc' := 21) (lv' := [(0, .retAddr 2), (1, .ref 0), (2, .ref 9), (3, .int 6)]) (st' := [.int 6, .int 6]) (w' := (shA, IA, JA, QA)) (fun n => rfl) ?_
  exact mxOk.ret 5 (w' := (shA, IA, JA, QA)) (fun n => rfl) (show shA.length ≤ 600000 from Nat.le_of_ble_eq_true rfl) (show (shA.map (fun q => q.2)).sum ≤ 7302250 from Nat.le_of_ble_eq_true rfl)
set_option maxRecDepth 1000000 in
set_option maxHeartbeats 4000000 in
theorem p1_c1a_z1 (xs : Nat → Int32) (h_1 : 0 < (xs 1).toInt) : mxRn 56 0 [(0, .ref 0), (1, .int (xs 1))] [] (shA, IA, JA, QA) (some (.int (-1)), (shA, IA, JA, QA)) := by
  refine mxRn.if2 2 0 (bb := Op.ifCond.holds .lt (xs 1)) (pc' := 4) (lv' := [(0, .ref 0), (1, .int (xs 1))]) (st' := []) (w' := (shA, IA, JA, QA)) (X := fun nf => mxev (nf + 0) 56 12 [(0, .ref 0), (1, .int (xs 1))] [] (shA, IA, JA, QA)) (fun n => rfl) (hd_lt_f (by omega)) ?_
  refine mxRn.if2 4 0 (bb := Op.if_icmp.holds .le (xs 1) (0 : Int32)) (pc' := 12) (lv' := [(0, .ref 0), (1, .int (xs 1))]) (st' := []) (w' := (shA, IA, JA, QA)) (X := fun nf => mxev (nf + 0) 56 14 [(0, .ref 0), (1, .int (xs 1))] [] (shA, IA, JA, QA)) (fun n => rfl) (hc_le_f 0 rfl (by omega)) ?_
  exact mxRn.ret 2 (fun n => rfl)
set_option maxRecDepth 1000000 in
set_option maxHeartbeats 4000000 in
theorem p1_c1a_z2 (xs : Nat → Int32) (h_1 : 0 < (xs 1).toInt) : mxRn 84 0 [(0, .ref 9), (1, .int (xs 1))] [] (shA, IA, JA, QA) (some (.int (-1)), (shA, IA, JA, QA)) := by
  refine mxRn.if2 2 0 (bb := Op.ifCond.holds .lt (xs 1)) (pc' := 4) (lv' := [(0, .ref 9), (1, .int (xs 1))]) (st' := []) (w' := (shA, IA, JA, QA)) (X := fun nf => mxev (nf + 0) 84 12 [(0, .ref 9), (1, .int (xs 1))] [] (shA, IA, JA, QA)) (fun n => rfl) (hd_lt_f (by omega)) ?_
  refine mxRn.if2 4 0 (bb := Op.if_icmp.holds .le (xs 1) (0 : Int32)) (pc' := 12) (lv' := [(0, .ref 9), (1, .int (xs 1))]) (st' := []) (w' := (shA, IA, JA, QA)) (X := fun nf => mxev (nf + 0) 84 14 [(0, .ref 9), (1, .int (xs 1))] [] (shA, IA, JA, QA)) (fun n => rfl) (hc_le_f 0 rfl (by omega)) ?_
  exact mxRn.ret 2 (fun n => rfl)
set_option maxRecDepth 1000000 in
set_option maxHeartbeats 4000000 in
theorem p1_c1a (xs : Nat → Int32) (h_1 : 0 < (xs 1).toInt) : mxOk 6 xs 33 [(0, .retAddr 2), (1, .ref 0), (2, .ref 9), (3, .int 0)] [.int 1] (shA, IA, JA, QA) := by
  refine mxOk.g2 6 0 (pc' := 184) (lv' := [(0, .retAddr 2), (1, .ref 0), (2, .ref 9), (3, .int 0)]) (st' := [.int 1, .retAddr 2, .ref 0]) (w' := (shA, IA, JA, QA)) (fun n => rfl) ?_
  refine mxOk.c2 2 0 (z := 56) (lz := [(0, .ref 0), (1, .int (xs 1))]) (w1 := (shA, IA, JA, QA)) (pc' := 188) (lv' := [(0, .retAddr 2), (1, .ref 0), (2, .ref 9), (3, .int 0)]) (r := []) (fun n => rfl) (p1_c1a_z1 xs h_1) ?_
  show mxOk 6 xs 188 [(0, .retAddr 2), (1, .ref 0), (2, .ref 9), (3, .int 0)] [.int (-1)] (shA, IA, JA, QA)
  refine mxOk.g2 6 0 (pc' := 194) (lv' := [(0, .retAddr 2), (1, .ref 0), (2, .ref 9), (3, .int 0)]) (st' := [.int (xs 1), .ref 9, .int (-1)]) (w' := (shA, IA, JA, QA)) (fun n => rfl) ?_
  refine mxOk.c2 1 0 (z := 84) (lz := [(0, .ref 9), (1, .int (xs 1))]) (w1 := (shA, IA, JA, QA)) (pc' := 197) (lv' := [(0, .retAddr 2), (1, .ref 0), (2, .ref 9), (3, .int 0)]) (r := [.int (-1)]) (fun n => rfl) (p1_c1a_z2 xs h_1) ?_
  show mxOk 6 xs 197 [(0, .retAddr 2), (1, .ref 0), (2, .ref 9), (3, .int 0)] [.int (-1), .int (-1)] (shA, IA, JA, QA)
  refine mxOk.g2 6 0 (pc' := 21) (lv' := [(0, .retAddr 2), (1, .ref 0), (2, .ref 9), (3, .int 6)]) (st' := [.int 6, .int 6]) (w' := (shA, IA, JA, QA)) (fun n => rfl) ?_
  exact mxOk.ret 5 (w' := (shA, IA, JA, QA)) (fun n => rfl) (show shA.length ≤ 600000 from Nat.le_of_ble_eq_true rfl) (show (shA.map (fun q => q.2)).sum ≤ 7302250 from Nat.le_of_ble_eq_true rfl)
set_option maxRecDepth 1000000 in
set_option maxHeartbeats 4000000 in
theorem p1_c1v0_z1 (xs : Nat → Int32) (h_1 : xs 1 = 0) : mxRn 56 0 [(0, .ref 0), (1, .int 0)] [] (shA, IA, JA, QA) (some (.int 0), (shA, (mxI IA 0 1 0), JA, QA)) := by
  refine mxRn.g2 6 0 (pc' := 14) (lv' := [(0, .ref 0), (1, .int 0)]) (st' := []) (w' := (shA, IA, JA, QA)) (fun n => rfl) ?_
  exact mxRn.ret 5 (fun n => rfl)
set_option maxRecDepth 1000000 in
set_option maxHeartbeats 4000000 in
theorem p1_c1v0_z2 (xs : Nat → Int32) (h_1 : xs 1 = 0) : mxRn 84 0 [(0, .ref 9), (1, .int 0)] [] (shA, (mxI IA 0 1 0), JA, QA) (some (.int 0), (shA, (mxI (mxI IA 0 1 0) 9 2 0), JA, QA)) := by
  refine mxRn.g2 6 0 (pc' := 14) (lv' := [(0, .ref 9), (1, .int 0)]) (st' := []) (w' := (shA, (mxI IA 0 1 0), JA, QA)) (fun n => rfl) ?_
  exact mxRn.ret 5 (fun n => rfl)
set_option maxRecDepth 1000000 in
set_option maxHeartbeats 4000000 in
theorem p1_c1v0 (xs : Nat → Int32) (h_1 : xs 1 = 0) : mxOk 6 xs 33 [(0, .retAddr 2), (1, .ref 0), (2, .ref 9), (3, .int 0)] [.int 1] (shA, IA, JA, QA) := by
  refine mxOk.g2 6 0 (pc' := 184) (lv' := [(0, .retAddr 2), (1, .ref 0), (2, .ref 9), (3, .int 0)]) (st' := [.int 1, .retAddr 2, .ref 0]) (w' := (shA, IA, JA, QA)) (fun n => rfl) ?_
  refine mxOk.g2 1 0 (pc' := 185) (lv' := [(0, .retAddr 2), (1, .ref 0), (2, .ref 9), (3, .int 0)]) (st' := [.int (xs 1), .ref 0]) (w' := (shA, IA, JA, QA)) (fun n => rfl) ?_
  rw [h_1]
  refine mxOk.c2 1 0 (z := 56) (lz := [(0, .ref 0), (1, .int 0)]) (w1 := (shA, IA, JA, QA)) (pc' := 188) (lv' := [(0, .retAddr 2), (1, .ref 0), (2, .ref 9), (3, .int 0)]) (r := []) (fun n => rfl) (p1_c1v0_z1 xs h_1) ?_
  show mxOk 6 xs 188 [(0, .retAddr 2), (1, .ref 0), (2, .ref 9), (3, .int 0)] [.int 0] (shA, (mxI IA 0 1 0), JA, QA)
  refine mxOk.g2 6 0 (pc' := 194) (lv' := [(0, .retAddr 2), (1, .ref 0), (2, .ref 9), (3, .int 0)]) (st' := [.int (xs 1), .ref 9, .int 0]) (w' := (shA, (mxI IA 0 1 0), JA, QA)) (fun n => rfl) ?_
  rw [h_1]
  refine mxOk.c2 1 0 (z := 84) (lz := [(0, .ref 9), (1, .int 0)]) (w1 := (shA, (mxI IA 0 1 0), JA, QA)) (pc' := 197) (lv' := [(0, .retAddr 2), (1, .ref 0), (2, .ref 9), (3, .int 0)]) (r := [.int 0]) (fun n => rfl) (p1_c1v0_z2 xs h_1) ?_
  show mxOk 6 xs 197 [(0, .retAddr 2), (1, .ref 0), (2, .ref 9), (3, .int 0)] [.int 0, .int 0] (shA, (mxI (mxI IA 0 1 0) 9 2 0), JA, QA)
  refine mxOk.g2 6 0 (pc' := 21) (lv' := [(0, .retAddr 2), (1, .ref 0), (2, .ref 9), (3, .int 6)]) (st' := [.int 6, .int 6]) (w' := (shA, (mxI (mxI IA 0 1 0) 9 2 0), JA, QA)) (fun n => rfl) ?_
  exact mxOk.ret 5 (w' := (shA, (mxI (mxI IA 0 1 0) 9 2 0), JA, QA)) (fun n => rfl) (show shA.length ≤ 600000 from Nat.le_of_ble_eq_true rfl) (show (shA.map (fun q => q.2)).sum ≤ 7302250 from Nat.le_of_ble_eq_true rfl)
set_option maxRecDepth 1000000 in
set_option maxHeartbeats 4000000 in
theorem p1_c3b_z1 (xs : Nat → Int32) (h_1 : (xs 1).toInt < 0) : mxRn 58 0 [(0, .ref 0), (1, .int (xs 1))] [] (shA, IA, JA, QA) (some (.int (-1)), (shA, IA, JA, QA)) := by
  refine mxRn.it2 2 0 (bb := Op.ifCond.holds .lt (xs 1)) (pc' := 10) (lv' := [(0, .ref 0), (1, .int (xs 1))]) (st' := []) (w' := (shA, IA, JA, QA)) (X := fun nf => mxev (nf + 0) 58 4 [(0, .ref 0), (1, .int (xs 1))] [] (shA, IA, JA, QA)) (fun n => rfl) (hd_lt_t (by omega)) ?_
  exact mxRn.ret 2 (fun n => rfl)
set_option maxRecDepth 1000000 in
set_option maxHeartbeats 4000000 in
theorem p1_c3b_z3 (xs : Nat → Int32) (h_1 : (xs 1).toInt < 0) : mxRn 81 0 [(0, .int (xs 1)), (1, .int 0), (2, .int 6)] [] (shA, IA, JA, QA) (some (.int 0), (shA, IA, JA, QA)) := by
  refine mxRn.it2 3 0 (bb := Op.if_icmp.holds .lt (xs 1) (0 : Int32)) (pc' := 14) (lv' := [(0, .int (xs 1)), (1, .int 0), (2, .int 6)]) (st' := []) (w' := (shA, IA, JA, QA)) (X := fun nf => mxev (nf + 0) 81 5 [(0, .int (xs 1)), (1, .int 0), (2, .int 6)] [] (shA, IA, JA, QA)) (fun n => rfl) (hc_lt_t 0 rfl (by omega)) ?_
  exact mxRn.ret 2 (fun n => rfl)
set_option maxRecDepth 1000000 in
set_option maxHeartbeats 4000000 in
theorem p1_c3b_z2 (xs : Nat → Int32) (h_1 : (xs 1).toInt < 0) : mxRn 92 0 [(0, .ref 9), (1, .int (xs 1))] [] (shA, IA, JA, QA) (some (.int (-1)), (shA, IA, JA, QA)) := by
  refine mxRn.c2 4 0 (z := 81) (lz := [(0, .int (xs 1)), (1, .int 0), (2, .int 6)]) (w1 := (shA, IA, JA, QA)) (pc' := 7) (lv' := [(0, .ref 9), (1, .int (xs 1))]) (r := []) (fun n => rfl) (p1_c3b_z3 xs h_1) ?_
  show mxRn 92 7 [(0, .ref 9), (1, .int (xs 1))] [.int 0] (shA, IA, JA, QA) _
  exact mxRn.ret 3 (fun n => rfl)
set_option maxRecDepth 1000000 in
set_option maxHeartbeats 4000000 in
theorem p1_c3b (xs : Nat → Int32) (h_1 : (xs 1).toInt < 0) : mxOk 6 xs 33 [(0, .retAddr 2), (1, .ref 0), (2, .ref 9), (3, .int 0)] [.int 3] (shA, IA, JA, QA) := by
  refine mxOk.g2 6 0 (pc' := 220) (lv' := [(0, .retAddr 2), (1, .ref 0), (2, .ref 9), (3, .int 0)]) (st' := [.int 1, .retAddr 2, .ref 0]) (w' := (shA, IA, JA, QA)) (fun n => rfl) ?_
  refine mxOk.c2 2 0 (z := 58) (lz := [(0, .ref 0), (1, .int (xs 1))]) (w1 := (shA, IA, JA, QA)) (pc' := 224) (lv' := [(0, .retAddr 2), (1, .ref 0), (2, .ref 9), (3, .int 0)]) (r := []) (fun n => rfl) (p1_c3b_z1 xs h_1) ?_
  show mxOk 6 xs 224 [(0, .retAddr 2), (1, .ref 0), (2, .ref 9), (3, .int 0)] [.int (-1)] (shA, IA, JA, QA)
  refine mxOk.g2 6 0 (pc' := 230) (lv' := [(0, .retAddr 2), (1, .ref 0), (2, .ref 9), (3, .int 0)]) (st' := [.int (xs 1), .ref 9, .int (-1)]) (w' := (shA, IA, JA, QA)) (fun n => rfl) ?_
  refine mxOk.c2 1 0 (z := 92) (lz := [(0, .ref 9), (1, .int (xs 1))]) (w1 := (shA, IA, JA, QA)) (pc' := 233) (lv' := [(0, .retAddr 2), (1, .ref 0), (2, .ref 9), (3, .int 0)]) (r := [.int (-1)]) (fun n => rfl) (p1_c3b_z2 xs h_1) ?_
  show mxOk 6 xs 233 [(0, .retAddr 2), (1, .ref 0), (2, .ref 9), (3, .int 0)] [.int (-1), .int (-1)] (shA, IA, JA, QA)
  refine mxOk.g2 6 0 (pc' := 21) (lv' := [(0, .retAddr 2), (1, .ref 0), (2, .ref 9), (3, .int 6)]) (st' := [.int 6, .int 6]) (w' := (shA, IA, JA, QA)) (fun n => rfl) ?_
  exact mxOk.ret 5 (w' := (shA, IA, JA, QA)) (fun n => rfl) (show shA.length ≤ 600000 from Nat.le_of_ble_eq_true rfl) (show (shA.map (fun q => q.2)).sum ≤ 7302250 from Nat.le_of_ble_eq_true rfl)
set_option maxRecDepth 1000000 in
set_option maxHeartbeats 4000000 in
theorem p1_c3a_z1 (xs : Nat → Int32) (h_1 : 6 < (xs 1).toInt) : mxRn 58 0 [(0, .ref 0), (1, .int (xs 1))] [] (shA, IA, JA, QA) (some (.int (-1)), (shA, IA, JA, QA)) := by
  refine mxRn.if2 2 0 (bb := Op.ifCond.holds .lt (xs 1)) (pc' := 4) (lv' := [(0, .ref 0), (1, .int (xs 1))]) (st' := []) (w' := (shA, IA, JA, QA)) (X := fun nf => mxev (nf + 0) 58 10 [(0, .ref 0), (1, .int (xs 1))] [] (shA, IA, JA, QA)) (fun n => rfl) (hd_lt_f (by omega)) ?_
  refine mxRn.if2 3 0 (bb := Op.if_icmp.holds .le (xs 1) (6 : Int32)) (pc' := 10) (lv' := [(0, .ref 0), (1, .int (xs 1))]) (st' := []) (w' := (shA, IA, JA, QA)) (X := fun nf => mxev (nf + 0) 58 12 [(0, .ref 0), (1, .int (xs 1))] [] (shA, IA, JA, QA)) (fun n => rfl) (hc_le_f 6 rfl (by omega)) ?_
  exact mxRn.ret 2 (fun n => rfl)
set_option maxRecDepth 1000000 in
set_option maxHeartbeats 4000000 in
theorem p1_c3a_z3 (xs : Nat → Int32) (h_1 : 6 < (xs 1).toInt) : mxRn 81 0 [(0, .int (xs 1)), (1, .int 0), (2, .int 6)] [] (shA, IA, JA, QA) (some (.int 0), (shA, IA, JA, QA)) := by
  refine mxRn.if2 3 0 (bb := Op.if_icmp.holds .lt (xs 1) (0 : Int32)) (pc' := 5) (lv' := [(0, .int (xs 1)), (1, .int 0), (2, .int 6)]) (st' := []) (w' := (shA, IA, JA, QA)) (X := fun nf => mxev (nf + 0) 81 14 [(0, .int (xs 1)), (1, .int 0), (2, .int 6)] [] (shA, IA, JA, QA)) (fun n => rfl) (hc_lt_f 0 rfl (by omega)) ?_
  refine mxRn.it2 3 0 (bb := Op.if_icmp.holds .gt (xs 1) (6 : Int32)) (pc' := 14) (lv' := [(0, .int (xs 1)), (1, .int 0), (2, .int 6)]) (st' := []) (w' := (shA, IA, JA, QA)) (X := fun nf => mxev (nf + 0) 81 10 [(0, .int (xs 1)), (1, .int 0), (2, .int 6)] [] (shA, IA, JA, QA)) (fun n => rfl) (hc_gt_t 6 rfl (by omega)) ?_
  exact mxRn.ret 2 (fun n => rfl)
set_option maxRecDepth 1000000 in
set_option maxHeartbeats 4000000 in
theorem p1_c3a_z2 (xs : Nat → Int32) (h_1 : 6 < (xs 1).toInt) : mxRn 92 0 [(0, .ref 9), (1, .int (xs 1))] [] (shA, IA, JA, QA) (some (.int (-1)), (shA, IA, JA, QA)) := by
  refine mxRn.c2 4 0 (z := 81) (lz := [(0, .int (xs 1)), (1, .int 0), (2, .int 6)]) (w1 := (shA, IA, JA, QA)) (pc' := 7) (lv' := [(0, .ref 9), (1, .int (xs 1))]) (r := []) (fun n => rfl) (p1_c3a_z3 xs h_1) ?_
  show mxRn 92 7 [(0, .ref 9), (1, .int (xs 1))] [.int 0] (shA, IA, JA, QA) _
  exact mxRn.ret 3 (fun n => rfl)
set_option maxRecDepth 1000000 in
set_option maxHeartbeats 4000000 in
theorem p1_c3a (xs : Nat → Int32) (h_1 : 6 < (xs 1).toInt) : mxOk 6 xs 33 [(0, .retAddr 2), (1, .ref 0), (2, .ref 9), (3, .int 0)] [.int 3] (shA, IA, JA, QA) := by
  refine mxOk.g2 6 0 (pc' := 220) (lv' := [(0, .retAddr 2), (1, .ref 0), (2, .ref 9), (3, .int 0)]) (st' := [.int 1, .retAddr 2, .ref 0]) (w' := (shA, IA, JA, QA)) (fun n => rfl) ?_
  refine mxOk.c2 2 0 (z := 58) (lz := [(0, .ref 0), (1, .int (xs 1))]) (w1 := (shA, IA, JA, QA)) (pc' := 224) (lv' := [(0, .retAddr 2), (1, .ref 0), (2, .ref 9), (3, .int 0)]) (r := []) (fun n => rfl) (p1_c3a_z1 xs h_1) ?_
  show mxOk 6 xs 224 [(0, .retAddr 2), (1, .ref 0), (2, .ref 9), (3, .int 0)] [.int (-1)] (shA, IA, JA, QA)
  refine mxOk.g2 6 0 (pc' := 230) (lv' := [(0, .retAddr 2), (1, .ref 0), (2, .ref 9), (3, .int 0)]) (st' := [.int (xs 1), .ref 9, .int (-1)]) (w' := (shA, IA, JA, QA)) (fun n => rfl) ?_
  refine mxOk.c2 1 0 (z := 92) (lz := [(0, .ref 9), (1, .int (xs 1))]) (w1 := (shA, IA, JA, QA)) (pc' := 233) (lv' := [(0, .retAddr 2), (1, .ref 0), (2, .ref 9), (3, .int 0)]) (r := [.int (-1)]) (fun n => rfl) (p1_c3a_z2 xs h_1) ?_
  show mxOk 6 xs 233 [(0, .retAddr 2), (1, .ref 0), (2, .ref 9), (3, .int 0)] [.int (-1), .int (-1)] (shA, IA, JA, QA)
  refine mxOk.g2 6 0 (pc' := 21) (lv' := [(0, .retAddr 2), (1, .ref 0), (2, .ref 9), (3, .int 6)]) (st' := [.int 6, .int 6]) (w' := (shA, IA, JA, QA)) (fun n => rfl) ?_
  exact mxOk.ret 5 (w' := (shA, IA, JA, QA)) (fun n => rfl) (show shA.length ≤ 600000 from Nat.le_of_ble_eq_true rfl) (show (shA.map (fun q => q.2)).sum ≤ 7302250 from Nat.le_of_ble_eq_true rfl)
set_option maxRecDepth 1000000 in
set_option maxHeartbeats 4000000 in
theorem p1_c3v0_z2 (xs : Nat → Int32) (h_1 : xs 1 = 0) : mxRn 1 0 [(0, .ref 2), (1, .int 0)] [] (shA, IA, JA, QA) (some (.int 0), (shA, IA, JA, QA)) := by
  refine mxRn.g2 6 0 (pc' := 8) (lv' := [(0, .ref 2), (1, .int 0)]) (st' := [.int 0]) (w' := (shA, IA, JA, QA)) (fun n => rfl) ?_
  exact mxRn.ret 3 (fun n => rfl)
set_option maxRecDepth 1000000 in
set_option maxHeartbeats 4000000 in
theorem p1_c3v0_z1 (xs : Nat → Int32) (h_1 : xs 1 = 0) : mxRn 58 0 [(0, .ref 0), (1, .int 0)] [] (shA, IA, JA, QA) (some (.int 0), (shA, IA, JA, QA)) := by
  refine mxRn.g2 6 0 (pc' := 13) (lv' := [(0, .ref 0), (1, .int 0)]) (st' := [.int 0]) (w' := (shA, IA, JA, QA)) (fun n => rfl) ?_
  refine mxRn.c2 6 0 (z := 1) (lz := [(0, .ref 2), (1, .int 0)]) (w1 := (shA, IA, JA, QA)) (pc' := 34) (lv' := [(0, .ref 0), (1, .int 0)]) (r := []) (fun n => rfl) (p1_c3v0_z2 xs h_1) ?_
  show mxRn 58 34 [(0, .ref 0), (1, .int 0)] [.int 0] (shA, IA, JA, QA) _
  exact mxRn.ret 3 (fun n => rfl)
set_option maxRecDepth 1000000 in
set_option maxHeartbeats 4000000 in
theorem p1_c3v0_z4 (xs : Nat → Int32) (h_1 : xs 1 = 0) : mxRn 81 0 [(0, .int 0), (1, .int 0), (2, .int 6)] [] (shA, IA, JA, QA) (some (.int 1), (shA, IA, JA, QA)) := by
  refine mxRn.g2 6 0 (pc' := 10) (lv' := [(0, .int 0), (1, .int 0), (2, .int 6)]) (st' := []) (w' := (shA, IA, JA, QA)) (fun n => rfl) ?_
  exact mxRn.ret 3 (fun n => rfl)
set_option maxRecDepth 1000000 in
set_option maxHeartbeats 4000000 in
theorem p1_c3v0_z3 (xs : Nat → Int32) (h_1 : xs 1 = 0) : mxRn 92 0 [(0, .ref 9), (1, .int 0)] [] (shA, IA, JA, QA) (some (.int 0), (shA, IA, JA, QA)) := by
  refine mxRn.c2 4 0 (z := 81) (lz := [(0, .int 0), (1, .int 0), (2, .int 6)]) (w1 := (shA, IA, JA, QA)) (pc' := 7) (lv' := [(0, .ref 9), (1, .int 0)]) (r := []) (fun n => rfl) (p1_c3v0_z4 xs h_1) ?_
  show mxRn 92 7 [(0, .ref 9), (1, .int 0)] [.int 1] (shA, IA, JA, QA) _
  refine mxRn.g2 6 0 (pc' := 20) (lv' := [(0, .ref 9), (1, .int 0)]) (st' := [.int 0]) (w' := (shA, IA, JA, QA)) (fun n => rfl) ?_
  exact mxRn.ret 1 (fun n => rfl)
set_option maxRecDepth 1000000 in
set_option maxHeartbeats 4000000 in
theorem p1_c3v0 (xs : Nat → Int32) (h_1 : xs 1 = 0) : mxOk 6 xs 33 [(0, .retAddr 2), (1, .ref 0), (2, .ref 9), (3, .int 0)] [.int 3] (shA, IA, JA, QA) := by
  refine mxOk.g2 6 0 (pc' := 220) (lv' := [(0, .retAddr 2), (1, .ref 0), (2, .ref 9), (3, .int 0)]) (st' := [.int 1, .retAddr 2, .ref 0]) (w' := (shA, IA, JA, QA)) (fun n => rfl) ?_
  refine mxOk.g2 1 0 (pc' := 221) (lv' := [(0, .retAddr 2), (1, .ref 0), (2, .ref 9), (3, .int 0)]) (st' := [.int (xs 1), .ref 0]) (w' := (shA, IA, JA, QA)) (fun n => rfl) ?_
  rw [h_1]
  refine mxOk.c2 1 0 (z := 58) (lz := [(0, .ref 0), (1, .int 0)]) (w1 := (shA, IA, JA, QA)) (pc' := 224) (lv' := [(0, .retAddr 2), (1, .ref 0), (2, .ref 9), (3, .int 0)]) (r := []) (fun n => rfl) (p1_c3v0_z1 xs h_1) ?_
  show mxOk 6 xs 224 [(0, .retAddr 2), (1, .ref 0), (2, .ref 9), (3, .int 0)] [.int 0] (shA, IA, JA, QA)
  refine mxOk.g2 6 0 (pc' := 230) (lv' := [(0, .retAddr 2), (1, .ref 0), (2, .ref 9), (3, .int 0)]) (st' := [.int (xs 1), .ref 9, .int 0]) (w' := (shA, IA, JA, QA)) (fun n => rfl) ?_
  rw [h_1]
  refine mxOk.c2 1 0 (z := 92) (lz := [(0, .ref 9), (1, .int 0)]) (w1 := (shA, IA, JA, QA)) (pc' := 233) (lv' := [(0, .retAddr 2), (1, .ref 0), (2, .ref 9), (3, .int 0)]) (r := [.int 0]) (fun n => rfl) (p1_c3v0_z3 xs h_1) ?_
  show mxOk 6 xs 233 [(0, .retAddr 2), (1, .ref 0), (2, .ref 9), (3, .int 0)] [.int 0, .int 0] (shA, IA, JA, QA)
  refine mxOk.g2 6 0 (pc' := 21) (lv' := [(0, .retAddr 2), (1, .ref 0), (2, .ref 9), (3, .int 6)]) (st' := [.int 6, .int 6]) (w' := (shA, IA, JA, QA)) (fun n => rfl) ?_
  exact mxOk.ret 5 (w' := (shA, IA, JA, QA)) (fun n => rfl) (show shA.length ≤ 600000 from Nat.le_of_ble_eq_true rfl) (show (shA.map (fun q => q.2)).sum ≤ 7302250 from Nat.le_of_ble_eq_true rfl)
set_option maxRecDepth 1000000 in
set_option maxHeartbeats 4000000 in
theorem p1_c3v1_z2 (xs : Nat → Int32) (h_1 : xs 1 = 1) : mxRn 1 0 [(0, .ref 2), (1, .int 1)] [] (shA, IA, JA, QA) (some (.int 0), (shA, IA, JA, QA)) := by
  refine mxRn.g2 6 0 (pc' := 8) (lv' := [(0, .ref 2), (1, .int 1)]) (st' := [.int 0]) (w' := (shA, IA, JA, QA)) (fun n => rfl) ?_
  exact mxRn.ret 3 (fun n => rfl)
set_option maxRecDepth 1000000 in
set_option maxHeartbeats 4000000 in
theorem p1_c3v1_z1 (xs : Nat → Int32) (h_1 : xs 1 = 1) : mxRn 58 0 [(0, .ref 0), (1, .int 1)] [] (shA, IA, JA, QA) (some (.int 0), (shA, IA, JA, QA)) := by
  refine mxRn.g2 6 0 (pc' := 13) (lv' := [(0, .ref 0), (1, .int 1)]) (st' := [.int 1]) (w' := (shA, IA, JA, QA)) (fun n => rfl) ?_
  refine mxRn.c2 6 0 (z := 1) (lz := [(0, .ref 2), (1, .int 1)]) (w1 := (shA, IA, JA, QA)) (pc' := 34) (lv' := [(0, .ref 0), (1, .int 1)]) (r := []) (fun n => rfl) (p1_c3v1_z2 xs h_1) ?_
  show mxRn 58 34 [(0, .ref 0), (1, .int 1)] [.int 0] (shA, IA, JA, QA) _
  exact mxRn.ret 3 (fun n => rfl)
set_option maxRecDepth 1000000 in
set_option maxHeartbeats 4000000 in
theorem p1_c3v1_z4 (xs : Nat → Int32) (h_1 : xs 1 = 1) : mxRn 81 0 [(0, .int 1), (1, .int 0), (2, .int 6)] [] (shA, IA, JA, QA) (some (.int 1), (shA, IA, JA, QA)) := by
  refine mxRn.g2 6 0 (pc' := 10) (lv' := [(0, .int 1), (1, .int 0), (2, .int 6)]) (st' := []) (w' := (shA, IA, JA, QA)) (fun n => rfl) ?_
  exact mxRn.ret 3 (fun n => rfl)
set_option maxRecDepth 1000000 in
set_option maxHeartbeats 4000000 in
theorem p1_c3v1_z3 (xs : Nat → Int32) (h_1 : xs 1 = 1) : mxRn 92 0 [(0, .ref 9), (1, .int 1)] [] (shA, IA, JA, QA) (some (.int 0), (shA, IA, JA, QA)) := by
  refine mxRn.c2 4 0 (z := 81) (lz := [(0, .int 1), (1, .int 0), (2, .int 6)]) (w1 := (shA, IA, JA, QA)) (pc' := 7) (lv' := [(0, .ref 9), (1, .int 1)]) (r := []) (fun n => rfl) (p1_c3v1_z4 xs h_1) ?_
  show mxRn 92 7 [(0, .ref 9), (1, .int 1)] [.int 1] (shA, IA, JA, QA) _
  refine mxRn.g2 6 0 (pc' := 20) (lv' := [(0, .ref 9), (1, .int 1)]) (st' := [.int 0]) (w' := (shA, IA, JA, QA)) (fun n => rfl) ?_
  exact mxRn.ret 1 (fun n => rfl)
set_option maxRecDepth 1000000 in
set_option maxHeartbeats 4000000 in
theorem p1_c3v1 (xs : Nat → Int32) (h_1 : xs 1 = 1) : mxOk 6 xs 33 [(0, .retAddr 2), (1, .ref 0), (2, .ref 9), (3, .int 0)] [.int 3] (shA, IA, JA, QA) := by
  refine mxOk.g2 6 0 (pc' := 220) (lv' := [(0, .retAddr 2), (1, .ref 0), (2, .ref 9), (3, .int 0)]) (st' := [.int 1, .retAddr 2, .ref 0]) (w' := (shA, IA, JA, QA)) (fun n => rfl) ?_
  refine mxOk.g2 1 0 (pc' := 221) (lv' := [(0, .retAddr 2), (1, .ref 0), (2, .ref 9), (3, .int 0)]) (st' := [.int (xs 1), .ref 0]) (w' := (shA, IA, JA, QA)) (fun n => rfl) ?_
  rw [h_1]
  refine mxOk.c2 1 0 (z := 58) (lz := [(0, .ref 0), (1, .int 1)]) (w1 := (shA, IA, JA, QA)) (pc' := 224) (lv' := [(0, .retAddr 2), (1, .ref 0), (2, .ref 9), (3, .int 0)]) (r := []) (fun n => rfl) (p1_c3v1_z1 xs h_1) ?_
  show mxOk 6 xs 224 [(0, .retAddr 2), (1, .ref 0), (2, .ref 9), (3, .int 0)] [.int 0] (shA, IA, JA, QA)
  refine mxOk.g2 6 0 (pc' := 230) (lv' := [(0, .retAddr 2), (1, .ref 0), (2, .ref 9), (3, .int 0)]) (st' := [.int (xs 1), .ref 9, .int 0]) (w' := (shA, IA, JA, QA)) (fun n => rfl) ?_
  rw [h_1]
  refine mxOk.c2 1 0 (z := 92) (lz := [(0, .ref 9), (1, .int 1)]) (w1 := (shA, IA, JA, QA)) (pc' := 233) (lv' := [(0, .retAddr 2), (1, .ref 0), (2, .ref 9), (3, .int 0)]) (r := [.int 0]) (fun n => rfl) (p1_c3v1_z3 xs h_1) ?_
  show mxOk 6 xs 233 [(0, .retAddr 2), (1, .ref 0), (2, .ref 9), (3, .int 0)] [.int 0, .int 0] (shA, IA, JA, QA)
  refine mxOk.g2 6 0 (pc' := 21) (lv' := [(0, .retAddr 2), (1, .ref 0), (2, .ref 9), (3, .int 6)]) (st' := [.int 6, .int 6]) (w' := (shA, IA, JA, QA)) (fun n => rfl) ?_
  exact mxOk.ret 5 (w' := (shA, IA, JA, QA)) (fun n => rfl) (show shA.length ≤ 600000 from Nat.le_of_ble_eq_true rfl) (show (shA.map (fun q => q.2)).sum ≤ 7302250 from Nat.le_of_ble_eq_true rfl)
set_option maxRecDepth 1000000 in
set_option maxHeartbeats 4000000 in
theorem p1_c3v2_z2 (xs : Nat → Int32) (h_1 : xs 1 = 2) : mxRn 1 0 [(0, .ref 2), (1, .int 2)] [] (shA, IA, JA, QA) (some (.int 0), (shA, IA, JA, QA)) := by
  refine mxRn.g2 6 0 (pc' := 8) (lv' := [(0, .ref 2), (1, .int 2)]) (st' := [.int 0]) (w' := (shA, IA, JA, QA)) (fun n => rfl) ?_
  exact mxRn.ret 3 (fun n => rfl)
set_option maxRecDepth 1000000 in
set_option maxHeartbeats 4000000 in
theorem p1_c3v2_z1 (xs : Nat → Int32) (h_1 : xs 1 = 2) : mxRn 58 0 [(0, .ref 0), (1, .int 2)] [] (shA, IA, JA, QA) (some (.int 0), (shA, IA, JA, QA)) := by
  refine mxRn.g2 6 0 (pc' := 13) (lv' := [(0, .ref 0), (1, .int 2)]) (st' := [.int 2]) (w' := (shA, IA, JA, QA)) (fun n => rfl) ?_
  refine mxRn.c2 6 0 (z := 1) (lz := [(0, .ref 2), (1, .int 2)]) (w1 := (shA, IA, JA, QA)) (pc' := 34) (lv' := [(0, .ref 0), (1, .int 2)]) (r := []) (fun n => rfl) (p1_c3v2_z2 xs h_1) ?_
  show mxRn 58 34 [(0, .ref 0), (1, .int 2)] [.int 0] (shA, IA, JA, QA) _
  exact mxRn.ret 3 (fun n => rfl)
set_option maxRecDepth 1000000 in
set_option maxHeartbeats 4000000 in
theorem p1_c3v2_z4 (xs : Nat → Int32) (h_1 : xs 1 = 2) : mxRn 81 0 [(0, .int 2), (1, .int 0), (2, .int 6)] [] (shA, IA, JA, QA) (some (.int 1), (shA, IA, JA, QA)) := by
  refine mxRn.g2 6 0 (pc' := 10) (lv' := [(0, .int 2), (1, .int 0), (2, .int 6)]) (st' := []) (w' := (shA, IA, JA, QA)) (fun n => rfl) ?_
  exact mxRn.ret 3 (fun n => rfl)
set_option maxRecDepth 1000000 in
set_option maxHeartbeats 4000000 in
theorem p1_c3v2_z3 (xs : Nat → Int32) (h_1 : xs 1 = 2) : mxRn 92 0 [(0, .ref 9), (1, .int 2)] [] (shA, IA, JA, QA) (some (.int 0), (shA, IA, JA, QA)) := by
  refine mxRn.c2 4 0 (z := 81) (lz := [(0, .int 2), (1, .int 0), (2, .int 6)]) (w1 := (shA, IA, JA, QA)) (pc' := 7) (lv' := [(0, .ref 9), (1, .int 2)]) (r := []) (fun n => rfl) (p1_c3v2_z4 xs h_1) ?_
  show mxRn 92 7 [(0, .ref 9), (1, .int 2)] [.int 1] (shA, IA, JA, QA) _
  refine mxRn.g2 6 0 (pc' := 20) (lv' := [(0, .ref 9), (1, .int 2)]) (st' := [.int 0]) (w' := (shA, IA, JA, QA)) (fun n => rfl) ?_
  exact mxRn.ret 1 (fun n => rfl)
set_option maxRecDepth 1000000 in
set_option maxHeartbeats 4000000 in
theorem p1_c3v2 (xs : Nat → Int32) (h_1 : xs 1 = 2) : mxOk 6 xs 33 [(0, .retAddr 2), (1, .ref 0), (2, .ref 9), (3, .int 0)] [.int 3] (shA, IA, JA, QA) := by
  refine mxOk.g2 6 0 (pc' := 220) (lv' := [(0, .retAddr 2), (1, .ref 0), (2, .ref 9), (3, .int 0)]) (st' := [.int 1, .retAddr 2, .ref 0]) (w' := (shA, IA, JA, QA)) (fun n => rfl) ?_
  refine mxOk.g2 1 0 (pc' := 221) (lv' := [(0, .retAddr 2), (1, .ref 0), (2, .ref 9), (3, .int 0)]) (st' := [.int (xs 1), .ref 0]) (w' := (shA, IA, JA, QA)) (fun n => rfl) ?_
  rw [h_1]
  refine mxOk.c2 1 0 (z := 58) (lz := [(0, .ref 0), (1, .int 2)]) (w1 := (shA, IA, JA, QA)) (pc' := 224) (lv' := [(0, .retAddr 2), (1, .ref 0), (2, .ref 9), (3, .int 0)]) (r := []) (fun n => rfl) (p1_c3v2_z1 xs h_1) ?_
  show mxOk 6 xs 224 [(0, .retAddr 2), (1, .ref 0), (2, .ref 9), (3, .int 0)] [.int 0] (shA, IA, JA, QA)
  refine mxOk.g2 6 0 (pc' := 230) (lv' := [(0, .retAddr 2), (1, .ref 0), (2, .ref 9), (3, .int 0)]) (st' := [.int (xs 1), .ref 9, .int 0]) (w' := (shA, IA, JA, QA)) (fun n => rfl) ?_
  rw [h_1]
  refine mxOk.c2 1 0 (z := 92) (lz := [(0, .ref 9), (1, .int 2)]) (w1 := (shA, IA, JA, QA)) (pc' := 233) (lv' := [(0, .retAddr 2), (1, .ref 0), (2, .ref 9), (3, .int 0)]) (r := [.int 0]) (fun n => rfl) (p1_c3v2_z3 xs h_1) ?_
  show mxOk 6 xs 233 [(0, .retAddr 2), (1, .ref 0), (2, .ref 9), (3, .int 0)] [.int 0, .int 0] (shA, IA, JA, QA)
  refine mxOk.g2 6 0 (pc' := 21) (lv' := [(0, .retAddr 2), (1, .ref 0), (2, .ref 9), (3, .int 6)]) (st' := [.int 6, .int 6]) (w' := (shA, IA, JA, QA)) (fun n => rfl) ?_
  exact mxOk.ret 5 (w' := (shA, IA, JA, QA)) (fun n => rfl) (show shA.length ≤ 600000 from Nat.le_of_ble_eq_true rfl) (show (shA.map (fun q => q.2)).sum ≤ 7302250 from Nat.le_of_ble_eq_true rfl)
set_option maxRecDepth 1000000 in
set_option maxHeartbeats 4000000 in
theorem p1_c3v3_z2 (xs : Nat → Int32) (h_1 : xs 1 = 3) : mxRn 1 0 [(0, .ref 2), (1, .int 3)] [] (shA, IA, JA, QA) (some (.int 0), (shA, IA, JA, QA)) := by
  refine mxRn.g2 6 0 (pc' := 8) (lv' := [(0, .ref 2), (1, .int 3)]) (st' := [.int 0]) (w' := (shA, IA, JA, QA)) (fun n => rfl) ?_
  exact mxRn.ret 3 (fun n => rfl)
set_option maxRecDepth 1000000 in
set_option maxHeartbeats 4000000 in
theorem p1_c3v3_z1 (xs : Nat → Int32) (h_1 : xs 1 = 3) : mxRn 58 0 [(0, .ref 0), (1, .int 3)] [] (shA, IA, JA, QA) (some (.int 0), (shA, IA, JA, QA)) := by
  refine mxRn.g2 6 0 (pc' := 13) (lv' := [(0, .ref 0), (1, .int 3)]) (st' := [.int 3]) (w' := (shA, IA, JA, QA)) (fun n => rfl) ?_
  refine mxRn.c2 6 0 (z := 1) (lz := [(0, .ref 2), (1, .int 3)]) (w1 := (shA, IA, JA, QA)) (pc' := 34) (lv' := [(0, .ref 0), (1, .int 3)]) (r := []) (fun n => rfl) (p1_c3v3_z2 xs h_1) ?_
  show mxRn 58 34 [(0, .ref 0), (1, .int 3)] [.int 0] (shA, IA, JA, QA) _
  exact mxRn.ret 3 (fun n => rfl)
set_option maxRecDepth 1000000 in
set_option maxHeartbeats 4000000 in
theorem p1_c3v3_z4 (xs : Nat → Int32) (h_1 : xs 1 = 3) : mxRn 81 0 [(0, .int 3), (1, .int 0), (2, .int 6)] [] (shA, IA, JA, QA) (some (.int 1), (shA, IA, JA, QA)) := by
  refine mxRn.g2 6 0 (pc' := 10) (lv' := [(0, .int 3), (1, .int 0), (2, .int 6)]) (st' := []) (w' := (shA, IA, JA, QA)) (fun n => rfl) ?_
  exact mxRn.ret 3 (fun n => rfl)
set_option maxRecDepth 1000000 in
set_option maxHeartbeats 4000000 in
theorem p1_c3v3_z3 (xs : Nat → Int32) (h_1 : xs 1 = 3) : mxRn 92 0 [(0, .ref 9), (1, .int 3)] [] (shA, IA, JA, QA) (some (.int 0), (shA, IA, JA, QA)) := by
  refine mxRn.c2 4 0 (z := 81) (lz := [(0, .int 3), (1, .int 0), (2, .int 6)]) (w1 := (shA, IA, JA, QA)) (pc' := 7) (lv' := [(0, .ref 9), (1, .int 3)]) (r := []) (fun n => rfl) (p1_c3v3_z4 xs h_1) ?_
  show mxRn 92 7 [(0, .ref 9), (1, .int 3)] [.int 1] (shA, IA, JA, QA) _
  refine mxRn.g2 6 0 (pc' := 20) (lv' := [(0, .ref 9), (1, .int 3)]) (st' := [.int 0]) (w' := (shA, IA, JA, QA)) (fun n => rfl) ?_
  exact mxRn.ret 1 (fun n => rfl)
set_option maxRecDepth 1000000 in
set_option maxHeartbeats 4000000 in
theorem p1_c3v3 (xs : Nat → Int32) (h_1 : xs 1 = 3) : mxOk 6 xs 33 [(0, .retAddr 2), (1, .ref 0), (2, .ref 9), (3, .int 0)] [.int 3] (shA, IA, JA, QA) := by
  refine mxOk.g2 6 0 (pc' := 220) (lv' := [(0, .retAddr 2), (1, .ref 0), (2, .ref 9), (3, .int 0)]) (st' := [.int 1, .retAddr 2, .ref 0]) (w' := (shA, IA, JA, QA)) (fun n => rfl) ?_
  refine mxOk.g2 1 0 (pc' := 221) (lv' := [(0, .retAddr 2), (1, .ref 0), (2, .ref 9), (3, .int 0)]) (st' := [.int (xs 1), .ref 0]) (w' := (shA, IA, JA, QA)) (fun n => rfl) ?_
  rw [h_1]
  refine mxOk.c2 1 0 (z := 58) (lz := [(0, .ref 0), (1, .int 3)]) (w1 := (shA, IA, JA, QA)) (pc' := 224) (lv' := [(0, .retAddr 2), (1, .ref 0), (2, .ref 9), (3, .int 0)]) (r := []) (fun n => rfl) (p1_c3v3_z1 xs h_1) ?_
  show mxOk 6 xs 224 [(0, .retAddr 2), (1, .ref 0), (2, .ref 9), (3, .int 0)] [.int 0] (shA, IA, JA, QA)
  refine mxOk.g2 6 0 (pc' := 230) (lv' := [(0, .retAddr 2), (1, .ref 0), (2, .ref 9), (3, .int 0)]) (st' := [.int (xs 1), .ref 9, .int 0]) (w' := (shA, IA, JA, QA)) (fun n => rfl) ?_
  rw [h_1]
  refine mxOk.c2 1 0 (z := 92) (lz := [(0, .ref 9), (1, .int 3)]) (w1 := (shA, IA, JA, QA)) (pc' := 233) (lv' := [(0, .retAddr 2), (1, .ref 0), (2, .ref 9), (3, .int 0)]) (r := [.int 0]) (fun n => rfl) (p1_c3v3_z3 xs h_1) ?_
  show mxOk 6 xs 233 [(0, .retAddr 2), (1, .ref 0), (2, .ref 9), (3, .int 0)] [.int 0, .int 0] (shA, IA, JA, QA)
  refine mxOk.g2 6 0 (pc' := 21) (lv' := [(0, .retAddr 2), (1, .ref 0), (2, .ref 9), (3, .int 6)]) (st' := [.int 6, .int 6]) (w' := (shA, IA, JA, QA)) (fun n => rfl) ?_
  exact mxOk.ret 5 (w' := (shA, IA, JA, QA)) (fun n => rfl) (show shA.length ≤ 600000 from Nat.le_of_ble_eq_true rfl) (show (shA.map (fun q => q.2)).sum ≤ 7302250 from Nat.le_of_ble_eq_true rfl)
set_option maxRecDepth 1000000 in
set_option maxHeartbeats 4000000 in
theorem p1_c3v4_z2 (xs : Nat → Int32) (h_1 : xs 1 = 4) : mxRn 1 0 [(0, .ref 2), (1, .int 4)] [] (shA, IA, JA, QA) (some (.int 0), (shA, IA, JA, QA)) := by
  refine mxRn.g2 6 0 (pc' := 8) (lv' := [(0, .ref 2), (1, .int 4)]) (st' := [.int 0]) (w' := (shA, IA, JA, QA)) (fun n => rfl) ?_
  exact mxRn.ret 3 (fun n => rfl)
set_option maxRecDepth 1000000 in
set_option maxHeartbeats 4000000 in
theorem p1_c3v4_z1 (xs : Nat → Int32) (h_1 : xs 1 = 4) : mxRn 58 0 [(0, .ref 0), (1, .int 4)] [] (shA, IA, JA, QA) (some (.int 0), (shA, IA, JA, QA)) := by
  refine mxRn.g2 6 0 (pc' := 13) (lv' := [(0, .ref 0), (1, .int 4)]) (st' := [.int 4]) (w' := (shA, IA, JA, QA)) (fun n => rfl) ?_
  refine mxRn.c2 6 0 (z := 1) (lz := [(0, .ref 2), (1, .int 4)]) (w1 := (shA, IA, JA, QA)) (pc' := 34) (lv' := [(0, .ref 0), (1, .int 4)]) (r := []) (fun n => rfl) (p1_c3v4_z2 xs h_1) ?_
  show mxRn 58 34 [(0, .ref 0), (1, .int 4)] [.int 0] (shA, IA, JA, QA) _
  exact mxRn.ret 3 (fun n => rfl)
set_option maxRecDepth 1000000 in
set_option maxHeartbeats 4000000 in
theorem p1_c3v4_z4 (xs : Nat → Int32) (h_1 : xs 1 = 4) : mxRn 81 0 [(0, .int 4), (1, .int 0), (2, .int 6)] [] (shA, IA, JA, QA) (some (.int 1), (shA, IA, JA, QA)) := by
  refine mxRn.g2 6 0 (pc' := 10) (lv' := [(0, .int 4), (1, .int 0), (2, .int 6)]) (st' := []) (w' := (shA, IA, JA, QA)) (fun n => rfl) ?_
  exact mxRn.ret 3 (fun n => rfl)
set_option maxRecDepth 1000000 in
set_option maxHeartbeats 4000000 in
theorem p1_c3v4_z3 (xs : Nat → Int32) (h_1 : xs 1 = 4) : mxRn 92 0 [(0, .ref 9), (1, .int 4)] [] (shA, IA, JA, QA) (some (.int 0), (shA, IA, JA, QA)) := by
  refine mxRn.c2 4 0 (z := 81) (lz := [(0, .int 4), (1, .int 0), (2, .int 6)]) (w1 := (shA, IA, JA, QA)) (pc' := 7) (lv' := [(0, .ref 9), (1, .int 4)]) (r := []) (fun n => rfl) (p1_c3v4_z4 xs h_1) ?_
  show mxRn 92 7 [(0, .ref 9), (1, .int 4)] [.int 1] (shA, IA, JA, QA) _
  refine mxRn.g2 6 0 (pc' := 20) (lv' := [(0, .ref 9), (1, .int 4)]) (st' := [.int 0]) (w' := (shA, IA, JA, QA)) (fun n => rfl) ?_
  exact mxRn.ret 1 (fun n => rfl)
set_option maxRecDepth 1000000 in
set_option maxHeartbeats 4000000 in
theorem p1_c3v4 (xs : Nat → Int32) (h_1 : xs 1 = 4) : mxOk 6 xs 33 [(0, .retAddr 2), (1, .ref 0), (2, .ref 9), (3, .int 0)] [.int 3] (shA, IA, JA, QA) := by
  refine mxOk.g2 6 0 (pc' := 220) (lv' := [(0, .retAddr 2), (1, .ref 0), (2, .ref 9), (3, .int 0)]) (st' := [.int 1, .retAddr 2, .ref 0]) (w' := (shA, IA, JA, QA)) (fun n => rfl) ?_
  refine mxOk.g2 1 0 (pc' := 221) (lv' := [(0, .retAddr 2), (1, .ref 0), (2, .ref 9), (3, .int 0)]) (st' := [.int (xs 1), .ref 0]) (w' := (shA, IA, JA, QA)) (fun n => rfl) ?_
  rw [h_1]
  refine mxOk.c2 1 0 (z := 58) (lz := [(0, .ref 0), (1, .int 4)]) (w1 := (shA, IA, JA, QA)) (pc' := 224) (lv' := [(0, .retAddr 2), (1, .ref 0), (2, .ref 9), (3, .int 0)]) (r := []) (fun n => rfl) (p1_c3v4_z1 xs h_1) ?_
  show mxOk 6 xs 224 [(0, .retAddr 2), (1, .ref 0), (2, .ref 9), (3, .int 0)] [.int 0] (shA, IA, JA, QA)
  refine mxOk.g2 6 0 (pc' := 230) (lv' := [(0, .retAddr 2), (1, .ref 0), (2, .ref 9), (3, .int 0)]) (st' := [.int (xs 1), .ref 9, .int 0]) (w' := (shA, IA, JA, QA)) (fun n => rfl) ?_
  rw [h_1]
  refine mxOk.c2 1 0 (z := 92) (lz := [(0, .ref 9), (1, .int 4)]) (w1 := (shA, IA, JA, QA)) (pc' := 233) (lv' := [(0, .retAddr 2), (1, .ref 0), (2, .ref 9), (3, .int 0)]) (r := [.int 0]) (fun n => rfl) (p1_c3v4_z3 xs h_1) ?_
  show mxOk 6 xs 233 [(0, .retAddr 2), (1, .ref 0), (2, .ref 9), (3, .int 0)] [.int 0, .int 0] (shA, IA, JA, QA)
  refine mxOk.g2 6 0 (pc' := 21) (lv' := [(0, .retAddr 2), (1, .ref 0), (2, .ref 9), (3, .int 6)]) (st' := [.int 6, .int 6]) (w' := (shA, IA, JA, QA)) (fun n => rfl) ?_
  exact mxOk.ret 5 (w' := (shA, IA, JA, QA)) (fun n => rfl) (show shA.length ≤ 600000 from Nat.le_of_ble_eq_true rfl) (show (shA.map (fun q => q.2)).sum ≤ 7302250 from Nat.le_of_ble_eq_true rfl)
set_option maxRecDepth 1000000 in
set_option maxHeartbeats 4000000 in
theorem p1_c3v5_z2 (xs : Nat → Int32) (h_1 : xs 1 = 5) : mxRn 1 0 [(0, .ref 2), (1, .int 5)] [] (shA, IA, JA, QA) (some (.int 0), (shA, IA, JA, QA)) := by
  refine mxRn.g2 6 0 (pc' := 8) (lv' := [(0, .ref 2), (1, .int 5)]) (st' := [.int 0]) (w' := (shA, IA, JA, QA)) (fun n => rfl) ?_
  exact mxRn.ret 3 (fun n => rfl)
set_option maxRecDepth 1000000 in
set_option maxHeartbeats 4000000 in
theorem p1_c3v5_z1 (xs : Nat → Int32) (h_1 : xs 1 = 5) : mxRn 58 0 [(0, .ref 0), (1, .int 5)] [] (shA, IA, JA, QA) (some (.int 0), (shA, IA, JA, QA)) := by
  refine mxRn.g2 6 0 (pc' := 13) (lv' := [(0, .ref 0), (1, .int 5)]) (st' := [.int 5]) (w' := (shA, IA, JA, QA)) (fun n => rfl) ?_
  refine mxRn.c2 6 0 (z := 1) (lz := [(0, .ref 2), (1, .int 5)]) (w1 := (shA, IA, JA, QA)) (pc' := 34) (lv' := [(0, .ref 0), (1, .int 5)]) (r := []) (fun n => rfl) (p1_c3v5_z2 xs h_1) ?_
  show mxRn 58 34 [(0, .ref 0), (1, .int 5)] [.int 0] (shA, IA, JA, QA) _
  exact mxRn.ret 3 (fun n => rfl)
set_option maxRecDepth 1000000 in
set_option maxHeartbeats 4000000 in
theorem p1_c3v5_z4 (xs : Nat → Int32) (h_1 : xs 1 = 5) : mxRn 81 0 [(0, .int 5), (1, .int 0), (2, .int 6)] [] (shA, IA, JA, QA) (some (.int 1), (shA, IA, JA, QA)) := by
  refine mxRn.g2 6 0 (pc' := 10) (lv' := [(0, .int 5), (1, .int 0), (2, .int 6)]) (st' := []) (w' := (shA, IA, JA, QA)) (fun n => rfl) ?_
  exact mxRn.ret 3 (fun n => rfl)
set_option maxRecDepth 1000000 in
set_option maxHeartbeats 4000000 in
theorem p1_c3v5_z3 (xs : Nat → Int32) (h_1 : xs 1 = 5) : mxRn 92 0 [(0, .ref 9), (1, .int 5)] [] (shA, IA, JA, QA) (some (.int 0), (shA, IA, JA, QA)) := by
  refine mxRn.c2 4 0 (z := 81) (lz := [(0, .int 5), (1, .int 0), (2, .int 6)]) (w1 := (shA, IA, JA, QA)) (pc' := 7) (lv' := [(0, .ref 9), (1, .int 5)]) (r := []) (fun n => rfl) (p1_c3v5_z4 xs h_1) ?_
  show mxRn 92 7 [(0, .ref 9), (1, .int 5)] [.int 1] (shA, IA, JA, QA) _
  refine mxRn.g2 6 0 (pc' := 20) (lv' := [(0, .ref 9), (1, .int 5)]) (st' := [.int 0]) (w' := (shA, IA, JA, QA)) (fun n => rfl) ?_
  exact mxRn.ret 1 (fun n => rfl)
set_option maxRecDepth 1000000 in
set_option maxHeartbeats 4000000 in
theorem p1_c3v5 (xs : Nat → Int32) (h_1 : xs 1 = 5) : mxOk 6 xs 33 [(0, .retAddr 2), (1, .ref 0), (2, .ref 9), (3, .int 0)] [.int 3] (shA, IA, JA, QA) := by
  refine mxOk.g2 6 0 (pc' := 220) (lv' := [(0, .retAddr 2), (1, .ref 0), (2, .ref 9), (3, .int 0)]) (st' := [.int 1, .retAddr 2, .ref 0]) (w' := (shA, IA, JA, QA)) (fun n => rfl) ?_
  refine mxOk.g2 1 0 (pc' := 221) (lv' := [(0, .retAddr 2), (1, .ref 0), (2, .ref 9), (3, .int 0)]) (st' := [.int (xs 1), .ref 0]) (w' := (shA, IA, JA, QA)) (fun n => rfl) ?_
  rw [h_1]
  refine mxOk.c2 1 0 (z := 58) (lz := [(0, .ref 0), (1, .int 5)]) (w1 := (shA, IA, JA, QA)) (pc' := 224) (lv' := [(0, .retAddr 2), (1, .ref 0), (2, .ref 9), (3, .int 0)]) (r := []) (fun n => rfl) (p1_c3v5_z1 xs h_1) ?_
  show mxOk 6 xs 224 [(0, .retAddr 2), (1, .ref 0), (2, .ref 9), (3, .int 0)] [.int 0] (shA, IA, JA, QA)
  refine mxOk.g2 6 0 (pc' := 230) (lv' := [(0, .retAddr 2), (1, .ref 0), (2, .ref 9), (3, .int 0)]) (st' := [.int (xs 1), .ref 9, .int 0]) (w' := (shA, IA, JA, QA)) (fun n => rfl) ?_
  rw [h_1]
  refine mxOk.c2 1 0 (z := 92) (lz := [(0, .ref 9), (1, .int 5)]) (w1 := (shA, IA, JA, QA)) (pc' := 233) (lv' := [(0, .retAddr 2), (1, .ref 0), (2, .ref 9), (3, .int 0)]) (r := [.int 0]) (fun n => rfl) (p1_c3v5_z3 xs h_1) ?_
  show mxOk 6 xs 233 [(0, .retAddr 2), (1, .ref 0), (2, .ref 9), (3, .int 0)] [.int 0, .int 0] (shA, IA, JA, QA)
  refine mxOk.g2 6 0 (pc' := 21) (lv' := [(0, .retAddr 2), (1, .ref 0), (2, .ref 9), (3, .int 6)]) (st' := [.int 6, .int 6]) (w' := (shA, IA, JA, QA)) (fun n => rfl) ?_
  exact mxOk.ret 5 (w' := (shA, IA, JA, QA)) (fun n => rfl) (show shA.length ≤ 600000 from Nat.le_of_ble_eq_true rfl) (show (shA.map (fun q => q.2)).sum ≤ 7302250 from Nat.le_of_ble_eq_true rfl)
set_option maxRecDepth 1000000 in
set_option maxHeartbeats 4000000 in
theorem p1_c3v6_z2 (xs : Nat → Int32) (h_1 : xs 1 = 6) : mxRn 2 0 [(0, .ref 2)] [] (shA, IA, JA, QA) (some (.int 0), (shA, IA, JA, QA)) := by
  exact mxRn.ret 3 (fun n => rfl)
set_option maxRecDepth 1000000 in
set_option maxHeartbeats 4000000 in
theorem p1_c3v6_z1 (xs : Nat → Int32) (h_1 : xs 1 = 6) : mxRn 58 0 [(0, .ref 0), (1, .int 6)] [] (shA, IA, JA, QA) (some (.int 0), (shA, IA, JA, QA)) := by
  refine mxRn.g2 6 0 (pc' := 13) (lv' := [(0, .ref 0), (1, .int 6)]) (st' := [.int 6]) (w' := (shA, IA, JA, QA)) (fun n => rfl) ?_
  refine mxRn.c2 5 0 (z := 2) (lz := [(0, .ref 2)]) (w1 := (shA, IA, JA, QA)) (pc' := 25) (lv' := [(0, .ref 0), (1, .int 6)]) (r := []) (fun n => rfl) (p1_c3v6_z2 xs h_1) ?_
  show mxRn 58 25 [(0, .ref 0), (1, .int 6)] [.int 0] (shA, IA, JA, QA) _
  exact mxRn.ret 1 (fun n => rfl)
set_option maxRecDepth 1000000 in
set_option maxHeartbeats 4000000 in
theorem p1_c3v6_z4 (xs : Nat → Int32) (h_1 : xs 1 = 6) : mxRn 81 0 [(0, .int 6), (1, .int 0), (2, .int 6)] [] (shA, IA, JA, QA) (some (.int 1), (shA, IA, JA, QA)) := by
  refine mxRn.g2 6 0 (pc' := 10) (lv' := [(0, .int 6), (1, .int 0), (2, .int 6)]) (st' := []) (w' := (shA, IA, JA, QA)) (fun n => rfl) ?_
  exact mxRn.ret 3 (fun n => rfl)
set_option maxRecDepth 1000000 in
set_option maxHeartbeats 4000000 in
theorem p1_c3v6_z3 (xs : Nat → Int32) (h_1 : xs 1 = 6) : mxRn 92 0 [(0, .ref 9), (1, .int 6)] [] (shA, IA, JA, QA) (some (.int 0), (shA, IA, JA, QA)) := by
  refine mxRn.c2 4 0 (z := 81) (lz := [(0, .int 6), (1, .int 0), (2, .int 6)]) (w1 := (shA, IA, JA, QA)) (pc' := 7) (lv' := [(0, .ref 9), (1, .int 6)]) (r := []) (fun n => rfl) (p1_c3v6_z4 xs h_1) ?_
  show mxRn 92 7 [(0, .ref 9), (1, .int 6)] [.int 1] (shA, IA, JA, QA) _
  refine mxRn.g2 6 0 (pc' := 20) (lv' := [(0, .ref 9), (1, .int 6)]) (st' := [.int 0]) (w' := (shA, IA, JA, QA)) (fun n => rfl) ?_
  exact mxRn.ret 1 (fun n => rfl)
set_option maxRecDepth 1000000 in
set_option maxHeartbeats 4000000 in
theorem p1_c3v6 (xs : Nat → Int32) (h_1 : xs 1 = 6) : mxOk 6 xs 33 [(0, .retAddr 2), (1, .ref 0), (2, .ref 9), (3, .int 0)] [.int 3] (shA, IA, JA, QA) := by
  refine mxOk.g2 6 0 (pc' := 220) (lv' := [(0, .retAddr 2), (1, .ref 0), (2, .ref 9), (3, .int 0)]) (st' := [.int 1, .retAddr 2, .ref 0]) (w' := (shA, IA, JA, QA)) (fun n => rfl) ?_
  refine mxOk.g2 1 0 (pc' := 221) (lv' := [(0, .retAddr 2), (1, .ref 0), (2, .ref 9), (3, .int 0)]) (st' := [.int (xs 1), .ref 0]) (w' := (shA, IA, JA, QA)) (fun n => rfl) ?_
  rw [h_1]
  refine mxOk.c2 1 0 (z := 58) (lz := [(0, .ref 0), (1, .int 6)]) (w1 := (shA, IA, JA, QA)) (pc' := 224) (lv' := [(0, .retAddr 2), (1, .ref 0), (2, .ref 9), (3, .int 0)]) (r := []) (fun n => rfl) (p1_c3v6_z1 xs h_1) ?_
  show mxOk 6 xs 224 [(0, .retAddr 2), (1, .ref 0), (2, .ref 9), (3, .int 0)] [.int 0] (shA, IA, JA, QA)
  refine mxOk.g2 6 0 (pc' := 230) (lv' := [(0, .retAddr 2), (1, .ref 0), (2, .ref 9), (3, .int 0)]) (st' := [.int (xs 1), .ref 9, .int 0]) (w' := (shA, IA, JA, QA)) (fun n => rfl) ?_
  rw [h_1]
  refine mxOk.c2 1 0 (z := 92) (lz := [(0, .ref 9), (1, .int 6)]) (w1 := (shA, IA, JA, QA)) (pc' := 233) (lv' := [(0, .retAddr 2), (1, .ref 0), (2, .ref 9), (3, .int 0)]) (r := [.int 0]) (fun n => rfl) (p1_c3v6_z3 xs h_1) ?_
  show mxOk 6 xs 233 [(0, .retAddr 2), (1, .ref 0), (2, .ref 9), (3, .int 0)] [.int 0, .int 0] (shA, IA, JA, QA)
  refine mxOk.g2 6 0 (pc' := 21) (lv' := [(0, .retAddr 2), (1, .ref 0), (2, .ref 9), (3, .int 6)]) (st' := [.int 6, .int 6]) (w' := (shA, IA, JA, QA)) (fun n => rfl) ?_
  exact mxOk.ret 5 (w' := (shA, IA, JA, QA)) (fun n => rfl) (show shA.length ≤ 600000 from Nat.le_of_ble_eq_true rfl) (show (shA.map (fun q => q.2)).sum ≤ 7302250 from Nat.le_of_ble_eq_true rfl)
set_option maxRecDepth 1000000 in
set_option maxHeartbeats 4000000 in
theorem p1_c8b_z2 (xs : Nat → Int32) (h_1 : (xs 1).toInt < 0) : mxRn 71 0 [(0, .int (xs 1))] [] (shA, IA, JA, QA) (some (.int 0), (shA, IA, JA, QA)) := by
  refine mxRn.it2 2 0 (bb := Op.ifCond.holds .lt (xs 1)) (pc' := 15) (lv' := [(0, .int (xs 1))]) (st' := []) (w' := (shA, IA, JA, QA)) (X := fun nf => mxev (nf + 0) 71 4 [(0, .int (xs 1))] [] (shA, IA, JA, QA)) (fun n => rfl) (hd_lt_t (by omega)) ?_
  exact mxRn.ret 2 (fun n => rfl)
set_option maxRecDepth 1000000 in
set_option maxHeartbeats 4000000 in
theorem p1_c8b_z1 (xs : Nat → Int32) (h_1 : (xs 1).toInt < 0) : mxRn 65 0 [(0, .ref 0), (1, .int (xs 1))] [] (shA, IA, JA, QA) (some (.int 0), (shA, IA, JA, QA)) := by
  refine mxRn.c2 2 0 (z := 71) (lz := [(0, .int (xs 1))]) (w1 := (shA, IA, JA, QA)) (pc' := 4) (lv' := [(0, .ref 0), (1, .int (xs 1))]) (r := []) (fun n => rfl) (p1_c8b_z2 xs h_1) ?_
  show mxRn 65 4 [(0, .ref 0), (1, .int (xs 1))] [.int 0] (shA, IA, JA, QA) _
  exact mxRn.ret 3 (fun n => rfl)
set_option maxRecDepth 1000000 in
set_option maxHeartbeats 4000000 in
theorem p1_c8b_z4 (xs : Nat → Int32) (h_1 : (xs 1).toInt < 0) : mxRn 81 0 [(0, .int (xs 1)), (1, .int 0), (2, .int 127)] [] (shA, IA, JA, QA) (some (.int 0), (shA, IA, JA, QA)) := by
  refine mxRn.it2 3 0 (bb := Op.if_icmp.holds .lt (xs 1) (0 : Int32)) (pc' := 14) (lv' := [(0, .int (xs 1)), (1, .int 0), (2, .int 127)]) (st' := []) (w' := (shA, IA, JA, QA)) (X := fun nf => mxev (nf + 0) 81 5 [(0, .int (xs 1)), (1, .int 0), (2, .int 127)] [] (shA, IA, JA, QA)) (fun n => rfl) (hc_lt_t 0 rfl (by omega)) ?_
  exact mxRn.ret 2 (fun n => rfl)
set_option maxRecDepth 1000000 in
set_option maxHeartbeats 4000000 in
theorem p1_c8b_z3 (xs : Nat → Int32) (h_1 : (xs 1).toInt < 0) : mxRn 107 0 [(0, .ref 9), (1, .int (xs 1))] [] (shA, IA, JA, QA) (some (.int 0), (shA, IA, JA, QA)) := by
  refine mxRn.c2 4 0 (z := 81) (lz := [(0, .int (xs 1)), (1, .int 0), (2, .int 127)]) (w1 := (shA, IA, JA, QA)) (pc' := 7) (lv' := [(0, .ref 9), (1, .int (xs 1))]) (r := []) (fun n => rfl) (p1_c8b_z4 xs h_1) ?_
  show mxRn 107 7 [(0, .ref 9), (1, .int (xs 1))] [.int 0] (shA, IA, JA, QA) _
  exact mxRn.ret 3 (fun n => rfl)
set_option maxRecDepth 1000000 in
set_option maxHeartbeats 4000000 in
theorem p1_c8b (xs : Nat → Int32) (h_1 : (xs 1).toInt < 0) : mxOk 6 xs 33 [(0, .retAddr 2), (1, .ref 0), (2, .ref 9), (3, .int 0)] [.int 8] (shA, IA, JA, QA) := by
  refine mxOk.g2 6 0 (pc' := 385) (lv' := [(0, .retAddr 2), (1, .ref 0), (2, .ref 9), (3, .int 0)]) (st' := [.int 1, .retAddr 2, .ref 0]) (w' := (shA, IA, JA, QA)) (fun n => rfl) ?_
  refine mxOk.c2 2 0 (z := 65) (lz := [(0, .ref 0), (1, .int (xs 1))]) (w1 := (shA, IA, JA, QA)) (pc' := 389) (lv' := [(0, .retAddr 2), (1, .ref 0), (2, .ref 9), (3, .int 0)]) (r := []) (fun n => rfl) (p1_c8b_z1 xs h_1) ?_
  show mxOk 6 xs 389 [(0, .retAddr 2), (1, .ref 0), (2, .ref 9), (3, .int 0)] [.int 0] (shA, IA, JA, QA)
  refine mxOk.g2 6 0 (pc' := 395) (lv' := [(0, .retAddr 2), (1, .ref 0), (2, .ref 9), (3, .int 0)]) (st' := [.int (xs 1), .ref 9, .int 0]) (w' := (shA, IA, JA, QA)) (fun n => rfl) ?_
  refine mxOk.c2 1 0 (z := 107) (lz := [(0, .ref 9), (1, .int (xs 1))]) (w1 := (shA, IA, JA, QA)) (pc' := 398) (lv' := [(0, .retAddr 2), (1, .ref 0), (2, .ref 9), (3, .int 0)]) (r := [.int 0]) (fun n => rfl) (p1_c8b_z3 xs h_1) ?_
  show mxOk 6 xs 398 [(0, .retAddr 2), (1, .ref 0), (2, .ref 9), (3, .int 0)] [.int 0, .int 0] (shA, IA, JA, QA)
  refine mxOk.g2 6 0 (pc' := 21) (lv' := [(0, .retAddr 2), (1, .ref 0), (2, .ref 9), (3, .int 6)]) (st' := [.int 6, .int 6]) (w' := (shA, IA, JA, QA)) (fun n => rfl) ?_
  exact mxOk.ret 5 (w' := (shA, IA, JA, QA)) (fun n => rfl) (show shA.length ≤ 600000 from Nat.le_of_ble_eq_true rfl) (show (shA.map (fun q => q.2)).sum ≤ 7302250 from Nat.le_of_ble_eq_true rfl)
set_option maxRecDepth 1000000 in
set_option maxHeartbeats 4000000 in
theorem p1_c8a_z2 (xs : Nat → Int32) (h_1 : 127 < (xs 1).toInt) : mxRn 71 0 [(0, .int (xs 1))] [] (shA, IA, JA, QA) (some (.int 0), (shA, IA, JA, QA)) := by
  refine mxRn.if2 2 0 (bb := Op.ifCond.holds .lt (xs 1)) (pc' := 4) (lv' := [(0, .int (xs 1))]) (st' := []) (w' := (shA, IA, JA, QA)) (X := fun nf => mxev (nf + 0) 71 15 [(0, .int (xs 1))] [] (shA, IA, JA, QA)) (fun n => rfl) (hd_lt_f (by omega)) ?_
  refine mxRn.it2 3 0 (bb := Op.if_icmp.holds .ge (xs 1) (128 : Int32)) (pc' := 15) (lv' := [(0, .int (xs 1))]) (st' := []) (w' := (shA, IA, JA, QA)) (X := fun nf => mxev (nf + 0) 71 11 [(0, .int (xs 1))] [] (shA, IA, JA, QA)) (fun n => rfl) (hc_ge_t 128 rfl (by omega)) ?_
  exact mxRn.ret 2 (fun n => rfl)
set_option maxRecDepth 1000000 in
set_option maxHeartbeats 4000000 in
theorem p1_c8a_z1 (xs : Nat → Int32) (h_1 : 127 < (xs 1).toInt) : mxRn 65 0 [(0, .ref 0), (1, .int (xs 1))] [] (shA, IA, JA, QA) (some (.int 0), (shA, IA, JA, QA)) := by
  refine mxRn.c2 2 0 (z := 71) (lz := [(0, .int (xs 1))]) (w1 := (shA, IA, JA, QA)) (pc' := 4) (lv' := [(0, .ref 0), (1, .int (xs 1))]) (r := []) (fun n => rfl) (p1_c8a_z2 xs h_1) ?_
  show mxRn 65 4 [(0, .ref 0), (1, .int (xs 1))] [.int 0] (shA, IA, JA, QA) _
  exact mxRn.ret 3 (fun n => rfl)
set_option maxRecDepth 1000000 in
set_option maxHeartbeats 4000000 in
theorem p1_c8a_z4 (xs : Nat → Int32) (h_1 : 127 < (xs 1).toInt) : mxRn 81 0 [(0, .int (xs 1)), (1, .int 0), (2, .int 127)] [] (shA, IA, JA, QA) (some (.int 0), (shA, IA, JA, QA)) := by
  refine mxRn.if2 3 0 (bb := Op.if_icmp.holds .lt (xs 1) (0 : Int32)) (pc' := 5) (lv' := [(0, .int (xs 1)), (1, .int 0), (2, .int 127)]) (st' := []) (w' := (shA, IA, JA, QA)) (X := fun nf => mxev (nf + 0) 81 14 [(0, .int (xs 1)), (1, .int 0), (2, .int 127)] [] (shA, IA, JA, QA)) (fun n => rfl) (hc_lt_f 0 rfl (by omega)) ?_
  refine mxRn.it2 3 0 (bb := Op.if_icmp.holds .gt (xs 1) (127 : Int32)) (pc' := 14) (lv' := [(0, .int (xs 1)), (1, .int 0), (2, .int 127)]) (st' := []) (w' := (shA, IA, JA, QA)) (X := fun nf => mxev (nf + 0) 81 10 [(0, .int (xs 1)), (1, .int 0), (2, .int 127)] [] (shA, IA, JA, QA)) (fun n => rfl) (hc_gt_t 127 rfl (by omega)) ?_
  exact mxRn.ret 2 (fun n => rfl)
set_option maxRecDepth 1000000 in
set_option maxHeartbeats 4000000 in
theorem p1_c8a_z3 (xs : Nat → Int32) (h_1 : 127 < (xs 1).toInt) : mxRn 107 0 [(0, .ref 9), (1, .int (xs 1))] [] (shA, IA, JA, QA) (some (.int 0), (shA, IA, JA, QA)) := by
  refine mxRn.c2 4 0 (z := 81) (lz := [(0, .int (xs 1)), (1, .int 0), (2, .int 127)]) (w1 := (shA, IA, JA, QA)) (pc' := 7) (lv' := [(0, .ref 9), (1, .int (xs 1))]) (r := []) (fun n => rfl) (p1_c8a_z4 xs h_1) ?_
  show mxRn 107 7 [(0, .ref 9), (1, .int (xs 1))] [.int 0] (shA, IA, JA, QA) _
  exact mxRn.ret 3 (fun n => rfl)
set_option maxRecDepth 1000000 in
set_option maxHeartbeats 4000000 in
theorem p1_c8a (xs : Nat → Int32) (h_1 : 127 < (xs 1).toInt) : mxOk 6 xs 33 [(0, .retAddr 2), (1, .ref 0), (2, .ref 9), (3, .int 0)] [.int 8] (shA, IA, JA, QA) := by
  refine mxOk.g2 6 0 (pc' := 385) (lv' := [(0, .retAddr 2), (1, .ref 0), (2, .ref 9), (3, .int 0)]) (st' := [.int 1, .retAddr 2, .ref 0]) (w' := (shA, IA, JA, QA)) (fun n => rfl) ?_
  refine mxOk.c2 2 0 (z := 65) (lz := [(0, .ref 0), (1, .int (xs 1))]) (w1 := (shA, IA, JA, QA)) (pc' := 389) (lv' := [(0, .retAddr 2), (1, .ref 0), (2, .ref 9), (3, .int 0)]) (r := []) (fun n => rfl) (p1_c8a_z1 xs h_1) ?_
  show mxOk 6 xs 389 [(0, .retAddr 2), (1, .ref 0), (2, .ref 9), (3, .int 0)] [.int 0] (shA, IA, JA, QA)
  refine mxOk.g2 6 0 (pc' := 395) (lv' := [(0, .retAddr 2), (1, .ref 0), (2, .ref 9), (3, .int 0)]) (st' := [.int (xs 1), .ref 9, .int 0]) (w' := (shA, IA, JA, QA)) (fun n => rfl) ?_
  refine mxOk.c2 1 0 (z := 107) (lz := [(0, .ref 9), (1, .int (xs 1))]) (w1 := (shA, IA, JA, QA)) (pc' := 398) (lv' := [(0, .retAddr 2), (1, .ref 0), (2, .ref 9), (3, .int 0)]) (r := [.int 0]) (fun n => rfl) (p1_c8a_z3 xs h_1) ?_
  show mxOk 6 xs 398 [(0, .retAddr 2), (1, .ref 0), (2, .ref 9), (3, .int 0)] [.int 0, .int 0] (shA, IA, JA, QA)
  refine mxOk.g2 6 0 (pc' := 21) (lv' := [(0, .retAddr 2), (1, .ref 0), (2, .ref 9), (3, .int 6)]) (st' := [.int 6, .int 6]) (w' := (shA, IA, JA, QA)) (fun n => rfl) ?_
  exact mxOk.ret 5 (w' := (shA, IA, JA, QA)) (fun n => rfl) (show shA.length ≤ 600000 from Nat.le_of_ble_eq_true rfl) (show (shA.map (fun q => q.2)).sum ≤ 7302250 from Nat.le_of_ble_eq_true rfl)
