set_option maxRecDepth 1000000 in
set_option maxHeartbeats 4000000 in
theorem p1_c4v3a (xs : Nat → Int32) (h_1 : xs 1 = 3) (h_2 : 99 < (xs 2).toInt) : mxOk 6 xs 33 [(0, .retAddr 2), (1, .ref 0), (2, .ref 9), (3, .int 0)] [.int 4] (shA, IA, JA, QA) := by
  refine mxOk.g2 7 0 (pc' := 244) (lv' := [(0, .retAddr 2), (1, .ref 0), (2, .ref 9), (3, .int 0)]) (st' := [.int (xs 1), .ref 0]) (w' := (shA, IA, JA, QA)) (fun n => rfl) ?_
  rw [h_1]
  have hz1 : mxRn 59 0 [(0, .ref 0), (1, .int 3), (2, .int (xs 2))] [] (shA, IA, JA, QA) (some (.int (-1)), (shA, IA, JA, QA)) := by
    refine mxRn.if2 7 0 (bb := Op.ifCond.holds .lt (xs 2)) (pc' := 14) (lv' := [(0, .ref 0), (1, .int 3), (2, .int (xs 2))]) (st' := []) (w' := (shA, IA, JA, QA)) (X := fun n => mxev (n + 0) 59 20 [(0, .ref 0), (1, .int 3), (2, .int (xs 2))] [] (shA, IA, JA, QA)) (fun n => rfl) (hd_lt_f (by omega)) ?_
    refine mxRn.if2 3 0 (bb := Op.if_icmp.holds .le (xs 2) (99 : Int32)) (pc' := 20) (lv' := [(0, .ref 0), (1, .int 3), (2, .int (xs 2))]) (st' := []) (w' := (shA, IA, JA, QA)) (X := fun n => mxev (n + 0) 59 22 [(0, .ref 0), (1, .int 3), (2, .int (xs 2))] [] (shA, IA, JA, QA)) (fun n => rfl) (hc_le_f 99 rfl (by omega)) ?_
    exact mxRn.ret 2 (fun n => rfl)
  refine mxOk.c2 6 0 (z := 59) (lz := [(0, .ref 0), (1, .int 3), (2, .int (xs 2))]) (w1 := (shA, IA, JA, QA)) (pc' := 252) (lv' := [(0, .retAddr 2), (1, .ref 0), (2, .ref 9), (3, .int 0)]) (r := []) (fun n => rfl) hz1 ?_
  show mxOk 6 xs 252 [(0, .retAddr 2), (1, .ref 0), (2, .ref 9), (3, .int 0)] [.int (-1)] (shA, IA, JA, QA)
  refine mxOk.g2 6 0 (pc' := 258) (lv' := [(0, .retAddr 2), (1, .ref 0), (2, .ref 9), (3, .int 0)]) (st' := [.int (xs 1), .ref 9, .int (-1)]) (w' := (shA, IA, JA, QA)) (fun n => rfl) ?_
  rw [h_1]
  have hz4 : mxRn 122 0 [(0, .ref 9), (1, .int 3), (2, .int (xs 2))] [] (shA, IA, JA, QA) (some (.int (-1)), (shA, IA, JA, QA)) := by
    have hz2 : mxRn 81 0 [(0, .int 3), (1, .int 0), (2, .int 6)] [] (shA, IA, JA, QA) (some (.int 1), (shA, IA, JA, QA)) := by
      exact mxRn.ret 9 (fun n => rfl)
    refine mxRn.c2 4 0 (z := 81) (lz := [(0, .int 3), (1, .int 0), (2, .int 6)]) (w1 := (shA, IA, JA, QA)) (pc' := 7) (lv' := [(0, .ref 9), (1, .int 3), (2, .int (xs 2))]) (r := []) (fun n => rfl) hz2 ?_
    show mxRn 122 7 [(0, .ref 9), (1, .int 3), (2, .int (xs 2))] [.int 1] (shA, IA, JA, QA) _
    have hz3 : mxRn 81 0 [(0, .int (xs 2)), (1, .int 0), (2, .int 99)] [] (shA, IA, JA, QA) (some (.int 0), (shA, IA, JA, QA)) := by
      refine mxRn.if2 3 0 (bb := Op.if_icmp.holds .lt (xs 2) (0 : Int32)) (pc' := 5) (lv' := [(0, .int (xs 2)), (1, .int 0), (2, .int 99)]) (st' := []) (w' := (shA, IA, JA, QA)) (X := fun n => mxev (n + 0) 81 14 [(0, .int (xs 2)), (1, .int 0), (2, .int 99)] [] (shA, IA, JA, QA)) (fun n => rfl) (hc_lt_f 0 rfl (by omega)) ?_
      refine mxRn.it2 3 0 (bb := Op.if_icmp.holds .gt (xs 2) (99 : Int32)) (pc' := 14) (lv' := [(0, .int (xs 2)), (1, .int 0), (2, .int 99)]) (st' := []) (w' := (shA, IA, JA, QA)) (X := fun n => mxev (n + 0) 81 10 [(0, .int (xs 2)), (1, .int 0), (2, .int 99)] [] (shA, IA, JA, QA)) (fun n => rfl) (hc_gt_t 99 rfl (by omega)) ?_
      exact mxRn.ret 2 (fun n => rfl)
    refine mxRn.c2 5 0 (z := 81) (lz := [(0, .int (xs 2)), (1, .int 0), (2, .int 99)]) (w1 := (shA, IA, JA, QA)) (pc' := 17) (lv' := [(0, .ref 9), (1, .int 3), (2, .int (xs 2))]) (r := []) (fun n => rfl) hz3 ?_
    show mxRn 122 17 [(0, .ref 9), (1, .int 3), (2, .int (xs 2))] [.int 0] (shA, IA, JA, QA) _
    exact mxRn.ret 3 (fun n => rfl)
  refine mxOk.c2 6 0 (z := 122) (lz := [(0, .ref 9), (1, .int 3), (2, .int (xs 2))]) (w1 := (shA, IA, JA, QA)) (pc' := 266) (lv' := [(0, .retAddr 2), (1, .ref 0), (2, .ref 9), (3, .int 0)]) (r := [.int (-1)]) (fun n => rfl) hz4 ?_
  show mxOk 6 xs 266 [(0, .retAddr 2), (1, .ref 0), (2, .ref 9), (3, .int 0)] [.int (-1), .int (-1)] (shA, IA, JA, QA)
  exact mxOk.ret 11 (w' := (shA, IA, JA, QA)) (fun n => rfl) (show shA.length ≤ 600000 from Nat.le_of_ble_eq_true rfl) (show (shA.map (fun q => q.2)).sum ≤ 7302250 from Nat.le_of_ble_eq_true rfl)
set_option maxRecDepth 1000000 in
set_option maxHeartbeats 4000000 in
theorem p1_c4v3s (xs : Nat → Int32) (h_1 : xs 1 = 3) (h_2 : 0 ≤ (xs 2).toInt ∧ (xs 2).toInt ≤ 99) : mxOk 6 xs 33 [(0, .retAddr 2), (1, .ref 0), (2, .ref 9), (3, .int 0)] [.int 4] (shA, IA, JA, QA) := by
  refine mxOk.g2 7 0 (pc' := 244) (lv' := [(0, .retAddr 2), (1, .ref 0), (2, .ref 9), (3, .int 0)]) (st' := [.int (xs 1), .ref 0]) (w' := (shA, IA, JA, QA)) (fun n => rfl) ?_
  rw [h_1]
  have hz1 : mxRn 59 0 [(0, .ref 0), (1, .int 3), (2, .int (xs 2))] [] (shA, IA, JA, QA) (some (.int 1), (shA, (mxI IA 4 3 (xs 2)), JA, QA)) := by
    refine mxRn.if2 7 0 (bb := Op.ifCond.holds .lt (xs 2)) (pc' := 14) (lv' := [(0, .ref 0), (1, .int 3), (2, .int (xs 2))]) (st' := []) (w' := (shA, IA, JA, QA)) (X := fun n => mxev (n + 0) 59 20 [(0, .ref 0), (1, .int 3), (2, .int (xs 2))] [] (shA, IA, JA, QA)) (fun n => rfl) (hd_lt_f (by omega)) ?_
    refine mxRn.it2 3 0 (bb := Op.if_icmp.holds .le (xs 2) (99 : Int32)) (pc' := 22) (lv' := [(0, .ref 0), (1, .int 3), (2, .int (xs 2))]) (st' := []) (w' := (shA, IA, JA, QA)) (X := fun n => mxev (n + 0) 59 20 [(0, .ref 0), (1, .int 3), (2, .int (xs 2))] [] (shA, IA, JA, QA)) (fun n => rfl) (hc_le_t 99 rfl (by omega)) ?_
    exact mxRn.ret 12 (fun n => rfl)
  refine mxOk.c2 6 0 (z := 59) (lz := [(0, .ref 0), (1, .int 3), (2, .int (xs 2))]) (w1 := (shA, IA, JA, QA)) (pc' := 252) (lv' := [(0, .retAddr 2), (1, .ref 0), (2, .ref 9), (3, .int 0)]) (r := []) (fun n => rfl) hz1 ?_
  show mxOk 6 xs 252 [(0, .retAddr 2), (1, .ref 0), (2, .ref 9), (3, .int 0)] [.int 1] (shA, (mxI IA 4 3 (xs 2)), JA, QA)
  refine mxOk.g2 6 0 (pc' := 258) (lv' := [(0, .retAddr 2), (1, .ref 0), (2, .ref 9), (3, .int 0)]) (st' := [.int (xs 1), .ref 9, .int 1]) (w' := (shA, (mxI IA 4 3 (xs 2)), JA, QA)) (fun n => rfl) ?_
  rw [h_1]
  have hz4 : mxRn 122 0 [(0, .ref 9), (1, .int 3), (2, .int (xs 2))] [] (shA, (mxI IA 4 3 (xs 2)), JA, QA) (some (.int 1), (shA, (mxI (mxI IA 4 3 (xs 2)) 27 3 (xs 2)), JA, QA)) := by
    have hz2 : mxRn 81 0 [(0, .int 3), (1, .int 0), (2, .int 6)] [] (shA, (mxI IA 4 3 (xs 2)), JA, QA) (some (.int 1), (shA, (mxI IA 4 3 (xs 2)), JA, QA)) := by
      exact mxRn.ret 9 (fun n => rfl)
    refine mxRn.c2 4 0 (z := 81) (lz := [(0, .int 3), (1, .int 0), (2, .int 6)]) (w1 := (shA, (mxI IA 4 3 (xs 2)), JA, QA)) (pc' := 7) (lv' := [(0, .ref 9), (1, .int 3), (2, .int (xs 2))]) (r := []) (fun n => rfl) hz2 ?_
    show mxRn 122 7 [(0, .ref 9), (1, .int 3), (2, .int (xs 2))] [.int 1] (shA, (mxI IA 4 3 (xs 2)), JA, QA) _
    have hz3 : mxRn 81 0 [(0, .int (xs 2)), (1, .int 0), (2, .int 99)] [] (shA, (mxI IA 4 3 (xs 2)), JA, QA) (some (.int 1), (shA, (mxI IA 4 3 (xs 2)), JA, QA)) := by
      refine mxRn.if2 3 0 (bb := Op.if_icmp.holds .lt (xs 2) (0 : Int32)) (pc' := 5) (lv' := [(0, .int (xs 2)), (1, .int 0), (2, .int 99)]) (st' := []) (w' := (shA, (mxI IA 4 3 (xs 2)), JA, QA)) (X := fun n => mxev (n + 0) 81 14 [(0, .int (xs 2)), (1, .int 0), (2, .int 99)] [] (shA, (mxI IA 4 3 (xs 2)), JA, QA)) (fun n => rfl) (hc_lt_f 0 rfl (by omega)) ?_
      refine mxRn.if2 3 0 (bb := Op.if_icmp.holds .gt (xs 2) (99 : Int32)) (pc' := 10) (lv' := [(0, .int (xs 2)), (1, .int 0), (2, .int 99)]) (st' := []) (w' := (shA, (mxI IA 4 3 (xs 2)), JA, QA)) (X := fun n => mxev (n + 0) 81 14 [(0, .int (xs 2)), (1, .int 0), (2, .int 99)] [] (shA, (mxI IA 4 3 (xs 2)), JA, QA)) (fun n => rfl) (hc_gt_f 99 rfl (by omega)) ?_
      exact mxRn.ret 3 (fun n => rfl)
    refine mxRn.c2 5 0 (z := 81) (lz := [(0, .int (xs 2)), (1, .int 0), (2, .int 99)]) (w1 := (shA, (mxI IA 4 3 (xs 2)), JA, QA)) (pc' := 17) (lv' := [(0, .ref 9), (1, .int 3), (2, .int (xs 2))]) (r := []) (fun n => rfl) hz3 ?_
    show mxRn 122 17 [(0, .ref 9), (1, .int 3), (2, .int (xs 2))] [.int 1] (shA, (mxI IA 4 3 (xs 2)), JA, QA) _
    exact mxRn.ret 13 (fun n => rfl)
  refine mxOk.c2 6 0 (z := 122) (lz := [(0, .ref 9), (1, .int 3), (2, .int (xs 2))]) (w1 := (shA, (mxI IA 4 3 (xs 2)), JA, QA)) (pc' := 266) (lv' := [(0, .retAddr 2), (1, .ref 0), (2, .ref 9), (3, .int 0)]) (r := [.int 1]) (fun n => rfl) hz4 ?_
  show mxOk 6 xs 266 [(0, .retAddr 2), (1, .ref 0), (2, .ref 9), (3, .int 0)] [.int 1, .int 1] (shA, (mxI (mxI IA 4 3 (xs 2)) 27 3 (xs 2)), JA, QA)
  exact mxOk.ret 11 (w' := (shA, (mxI (mxI IA 4 3 (xs 2)) 27 3 (xs 2)), JA, QA)) (fun n => rfl) (show shA.length ≤ 600000 from Nat.le_of_ble_eq_true rfl) (show (shA.map (fun q => q.2)).sum ≤ 7302250 from Nat.le_of_ble_eq_true rfl)
set_option maxRecDepth 1000000 in
set_option maxHeartbeats 4000000 in
theorem p1_c4v4b (xs : Nat → Int32) (h_1 : xs 1 = 4) (h_2 : (xs 2).toInt < 0) : mxOk 6 xs 33 [(0, .retAddr 2), (1, .ref 0), (2, .ref 9), (3, .int 0)] [.int 4] (shA, IA, JA, QA) := by
  refine mxOk.g2 7 0 (pc' := 244) (lv' := [(0, .retAddr 2), (1, .ref 0), (2, .ref 9), (3, .int 0)]) (st' := [.int (xs 1), .ref 0]) (w' := (shA, IA, JA, QA)) (fun n => rfl) ?_
  rw [h_1]
  have hz1 : mxRn 59 0 [(0, .ref 0), (1, .int 4), (2, .int (xs 2))] [] (shA, IA, JA, QA) (some (.int (-1)), (shA, IA, JA, QA)) := by
    refine mxRn.it2 7 0 (bb := Op.ifCond.holds .lt (xs 2)) (pc' := 20) (lv' := [(0, .ref 0), (1, .int 4), (2, .int (xs 2))]) (st' := []) (w' := (shA, IA, JA, QA)) (X := fun n => mxev (n + 0) 59 14 [(0, .ref 0), (1, .int 4), (2, .int (xs 2))] [] (shA, IA, JA, QA)) (fun n => rfl) (hd_lt_t (by omega)) ?_
    exact mxRn.ret 2 (fun n => rfl)
  refine mxOk.c2 6 0 (z := 59) (lz := [(0, .ref 0), (1, .int 4), (2, .int (xs 2))]) (w1 := (shA, IA, JA, QA)) (pc' := 252) (lv' := [(0, .retAddr 2), (1, .ref 0), (2, .ref 9), (3, .int 0)]) (r := []) (fun n => rfl) hz1 ?_
  show mxOk 6 xs 252 [(0, .retAddr 2), (1, .ref 0), (2, .ref 9), (3, .int 0)] [.int (-1)] (shA, IA, JA, QA)
  refine mxOk.g2 6 0 (pc' := 258) (lv' := [(0, .retAddr 2), (1, .ref 0), (2, .ref 9), (3, .int 0)]) (st' := [.int (xs 1), .ref 9, .int (-1)]) (w' := (shA, IA, JA, QA)) (fun n => rfl) ?_
  rw [h_1]
  have hz4 : mxRn 122 0 [(0, .ref 9), (1, .int 4), (2, .int (xs 2))] [] (shA, IA, JA, QA) (some (.int (-1)), (shA, IA, JA, QA)) := by
    have hz2 : mxRn 81 0 [(0, .int 4), (1, .int 0), (2, .int 6)] [] (shA, IA, JA, QA) (some (.int 1), (shA, IA, JA, QA)) := by
      exact mxRn.ret 9 (fun n => rfl)
    refine mxRn.c2 4 0 (z := 81) (lz := [(0, .int 4), (1, .int 0), (2, .int 6)]) (w1 := (shA, IA, JA, QA)) (pc' := 7) (lv' := [(0, .ref 9), (1, .int 4), (2, .int (xs 2))]) (r := []) (fun n => rfl) hz2 ?_
    show mxRn 122 7 [(0, .ref 9), (1, .int 4), (2, .int (xs 2))] [.int 1] (shA, IA, JA, QA) _
    have hz3 : mxRn 81 0 [(0, .int (xs 2)), (1, .int 0), (2, .int 99)] [] (shA, IA, JA, QA) (some (.int 0), (shA, IA, JA, QA)) := by
      refine mxRn.it2 3 0 (bb := Op.if_icmp.holds .lt (xs 2) (0 : Int32)) (pc' := 14) (lv' := [(0, .int (xs 2)), (1, .int 0), (2, .int 99)]) (st' := []) (w' := (shA, IA, JA, QA)) (X := fun n => mxev (n + 0) 81 5 [(0, .int (xs 2)), (1, .int 0), (2, .int 99)] [] (shA, IA, JA, QA)) (fun n => rfl) (hc_lt_t 0 rfl (by omega)) ?_
      exact mxRn.ret 2 (fun n => rfl)
    refine mxRn.c2 5 0 (z := 81) (lz := [(0, .int (xs 2)), (1, .int 0), (2, .int 99)]) (w1 := (shA, IA, JA, QA)) (pc' := 17) (lv' := [(0, .ref 9), (1, .int 4), (2, .int (xs 2))]) (r := []) (fun n => rfl) hz3 ?_
    show mxRn 122 17 [(0, .ref 9), (1, .int 4), (2, .int (xs 2))] [.int 0] (shA, IA, JA, QA) _
    exact mxRn.ret 3 (fun n => rfl)
  refine mxOk.c2 6 0 (z := 122) (lz := [(0, .ref 9), (1, .int 4), (2, .int (xs 2))]) (w1 := (shA, IA, JA, QA)) (pc' := 266) (lv' := [(0, .retAddr 2), (1, .ref 0), (2, .ref 9), (3, .int 0)]) (r := [.int (-1)]) (fun n => rfl) hz4 ?_
  show mxOk 6 xs 266 [(0, .retAddr 2), (1, .ref 0), (2, .ref 9), (3, .int 0)] [.int (-1), .int (-1)] (shA, IA, JA, QA)
  exact mxOk.ret 11 (w' := (shA, IA, JA, QA)) (fun n => rfl) (show shA.length ≤ 600000 from Nat.le_of_ble_eq_true rfl) (show (shA.map (fun q => q.2)).sum ≤ 7302250 from Nat.le_of_ble_eq_true rfl)
set_option maxRecDepth 1000000 in
set_option maxHeartbeats 4000000 in
theorem p1_c4v4a (xs : Nat → Int32) (h_1 : xs 1 = 4) (h_2 : 99 < (xs 2).toInt) : mxOk 6 xs 33 [(0, .retAddr 2), (1, .ref 0), (2, .ref 9), (3, .int 0)] [.int 4] (shA, IA, JA, QA) := by
  refine mxOk.g2 7 0 (pc' := 244) (lv' := [(0, .retAddr 2), (1, .ref 0), (2, .ref 9), (3, .int 0)]) (st' := [.int (xs 1), .ref 0]) (w' := (shA, IA, JA, QA)) (fun n => rfl) ?_
  rw [h_1]
  have hz1 : mxRn 59 0 [(0, .ref 0), (1, .int 4), (2, .int (xs 2))] [] (shA, IA, JA, QA) (some (.int (-1)), (shA, IA, JA, QA)) := by
    refine mxRn.if2 7 0 (bb := Op.ifCond.holds .lt (xs 2)) (pc' := 14) (lv' := [(0, .ref 0), (1, .int 4), (2, .int (xs 2))]) (st' := []) (w' := (shA, IA, JA, QA)) (X := fun n => mxev (n + 0) 59 20 [(0, .ref 0), (1, .int 4), (2, .int (xs 2))] [] (shA, IA, JA, QA)) (fun n => rfl) (hd_lt_f (by omega)) ?_
    refine mxRn.if2 3 0 (bb := Op.if_icmp.holds .le (xs 2) (99 : Int32)) (pc' := 20) (lv' := [(0, .ref 0), (1, .int 4), (2, .int (xs 2))]) (st' := []) (w' := (shA, IA, JA, QA)) (X := fun n => mxev (n + 0) 59 22 [(0, .ref 0), (1, .int 4), (2, .int (xs 2))] [] (shA, IA, JA, QA)) (fun n => rfl) (hc_le_f 99 rfl (by omega)) ?_
    exact mxRn.ret 2 (fun n => rfl)
  refine mxOk.c2 6 0 (z := 59) (lz := [(0, .ref 0), (1, .int 4), (2, .int (xs 2))]) (w1 := (shA, IA, JA, QA)) (pc' := 252) (lv' := [(0, .retAddr 2), (1, .ref 0), (2, .ref 9), (3, .int 0)]) (r := []) (fun n => rfl) hz1 ?_
  show mxOk 6 xs 252 [(0, .retAddr 2), (1, .ref 0), (2, .ref 9), (3, .int 0)] [.int (-1)] (shA, IA, JA, QA)
  refine mxOk.g2 6 0 (pc' := 258) (lv' := [(0, .retAddr 2), (1, .ref 0), (2, .ref 9), (3, .int 0)]) (st' := [.int (xs 1), .ref 9, .int (-1)]) (w' := (shA, IA, JA, QA)) (fun n => rfl) ?_
  rw [h_1]
  have hz4 : mxRn 122 0 [(0, .ref 9), (1, .int 4), (2, .int (xs 2))] [] (shA, IA, JA, QA) (some (.int (-1)), (shA, IA, JA, QA)) := by
    have hz2 : mxRn 81 0 [(0, .int 4), (1, .int 0), (2, .int 6)] [] (shA, IA, JA, QA) (some (.int 1), (shA, IA, JA, QA)) := by
      exact mxRn.ret 9 (fun n => rfl)
    refine mxRn.c2 4 0 (z := 81) (lz := [(0, .int 4), (1, .int 0), (2, .int 6)]) (w1 := (shA, IA, JA, QA)) (pc' := 7) (lv' := [(0, .ref 9), (1, .int 4), (2, .int (xs 2))]) (r := []) (fun n => rfl) hz2 ?_
    show mxRn 122 7 [(0, .ref 9), (1, .int 4), (2, .int (xs 2))] [.int 1] (shA, IA, JA, QA) _
    have hz3 : mxRn 81 0 [(0, .int (xs 2)), (1, .int 0), (2, .int 99)] [] (shA, IA, JA, QA) (some (.int 0), (shA, IA, JA, QA)) := by
      refine mxRn.if2 3 0 (bb := Op.if_icmp.holds .lt (xs 2) (0 : Int32)) (pc' := 5) (lv' := [(0, .int (xs 2)), (1, .int 0), (2, .int 99)]) (st' := []) (w' := (shA, IA, JA, QA)) (X := fun n => mxev (n + 0) 81 14 [(0, .int (xs 2)), (1, .int 0), (2, .int 99)] [] (shA, IA, JA, QA)) (fun n => rfl) (hc_lt_f 0 rfl (by omega)) ?_
      refine mxRn.it2 3 0 (bb := Op.if_icmp.holds .gt (xs 2) (99 : Int32)) (pc' := 14) (lv' := [(0, .int (xs 2)), (1, .int 0), (2, .int 99)]) (st' := []) (w' := (shA, IA, JA, QA)) (X := fun n => mxev (n + 0) 81 10 [(0, .int (xs 2)), (1, .int 0), (2, .int 99)] [] (shA, IA, JA, QA)) (fun n => rfl) (hc_gt_t 99 rfl (by omega)) ?_
      exact mxRn.ret 2 (fun n => rfl)
    refine mxRn.c2 5 0 (z := 81) (lz := [(0, .int (xs 2)), (1, .int 0), (2, .int 99)]) (w1 := (shA, IA, JA, QA)) (pc' := 17) (lv' := [(0, .ref 9), (1, .int 4), (2, .int (xs 2))]) (r := []) (fun n => rfl) hz3 ?_
    show mxRn 122 17 [(0, .ref 9), (1, .int 4), (2, .int (xs 2))] [.int 0] (shA, IA, JA, QA) _
    exact mxRn.ret 3 (fun n => rfl)
  refine mxOk.c2 6 0 (z := 122) (lz := [(0, .ref 9), (1, .int 4), (2, .int (xs 2))]) (w1 := (shA, IA, JA, QA)) (pc' := 266) (lv' := [(0, .retAddr 2), (1, .ref 0), (2, .ref 9), (3, .int 0)]) (r := [.int (-1)]) (fun n => rfl) hz4 ?_
  show mxOk 6 xs 266 [(0, .retAddr 2), (1, .ref 0), (2, .ref 9), (3, .int 0)] [.int (-1), .int (-1)] (shA, IA, JA, QA)
  exact mxOk.ret 11 (w' := (shA, IA, JA, QA)) (fun n => rfl) (show shA.length ≤ 600000 from Nat.le_of_ble_eq_true rfl) (show (shA.map (fun q => q.2)).sum ≤ 7302250 from Nat.le_of_ble_eq_true rfl)
set_option maxRecDepth 1000000 in
set_option maxHeartbeats 4000000 in
theorem p1_c4v4s (xs : Nat → Int32) (h_1 : xs 1 = 4) (h_2 : 0 ≤ (xs 2).toInt ∧ (xs 2).toInt ≤ 99) : mxOk 6 xs 33 [(0, .retAddr 2), (1, .ref 0), (2, .ref 9), (3, .int 0)] [.int 4] (shA, IA, JA, QA) := by
  refine mxOk.g2 7 0 (pc' := 244) (lv' := [(0, .retAddr 2), (1, .ref 0), (2, .ref 9), (3, .int 0)]) (st' := [.int (xs 1), .ref 0]) (w' := (shA, IA, JA, QA)) (fun n => rfl) ?_
  rw [h_1]
  have hz1 : mxRn 59 0 [(0, .ref 0), (1, .int 4), (2, .int (xs 2))] [] (shA, IA, JA, QA) (some (.int 1), (shA, (mxI IA 4 4 (xs 2)), JA, QA)) := by
    refine mxRn.if2 7 0 (bb := Op.ifCond.holds .lt (xs 2)) (pc' := 14) (lv' := [(0, .ref 0), (1, .int 4), (2, .int (xs 2))]) (st' := []) (w' := (shA, IA, JA, QA)) (X := fun n => mxev (n + 0) 59 20 [(0, .ref 0), (1, .int 4), (2, .int (xs 2))] [] (shA, IA, JA, QA)) (fun n => rfl) (hd_lt_f (by omega)) ?_
    refine mxRn.it2 3 0 (bb := Op.if_icmp.holds .le (xs 2) (99 : Int32)) (pc' := 22) (lv' := [(0, .ref 0), (1, .int 4), (2, .int (xs 2))]) (st' := []) (w' := (shA, IA, JA, QA)) (X := fun n => mxev (n + 0) 59 20 [(0, .ref 0), (1, .int 4), (2, .int (xs 2))] [] (shA, IA, JA, QA)) (fun n => rfl) (hc_le_t 99 rfl (by omega)) ?_
    exact mxRn.ret 12 (fun n => rfl)
  refine mxOk.c2 6 0 (z := 59) (lz := [(0, .ref 0), (1, .int 4), (2, .int (xs 2))]) (w1 := (shA, IA, JA, QA)) (pc' := 252) (lv' := [(0, .retAddr 2), (1, .ref 0), (2, .ref 9), (3, .int 0)]) (r := []) (fun n => rfl) hz1 ?_
  show mxOk 6 xs 252 [(0, .retAddr 2), (1, .ref 0), (2, .ref 9), (3, .int 0)] [.int 1] (shA, (mxI IA 4 4 (xs 2)), JA, QA)
  refine mxOk.g2 6 0 (pc' := 258) (lv' := [(0, .retAddr 2), (1, .ref 0), (2, .ref 9), (3, .int 0)]) (st' := [.int (xs 1), .ref 9, .int 1]) (w' := (shA, (mxI IA 4 4 (xs 2)), JA, QA)) (fun n => rfl) ?_
  rw [h_1]
  have hz4 : mxRn 122 0 [(0, .ref 9), (1, .int 4), (2, .int (xs 2))] [] (shA, (mxI IA 4 4 (xs 2)), JA, QA) (some (.int 1), (shA, (mxI (mxI IA 4 4 (xs 2)) 27 4 (xs 2)), JA, QA)) := by
    have hz2 : mxRn 81 0 [(0, .int 4), (1, .int 0), (2, .int 6)] [] (shA, (mxI IA 4 4 (xs 2)), JA, QA) (some (.int 1), (shA, (mxI IA 4 4 (xs 2)), JA, QA)) := by
      exact mxRn.ret 9 (fun n => rfl)
    refine mxRn.c2 4 0 (z := 81) (lz := [(0, .int 4), (1, .int 0), (2, .int 6)]) (w1 := (shA, (mxI IA 4 4 (xs 2)), JA, QA)) (pc' := 7) (lv' := [(0, .ref 9), (1, .int 4), (2, .int (xs 2))]) (r := []) (fun n => rfl) hz2 ?_
    show mxRn 122 7 [(0, .ref 9), (1, .int 4), (2, .int (xs 2))] [.int 1] (shA, (mxI IA 4 4 (xs 2)), JA, QA) _
    have hz3 : mxRn 81 0 [(0, .int (xs 2)), (1, .int 0), (2, .int 99)] [] (shA, (mxI IA 4 4 (xs 2)), JA, QA) (some (.int 1), (shA, (mxI IA 4 4 (xs 2)), JA, QA)) := by
      refine mxRn.if2 3 0 (bb := Op.if_icmp.holds .lt (xs 2) (0 : Int32)) (pc' := 5) (lv' := [(0, .int (xs 2)), (1, .int 0), (2, .int 99)]) (st' := []) (w' := (shA, (mxI IA 4 4 (xs 2)), JA, QA)) (X := fun n => mxev (n + 0) 81 14 [(0, .int (xs 2)), (1, .int 0), (2, .int 99)] [] (shA, (mxI IA 4 4 (xs 2)), JA, QA)) (fun n => rfl) (hc_lt_f 0 rfl (by omega)) ?_
      refine mxRn.if2 3 0 (bb := Op.if_icmp.holds .gt (xs 2) (99 : Int32)) (pc' := 10) (lv' := [(0, .int (xs 2)), (1, .int 0), (2, .int 99)]) (st' := []) (w' := (shA, (mxI IA 4 4 (xs 2)), JA, QA)) (X := fun n => mxev (n + 0) 81 14 [(0, .int (xs 2)), (1, .int 0), (2, .int 99)] [] (shA, (mxI IA 4 4 (xs 2)), JA, QA)) (fun n => rfl) (hc_gt_f 99 rfl (by omega)) ?_
      exact mxRn.ret 3 (fun n => rfl)
    refine mxRn.c2 5 0 (z := 81) (lz := [(0, .int (xs 2)), (1, .int 0), (2, .int 99)]) (w1 := (shA, (mxI IA 4 4 (xs 2)), JA, QA)) (pc' := 17) (lv' := [(0, .ref 9), (1, .int 4), (2, .int (xs 2))]) (r := []) (fun n => rfl) hz3 ?_
    show mxRn 122 17 [(0, .ref 9), (1, .int 4), (2, .int (xs 2))] [.int 1] (shA, (mxI IA 4 4 (xs 2)), JA, QA) _
    exact mxRn.ret 13 (fun n => rfl)
  refine mxOk.c2 6 0 (z := 122) (lz := [(0, .ref 9), (1, .int 4), (2, .int (xs 2))]) (w1 := (shA, (mxI IA 4 4 (xs 2)), JA, QA)) (pc' := 266) (lv' := [(0, .retAddr 2), (1, .ref 0), (2, .ref 9), (3, .int 0)]) (r := [.int 1]) (fun n => rfl) hz4 ?_
  show mxOk 6 xs 266 [(0, .retAddr 2), (1, .ref 0), (2, .ref 9), (3, .int 0)] [.int 1, .int 1] (shA, (mxI (mxI IA 4 4 (xs 2)) 27 4 (xs 2)), JA, QA)
  exact mxOk.ret 11 (w' := (shA, (mxI (mxI IA 4 4 (xs 2)) 27 4 (xs 2)), JA, QA)) (fun n => rfl) (show shA.length ≤ 600000 from Nat.le_of_ble_eq_true rfl) (show (shA.map (fun q => q.2)).sum ≤ 7302250 from Nat.le_of_ble_eq_true rfl)
set_option maxRecDepth 1000000 in
set_option maxHeartbeats 4000000 in
theorem p1_c4v5b (xs : Nat → Int32) (h_1 : xs 1 = 5) (h_2 : (xs 2).toInt < 0) : mxOk 6 xs 33 [(0, .retAddr 2), (1, .ref 0), (2, .ref 9), (3, .int 0)] [.int 4] (shA, IA, JA, QA) := by
  refine mxOk.g2 7 0 (pc' := 244) (lv' := [(0, .retAddr 2), (1, .ref 0), (2, .ref 9), (3, .int 0)]) (st' := [.int (xs 1), .ref 0]) (w' := (shA, IA, JA, QA)) (fun n => rfl) ?_
  rw [h_1]
  have hz1 : mxRn 59 0 [(0, .ref 0), (1, .int 5), (2, .int (xs 2))] [] (shA, IA, JA, QA) (some (.int (-1)), (shA, IA, JA, QA)) := by
    refine mxRn.it2 7 0 (bb := Op.ifCond.holds .lt (xs 2)) (pc' := 20) (lv' := [(0, .ref 0), (1, .int 5), (2, .int (xs 2))]) (st' := []) (w' := (shA, IA, JA, QA)) (X := fun n => mxev (n + 0) 59 14 [(0, .ref 0), (1, .int 5), (2, .int (xs 2))] [] (shA, IA, JA, QA)) (fun n => rfl) (hd_lt_t (by omega)) ?_
    exact mxRn.ret 2 (fun n => rfl)
  refine mxOk.c2 6 0 (z := 59) (lz := [(0, .ref 0), (1, .int 5), (2, .int (xs 2))]) (w1 := (shA, IA, JA, QA)) (pc' := 252) (lv' := [(0, .retAddr 2), (1, .ref 0), (2, .ref 9), (3, .int 0)]) (r := []) (fun n => rfl) hz1 ?_
  show mxOk 6 xs 252 [(0, .retAddr 2), (1, .ref 0), (2, .ref 9), (3, .int 0)] [.int (-1)] (shA, IA, JA, QA)
  refine mxOk.g2 6 0 (pc' := 258) (lv' := [(0, .retAddr 2), (1, .ref 0), (2, .ref 9), (3, .int 0)]) (st' := [.int (xs 1), .ref 9, .int (-1)]) (w' := (shA, IA, JA, QA)) (fun n => rfl) ?_
  rw [h_1]
  have hz4 : mxRn 122 0 [(0, .ref 9), (1, .int 5), (2, .int (xs 2))] [] (shA, IA, JA, QA) (some (.int (-1)), (shA, IA, JA, QA)) := by
    have hz2 : mxRn 81 0 [(0, .int 5), (1, .int 0), (2, .int 6)] [] (shA, IA, JA, QA) (some (.int 1), (shA, IA, JA, QA)) := by
      exact mxRn.ret 9 (fun n => rfl)
    refine mxRn.c2 4 0 (z := 81) (lz := [(0, .int 5), (1, .int 0), (2, .int 6)]) (w1 := (shA, IA, JA, QA)) (pc' := 7) (lv' := [(0, .ref 9), (1, .int 5), (2, .int (xs 2))]) (r := []) (fun n => rfl) hz2 ?_
    show mxRn 122 7 [(0, .ref 9), (1, .int 5), (2, .int (xs 2))] [.int 1] (shA, IA, JA, QA) _
    have hz3 : mxRn 81 0 [(0, .int (xs 2)), (1, .int 0), (2, .int 99)] [] (shA, IA, JA, QA) (some (.int 0), (shA, IA, JA, QA)) := by
      refine mxRn.it2 3 0 (bb := Op.if_icmp.holds .lt (xs 2) (0 : Int32)) (pc' := 14) (lv' := [(0, .int (xs 2)), (1, .int 0), (2, .int 99)]) (st' := []) (w' := (shA, IA, JA, QA)) (X := fun n => mxev (n + 0) 81 5 [(0, .int (xs 2)), (1, .int 0), (2, .int 99)] [] (shA, IA, JA, QA)) (fun n => rfl) (hc_lt_t 0 rfl (by omega)) ?_
      exact mxRn.ret 2 (fun n => rfl)
    refine mxRn.c2 5 0 (z := 81) (lz := [(0, .int (xs 2)), (1, .int 0), (2, .int 99)]) (w1 := (shA, IA, JA, QA)) (pc' := 17) (lv' := [(0, .ref 9), (1, .int 5), (2, .int (xs 2))]) (r := []) (fun n => rfl) hz3 ?_
    show mxRn 122 17 [(0, .ref 9), (1, .int 5), (2, .int (xs 2))] [.int 0] (shA, IA, JA, QA) _
    exact mxRn.ret 3 (fun n => rfl)
  refine mxOk.c2 6 0 (z := 122) (lz := [(0, .ref 9), (1, .int 5), (2, .int (xs 2))]) (w1 := (shA, IA, JA, QA)) (pc' := 266) (lv' := [(0, .retAddr 2), (1, .ref 0), (2, .ref 9), (3, .int 0)]) (r := [.int (-1)]) (fun n => rfl) hz4 ?_
  show mxOk 6 xs 266 [(0, .retAddr 2), (1, .ref 0), (2, .ref 9), (3, .int 0)] [.int (-1), .int (-1)] (shA, IA, JA, QA)
  exact mxOk.ret 11 (w' := (shA, IA, JA, QA)) (fun n => rfl) (show shA.length ≤ 600000 from Nat.le_of_ble_eq_true rfl) (show (shA.map (fun q => q.2)).sum ≤ 7302250 from Nat.le_of_ble_eq_true rfl)
set_option maxRecDepth 1000000 in
set_option maxHeartbeats 4000000 in
theorem p1_c4v5a (xs : Nat → Int32) (h_1 : xs 1 = 5) (h_2 : 99 < (xs 2).toInt) : mxOk 6 xs 33 [(0, .retAddr 2), (1, .ref 0), (2, .ref 9), (3, .int 0)] [.int 4] (shA, IA, JA, QA) := by
  refine mxOk.g2 7 0 (pc' := 244) (lv' := [(0, .retAddr 2), (1, .ref 0), (2, .ref 9), (3, .int 0)]) (st' := [.int (xs 1), .ref 0]) (w' := (shA, IA, JA, QA)) (fun n => rfl) ?_
  rw [h_1]
  have hz1 : mxRn 59 0 [(0, .ref 0), (1, .int 5), (2, .int (xs 2))] [] (shA, IA, JA, QA) (some (.int (-1)), (shA, IA, JA, QA)) := by
    refine mxRn.if2 7 0 (bb := Op.ifCond.holds .lt (xs 2)) (pc' := 14) (lv' := [(0, .ref 0), (1, .int 5), (2, .int (xs 2))]) (st' := []) (w' := (shA, IA, JA, QA)) (X := fun n => mxev (n + 0) 59 20 [(0, .ref 0), (1, .int 5), (2, .int (xs 2))] [] (shA, IA, JA, QA)) (fun n => rfl) (hd_lt_f (by omega)) ?_
    refine mxRn.if2 3 0 (bb := Op.if_icmp.holds .le (xs 2) (99 : Int32)) (pc' := 20) (lv' := [(0, .ref 0), (1, .int 5), (2, .int (xs 2))]) (st' := []) (w' := (shA, IA, JA, QA)) (X := fun n => mxev (n + 0) 59 22 [(0, .ref 0), (1, .int 5), (2, .int (xs 2))] [] (shA, IA, JA, QA)) (fun n => rfl) (hc_le_f 99 rfl (by omega)) ?_
    exact mxRn.ret 2 (fun n => rfl)
  refine mxOk.c2 6 0 (z := 59) (lz := [(0, .ref 0), (1, .int 5), (2, .int (xs 2))]) (w1 := (shA, IA, JA, QA)) (pc' := 252) (lv' := [(0, .retAddr 2), (1, .ref 0), (2, .ref 9), (3, .int 0)]) (r := []) (fun n => rfl) hz1 ?_
  show mxOk 6 xs 252 [(0, .retAddr 2), (1, .ref 0), (2, .ref 9), (3, .int 0)] [.int (-1)] (shA, IA, JA, QA)
  refine mxOk.g2 6 0 (pc' := 258) (lv' := [(0, .retAddr 2), (1, .ref 0), (2, .ref 9), (3, .int 0)]) (st' := [.int (xs 1), .ref 9, .int (-1)]) (w' := (shA, IA, JA, QA)) (fun n => rfl) ?_
  rw [h_1]
  have hz4 : mxRn 122 0 [(0, .ref 9), (1, .int 5), (2, .int (xs 2))] [] (shA, IA, JA, QA) (some (.int (-1)), (shA, IA, JA, QA)) := by
    have hz2 : mxRn 81 0 [(0, .int 5), (1, .int 0), (2, .int 6)] [] (shA, IA, JA, QA) (some (.int 1), (shA, IA, JA, QA)) := by
      exact mxRn.ret 9 (fun n => rfl)
    refine mxRn.c2 4 0 (z := 81) (lz := [(0, .int 5), (1, .int 0), (2, .int 6)]) (w1 := (shA, IA, JA, QA)) (pc' := 7) (lv' := [(0, .ref 9), (1, .int 5), (2, .int (xs 2))]) (r := []) (fun n => rfl) hz2 ?_
    show mxRn 122 7 [(0, .ref 9), (1, .int 5), (2, .int (xs 2))] [.int 1] (shA, IA, JA, QA) _
    have hz3 : mxRn 81 0 [(0, .int (xs 2)), (1, .int 0), (2, .int 99)] [] (shA, IA, JA, QA) (some (.int 0), (shA, IA, JA, QA)) := by
      refine mxRn.if2 3 0 (bb := Op.if_icmp.holds .lt (xs 2) (0 : Int32)) (pc' := 5) (lv' := [(0, .int (xs 2)), (1, .int 0), (2, .int 99)]) (st' := []) (w' := (shA, IA, JA, QA)) (X := fun n => mxev (n + 0) 81 14 [(0, .int (xs 2)), (1, .int 0), (2, .int 99)] [] (shA, IA, JA, QA)) (fun n => rfl) (hc_lt_f 0 rfl (by omega)) ?_
      refine mxRn.it2 3 0 (bb := Op.if_icmp.holds .gt (xs 2) (99 : Int32)) (pc' := 14) (lv' := [(0, .int (xs 2)), (1, .int 0), (2, .int 99)]) (st' := []) (w' := (shA, IA, JA, QA)) (X := fun n => mxev (n + 0) 81 10 [(0, .int (xs 2)), (1, .int 0), (2, .int 99)] [] (shA, IA, JA, QA)) (fun n => rfl) (hc_gt_t 99 rfl (by omega)) ?_
      exact mxRn.ret 2 (fun n => rfl)
    refine mxRn.c2 5 0 (z := 81) (lz := [(0, .int (xs 2)), (1, .int 0), (2, .int 99)]) (w1 := (shA, IA, JA, QA)) (pc' := 17) (lv' := [(0, .ref 9), (1, .int 5), (2, .int (xs 2))]) (r := []) (fun n => rfl) hz3 ?_
    show mxRn 122 17 [(0, .ref 9), (1, .int 5), (2, .int (xs 2))] [.int 0] (shA, IA, JA, QA) _
    exact mxRn.ret 3 (fun n => rfl)
  refine mxOk.c2 6 0 (z := 122) (lz := [(0, .ref 9), (1, .int 5), (2, .int (xs 2))]) (w1 := (shA, IA, JA, QA)) (pc' := 266) (lv' := [(0, .retAddr 2), (1, .ref 0), (2, .ref 9), (3, .int 0)]) (r := [.int (-1)]) (fun n => rfl) hz4 ?_
  show mxOk 6 xs 266 [(0, .retAddr 2), (1, .ref 0), (2, .ref 9), (3, .int 0)] [.int (-1), .int (-1)] (shA, IA, JA, QA)
  exact mxOk.ret 11 (w' := (shA, IA, JA, QA)) (fun n => rfl) (show shA.length ≤ 600000 from Nat.le_of_ble_eq_true rfl) (show (shA.map (fun q => q.2)).sum ≤ 7302250 from Nat.le_of_ble_eq_true rfl)
set_option maxRecDepth 1000000 in
set_option maxHeartbeats 4000000 in
theorem p1_c4v5s (xs : Nat → Int32) (h_1 : xs 1 = 5) (h_2 : 0 ≤ (xs 2).toInt ∧ (xs 2).toInt ≤ 99) : mxOk 6 xs 33 [(0, .retAddr 2), (1, .ref 0), (2, .ref 9), (3, .int 0)] [.int 4] (shA, IA, JA, QA) := by
  refine mxOk.g2 7 0 (pc' := 244) (lv' := [(0, .retAddr 2), (1, .ref 0), (2, .ref 9), (3, .int 0)]) (st' := [.int (xs 1), .ref 0]) (w' := (shA, IA, JA, QA)) (fun n => rfl) ?_
  rw [h_1]
  have hz1 : mxRn 59 0 [(0, .ref 0), (1, .int 5), (2, .int (xs 2))] [] (shA, IA, JA, QA) (some (.int 1), (shA, (mxI IA 4 5 (xs 2)), JA, QA)) := by
    refine mxRn.if2 7 0 (bb := Op.ifCond.holds .lt (xs 2)) (pc' := 14) (lv' := [(0, .ref 0), (1, .int 5), (2, .int (xs 2))]) (st' := []) (w' := (shA, IA, JA, QA)) (X := fun n => mxev (n + 0) 59 20 [(0, .ref 0), (1, .int 5), (2, .int (xs 2))] [] (shA, IA, JA, QA)) (fun n => rfl) (hd_lt_f (by omega)) ?_
    refine mxRn.it2 3 0 (bb := Op.if_icmp.holds .le (xs 2) (99 : Int32)) (pc' := 22) (lv' := [(0, .ref 0), (1, .int 5), (2, .int (xs 2))]) (st' := []) (w' := (shA, IA, JA, QA)) (X := fun n => mxev (n + 0) 59 20 [(0, .ref 0), (1, .int 5), (2, .int (xs 2))] [] (shA, IA, JA, QA)) (fun n => rfl) (hc_le_t 99 rfl (by omega)) ?_
    exact mxRn.ret 12 (fun n => rfl)
  refine mxOk.c2 6 0 (z := 59) (lz := [(0, .ref 0), (1, .int 5), (2, .int (xs 2))]) (w1 := (shA, IA, JA, QA)) (pc' := 252) (lv' := [(0, .retAddr 2), (1, .ref 0), (2, .ref 9), (3, .int 0)]) (r := []) (fun n => rfl) hz1 ?_
  show mxOk 6 xs 252 [(0, .retAddr 2), (1, .ref 0), (2, .ref 9), (3, .int 0)] [.int 1] (shA, (mxI IA 4 5 (xs 2)), JA, QA)
  refine mxOk.g2 6 0 (pc' := 258) (lv' := [(0, .retAddr 2), (1, .ref 0), (2, .ref 9), (3, .int 0)]) (st' := [.int (xs 1), .ref 9, .int 1]) (w' := (shA, (mxI IA 4 5 (xs 2)), JA, QA)) (fun n => rfl) ?_
  rw [h_1]
  have hz4 : mxRn 122 0 [(0, .ref 9), (1, .int 5), (2, .int (xs 2))] [] (shA, (mxI IA 4 5 (xs 2)), JA, QA) (some (.int 1), (shA, (mxI (mxI IA 4 5 (xs 2)) 27 5 (xs 2)), JA, QA)) := by
    have hz2 : mxRn 81 0 [(0, .int 5), (1, .int 0), (2, .int 6)] [] (shA, (mxI IA 4 5 (xs 2)), JA, QA) (some (.int 1), (shA, (mxI IA 4 5 (xs 2)), JA, QA)) := by
      exact mxRn.ret 9 (fun n => rfl)
    refine mxRn.c2 4 0 (z := 81) (lz := [(0, .int 5), (1, .int 0), (2, .int 6)]) (w1 := (shA, (mxI IA 4 5 (xs 2)), JA, QA)) (pc' := 7) (lv' := [(0, .ref 9), (1, .int 5), (2, .int (xs 2))]) (r := []) (fun n => rfl) hz2 ?_
    show mxRn 122 7 [(0, .ref 9), (1, .int 5), (2, .int (xs 2))] [.int 1] (shA, (mxI IA 4 5 (xs 2)), JA, QA) _
    have hz3 : mxRn 81 0 [(0, .int (xs 2)), (1, .int 0), (2, .int 99)] [] (shA, (mxI IA 4 5 (xs 2)), JA, QA) (some (.int 1), (shA, (mxI IA 4 5 (xs 2)), JA, QA)) := by
      refine mxRn.if2 3 0 (bb := Op.if_icmp.holds .lt (xs 2) (0 : Int32)) (pc' := 5) (lv' := [(0, .int (xs 2)), (1, .int 0), (2, .int 99)]) (st' := []) (w' := (shA, (mxI IA 4 5 (xs 2)), JA, QA)) (X := fun n => mxev (n + 0) 81 14 [(0, .int (xs 2)), (1, .int 0), (2, .int 99)] [] (shA, (mxI IA 4 5 (xs 2)), JA, QA)) (fun n => rfl) (hc_lt_f 0 rfl (by omega)) ?_
      refine mxRn.if2 3 0 (bb := Op.if_icmp.holds .gt (xs 2) (99 : Int32)) (pc' := 10) (lv' := [(0, .int (xs 2)), (1, .int 0), (2, .int 99)]) (st' := []) (w' := (shA, (mxI IA 4 5 (xs 2)), JA, QA)) (X := fun n => mxev (n + 0) 81 14 [(0, .int (xs 2)), (1, .int 0), (2, .int 99)] [] (shA, (mxI IA 4 5 (xs 2)), JA, QA)) (fun n => rfl) (hc_gt_f 99 rfl (by omega)) ?_
      exact mxRn.ret 3 (fun n => rfl)
    refine mxRn.c2 5 0 (z := 81) (lz := [(0, .int (xs 2)), (1, .int 0), (2, .int 99)]) (w1 := (shA, (mxI IA 4 5 (xs 2)), JA, QA)) (pc' := 17) (lv' := [(0, .ref 9), (1, .int 5), (2, .int (xs 2))]) (r := []) (fun n => rfl) hz3 ?_
    show mxRn 122 17 [(0, .ref 9), (1, .int 5), (2, .int (xs 2))] [.int 1] (shA, (mxI IA 4 5 (xs 2)), JA, QA) _
    exact mxRn.ret 13 (fun n => rfl)
  refine mxOk.c2 6 0 (z := 122) (lz := [(0, .ref 9), (1, .int 5), (2, .int (xs 2))]) (w1 := (shA, (mxI IA 4 5 (xs 2)), JA, QA)) (pc' := 266) (lv' := [(0, .retAddr 2), (1, .ref 0), (2, .ref 9), (3, .int 0)]) (r := [.int 1]) (fun n => rfl) hz4 ?_
  show mxOk 6 xs 266 [(0, .retAddr 2), (1, .ref 0), (2, .ref 9), (3, .int 0)] [.int 1, .int 1] (shA, (mxI (mxI IA 4 5 (xs 2)) 27 5 (xs 2)), JA, QA)
  exact mxOk.ret 11 (w' := (shA, (mxI (mxI IA 4 5 (xs 2)) 27 5 (xs 2)), JA, QA)) (fun n => rfl) (show shA.length ≤ 600000 from Nat.le_of_ble_eq_true rfl) (show (shA.map (fun q => q.2)).sum ≤ 7302250 from Nat.le_of_ble_eq_true rfl)
set_option maxRecDepth 1000000 in
set_option maxHeartbeats 4000000 in
theorem p1_c4v6b (xs : Nat → Int32) (h_1 : xs 1 = 6) (h_2 : (xs 2).toInt < 0) : mxOk 6 xs 33 [(0, .retAddr 2), (1, .ref 0), (2, .ref 9), (3, .int 0)] [.int 4] (shA, IA, JA, QA) := by
  refine mxOk.g2 7 0 (pc' := 244) (lv' := [(0, .retAddr 2), (1, .ref 0), (2, .ref 9), (3, .int 0)]) (st' := [.int (xs 1), .ref 0]) (w' := (shA, IA, JA, QA)) (fun n => rfl) ?_
  rw [h_1]
  have hz1 : mxRn 59 0 [(0, .ref 0), (1, .int 6), (2, .int (xs 2))] [] (shA, IA, JA, QA) (some (.int (-1)), (shA, IA, JA, QA)) := by
    refine mxRn.it2 7 0 (bb := Op.ifCond.holds .lt (xs 2)) (pc' := 20) (lv' := [(0, .ref 0), (1, .int 6), (2, .int (xs 2))]) (st' := []) (w' := (shA, IA, JA, QA)) (X := fun n => mxev (n + 0) 59 14 [(0, .ref 0), (1, .int 6), (2, .int (xs 2))] [] (shA, IA, JA, QA)) (fun n => rfl) (hd_lt_t (by omega)) ?_
    exact mxRn.ret 2 (fun n => rfl)
  refine mxOk.c2 6 0 (z := 59) (lz := [(0, .ref 0), (1, .int 6), (2, .int (xs 2))]) (w1 := (shA, IA, JA, QA)) (pc' := 252) (lv' := [(0, .retAddr 2), (1, .ref 0), (2, .ref 9), (3, .int 0)]) (r := []) (fun n => rfl) hz1 ?_
  show mxOk 6 xs 252 [(0, .retAddr 2), (1, .ref 0), (2, .ref 9), (3, .int 0)] [.int (-1)] (shA, IA, JA, QA)
  refine mxOk.g2 6 0 (pc' := 258) (lv' := [(0, .retAddr 2), (1, .ref 0), (2, .ref 9), (3, .int 0)]) (st' := [.int (xs 1), .ref 9, .int (-1)]) (w' := (shA, IA, JA, QA)) (fun n => rfl) ?_
  rw [h_1]
  have hz4 : mxRn 122 0 [(0, .ref 9), (1, .int 6), (2, .int (xs 2))] [] (shA, IA, JA, QA) (some (.int (-1)), (shA, IA, JA, QA)) := by
    have hz2 : mxRn 81 0 [(0, .int 6), (1, .int 0), (2, .int 6)] [] (shA, IA, JA, QA) (some (.int 1), (shA, IA, JA, QA)) := by
      exact mxRn.ret 9 (fun n => rfl)
    refine mxRn.c2 4 0 (z := 81) (lz := [(0, .int 6), (1, .int 0), (2, .int 6)]) (w1 := (shA, IA, JA, QA)) (pc' := 7) (lv' := [(0, .ref 9), (1, .int 6), (2, .int (xs 2))]) (r := []) (fun n => rfl) hz2 ?_
    show mxRn 122 7 [(0, .ref 9), (1, .int 6), (2, .int (xs 2))] [.int 1] (shA, IA, JA, QA) _
    have hz3 : mxRn 81 0 [(0, .int (xs 2)), (1, .int 0), (2, .int 99)] [] (shA, IA, JA, QA) (some (.int 0), (shA, IA, JA, QA)) := by
      refine mxRn.it2 3 0 (bb := Op.if_icmp.holds .lt (xs 2) (0 : Int32)) (pc' := 14) (lv' := [(0, .int (xs 2)), (1, .int 0), (2, .int 99)]) (st' := []) (w' := (shA, IA, JA, QA)) (X := fun n => mxev (n + 0) 81 5 [(0, .int (xs 2)), (1, .int 0), (2, .int 99)] [] (shA, IA, JA, QA)) (fun n => rfl) (hc_lt_t 0 rfl (by omega)) ?_
      exact mxRn.ret 2 (fun n => rfl)
    refine mxRn.c2 5 0 (z := 81) (lz := [(0, .int (xs 2)), (1, .int 0), (2, .int 99)]) (w1 := (shA, IA, JA, QA)) (pc' := 17) (lv' := [(0, .ref 9), (1, .int 6), (2, .int (xs 2))]) (r := []) (fun n => rfl) hz3 ?_
    show mxRn 122 17 [(0, .ref 9), (1, .int 6), (2, .int (xs 2))] [.int 0] (shA, IA, JA, QA) _
    exact mxRn.ret 3 (fun n => rfl)
  refine mxOk.c2 6 0 (z := 122) (lz := [(0, .ref 9), (1, .int 6), (2, .int (xs 2))]) (w1 := (shA, IA, JA, QA)) (pc' := 266) (lv' := [(0, .retAddr 2), (1, .ref 0), (2, .ref 9), (3, .int 0)]) (r := [.int (-1)]) (fun n => rfl) hz4 ?_
  show mxOk 6 xs 266 [(0, .retAddr 2), (1, .ref 0), (2, .ref 9), (3, .int 0)] [.int (-1), .int (-1)] (shA, IA, JA, QA)
  exact mxOk.ret 11 (w' := (shA, IA, JA, QA)) (fun n => rfl) (show shA.length ≤ 600000 from Nat.le_of_ble_eq_true rfl) (show (shA.map (fun q => q.2)).sum ≤ 7302250 from Nat.le_of_ble_eq_true rfl)
set_option maxRecDepth 1000000 in
set_option maxHeartbeats 4000000 in
theorem p1_c4v6a (xs : Nat → Int32) (h_1 : xs 1 = 6) (h_2 : 99 < (xs 2).toInt) : mxOk 6 xs 33 [(0, .retAddr 2), (1, .ref 0), (2, .ref 9), (3, .int 0)] [.int 4] (shA, IA, JA, QA) := by
  refine mxOk.g2 7 0 (pc' := 244) (lv' := [(0, .retAddr 2), (1, .ref 0), (2, .ref 9), (3, .int 0)]) (st' := [.int (xs 1), .ref 0]) (w' := (shA, IA, JA, QA)) (fun n => rfl) ?_
  rw [h_1]
  have hz1 : mxRn 59 0 [(0, .ref 0), (1, .int 6), (2, .int (xs 2))] [] (shA, IA, JA, QA) (some (.int (-1)), (shA, IA, JA, QA)) := by
    refine mxRn.if2 7 0 (bb := Op.ifCond.holds .lt (xs 2)) (pc' := 14) (lv' := [(0, .ref 0), (1, .int 6), (2, .int (xs 2))]) (st' := []) (w' := (shA, IA, JA, QA)) (X := fun n => mxev (n + 0) 59 20 [(0, .ref 0), (1, .int 6), (2, .int (xs 2))] [] (shA, IA, JA, QA)) (fun n => rfl) (hd_lt_f (by omega)) ?_
    refine mxRn.if2 3 0 (bb := Op.if_icmp.holds .le (xs 2) (99 : Int32)) (pc' := 20) (lv' := [(0, .ref 0), (1, .int 6), (2, .int (xs 2))]) (st' := []) (w' := (shA, IA, JA, QA)) (X := fun n => mxev (n + 0) 59 22 [(0, .ref 0), (1, .int 6), (2, .int (xs 2))] [] (shA, IA, JA, QA)) (fun n => rfl) (hc_le_f 99 rfl (by omega)) ?_
    exact mxRn.ret 2 (fun n => rfl)
  refine mxOk.c2 6 0 (z := 59) (lz := [(0, .ref 0), (1, .int 6), (2, .int (xs 2))]) (w1 := (shA, IA, JA, QA)) (pc' := 252) (lv' := [(0, .retAddr 2), (1, .ref 0), (2, .ref 9), (3, .int 0)]) (r := []) (fun n => rfl) hz1 ?_
  show mxOk 6 xs 252 [(0, .retAddr 2), (1, .ref 0), (2, .ref 9), (3, .int 0)] [.int (-1)] (shA, IA, JA, QA)
  refine mxOk.g2 6 0 (pc' := 258) (lv' := [(0, .retAddr 2), (1, .ref 0), (2, .ref 9), (3, .int 0)]) (st' := [.int (xs 1), .ref 9, .int (-1)]) (w' := (shA, IA, JA, QA)) (fun n => rfl) ?_
  rw [h_1]
  have hz4 : mxRn 122 0 [(0, .ref 9), (1, .int 6), (2, .int (xs 2))] [] (shA, IA, JA, QA) (some (.int (-1)), (shA, IA, JA, QA)) := by
    have hz2 : mxRn 81 0 [(0, .int 6), (1, .int 0), (2, .int 6)] [] (shA, IA, JA, QA) (some (.int 1), (shA, IA, JA, QA)) := by
      exact mxRn.ret 9 (fun n => rfl)
    refine mxRn.c2 4 0 (z := 81) (lz := [(0, .int 6), (1, .int 0), (2, .int 6)]) (w1 := (shA, IA, JA, QA)) (pc' := 7) (lv' := [(0, .ref 9), (1, .int 6), (2, .int (xs 2))]) (r := []) (fun n => rfl) hz2 ?_
    show mxRn 122 7 [(0, .ref 9), (1, .int 6), (2, .int (xs 2))] [.int 1] (shA, IA, JA, QA) _
    have hz3 : mxRn 81 0 [(0, .int (xs 2)), (1, .int 0), (2, .int 99)] [] (shA, IA, JA, QA) (some (.int 0), (shA, IA, JA, QA)) := by
      refine mxRn.if2 3 0 (bb := Op.if_icmp.holds .lt (xs 2) (0 : Int32)) (pc' := 5) (lv' := [(0, .int (xs 2)), (1, .int 0), (2, .int 99)]) (st' := []) (w' := (shA, IA, JA, QA)) (X := fun n => mxev (n + 0) 81 14 [(0, .int (xs 2)), (1, .int 0), (2, .int 99)] [] (shA, IA, JA, QA)) (fun n => rfl) (hc_lt_f 0 rfl (by omega)) ?_
      refine mxRn.it2 3 0 (bb := Op.if_icmp.holds .gt (xs 2) (99 : Int32)) (pc' := 14) (lv' := [(0, .int (xs 2)), (1, .int 0), (2, .int 99)]) (st' := []) (w' := (shA, IA, JA, QA)) (X := fun n => mxev (n + 0) 81 10 [(0, .int (xs 2)), (1, .int 0), (2, .int 99)] [] (shA, IA, JA, QA)) (fun n => rfl) (hc_gt_t 99 rfl (by omega)) ?_
      exact mxRn.ret 2 (fun n => rfl)
    refine mxRn.c2 5 0 (z := 81) (lz := [(0, .int (xs 2)), (1, .int 0), (2, .int 99)]) (w1 := (shA, IA, JA, QA)) (pc' := 17) (lv' := [(0, .ref 9), (1, .int 6), (2, .int (xs 2))]) (r := []) (fun n => rfl) hz3 ?_
    show mxRn 122 17 [(0, .ref 9), (1, .int 6), (2, .int (xs 2))] [.int 0] (shA, IA, JA, QA) _
    exact mxRn.ret 3 (fun n => rfl)
  refine mxOk.c2 6 0 (z := 122) (lz := [(0, .ref 9), (1, .int 6), (2, .int (xs 2))]) (w1 := (shA, IA, JA, QA)) (pc' := 266) (lv' := [(0, .retAddr 2), (1, .ref 0), (2, .ref 9), (3, .int 0)]) (r := [.int (-1)]) (fun n => rfl) hz4 ?_
  show mxOk 6 xs 266 [(0, .retAddr 2), (1, .ref 0), (2, .ref 9), (3, .int 0)] [.int (-1), .int (-1)] (shA, IA, JA, QA)
  exact mxOk.ret 11 (w' := (shA, IA, JA, QA)) (fun n => rfl) (show shA.length ≤ 600000 from Nat.le_of_ble_eq_true rfl) (show (shA.map (fun q => q.2)).sum ≤ 7302250 from Nat.le_of_ble_eq_true rfl)
set_option maxRecDepth 1000000 in
set_option maxHeartbeats 4000000 in
theorem p1_c4v6s (xs : Nat → Int32) (h_1 : xs 1 = 6) (h_2 : 0 ≤ (xs 2).toInt ∧ (xs 2).toInt ≤ 99) : mxOk 6 xs 33 [(0, .retAddr 2), (1, .ref 0), (2, .ref 9), (3, .int 0)] [.int 4] (shA, IA, JA, QA) := by
  refine mxOk.g2 7 0 (pc' := 244) (lv' := [(0, .retAddr 2), (1, .ref 0), (2, .ref 9), (3, .int 0)]) (st' := [.int (xs 1), .ref 0]) (w' := (shA, IA, JA, QA)) (fun n => rfl) ?_
  rw [h_1]
  have hz1 : mxRn 59 0 [(0, .ref 0), (1, .int 6), (2, .int (xs 2))] [] (shA, IA, JA, QA) (some (.int 1), (shA, (mxI IA 4 6 (xs 2)), JA, QA)) := by
    refine mxRn.if2 7 0 (bb := Op.ifCond.holds .lt (xs 2)) (pc' := 14) (lv' := [(0, .ref 0), (1, .int 6), (2, .int (xs 2))]) (st' := []) (w' := (shA, IA, JA, QA)) (X := fun n => mxev (n + 0) 59 20 [(0, .ref 0), (1, .int 6), (2, .int (xs 2))] [] (shA, IA, JA, QA)) (fun n => rfl) (hd_lt_f (by omega)) ?_
    refine mxRn.it2 3 0 (bb := Op.if_icmp.holds .le (xs 2) (99 : Int32)) (pc' := 22) (lv' := [(0, .ref 0), (1, .int 6), (2, .int (xs 2))]) (st' := []) (w' := (shA, IA, JA, QA)) (X := fun n => mxev (n + 0) 59 20 [(0, .ref 0), (1, .int 6), (2, .int (xs 2))] [] (shA, IA, JA, QA)) (fun n => rfl) (hc_le_t 99 rfl (by omega)) ?_
    exact mxRn.ret 12 (fun n => rfl)
  refine mxOk.c2 6 0 (z := 59) (lz := [(0, .ref 0), (1, .int 6), (2, .int (xs 2))]) (w1 := (shA, IA, JA, QA)) (pc' := 252) (lv' := [(0, .retAddr 2), (1, .ref 0), (2, .ref 9), (3, .int 0)]) (r := []) (fun n => rfl) hz1 ?_
  show mxOk 6 xs 252 [(0, .retAddr 2), (1, .ref 0), (2, .ref 9), (3, .int 0)] [.int 1] (shA, (mxI IA 4 6 (xs 2)), JA, QA)
  refine mxOk.g2 6 0 (pc' := 258) (lv' := [(0, .retAddr 2), (1, .ref 0), (2, .ref 9), (3, .int 0)]) (st' := [.int (xs 1), .ref 9, .int 1]) (w' := (shA, (mxI IA 4 6 (xs 2)), JA, QA)) (fun n => rfl) ?_
  rw [h_1]
  have hz4 : mxRn 122 0 [(0, .ref 9), (1, .int 6), (2, .int (xs 2))] [] (shA, (mxI IA 4 6 (xs 2)), JA, QA) (some (.int 1), (shA, (mxI (mxI IA 4 6 (xs 2)) 27 6 (xs 2)), JA, QA)) := by
    have hz2 : mxRn 81 0 [(0, .int 6), (1, .int 0), (2, .int 6)] [] (shA, (mxI IA 4 6 (xs 2)), JA, QA) (some (.int 1), (shA, (mxI IA 4 6 (xs 2)), JA, QA)) := by
      exact mxRn.ret 9 (fun n => rfl)
    refine mxRn.c2 4 0 (z := 81) (lz := [(0, .int 6), (1, .int 0), (2, .int 6)]) (w1 := (shA, (mxI IA 4 6 (xs 2)), JA, QA)) (pc' := 7) (lv' := [(0, .ref 9), (1, .int 6), (2, .int (xs 2))]) (r := []) (fun n => rfl) hz2 ?_
    show mxRn 122 7 [(0, .ref 9), (1, .int 6), (2, .int (xs 2))] [.int 1] (shA, (mxI IA 4 6 (xs 2)), JA, QA) _
    have hz3 : mxRn 81 0 [(0, .int (xs 2)), (1, .int 0), (2, .int 99)] [] (shA, (mxI IA 4 6 (xs 2)), JA, QA) (some (.int 1), (shA, (mxI IA 4 6 (xs 2)), JA, QA)) := by
      refine mxRn.if2 3 0 (bb := Op.if_icmp.holds .lt (xs 2) (0 : Int32)) (pc' := 5) (lv' := [(0, .int (xs 2)), (1, .int 0), (2, .int 99)]) (st' := []) (w' := (shA, (mxI IA 4 6 (xs 2)), JA, QA)) (X := fun n => mxev (n + 0) 81 14 [(0, .int (xs 2)), (1, .int 0), (2, .int 99)] [] (shA, (mxI IA 4 6 (xs 2)), JA, QA)) (fun n => rfl) (hc_lt_f 0 rfl (by omega)) ?_
      refine mxRn.if2 3 0 (bb := Op.if_icmp.holds .gt (xs 2) (99 : Int32)) (pc' := 10) (lv' := [(0, .int (xs 2)), (1, .int 0), (2, .int 99)]) (st' := []) (w' := (shA, (mxI IA 4 6 (xs 2)), JA, QA)) (X := fun n => mxev (n + 0) 81 14 [(0, .int (xs 2)), (1, .int 0), (2, .int 99)] [] (shA, (mxI IA 4 6 (xs 2)), JA, QA)) (fun n => rfl) (hc_gt_f 99 rfl (by omega)) ?_
      exact mxRn.ret 3 (fun n => rfl)
    refine mxRn.c2 5 0 (z := 81) (lz := [(0, .int (xs 2)), (1, .int 0), (2, .int 99)]) (w1 := (shA, (mxI IA 4 6 (xs 2)), JA, QA)) (pc' := 17) (lv' := [(0, .ref 9), (1, .int 6), (2, .int (xs 2))]) (r := []) (fun n => rfl) hz3 ?_
    show mxRn 122 17 [(0, .ref 9), (1, .int 6), (2, .int (xs 2))] [.int 1] (shA, (mxI IA 4 6 (xs 2)), JA, QA) _
    exact mxRn.ret 13 (fun n => rfl)
  refine mxOk.c2 6 0 (z := 122) (lz := [(0, .ref 9), (1, .int 6), (2, .int (xs 2))]) (w1 := (shA, (mxI IA 4 6 (xs 2)), JA, QA)) (pc' := 266) (lv' := [(0, .retAddr 2), (1, .ref 0), (2, .ref 9), (3, .int 0)]) (r := [.int 1]) (fun n => rfl) hz4 ?_
  show mxOk 6 xs 266 [(0, .retAddr 2), (1, .ref 0), (2, .ref 9), (3, .int 0)] [.int 1, .int 1] (shA, (mxI (mxI IA 4 6 (xs 2)) 27 6 (xs 2)), JA, QA)
  exact mxOk.ret 11 (w' := (shA, (mxI (mxI IA 4 6 (xs 2)) 27 6 (xs 2)), JA, QA)) (fun n => rfl) (show shA.length ≤ 600000 from Nat.le_of_ble_eq_true rfl) (show (shA.map (fun q => q.2)).sum ≤ 7302250 from Nat.le_of_ble_eq_true rfl)
set_option maxRecDepth 1000000 in
set_option maxHeartbeats 4000000 in
theorem p1_c16b (xs : Nat → Int32) (h_1 : (xs 1).toInt < 0) : mxOk 6 xs 33 [(0, .retAddr 2), (1, .ref 0), (2, .ref 9), (3, .int 0)] [.int 16] (shA, IA, JA, QA) := by
  have hz1 : mxRn 79 0 [(0, .ref 0), (1, .int (xs 1))] [] (shA, IA, JA, QA) (some (.int (-1)), (shA, IA, JA, QA)) := by
    refine mxRn.it2 3 0 (bb := Op.if_icmp.holds .lt (xs 1) (10 : Int32)) (pc' := 22) (lv' := [(0, .ref 0), (1, .int (xs 1))]) (st' := []) (w' := (shA, IA, JA, QA)) (X := fun n => mxev (n + 0) 79 6 [(0, .ref 0), (1, .int (xs 1))] [] (shA, IA, JA, QA)) (fun n => rfl) (hc_lt_t 10 rfl (by omega)) ?_
    refine mxRn.it2 2 0 (bb := decide (((xs 1)).toInt < 0) || decide (2 < ((xs 1)).toInt)) (pc' := 63) (lv' := [(0, .ref 0), (1, .int (xs 1))]) (st' := []) (w' := (shA, IA, JA, QA)) (fun n => rfl) (by simp; omega) ?_
    exact mxRn.ret 2 (fun n => rfl)
  refine mxOk.c2 8 0 (z := 79) (lz := [(0, .ref 0), (1, .int (xs 1))]) (w1 := (shA, IA, JA, QA)) (pc' := 613) (lv' := [(0, .retAddr 2), (1, .ref 0), (2, .ref 9), (3, .int 0)]) (r := []) (fun n => rfl) hz1 ?_
  show mxOk 6 xs 613 [(0, .retAddr 2), (1, .ref 0), (2, .ref 9), (3, .int 0)] [.int (-1)] (shA, IA, JA, QA)
  have hz3 : mxRn 124 0 [(0, .ref 9), (1, .int (xs 1))] [] (shA, IA, JA, QA) (some (.int (-1)), (shA, IA, JA, QA)) := by
    have hz2 : mxRn 81 0 [(0, .int (xs 1)), (1, .int 10), (2, .int 16)] [] (shA, IA, JA, QA) (some (.int 0), (shA, IA, JA, QA)) := by
      refine mxRn.it2 3 0 (bb := Op.if_icmp.holds .lt (xs 1) (10 : Int32)) (pc' := 14) (lv' := [(0, .int (xs 1)), (1, .int 10), (2, .int 16)]) (st' := []) (w' := (shA, IA, JA, QA)) (X := fun n => mxev (n + 0) 81 5 [(0, .int (xs 1)), (1, .int 10), (2, .int 16)] [] (shA, IA, JA, QA)) (fun n => rfl) (hc_lt_t 10 rfl (by omega)) ?_
      exact mxRn.ret 2 (fun n => rfl)
    refine mxRn.c2 4 0 (z := 81) (lz := [(0, .int (xs 1)), (1, .int 10), (2, .int 16)]) (w1 := (shA, IA, JA, QA)) (pc' := 8) (lv' := [(0, .ref 9), (1, .int (xs 1))]) (r := []) (fun n => rfl) hz2 ?_
    show mxRn 124 8 [(0, .ref 9), (1, .int (xs 1))] [.int 0] (shA, IA, JA, QA) _
    refine mxRn.it2 3 0 (bb := Op.ifCond.holds .ne (xs 1)) (pc' := 32) (lv' := [(0, .ref 9), (1, .int (xs 1))]) (st' := []) (w' := (shA, IA, JA, QA)) (X := fun n => mxev (n + 0) 124 25 [(0, .ref 9), (1, .int (xs 1))] [] (shA, IA, JA, QA)) (fun n => rfl) (hd_ne_t (by omega)) ?_
    refine mxRn.it2 3 0 (bb := Op.if_icmp.holds .ne (xs 1) (1 : Int32)) (pc' := 44) (lv' := [(0, .ref 9), (1, .int (xs 1))]) (st' := []) (w' := (shA, IA, JA, QA)) (X := fun n => mxev (n + 0) 124 37 [(0, .ref 9), (1, .int (xs 1))] [] (shA, IA, JA, QA)) (fun n => rfl) (hc_ne_t 1 rfl (by omega)) ?_
    refine mxRn.it2 3 0 (bb := Op.if_icmp.holds .ne (xs 1) (2 : Int32)) (pc' := 56) (lv' := [(0, .ref 9), (1, .int (xs 1))]) (st' := []) (w' := (shA, IA, JA, QA)) (X := fun n => mxev (n + 0) 124 49 [(0, .ref 9), (1, .int (xs 1))] [] (shA, IA, JA, QA)) (fun n => rfl) (hc_ne_t 2 rfl (by omega)) ?_
    exact mxRn.ret 2 (fun n => rfl)
  refine mxOk.c2 7 0 (z := 124) (lz := [(0, .ref 9), (1, .int (xs 1))]) (w1 := (shA, IA, JA, QA)) (pc' := 622) (lv' := [(0, .retAddr 2), (1, .ref 0), (2, .ref 9), (3, .int 0)]) (r := [.int (-1)]) (fun n => rfl) hz3 ?_
  show mxOk 6 xs 622 [(0, .retAddr 2), (1, .ref 0), (2, .ref 9), (3, .int 0)] [.int (-1), .int (-1)] (shA, IA, JA, QA)
  exact mxOk.ret 11 (w' := (shA, IA, JA, QA)) (fun n => rfl) (show shA.length ≤ 600000 from Nat.le_of_ble_eq_true rfl) (show (shA.map (fun q => q.2)).sum ≤ 7302250 from Nat.le_of_ble_eq_true rfl)
