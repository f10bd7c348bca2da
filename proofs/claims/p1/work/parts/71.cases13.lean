set_option maxRecDepth 1000000 in
set_option maxHeartbeats 4000000 in
theorem p1_c11b_z1 (xs : Nat → Int32) (h_1 : (xs 1).toInt < 0) : mxRn 68 0 [(0, .ref 0), (1, .int (xs 1)), (2, .int (xs 2))] [] (shA, IA, JA, QA) (some (.int (-1)), (shA, IA, JA, QA)) := by
  refine mxRn.it2 2 0 (bb := Op.ifCond.holds .lt (xs 1)) (pc' := 15) (lv' := [(0, .ref 0), (1, .int (xs 1)), (2, .int (xs 2))]) (st' := []) (w' := (shA, IA, JA, QA)) (X := fun nf => mxev (nf + 0) 68 4 [(0, .ref 0), (1, .int (xs 1)), (2, .int (xs 2))] [] (shA, IA, JA, QA)) (fun n => rfl) (hd_lt_t (by omega)) ?_
  exact mxRn.ret 2 (fun n => rfl)
set_option maxRecDepth 1000000 in
set_option maxHeartbeats 4000000 in
theorem p1_c11b_z3_p3 (xs : Nat → Int32) (h_1 : (xs 1).toInt < 0) : mxRn 95 76 [(0, .ref 9), (1, .long 154618822656), (3, .long 9216), (5, .int 0), (6, .int 0)] [.int 16, .int 0, .int 0, .ref 17] (shA, (mxI (mxI (mxI (mxI (mxI (mxI (mxI (mxI (mxI (mxI (mxI (mxI (mxI (mxI (mxI IA 14 3 0) 15 3 0) 16 3 0) 17 3 0) 14 2 0) 15 2 0) 16 2 0) 17 2 0) 14 1 0) 15 1 0) 16 1 0) 17 1 0) 14 0 0) 15 0 0) 16 0 0), JA, QA) (none, (shA, (mxI (mxI (mxI (mxI (mxI (mxI (mxI (mxI (mxI (mxI (mxI (mxI (mxI (mxI (mxI (mxI (mxI (mxI (mxI (mxI IA 14 3 0) 15 3 0) 16 3 0) 17 3 0) 14 2 0) 15 2 0) 16 2 0) 17 2 0) 14 1 0) 15 1 0) 16 1 0) 17 1 0) 14 0 0) 15 0 0) 16 0 0) 17 0 0) 18 1 4) 18 0 4) 9 15 0) 9 14 0), JA, QA)) := by
  refine mxRn.g2 6 0 (pc' := 84) (lv' := [(0, .ref 9), (1, .long 154618822656), (3, .long 36), (5, .int 0), (6, .int 0)]) (st' := []) (w' := (shA, (mxI (mxI (mxI (mxI (mxI (mxI (mxI (mxI (mxI (mxI (mxI (mxI (mxI (mxI (mxI (mxI IA 14 3 0) 15 3 0) 16 3 0) 17 3 0) 14 2 0) 15 2 0) 16 2 0) 17 2 0) 14 1 0) 15 1 0) 16 1 0) 17 1 0) 14 0 0) 15 0 0) 16 0 0) 17 0 0), JA, QA)) (fun n => rfl) ?_
  refine mxRn.g2 6 0 (pc' := 94) (lv' := [(0, .ref 9), (1, .long 154618822656), (3, .long 36), (5, .int (-1)), (6, .int 0)]) (st' := [.ref 18]) (w' := (shA, (mxI (mxI (mxI (mxI (mxI (mxI (mxI (mxI (mxI (mxI (mxI (mxI (mxI (mxI (mxI (mxI IA 14 3 0) 15 3 0) 16 3 0) 17 3 0) 14 2 0) 15 2 0) 16 2 0) 17 2 0) 14 1 0) 15 1 0) 16 1 0) 17 1 0) 14 0 0) 15 0 0) 16 0 0) 17 0 0), JA, QA)) (fun n => rfl) ?_
  refine mxRn.g2 6 0 (pc' := 102) (lv' := [(0, .ref 9), (1, .long 154618822656), (3, .long 36), (5, .int (-1)), (6, .int 0)]) (st' := []) (w' := (shA, (mxI (mxI (mxI (mxI (mxI (mxI (mxI (mxI (mxI (mxI (mxI (mxI (mxI (mxI (mxI (mxI (mxI IA 14 3 0) 15 3 0) 16 3 0) 17 3 0) 14 2 0) 15 2 0) 16 2 0) 17 2 0) 14 1 0) 15 1 0) 16 1 0) 17 1 0) 14 0 0) 15 0 0) 16 0 0) 17 0 0) 18 1 4), JA, QA)) (fun n => rfl) ?_
  refine mxRn.g2 6 0 (pc' := 112) (lv' := [(0, .ref 9), (1, .long 154618822656), (3, .long 4), (5, .int (-1)), (6, .int 0)]) (st' := [.ref 18]) (w' := (shA, (mxI (mxI (mxI (mxI (mxI (mxI (mxI (mxI (mxI (mxI (mxI (mxI (mxI (mxI (mxI (mxI (mxI IA 14 3 0) 15 3 0) 16 3 0) 17 3 0) 14 2 0) 15 2 0) 16 2 0) 17 2 0) 14 1 0) 15 1 0) 16 1 0) 17 1 0) 14 0 0) 15 0 0) 16 0 0) 17 0 0) 18 1 4), JA, QA)) (fun n => rfl) ?_
  refine mxRn.g2 6 0 (pc' := 120) (lv' := [(0, .ref 9), (1, .long 154618822656), (3, .long 4), (5, .int (-1)), (6, .int 0)]) (st' := []) (w' := (shA, (mxI (mxI (mxI (mxI (mxI (mxI (mxI (mxI (mxI (mxI (mxI (mxI (mxI (mxI (mxI (mxI (mxI (mxI IA 14 3 0) 15 3 0) 16 3 0) 17 3 0) 14 2 0) 15 2 0) 16 2 0) 17 2 0) 14 1 0) 15 1 0) 16 1 0) 17 1 0) 14 0 0) 15 0 0) 16 0 0) 17 0 0) 18 1 4) 18 0 4), JA, QA)) (fun n => rfl) ?_
  refine mxRn.g2 6 0 (pc' := 128) (lv' := [(0, .ref 9), (1, .long 154618822656), (3, .long 0), (5, .int (-1)), (6, .int 0)]) (st' := [.long 0, .ref 9]) (w' := (shA, (mxI (mxI (mxI (mxI (mxI (mxI (mxI (mxI (mxI (mxI (mxI (mxI (mxI (mxI (mxI (mxI (mxI (mxI IA 14 3 0) 15 3 0) 16 3 0) 17 3 0) 14 2 0) 15 2 0) 16 2 0) 17 2 0) 14 1 0) 15 1 0) 16 1 0) 17 1 0) 14 0 0) 15 0 0) 16 0 0) 17 0 0) 18 1 4) 18 0 4), JA, QA)) (fun n => rfl) ?_
  refine mxRn.g2 6 0 (pc' := 138) (lv' := [(0, .ref 9), (1, .long 154618822656), (3, .long 0), (5, .int (-1)), (6, .int 0)]) (st' := [.long 0, .ref 9]) (w' := (shA, (mxI (mxI (mxI (mxI (mxI (mxI (mxI (mxI (mxI (mxI (mxI (mxI (mxI (mxI (mxI (mxI (mxI (mxI (mxI IA 14 3 0) 15 3 0) 16 3 0) 17 3 0) 14 2 0) 15 2 0) 16 2 0) 17 2 0) 14 1 0) 15 1 0) 16 1 0) 17 1 0) 14 0 0) 15 0 0) 16 0 0) 17 0 0) 18 1 4) 18 0 4) 9 15 0), JA, QA)) (fun n => rfl) ?_
  exact mxRn.ret 5 (fun n => rfl)
set_option maxRecDepth 1000000 in
set_option maxHeartbeats 4000000 in
theorem p1_c11b_z3_p2 (xs : Nat → Int32) (h_1 : (xs 1).toInt < 0) : mxRn 95 52 [(0, .ref 9), (1, .long 154618822656), (3, .long 2359296), (5, .int 1), (6, .int 0)] [] (shA, (mxI (mxI (mxI (mxI (mxI (mxI (mxI (mxI (mxI (mxI IA 14 3 0) 15 3 0) 16 3 0) 17 3 0) 14 2 0) 15 2 0) 16 2 0) 17 2 0) 14 1 0) 15 1 0), JA, QA) (none, (shA, (mxI (mxI (mxI (mxI (mxI (mxI (mxI (mxI (mxI (mxI (mxI (mxI (mxI (mxI (mxI (mxI (mxI (mxI (mxI (mxI IA 14 3 0) 15 3 0) 16 3 0) 17 3 0) 14 2 0) 15 2 0) 16 2 0) 17 2 0) 14 1 0) 15 1 0) 16 1 0) 17 1 0) 14 0 0) 15 0 0) 16 0 0) 17 0 0) 18 1 4) 18 0 4) 9 15 0) 9 14 0), JA, QA)) := by
  refine mxRn.g2 6 0 (pc' := 63) (lv' := [(0, .ref 9), (1, .long 154618822656), (3, .long 2359296), (5, .int 1), (6, .int 0)]) (st' := [.int 0, .int 1, .ref 16]) (w' := (shA, (mxI (mxI (mxI (mxI (mxI (mxI (mxI (mxI (mxI (mxI IA 14 3 0) 15 3 0) 16 3 0) 17 3 0) 14 2 0) 15 2 0) 16 2 0) 17 2 0) 14 1 0) 15 1 0), JA, QA)) (fun n => rfl) ?_
  refine mxRn.g2 6 0 (pc' := 72) (lv' := [(0, .ref 9), (1, .long 154618822656), (3, .long 2359296), (5, .int 1), (6, .int 0)]) (st' := [.int 1, .ref 17]) (w' := (shA, (mxI (mxI (mxI (mxI (mxI (mxI (mxI (mxI (mxI (mxI (mxI IA 14 3 0) 15 3 0) 16 3 0) 17 3 0) 14 2 0) 15 2 0) 16 2 0) 17 2 0) 14 1 0) 15 1 0) 16 1 0), JA, QA)) (fun n => rfl) ?_
  refine mxRn.g2 6 0 (pc' := 82) (lv' := [(0, .ref 9), (1, .long 154618822656), (3, .long 2359296), (5, .int 1), (6, .int 0)]) (st' := [.long 256, .long 2359296]) (w' := (shA, (mxI (mxI (mxI (mxI (mxI (mxI (mxI (mxI (mxI (mxI (mxI (mxI IA 14 3 0) 15 3 0) 16 3 0) 17 3 0) 14 2 0) 15 2 0) 16 2 0) 17 2 0) 14 1 0) 15 1 0) 16 1 0) 17 1 0), JA, QA)) (fun n => rfl) ?_
  refine mxRn.g2 6 0 (pc' := 10) (lv' := [(0, .ref 9), (1, .long 154618822656), (3, .long 9216), (5, .int 0), (6, .int 0)]) (st' := []) (w' := (shA, (mxI (mxI (mxI (mxI (mxI (mxI (mxI (mxI (mxI (mxI (mxI (mxI IA 14 3 0) 15 3 0) 16 3 0) 17 3 0) 14 2 0) 15 2 0) 16 2 0) 17 2 0) 14 1 0) 15 1 0) 16 1 0) 17 1 0), JA, QA)) (fun n => rfl) ?_
  refine mxRn.g2 6 0 (pc' := 19) (lv' := [(0, .ref 9), (1, .long 154618822656), (3, .long 9216), (5, .int 0), (6, .int 0)]) (st' := [.ref 9]) (w' := (shA, (mxI (mxI (mxI (mxI (mxI (mxI (mxI (mxI (mxI (mxI (mxI (mxI IA 14 3 0) 15 3 0) 16 3 0) 17 3 0) 14 2 0) 15 2 0) 16 2 0) 17 2 0) 14 1 0) 15 1 0) 16 1 0) 17 1 0), JA, QA)) (fun n => rfl) ?_
  refine mxRn.g2 6 0 (pc' := 37) (lv' := [(0, .ref 9), (1, .long 154618822656), (3, .long 9216), (5, .int 0), (6, .int 0)]) (st' := [.int 0, .int 0, .ref 14]) (w' := (shA, (mxI (mxI (mxI (mxI (mxI (mxI (mxI (mxI (mxI (mxI (mxI (mxI IA 14 3 0) 15 3 0) 16 3 0) 17 3 0) 14 2 0) 15 2 0) 16 2 0) 17 2 0) 14 1 0) 15 1 0) 16 1 0) 17 1 0), JA, QA)) (fun n => rfl) ?_
  refine mxRn.g2 6 0 (pc' := 48) (lv' := [(0, .ref 9), (1, .long 154618822656), (3, .long 9216), (5, .int 0), (6, .int 0)]) (st' := [.int 32, .int 0, .int 0, .ref 15]) (w' := (shA, (mxI (mxI (mxI (mxI (mxI (mxI (mxI (mxI (mxI (mxI (mxI (mxI (mxI IA 14 3 0) 15 3 0) 16 3 0) 17 3 0) 14 2 0) 15 2 0) 16 2 0) 17 2 0) 14 1 0) 15 1 0) 16 1 0) 17 1 0) 14 0 0), JA, QA)) (fun n => rfl) ?_
  refine mxRn.g2 6 0 (pc' := 56) (lv' := [(0, .ref 9), (1, .long 154618822656), (3, .long 9216), (5, .int 0), (6, .int 0)]) (st' := [.ref 16]) (w' := (shA, (mxI (mxI (mxI (mxI (mxI (mxI (mxI (mxI (mxI (mxI (mxI (mxI (mxI (mxI IA 14 3 0) 15 3 0) 16 3 0) 17 3 0) 14 2 0) 15 2 0) 16 2 0) 17 2 0) 14 1 0) 15 1 0) 16 1 0) 17 1 0) 14 0 0) 15 0 0), JA, QA)) (fun n => rfl) ?_
  refine mxRn.g2 6 0 (pc' := 65) (lv' := [(0, .ref 9), (1, .long 154618822656), (3, .long 9216), (5, .int 0), (6, .int 0)]) (st' := [.int 0, .int 0, .ref 16]) (w' := (shA, (mxI (mxI (mxI (mxI (mxI (mxI (mxI (mxI (mxI (mxI (mxI (mxI (mxI (mxI IA 14 3 0) 15 3 0) 16 3 0) 17 3 0) 14 2 0) 15 2 0) 16 2 0) 17 2 0) 14 1 0) 15 1 0) 16 1 0) 17 1 0) 14 0 0) 15 0 0), JA, QA)) (fun n => rfl) ?_
  refine mxRn.g2 6 0 (pc' := 76) (lv' := [(0, .ref 9), (1, .long 154618822656), (3, .long 9216), (5, .int 0), (6, .int 0)]) (st' := [.int 16, .int 0, .int 0, .ref 17]) (w' := (shA, (mxI (mxI (mxI (mxI (mxI (mxI (mxI (mxI (mxI (mxI (mxI (mxI (mxI (mxI (mxI IA 14 3 0) 15 3 0) 16 3 0) 17 3 0) 14 2 0) 15 2 0) 16 2 0) 17 2 0) 14 1 0) 15 1 0) 16 1 0) 17 1 0) 14 0 0) 15 0 0) 16 0 0), JA, QA)) (fun n => rfl) ?_
  exact p1_c11b_z3_p3 xs h_1
set_option maxRecDepth 1000000 in
set_option maxHeartbeats 4000000 in
theorem p1_c11b_z3_p1 (xs : Nat → Int32) (h_1 : (xs 1).toInt < 0) : mxRn 95 24 [(0, .ref 9), (1, .long 154618822656), (3, .long 603979776), (5, .int 2), (6, .int 0)] [.int 2, .ref 14] (shA, (mxI (mxI (mxI (mxI IA 14 3 0) 15 3 0) 16 3 0) 17 3 0), JA, QA) (none, (shA, (mxI (mxI (mxI (mxI (mxI (mxI (mxI (mxI (mxI (mxI (mxI (mxI (mxI (mxI (mxI (mxI (mxI (mxI (mxI (mxI IA 14 3 0) 15 3 0) 16 3 0) 17 3 0) 14 2 0) 15 2 0) 16 2 0) 17 2 0) 14 1 0) 15 1 0) 16 1 0) 17 1 0) 14 0 0) 15 0 0) 16 0 0) 17 0 0) 18 1 4) 18 0 4) 9 15 0) 9 14 0), JA, QA)) := by
  refine mxRn.g2 6 0 (pc' := 39) (lv' := [(0, .ref 9), (1, .long 154618822656), (3, .long 603979776), (5, .int 2), (6, .int 0)]) (st' := [.ref 9]) (w' := (shA, (mxI (mxI (mxI (mxI (mxI IA 14 3 0) 15 3 0) 16 3 0) 17 3 0) 14 2 0), JA, QA)) (fun n => rfl) ?_
  refine mxRn.g2 6 0 (pc' := 50) (lv' := [(0, .ref 9), (1, .long 154618822656), (3, .long 603979776), (5, .int 2), (6, .int 0)]) (st' := [.int 4, .int 0, .int 2, .ref 15]) (w' := (shA, (mxI (mxI (mxI (mxI (mxI IA 14 3 0) 15 3 0) 16 3 0) 17 3 0) 14 2 0), JA, QA)) (fun n => rfl) ?_
  refine mxRn.g2 6 0 (pc' := 60) (lv' := [(0, .ref 9), (1, .long 154618822656), (3, .long 603979776), (5, .int 2), (6, .int 0)]) (st' := [.int 0, .int 2, .ref 16]) (w' := (shA, (mxI (mxI (mxI (mxI (mxI (mxI IA 14 3 0) 15 3 0) 16 3 0) 17 3 0) 14 2 0) 15 2 0), JA, QA)) (fun n => rfl) ?_
  refine mxRn.g2 6 0 (pc' := 67) (lv' := [(0, .ref 9), (1, .long 154618822656), (3, .long 603979776), (5, .int 2), (6, .int 0)]) (st' := [.ref 9]) (w' := (shA, (mxI (mxI (mxI (mxI (mxI (mxI (mxI IA 14 3 0) 15 3 0) 16 3 0) 17 3 0) 14 2 0) 15 2 0) 16 2 0), JA, QA)) (fun n => rfl) ?_
  refine mxRn.g2 6 0 (pc' := 78) (lv' := [(0, .ref 9), (1, .long 154618822656), (3, .long 603979776), (5, .int 2), (6, .int 0)]) (st' := []) (w' := (shA, (mxI (mxI (mxI (mxI (mxI (mxI (mxI (mxI IA 14 3 0) 15 3 0) 16 3 0) 17 3 0) 14 2 0) 15 2 0) 16 2 0) 17 2 0), JA, QA)) (fun n => rfl) ?_
  refine mxRn.g2 6 0 (pc' := 5) (lv' := [(0, .ref 9), (1, .long 154618822656), (3, .long 2359296), (5, .int 1), (6, .int 0)]) (st' := []) (w' := (shA, (mxI (mxI (mxI (mxI (mxI (mxI (mxI (mxI IA 14 3 0) 15 3 0) 16 3 0) 17 3 0) 14 2 0) 15 2 0) 16 2 0) 17 2 0), JA, QA)) (fun n => rfl) ?_
  refine mxRn.g2 6 0 (pc' := 16) (lv' := [(0, .ref 9), (1, .long 154618822656), (3, .long 2359296), (5, .int 1), (6, .int 0)]) (st' := [.int 0]) (w' := (shA, (mxI (mxI (mxI (mxI (mxI (mxI (mxI (mxI IA 14 3 0) 15 3 0) 16 3 0) 17 3 0) 14 2 0) 15 2 0) 16 2 0) 17 2 0), JA, QA)) (fun n => rfl) ?_
  refine mxRn.g2 6 0 (pc' := 29) (lv' := [(0, .ref 9), (1, .long 154618822656), (3, .long 2359296), (5, .int 1), (6, .int 0)]) (st' := [.int 128, .int 0, .int 1, .ref 14]) (w' := (shA, (mxI (mxI (mxI (mxI (mxI (mxI (mxI (mxI IA 14 3 0) 15 3 0) 16 3 0) 17 3 0) 14 2 0) 15 2 0) 16 2 0) 17 2 0), JA, QA)) (fun n => rfl) ?_
  refine mxRn.g2 6 0 (pc' := 44) (lv' := [(0, .ref 9), (1, .long 154618822656), (3, .long 2359296), (5, .int 1), (6, .int 0)]) (st' := [.int 1, .ref 15]) (w' := (shA, (mxI (mxI (mxI (mxI (mxI (mxI (mxI (mxI (mxI IA 14 3 0) 15 3 0) 16 3 0) 17 3 0) 14 2 0) 15 2 0) 16 2 0) 17 2 0) 14 1 0), JA, QA)) (fun n => rfl) ?_
  refine mxRn.g2 6 0 (pc' := 52) (lv' := [(0, .ref 9), (1, .long 154618822656), (3, .long 2359296), (5, .int 1), (6, .int 0)]) (st' := []) (w' := (shA, (mxI (mxI (mxI (mxI (mxI (mxI (mxI (mxI (mxI (mxI IA 14 3 0) 15 3 0) 16 3 0) 17 3 0) 14 2 0) 15 2 0) 16 2 0) 17 2 0) 14 1 0) 15 1 0), JA, QA)) (fun n => rfl) ?_
  exact p1_c11b_z3_p2 xs h_1
set_option maxRecDepth 1000000 in
set_option maxHeartbeats 4000000 in
theorem p1_c11b_z3 (xs : Nat → Int32) (h_1 : (xs 1).toInt < 0) : mxRn 95 0 [(0, .ref 9), (1, .long 154618822656)] [] (shA, IA, JA, QA) (none, (shA, (mxI (mxI (mxI (mxI (mxI (mxI (mxI (mxI (mxI (mxI (mxI (mxI (mxI (mxI (mxI (mxI (mxI (mxI (mxI (mxI IA 14 3 0) 15 3 0) 16 3 0) 17 3 0) 14 2 0) 15 2 0) 16 2 0) 17 2 0) 14 1 0) 15 1 0) 16 1 0) 17 1 0) 14 0 0) 15 0 0) 16 0 0) 17 0 0) 18 1 4) 18 0 4) 9 15 0) 9 14 0), JA, QA)) := by
  refine mxRn.g2 6 0 (pc' := 10) (lv' := [(0, .ref 9), (1, .long 154618822656), (3, .long 154618822656), (5, .int 3)]) (st' := []) (w' := (shA, IA, JA, QA)) (fun n => rfl) ?_
  refine mxRn.g2 6 0 (pc' := 19) (lv' := [(0, .ref 9), (1, .long 154618822656), (3, .long 154618822656), (5, .int 3), (6, .int 0)]) (st' := [.ref 9]) (w' := (shA, IA, JA, QA)) (fun n => rfl) ?_
  refine mxRn.g2 6 0 (pc' := 37) (lv' := [(0, .ref 9), (1, .long 154618822656), (3, .long 154618822656), (5, .int 3), (6, .int 0)]) (st' := [.int 0, .int 3, .ref 14]) (w' := (shA, IA, JA, QA)) (fun n => rfl) ?_
  refine mxRn.g2 6 0 (pc' := 48) (lv' := [(0, .ref 9), (1, .long 154618822656), (3, .long 154618822656), (5, .int 3), (6, .int 0)]) (st' := [.int 32, .int 0, .int 3, .ref 15]) (w' := (shA, (mxI IA 14 3 0), JA, QA)) (fun n => rfl) ?_
  refine mxRn.g2 6 0 (pc' := 56) (lv' := [(0, .ref 9), (1, .long 154618822656), (3, .long 154618822656), (5, .int 3), (6, .int 0)]) (st' := [.ref 16]) (w' := (shA, (mxI (mxI IA 14 3 0) 15 3 0), JA, QA)) (fun n => rfl) ?_
  refine mxRn.g2 6 0 (pc' := 65) (lv' := [(0, .ref 9), (1, .long 154618822656), (3, .long 154618822656), (5, .int 3), (6, .int 0)]) (st' := [.int 0, .int 3, .ref 16]) (w' := (shA, (mxI (mxI IA 14 3 0) 15 3 0), JA, QA)) (fun n => rfl) ?_
  refine mxRn.g2 6 0 (pc' := 76) (lv' := [(0, .ref 9), (1, .long 154618822656), (3, .long 154618822656), (5, .int 3), (6, .int 0)]) (st' := [.int 16, .int 0, .int 3, .ref 17]) (w' := (shA, (mxI (mxI (mxI IA 14 3 0) 15 3 0) 16 3 0), JA, QA)) (fun n => rfl) ?_
  refine mxRn.g2 6 0 (pc' := 84) (lv' := [(0, .ref 9), (1, .long 154618822656), (3, .long 603979776), (5, .int 3), (6, .int 0)]) (st' := []) (w' := (shA, (mxI (mxI (mxI (mxI IA 14 3 0) 15 3 0) 16 3 0) 17 3 0), JA, QA)) (fun n => rfl) ?_
  refine mxRn.g2 6 0 (pc' := 14) (lv' := [(0, .ref 9), (1, .long 154618822656), (3, .long 603979776), (5, .int 2), (6, .int 0)]) (st' := [.long 256, .long 603979776]) (w' := (shA, (mxI (mxI (mxI (mxI IA 14 3 0) 15 3 0) 16 3 0) 17 3 0), JA, QA)) (fun n => rfl) ?_
  refine mxRn.g2 6 0 (pc' := 24) (lv' := [(0, .ref 9), (1, .long 154618822656), (3, .long 603979776), (5, .int 2), (6, .int 0)]) (st' := [.int 2, .ref 14]) (w' := (shA, (mxI (mxI (mxI (mxI IA 14 3 0) 15 3 0) 16 3 0) 17 3 0), JA, QA)) (fun n => rfl) ?_
  exact p1_c11b_z3_p1 xs h_1
set_option maxRecDepth 1000000 in
set_option maxHeartbeats 4000000 in
theorem p1_c11b_z4 (xs : Nat → Int32) (h_1 : (xs 1).toInt < 0) : mxRn 81 0 [(0, .int (xs 1)), (1, .int 0), (2, .int (-1))] [] (shA, (mxI (mxI (mxI (mxI (mxI (mxI (mxI (mxI (mxI (mxI (mxI (mxI (mxI (mxI (mxI (mxI (mxI (mxI (mxI (mxI IA 14 3 0) 15 3 0) 16 3 0) 17 3 0) 14 2 0) 15 2 0) 16 2 0) 17 2 0) 14 1 0) 15 1 0) 16 1 0) 17 1 0) 14 0 0) 15 0 0) 16 0 0) 17 0 0) 18 1 4) 18 0 4) 9 15 0) 9 14 0), JA, QA) (some (.int 0), (shA, (mxI (mxI (mxI (mxI (mxI (mxI (mxI (mxI (mxI (mxI (mxI (mxI (mxI (mxI (mxI (mxI (mxI (mxI (mxI (mxI IA 14 3 0) 15 3 0) 16 3 0) 17 3 0) 14 2 0) 15 2 0) 16 2 0) 17 2 0) 14 1 0) 15 1 0) 16 1 0) 17 1 0) 14 0 0) 15 0 0) 16 0 0) 17 0 0) 18 1 4) 18 0 4) 9 15 0) 9 14 0), JA, QA)) := by
  refine mxRn.it2 3 0 (bb := Op.if_icmp.holds .lt (xs 1) (0 : Int32)) (pc' := 14) (lv' := [(0, .int (xs 1)), (1, .int 0), (2, .int (-1))]) (st' := []) (w' := (shA, (mxI (mxI (mxI (mxI (mxI (mxI (mxI (mxI (mxI (mxI (mxI (mxI (mxI (mxI (mxI (mxI (mxI (mxI (mxI (mxI IA 14 3 0) 15 3 0) 16 3 0) 17 3 0) 14 2 0) 15 2 0) 16 2 0) 17 2 0) 14 1 0) 15 1 0) 16 1 0) 17 1 0) 14 0 0) 15 0 0) 16 0 0) 17 0 0) 18 1 4) 18 0 4) 9 15 0) 9 14 0), JA, QA)) (X := fun nf => mxev (nf + 0) 81 5 [(0, .int (xs 1)), (1, .int 0), (2, .int (-1))] [] (shA, (mxI (mxI (mxI (mxI (mxI (mxI (mxI (mxI (mxI (mxI (mxI (mxI (mxI (mxI (mxI (mxI (mxI (mxI (mxI (mxI IA 14 3 0) 15 3 0) 16 3 0) 17 3 0) 14 2 0) 15 2 0) 16 2 0) 17 2 0) 14 1 0) 15 1 0) 16 1 0) 17 1 0) 14 0 0) 15 0 0) 16 0 0) 17 0 0) 18 1 4) 18 0 4) 9 15 0) 9 14 0), JA, QA)) (fun n => rfl) (hc_lt_t 0 rfl (by omega)) ?_
  exact mxRn.ret 2 (fun n => rfl)
set_option maxRecDepth 1000000 in
set_option maxHeartbeats 4000000 in
theorem p1_c11b_z2 (xs : Nat → Int32) (h_1 : (xs 1).toInt < 0) : mxRn 110 0 [(0, .ref 9), (1, .int (xs 1)), (2, .int (xs 2))] [] (shA, IA, JA, QA) (some (.int (-1)), (shA, (mxI (mxI (mxI (mxI (mxI (mxI (mxI (mxI (mxI (mxI (mxI (mxI (mxI (mxI (mxI (mxI (mxI (mxI (mxI (mxI IA 14 3 0) 15 3 0) 16 3 0) 17 3 0) 14 2 0) 15 2 0) 16 2 0) 17 2 0) 14 1 0) 15 1 0) 16 1 0) 17 1 0) 14 0 0) 15 0 0) 16 0 0) 17 0 0) 18 1 4) 18 0 4) 9 15 0) 9 14 0), JA, QA)) := by
  refine mxRn.c2 4 0 (z := 95) (lz := [(0, .ref 9), (1, .long 154618822656)]) (w1 := (shA, IA, JA, QA)) (pc' := 8) (lv' := [(0, .ref 9), (1, .int (xs 1)), (2, .int (xs 2))]) (r := []) (fun n => rfl) (p1_c11b_z3 xs h_1) ?_
  show mxRn 110 8 [(0, .ref 9), (1, .int (xs 1)), (2, .int (xs 2))] [] (shA, (mxI (mxI (mxI (mxI (mxI (mxI (mxI (mxI (mxI (mxI (mxI (mxI (mxI (mxI (mxI (mxI (mxI (mxI (mxI (mxI IA 14 3 0) 15 3 0) 16 3 0) 17 3 0) 14 2 0) 15 2 0) 16 2 0) 17 2 0) 14 1 0) 15 1 0) 16 1 0) 17 1 0) 14 0 0) 15 0 0) 16 0 0) 17 0 0) 18 1 4) 18 0 4) 9 15 0) 9 14 0), JA, QA) _
  refine mxRn.g2 6 0 (pc' := 16) (lv' := [(0, .ref 9), (1, .int (xs 1)), (2, .int (xs 2))]) (st' := [.int (-1), .int 0, .int (xs 1)]) (w' := (shA, (mxI (mxI (mxI (mxI (mxI (mxI (mxI (mxI (mxI (mxI (mxI (mxI (mxI (mxI (mxI (mxI (mxI (mxI (mxI (mxI IA 14 3 0) 15 3 0) 16 3 0) 17 3 0) 14 2 0) 15 2 0) 16 2 0) 17 2 0) 14 1 0) 15 1 0) 16 1 0) 17 1 0) 14 0 0) 15 0 0) 16 0 0) 17 0 0) 18 1 4) 18 0 4) 9 15 0) 9 14 0), JA, QA)) (fun n => rfl) ?_
  refine mxRn.c2 1 0 (z := 81) (lz := [(0, .int (xs 1)), (1, .int 0), (2, .int (-1))]) (w1 := (shA, (mxI (mxI (mxI (mxI (mxI (mxI (mxI (mxI (mxI (mxI (mxI (mxI (mxI (mxI (mxI (mxI (mxI (mxI (mxI (mxI IA 14 3 0) 15 3 0) 16 3 0) 17 3 0) 14 2 0) 15 2 0) 16 2 0) 17 2 0) 14 1 0) 15 1 0) 16 1 0) 17 1 0) 14 0 0) 15 0 0) 16 0 0) 17 0 0) 18 1 4) 18 0 4) 9 15 0) 9 14 0), JA, QA)) (pc' := 19) (lv' := [(0, .ref 9), (1, .int (xs 1)), (2, .int (xs 2))]) (r := []) (fun n => rfl) (p1_c11b_z4 xs h_1) ?_
  show mxRn 110 19 [(0, .ref 9), (1, .int (xs 1)), (2, .int (xs 2))] [.int 0] (shA, (mxI (mxI (mxI (mxI (mxI (mxI (mxI (mxI (mxI (mxI (mxI (mxI (mxI (mxI (mxI (mxI (mxI (mxI (mxI (mxI IA 14 3 0) 15 3 0) 16 3 0) 17 3 0) 14 2 0) 15 2 0) 16 2 0) 17 2 0) 14 1 0) 15 1 0) 16 1 0) 17 1 0) 14 0 0) 15 0 0) 16 0 0) 17 0 0) 18 1 4) 18 0 4) 9 15 0) 9 14 0), JA, QA) _
  exact mxRn.ret 3 (fun n => rfl)
set_option maxRecDepth 1000000 in
set_option maxHeartbeats 4000000 in
theorem p1_c11b (xs : Nat → Int32) (h_1 : (xs 1).toInt < 0) : mxOk 6 xs 33 [(0, .retAddr 2), (1, .ref 0), (2, .ref 9), (3, .int 0)] [.int 11] (shA, IA, JA, QA) := by
  refine mxOk.g2 6 0 (pc' := 454) (lv' := [(0, .retAddr 2), (1, .ref 0), (2, .ref 9), (3, .int 0)]) (st' := [.int 1, .retAddr 2, .ref 0]) (w' := (shA, IA, JA, QA)) (fun n => rfl) ?_
  refine mxOk.g2 6 0 (pc' := 460) (lv' := [(0, .retAddr 2), (1, .ref 0), (2, .ref 9), (3, .int 0)]) (st' := [.int (xs 2), .int (xs 1), .ref 0]) (w' := (shA, IA, JA, QA)) (fun n => rfl) ?_
  refine mxOk.c2 1 0 (z := 68) (lz := [(0, .ref 0), (1, .int (xs 1)), (2, .int (xs 2))]) (w1 := (shA, IA, JA, QA)) (pc' := 463) (lv' := [(0, .retAddr 2), (1, .ref 0), (2, .ref 9), (3, .int 0)]) (r := []) (fun n => rfl) (p1_c11b_z1 xs h_1) ?_
  show mxOk 6 xs 463 [(0, .retAddr 2), (1, .ref 0), (2, .ref 9), (3, .int 0)] [.int (-1)] (shA, IA, JA, QA)
  refine mxOk.g2 6 0 (pc' := 469) (lv' := [(0, .retAddr 2), (1, .ref 0), (2, .ref 9), (3, .int 0)]) (st' := [.int (xs 1), .ref 9, .int (-1)]) (w' := (shA, IA, JA, QA)) (fun n => rfl) ?_
  refine mxOk.c2 6 0 (z := 110) (lz := [(0, .ref 9), (1, .int (xs 1)), (2, .int (xs 2))]) (w1 := (shA, IA, JA, QA)) (pc' := 477) (lv' := [(0, .retAddr 2), (1, .ref 0), (2, .ref 9), (3, .int 0)]) (r := [.int (-1)]) (fun n => rfl) (p1_c11b_z2 xs h_1) ?_
  show mxOk 6 xs 477 [(0, .retAddr 2), (1, .ref 0), (2, .ref 9), (3, .int 0)] [.int (-1), .int (-1)] (shA, (mxI (mxI (mxI (mxI (mxI (mxI (mxI (mxI (mxI (mxI (mxI (mxI (mxI (mxI (mxI (mxI (mxI (mxI (mxI (mxI IA 14 3 0) 15 3 0) 16 3 0) 17 3 0) 14 2 0) 15 2 0) 16 2 0) 17 2 0) 14 1 0) 15 1 0) 16 1 0) 17 1 0) 14 0 0) 15 0 0) 16 0 0) 17 0 0) 18 1 4) 18 0 4) 9 15 0) 9 14 0), JA, QA)
  refine mxOk.g2 6 0 (pc' := 21) (lv' := [(0, .retAddr 2), (1, .ref 0), (2, .ref 9), (3, .int 6)]) (st' := [.int 6, .int 6]) (w' := (shA, (mxI (mxI (mxI (mxI (mxI (mxI (mxI (mxI (mxI (mxI (mxI (mxI (mxI (mxI (mxI (mxI (mxI (mxI (mxI (mxI IA 14 3 0) 15 3 0) 16 3 0) 17 3 0) 14 2 0) 15 2 0) 16 2 0) 17 2 0) 14 1 0) 15 1 0) 16 1 0) 17 1 0) 14 0 0) 15 0 0) 16 0 0) 17 0 0) 18 1 4) 18 0 4) 9 15 0) 9 14 0), JA, QA)) (fun n => rfl) ?_
  exact mxOk.ret 5 (w' := (shA, (mxI (mxI (mxI (mxI (mxI (mxI (mxI (mxI (mxI (mxI (mxI (mxI (mxI (mxI (mxI (mxI (mxI (mxI (mxI (mxI IA 14 3 0) 15 3 0) 16 3 0) 17 3 0) 14 2 0) 15 2 0) 16 2 0) 17 2 0) 14 1 0) 15 1 0) 16 1 0) 17 1 0) 14 0 0) 15 0 0) 16 0 0) 17 0 0) 18 1 4) 18 0 4) 9 15 0) 9 14 0), JA, QA)) (fun n => rfl) (show shA.length ≤ 600000 from Nat.le_of_ble_eq_true rfl) (show (shA.map (fun q => q.2)).sum ≤ 7302250 from Nat.le_of_ble_eq_true rfl)
set_option maxRecDepth 1000000 in
set_option maxHeartbeats 4000000 in
theorem p1_c11a_z2 (xs : Nat → Int32) (h_1 : 0 ≤ (xs 1).toInt) : mxRn 26 0 [(0, .long 0)] [] (shA, IA, JA, QA) (some (.int 0), (shA, IA, JA, QA)) := by
  refine mxRn.g2 6 0 (pc' := 8) (lv' := [(0, .long 0)]) (st' := [.int 0]) (w' := (shA, IA, JA, QA)) (fun n => rfl) ?_
  exact mxRn.ret 1 (fun n => rfl)
set_option maxRecDepth 1000000 in
set_option maxHeartbeats 4000000 in
theorem p1_c11a_z1 (xs : Nat → Int32) (h_1 : 0 ≤ (xs 1).toInt) : mxRn 68 0 [(0, .ref 0), (1, .int (xs 1)), (2, .int (xs 2))] [] (shA, IA, JA, QA) (some (.int (-1)), (shA, IA, JA, QA)) := by
  refine mxRn.if2 2 0 (bb := Op.ifCond.holds .lt (xs 1)) (pc' := 4) (lv' := [(0, .ref 0), (1, .int (xs 1)), (2, .int (xs 2))]) (st' := []) (w' := (shA, IA, JA, QA)) (X := fun nf => mxev (nf + 0) 68 15 [(0, .ref 0), (1, .int (xs 1)), (2, .int (xs 2))] [] (shA, IA, JA, QA)) (fun n => rfl) (hd_lt_f (by omega)) ?_
  refine mxRn.c2 4 0 (z := 26) (lz := [(0, .long 0)]) (w1 := (shA, IA, JA, QA)) (pc' := 12) (lv' := [(0, .ref 0), (1, .int (xs 1)), (2, .int (xs 2))]) (r := [.int (xs 1)]) (fun n => rfl) (p1_c11a_z2 xs h_1) ?_
  show mxRn 68 12 [(0, .ref 0), (1, .int (xs 1)), (2, .int (xs 2))] [.int 0, .int (xs 1)] (shA, IA, JA, QA) _
  refine mxRn.if2 1 0 (bb := Op.if_icmp.holds .lt (xs 1) (0 : Int32)) (pc' := 15) (lv' := [(0, .ref 0), (1, .int (xs 1)), (2, .int (xs 2))]) (st' := []) (w' := (shA, IA, JA, QA)) (X := fun nf => mxev (nf + 0) 68 17 [(0, .ref 0), (1, .int (xs 1)), (2, .int (xs 2))] [] (shA, IA, JA, QA)) (fun n => rfl) (hc_lt_f 0 rfl (by omega)) ?_
  exact mxRn.ret 2 (fun n => rfl)
set_option maxRecDepth 1000000 in
set_option maxHeartbeats 4000000 in
theorem p1_c11a_z4_p3 (xs : Nat → Int32) (h_1 : 0 ≤ (xs 1).toInt) : mxRn 95 76 [(0, .ref 9), (1, .long 154618822656), (3, .long 9216), (5, .int 0), (6, .int 0)] [.int 16, .int 0, .int 0, .ref 17] (shA, (mxI (mxI (mxI (mxI (mxI (mxI (mxI (mxI (mxI (mxI (mxI (mxI (mxI (mxI (mxI IA 14 3 0) 15 3 0) 16 3 0) 17 3 0) 14 2 0) 15 2 0) 16 2 0) 17 2 0) 14 1 0) 15 1 0) 16 1 0) 17 1 0) 14 0 0) 15 0 0) 16 0 0), JA, QA) (none, (shA, (mxI (mxI (mxI (mxI (mxI (mxI (mxI (mxI (mxI (mxI (mxI (mxI (mxI (mxI (mxI (mxI (mxI (mxI (mxI (mxI IA 14 3 0) 15 3 0) 16 3 0) 17 3 0) 14 2 0) 15 2 0) 16 2 0) 17 2 0) 14 1 0) 15 1 0) 16 1 0) 17 1 0) 14 0 0) 15 0 0) 16 0 0) 17 0 0) 18 1 4) 18 0 4) 9 15 0) 9 14 0), JA, QA)) := by
  refine mxRn.g2 6 0 (pc' := 84) (lv' := [(0, .ref 9), (1, .long 154618822656), (3, .long 36), (5, .int 0), (6, .int 0)]) (st' := []) (w' := (shA, (mxI (mxI (mxI (mxI (mxI (mxI (mxI (mxI (mxI (mxI (mxI (mxI (mxI (mxI (mxI (mxI IA 14 3 0) 15 3 0) 16 3 0) 17 3 0) 14 2 0) 15 2 0) 16 2 0) 17 2 0) 14 1 0) 15 1 0) 16 1 0) 17 1 0) 14 0 0) 15 0 0) 16 0 0) 17 0 0), JA, QA)) (fun n => rfl) ?_
  refine mxRn.g2 6 0 (pc' := 94) (lv' := [(0, .ref 9), (1, .long 154618822656), (3, .long 36), (5, .int (-1)), (6, .int 0)]) (st' := [.ref 18]) (w' := (shA, (mxI (mxI (mxI (mxI (mxI (mxI (mxI (mxI (mxI (mxI (mxI (mxI (mxI (mxI (mxI (mxI IA 14 3 0) 15 3 0) 16 3 0) 17 3 0) 14 2 0) 15 2 0) 16 2 0) 17 2 0) 14 1 0) 15 1 0) 16 1 0) 17 1 0) 14 0 0) 15 0 0) 16 0 0) 17 0 0), JA, QA)) (fun n => rfl) ?_
  refine mxRn.g2 6 0 (pc' := 102) (lv' := [(0, .ref 9), (1, .long 154618822656), (3, .long 36), (5, .int (-1)), (6, .int 0)]) (st' := []) (w' := (shA, (mxI (mxI (mxI (mxI (mxI (mxI (mxI (mxI (mxI (mxI (mxI (mxI (mxI (mxI (mxI (mxI (mxI IA 14 3 0) 15 3 0) 16 3 0) 17 3 0) 14 2 0) 15 2 0) 16 2 0) 17 2 0) 14 1 0) 15 1 0) 16 1 0) 17 1 0) 14 0 0) 15 0 0) 16 0 0) 17 0 0) 18 1 4), JA, QA)) (fun n => rfl) ?_
  refine mxRn.g2 6 0 (pc' := 112) (lv' := [(0, .ref 9), (1, .long 154618822656), (3, .long 4), (5, .int (-1)), (6, .int 0)]) (st' := [.ref 18]) (w' := (shA, (mxI (mxI (mxI (mxI (mxI (mxI (mxI (mxI (mxI (mxI (mxI (mxI (mxI (mxI (mxI (mxI (mxI IA 14 3 0) 15 3 0) 16 3 0) 17 3 0) 14 2 0) 15 2 0) 16 2 0) 17 2 0) 14 1 0) 15 1 0) 16 1 0) 17 1 0) 14 0 0) 15 0 0) 16 0 0) 17 0 0) 18 1 4), JA, QA)) (fun n => rfl) ?_
  refine mxRn.g2 6 0 (pc' := 120) (lv' := [(0, .ref 9), (1, .long 154618822656), (3, .long 4), (5, .int (-1)), (6, .int 0)]) (st' := []) (w' := (shA, (mxI (mxI (mxI (mxI (mxI (mxI (mxI (mxI (mxI (mxI (mxI (mxI (mxI (mxI (mxI (mxI (mxI (mxI IA 14 3 0) 15 3 0) 16 3 0) 17 3 0) 14 2 0) 15 2 0) 16 2 0) 17 2 0) 14 1 0) 15 1 0) 16 1 0) 17 1 0) 14 0 0) 15 0 0) 16 0 0) 17 0 0) 18 1 4) 18 0 4), JA, QA)) (fun n => rfl) ?_
  refine mxRn.g2 6 0 (pc' := 128) (lv' := [(0, .ref 9), (1, .long 154618822656), (3, .long 0), (5, .int (-1)), (6, .int 0)]) (st' := [.long 0, .ref 9]) (w' := (shA, (mxI (mxI (mxI (mxI (mxI (mxI (mxI (mxI (mxI (mxI (mxI (mxI (mxI (mxI (mxI (mxI (mxI (mxI IA 14 3 0) 15 3 0) 16 3 0) 17 3 0) 14 2 0) 15 2 0) 16 2 0) 17 2 0) 14 1 0) 15 1 0) 16 1 0) 17 1 0) 14 0 0) 15 0 0) 16 0 0) 17 0 0) 18 1 4) 18 0 4), JA, QA)) (fun n => rfl) ?_
  refine mxRn.g2 6 0 (pc' := 138) (lv' := [(0, .ref 9), (1, .long 154618822656), (3, .long 0), (5, .int (-1)), (6, .int 0)]) (st' := [.long 0, .ref 9]) (w' := (shA, (mxI (mxI (mxI (mxI (mxI (mxI (mxI (mxI (mxI (mxI (mxI (mxI (mxI (mxI (mxI (mxI (mxI (mxI (mxI IA 14 3 0) 15 3 0) 16 3 0) 17 3 0) 14 2 0) 15 2 0) 16 2 0) 17 2 0) 14 1 0) 15 1 0) 16 1 0) 17 1 0) 14 0 0) 15 0 0) 16 0 0) 17 0 0) 18 1 4) 18 0 4) 9 15 0), JA, QA)) (fun n => rfl) ?_
  exact mxRn.ret 5 (fun n => rfl)
set_option maxRecDepth 1000000 in
set_option maxHeartbeats 4000000 in
theorem p1_c11a_z4_p2 (xs : Nat → Int32) (h_1 : 0 ≤ (xs 1).toInt) : mxRn 95 52 [(0, .ref 9), (1, .long 154618822656), (3, .long 2359296), (5, .int 1), (6, .int 0)] [] (shA, (mxI (mxI (mxI (mxI (mxI (mxI (mxI (mxI (mxI (mxI IA 14 3 0) 15 3 0) 16 3 0) 17 3 0) 14 2 0) 15 2 0) 16 2 0) 17 2 0) 14 1 0) 15 1 0), JA, QA) (none, (shA, (mxI (mxI (mxI (mxI (mxI (mxI (mxI (mxI (mxI (mxI (mxI (mxI (mxI (mxI (mxI (mxI (mxI (mxI (mxI (mxI IA 14 3 0) 15 3 0) 16 3 0) 17 3 0) 14 2 0) 15 2 0) 16 2 0) 17 2 0) 14 1 0) 15 1 0) 16 1 0) 17 1 0) 14 0 0) 15 0 0) 16 0 0) 17 0 0) 18 1 4) 18 0 4) 9 15 0) 9 14 0), JA, QA)) := by
  refine mxRn.g2 6 0 (pc' := 63) (lv' := [(0, .ref 9), (1, .long 154618822656), (3, .long 2359296), (5, .int 1), (6, .int 0)]) (st' := [.int 0, .int 1, .ref 16]) (w' := (shA, (mxI (mxI (mxI (mxI (mxI (mxI (mxI (mxI (mxI (mxI IA 14 3 0) 15 3 0) 16 3 0) 17 3 0) 14 2 0) 15 2 0) 16 2 0) 17 2 0) 14 1 0) 15 1 0), JA, QA)) (fun n => rfl) ?_
  refine mxRn.g2 6 0 (pc' := 72) (lv' := [(0, .ref 9), (1, .long 154618822656), (3, .long 2359296), (5, .int 1), (6, .int 0)]) (st' := [.int 1, .ref 17]) (w' := (shA, (mxI (mxI (mxI (mxI (mxI (mxI (mxI (mxI (mxI (mxI (mxI IA 14 3 0) 15 3 0) 16 3 0) 17 3 0) 14 2 0) 15 2 0) 16 2 0) 17 2 0) 14 1 0) 15 1 0) 16 1 0), JA, QA)) (fun n => rfl) ?_
  refine mxRn.g2 6 0 (pc' := 82) (lv' := [(0, .ref 9), (1, .long 154618822656), (3, .long 2359296), (5, .int 1), (6, .int 0)]) (st' := [.long 256, .long 2359296]) (w' := (shA, (mxI (mxI (mxI (mxI (mxI (mxI (mxI (mxI (mxI (mxI (mxI (mxI IA 14 3 0) 15 3 0) 16 3 0) 17 3 0) 14 2 0) 15 2 0) 16 2 0) 17 2 0) 14 1 0) 15 1 0) 16 1 0) 17 1 0), JA, QA)) (fun n => rfl) ?_
  refine mxRn.g2 6 0 (pc' := 10) (lv' := [(0, .ref 9), (1, .long 154618822656), (3, .long 9216), (5, .int 0), (6, .int 0)]) (st' := []) (w' := (shA, (mxI (mxI (mxI (mxI (mxI (mxI (mxI (mxI (mxI (mxI (mxI (mxI IA 14 3 0) 15 3 0) 16 3 0) 17 3 0) 14 2 0) 15 2 0) 16 2 0) 17 2 0) 14 1 0) 15 1 0) 16 1 0) 17 1 0), JA, QA)) (fun n => rfl) ?_
  refine mxRn.g2 6 0 (pc' := 19) (lv' := [(0, .ref 9), (1, .long 154618822656), (3, .long 9216), (5, .int 0), (6, .int 0)]) (st' := [.ref 9]) (w' := (shA, (mxI (mxI (mxI (mxI (mxI (mxI (mxI (mxI (mxI (mxI (mxI (mxI IA 14 3 0) 15 3 0) 16 3 0) 17 3 0) 14 2 0) 15 2 0) 16 2 0) 17 2 0) 14 1 0) 15 1 0) 16 1 0) 17 1 0), JA, QA)) (fun n => rfl) ?_
  refine mxRn.g2 6 0 (pc' := 37) (lv' := [(0, .ref 9), (1, .long 154618822656), (3, .long 9216), (5, .int 0), (6, .int 0)]) (st' := [.int 0, .int 0, .ref 14]) (w' := (shA, (mxI (mxI (mxI (mxI (mxI (mxI (mxI (mxI (mxI (mxI (mxI (mxI IA 14 3 0) 15 3 0) 16 3 0) 17 3 0) 14 2 0) 15 2 0) 16 2 0) 17 2 0) 14 1 0) 15 1 0) 16 1 0) 17 1 0), JA, QA)) (fun n => rfl) ?_
  refine mxRn.g2 6 0 (pc' := 48) (lv' := [(0, .ref 9), (1, .long 154618822656), (3, .long 9216), (5, .int 0), (6, .int 0)]) (st' := [.int 32, .int 0, .int 0, .ref 15]) (w' := (shA, (mxI (mxI (mxI (mxI (mxI (mxI (mxI (mxI (mxI (mxI (mxI (mxI (mxI IA 14 3 0) 15 3 0) 16 3 0) 17 3 0) 14 2 0) 15 2 0) 16 2 0) 17 2 0) 14 1 0) 15 1 0) 16 1 0) 17 1 0) 14 0 0), JA, QA)) (fun n => rfl) ?_
  refine mxRn.g2 6 0 (pc' := 56) (lv' := [(0, .ref 9), (1, .long 154618822656), (3, .long 9216), (5, .int 0), (6, .int 0)]) (st' := [.ref 16]) (w' := (shA, (mxI (mxI (mxI (mxI (mxI (mxI (mxI (mxI (mxI (mxI (mxI (mxI (mxI (mxI IA 14 3 0) 15 3 0) 16 3 0) 17 3 0) 14 2 0) 15 2 0) 16 2 0) 17 2 0) 14 1 0) 15 1 0) 16 1 0) 17 1 0) 14 0 0) 15 0 0), JA, QA)) (fun n => rfl) ?_
  refine mxRn.g2 6 0 (pc' := 65) (lv' := [(0, .ref 9), (1, .long 154618822656), (3, .long 9216), (5, .int 0), (6, .int 0)]) (st' := [.int 0, .int 0, .ref 16]) (w' := (shA, (mxI (mxI (mxI (mxI (mxI (mxI (mxI (mxI (mxI (mxI (mxI (mxI (mxI (mxI IA 14 3 0) 15 3 0) 16 3 0) 17 3 0) 14 2 0) 15 2 0) 16 2 0) 17 2 0) 14 1 0) 15 1 0) 16 1 0) 17 1 0) 14 0 0) 15 0 0), JA, QA)) (fun n => rfl) ?_
  refine mxRn.g2 6 0 (pc' := 76) (lv' := [(0, .ref 9), (1, .long 154618822656), (3, .long 9216), (5, .int 0), (6, .int 0)]) (st' := [.int 16, .int 0, .int 0, .ref 17]) (w' := (shA, (mxI (mxI (mxI (mxI (mxI (mxI (mxI (mxI (mxI (mxI (mxI (mxI (mxI (mxI (mxI IA 14 3 0) 15 3 0) 16 3 0) 17 3 0) 14 2 0) 15 2 0) 16 2 0) 17 2 0) 14 1 0) 15 1 0) 16 1 0) 17 1 0) 14 0 0) 15 0 0) 16 0 0), JA, QA)) (fun n => rfl) ?_
  exact p1_c11a_z4_p3 xs h_1
set_option maxRecDepth 1000000 in
set_option maxHeartbeats 4000000 in
theorem p1_c11a_z4_p1 (xs : Nat → Int32) (h_1 : 0 ≤ (xs 1).toInt) : mxRn 95 24 [(0, .ref 9), (1, .long 154618822656), (3, .long 603979776), (5, .int 2), (6, .int 0)] [.int 2, .ref 14] (shA, (mxI (mxI (mxI (mxI IA 14 3 0) 15 3 0) 16 3 0) 17 3 0), JA, QA) (none, (shA, (mxI (mxI (mxI (mxI (mxI (mxI (mxI (mxI (mxI (mxI (mxI (mxI (mxI (mxI (mxI (mxI (mxI (mxI (mxI (mxI IA 14 3 0) 15 3 0) 16 3 0) 17 3 0) 14 2 0) 15 2 0) 16 2 0) 17 2 0) 14 1 0) 15 1 0) 16 1 0) 17 1 0) 14 0 0) 15 0 0) 16 0 0) 17 0 0) 18 1 4) 18 0 4) 9 15 0) 9 14 0), JA, QA)) := by
  refine mxRn.g2 6 0 (pc' := 39) (lv' := [(0, .ref 9), (1, .long 154618822656), (3, .long 603979776), (5, .int 2), (6, .int 0)]) (st' := [.ref 9]) (w' := (shA, (mxI (mxI (mxI (mxI (mxI IA 14 3 0) 15 3 0) 16 3 0) 17 3 0) 14 2 0), JA, QA)) (fun n => rfl) ?_
  refine mxRn.g2 6 0 (pc' := 50) (lv' := [(0, .ref 9), (1, .long 154618822656), (3, .long 603979776), (5, .int 2), (6, .int 0)]) (st' := [.int 4, .int 0, .int 2, .ref 15]) (w' := (shA, (mxI (mxI (mxI (mxI (mxI IA 14 3 0) 15 3 0) 16 3 0) 17 3 0) 14 2 0), JA, QA)) (fun n => rfl) ?_
  refine mxRn.g2 6 0 (pc' := 60) (lv' := [(0, .ref 9), (1, .long 154618822656), (3, .long 603979776), (5, .int 2), (6, .int 0)]) (st' := [.int 0, .int 2, .ref 16]) (w' := (shA, (mxI (mxI (mxI (mxI (mxI (mxI IA 14 3 0) 15 3 0) 16 3 0) 17 3 0) 14 2 0) 15 2 0), JA, QA)) (fun n => rfl) ?_
  refine mxRn.g2 6 0 (pc' := 67) (lv' := [(0, .ref 9), (1, .long 154618822656), (3, .long 603979776), (5, .int 2), (6, .int 0)]) (st' := [.ref 9]) (w' := (shA, (mxI (mxI (mxI (mxI (mxI (mxI (mxI IA 14 3 0) 15 3 0) 16 3 0) 17 3 0) 14 2 0) 15 2 0) 16 2 0), JA, QA)) (fun n => rfl) ?_
  refine mxRn.g2 6 0 (pc' := 78) (lv' := [(0, .ref 9), (1, .long 154618822656), (3, .long 603979776), (5, .int 2), (6, .int 0)]) (st' := []) (w' := (shA, (mxI (mxI (mxI (mxI (mxI (mxI (mxI (mxI IA 14 3 0) 15 3 0) 16 3 0) 17 3 0) 14 2 0) 15 2 0) 16 2 0) 17 2 0), JA, QA)) (fun n => rfl) ?_
  refine mxRn.g2 6 0 (pc' := 5) (lv' := [(0, .ref 9), (1, .long 154618822656), (3, .long 2359296), (5, .int 1), (6, .int 0)]) (st' := []) (w' := (shA, (mxI (mxI (mxI (mxI (mxI (mxI (mxI (mxI IA 14 3 0) 15 3 0) 16 3 0) 17 3 0) 14 2 0) 15 2 0) 16 2 0) 17 2 0), JA, QA)) (fun n => rfl) ?_
  refine mxRn.g2 6 0 (pc' := 16) (lv' := [(0, .ref 9), (1, .long 154618822656), (3, .long 2359296), (5, .int 1), (6, .int 0)]) (st' := [.int 0]) (w' := (shA, (mxI (mxI (mxI (mxI (mxI (mxI (mxI (mxI IA 14 3 0) 15 3 0) 16 3 0) 17 3 0) 14 2 0) 15 2 0) 16 2 0) 17 2 0), JA, QA)) (fun n => rfl) ?_
  refine mxRn.g2 6 0 (pc' := 29) (lv' := [(0, .ref 9), (1, .long 154618822656), (3, .long 2359296), (5, .int 1), (6, .int 0)]) (st' := [.int 128, .int 0, .int 1, .ref 14]) (w' := (shA, (mxI (mxI (mxI (mxI (mxI (mxI (mxI (mxI IA 14 3 0) 15 3 0) 16 3 0) 17 3 0) 14 2 0) 15 2 0) 16 2 0) 17 2 0), JA, QA)) (fun n => rfl) ?_
  refine mxRn.g2 6 0 (pc' := 44) (lv' := [(0, .ref 9), (1, .long 154618822656), (3, .long 2359296), (5, .int 1), (6, .int 0)]) (st' := [.int 1, .ref 15]) (w' := (shA, (mxI (mxI (mxI (mxI (mxI (mxI (mxI (mxI (mxI IA 14 3 0) 15 3 0) 16 3 0) 17 3 0) 14 2 0) 15 2 0) 16 2 0) 17 2 0) 14 1 0), JA, QA)) (fun n => rfl) ?_
  refine mxRn.g2 6 0 (pc' := 52) (lv' := [(0, .ref 9), (1, .long 154618822656), (3, .long 2359296), (5, .int 1), (6, .int 0)]) (st' := []) (w' := (shA, (mxI (mxI (mxI (mxI (mxI (mxI (mxI (mxI (mxI (mxI IA 14 3 0) 15 3 0) 16 3 0) 17 3 0) 14 2 0) 15 2 0) 16 2 0) 17 2 0) 14 1 0) 15 1 0), JA, QA)) (fun n => rfl) ?_
  exact p1_c11a_z4_p2 xs h_1
set_option maxRecDepth 1000000 in
set_option maxHeartbeats 4000000 in
theorem p1_c11a_z4 (xs : Nat → Int32) (h_1 : 0 ≤ (xs 1).toInt) : mxRn 95 0 [(0, .ref 9), (1, .long 154618822656)] [] (shA, IA, JA, QA) (none, (shA, (mxI (mxI (mxI (mxI (mxI (mxI (mxI (mxI (mxI (mxI (mxI (mxI (mxI (mxI (mxI (mxI (mxI (mxI (mxI (mxI IA 14 3 0) 15 3 0) 16 3 0) 17 3 0) 14 2 0) 15 2 0) 16 2 0) 17 2 0) 14 1 0) 15 1 0) 16 1 0) 17 1 0) 14 0 0) 15 0 0) 16 0 0) 17 0 0) 18 1 4) 18 0 4) 9 15 0) 9 14 0), JA, QA)) := by
  refine mxRn.g2 6 0 (pc' := 10) (lv' := [(0, .ref 9), (1, .long 154618822656), (3, .long 154618822656), (5, .int 3)]) (st' := []) (w' := (shA, IA, JA, QA)) (fun n => rfl) ?_
  refine mxRn.g2 6 0 (pc' := 19) (lv' := [(0, .ref 9), (1, .long 154618822656), (3, .long 154618822656), (5, .int 3), (6, .int 0)]) (st' := [.ref 9]) (w' := (shA, IA, JA, QA)) (fun n => rfl) ?_
  refine mxRn.g2 6 0 (pc' := 37) (lv' := [(0, .ref 9), (1, .long 154618822656), (3, .long 154618822656), (5, .int 3), (6, .int 0)]) (st' := [.int 0, .int 3, .ref 14]) (w' := (shA, IA, JA, QA)) (fun n => rfl) ?_
  refine mxRn.g2 6 0 (pc' := 48) (lv' := [(0, .ref 9), (1, .long 154618822656), (3, .long 154618822656), (5, .int 3), (6, .int 0)]) (st' := [.int 32, .int 0, .int 3, .ref 15]) (w' := (shA, (mxI IA 14 3 0), JA, QA)) (fun n => rfl) ?_
  refine mxRn.g2 6 0 (pc' := 56) (lv' := [(0, .ref 9), (1, .long 154618822656), (3, .long 154618822656), (5, .int 3), (6, .int 0)]) (st' := [.ref 16]) (w' := (shA, (mxI (mxI IA 14 3 0) 15 3 0), JA, QA)) (fun n => rfl) ?_
  refine mxRn.g2 6 0 (pc' := 65) (lv' := [(0, .ref 9), (1, .long 154618822656), (3, .long 154618822656), (5, .int 3), (6, .int 0)]) (st' := [.int 0, .int 3, .ref 16]) (w' := (shA, (mxI (mxI IA 14 3 0) 15 3 0), JA, QA)) (fun n => rfl) ?_
  refine mxRn.g2 6 0 (pc' := 76) (lv' := [(0, .ref 9), (1, .long 154618822656), (3, .long 154618822656), (5, .int 3), (6, .int 0)]) (st' := [.int 16, .int 0, .int 3, .ref 17]) (w' := (shA, (mxI (mxI (mxI IA 14 3 0) 15 3 0) 16 3 0), JA, QA)) (fun n => rfl) ?_
  refine mxRn.g2 6 0 (pc' := 84) (lv' := [(0, .ref 9), (1, .long 154618822656), (3, .long 603979776), (5, .int 3), (6, .int 0)]) (st' := []) (w' := (shA, (mxI (mxI (mxI (mxI IA 14 3 0) 15 3 0) 16 3 0) 17 3 0), JA, QA)) (fun n => rfl) ?_
  refine mxRn.g2 6 0 (pc' := 14) (lv' := [(0, .ref 9), (1, .long 154618822656), (3, .long 603979776), (5, .int 2), (6, .int 0)]) (st' := [.long 256, .long 603979776]) (w' := (shA, (mxI (mxI (mxI (mxI IA 14 3 0) 15 3 0) 16 3 0) 17 3 0), JA, QA)) (fun n => rfl) ?_
  refine mxRn.g2 6 0 (pc' := 24) (lv' := [(0, .ref 9), (1, .long 154618822656), (3, .long 603979776), (5, .int 2), (6, .int 0)]) (st' := [.int 2, .ref 14]) (w' := (shA, (mxI (mxI (mxI (mxI IA 14 3 0) 15 3 0) 16 3 0) 17 3 0), JA, QA)) (fun n => rfl) ?_
  exact p1_c11a_z4_p1 xs h_1
set_option maxRecDepth 1000000 in
set_option maxHeartbeats 4000000 in
theorem p1_c11a_z5 (xs : Nat → Int32) (h_1 : 0 ≤ (xs 1).toInt) : mxRn 81 0 [(0, .int (xs 1)), (1, .int 0), (2, .int (-1))] [] (shA, (mxI (mxI (mxI (mxI (mxI (mxI (mxI (mxI (mxI (mxI (mxI (mxI (mxI (mxI (mxI (mxI (mxI (mxI (mxI (mxI IA 14 3 0) 15 3 0) 16 3 0) 17 3 0) 14 2 0) 15 2 0) 16 2 0) 17 2 0) 14 1 0) 15 1 0) 16 1 0) 17 1 0) 14 0 0) 15 0 0) 16 0 0) 17 0 0) 18 1 4) 18 0 4) 9 15 0) 9 14 0), JA, QA) (some (.int 0), (shA, (mxI (mxI (mxI (mxI (mxI (mxI (mxI (mxI (mxI (mxI (mxI (mxI (mxI (mxI (mxI (mxI (mxI (mxI (mxI (mxI IA 14 3 0) 15 3 0) 16 3 0) 17 3 0) 14 2 0) 15 2 0) 16 2 0) 17 2 0) 14 1 0) 15 1 0) 16 1 0) 17 1 0) 14 0 0) 15 0 0) 16 0 0) 17 0 0) 18 1 4) 18 0 4) 9 15 0) 9 14 0), JA, QA)) := by
  refine mxRn.if2 3 0 (bb := Op.if_icmp.holds .lt (xs 1) (0 : Int32)) (pc' := 5) (lv' := [(0, .int (xs 1)), (1, .int 0), (2, .int (-1))]) (st' := []) (w' := (shA, (mxI (mxI (mxI (mxI (mxI (mxI (mxI (mxI (mxI (mxI (mxI (mxI (mxI (mxI (mxI (mxI (mxI (mxI (mxI (mxI IA 14 3 0) 15 3 0) 16 3 0) 17 3 0) 14 2 0) 15 2 0) 16 2 0) 17 2 0) 14 1 0) 15 1 0) 16 1 0) 17 1 0) 14 0 0) 15 0 0) 16 0 0) 17 0 0) 18 1 4) 18 0 4) 9 15 0) 9 14 0), JA, QA)) (X := fun nf => mxev (nf + 0) 81 14 [(0, .int (xs 1)), (1, .int 0), (2, .int (-1))] [] (shA, (mxI (mxI (mxI (mxI (mxI (mxI (mxI (mxI (mxI (mxI (mxI (mxI (mxI (mxI (mxI (mxI (mxI (mxI (mxI (mxI IA 14 3 0) 15 3 0) 16 3 0) 17 3 0) 14 2 0) 15 2 0) 16 2 0) 17 2 0) 14 1 0) 15 1 0) 16 1 0) 17 1 0) 14 0 0) 15 0 0) 16 0 0) 17 0 0) 18 1 4) 18 0 4) 9 15 0) 9 14 0), JA, QA)) (fun n => rfl) (hc_lt_f 0 rfl (by omega)) ?_
  refine mxRn.it2 3 0 (bb := Op.if_icmp.holds .gt (xs 1) (-1 : Int32)) (pc' := 14) (lv' := [(0, .int (xs 1)), (1, .int 0), (2, .int (-1))]) (st' := []) (w' := (shA, (mxI (mxI (mxI (mxI (mxI (mxI (mxI (mxI (mxI (mxI (mxI (mxI (mxI (mxI (mxI (mxI (mxI (mxI (mxI (mxI IA 14 3 0) 15 3 0) 16 3 0) 17 3 0) 14 2 0) 15 2 0) 16 2 0) 17 2 0) 14 1 0) 15 1 0) 16 1 0) 17 1 0) 14 0 0) 15 0 0) 16 0 0) 17 0 0) 18 1 4) 18 0 4) 9 15 0) 9 14 0), JA, QA)) (X := fun nf => mxev (nf + 0) 81 10 [(0, .int (xs 1)), (1, .int 0), (2, .int (-1))] [] (shA, (mxI (mxI (mxI (mxI (mxI (mxI (mxI (mxI (mxI (mxI (mxI (mxI (mxI (mxI (mxI (mxI (mxI (mxI (mxI (mxI IA 14 3 0) 15 3 0) 16 3 0) 17 3 0) 14 2 0) 15 2 0) 16 2 0) 17 2 0) 14 1 0) 15 1 0) 16 1 0) 17 1 0) 14 0 0) 15 0 0) 16 0 0) 17 0 0) 18 1 4) 18 0 4) 9 15 0) 9 14 0), JA, QA)) (fun n => rfl) (hc_gt_t (-1) rfl (by omega)) ?_
  exact mxRn.ret 2 (fun n => rfl)
set_option maxRecDepth 1000000 in
set_option maxHeartbeats 4000000 in
theorem p1_c11a_z3 (xs : Nat → Int32) (h_1 : 0 ≤ (xs 1).toInt) : mxRn 110 0 [(0, .ref 9), (1, .int (xs 1)), (2, .int (xs 2))] [] (shA, IA, JA, QA) (some (.int (-1)), (shA, (mxI (mxI (mxI (mxI (mxI (mxI (mxI (mxI (mxI (mxI (mxI (mxI (mxI (mxI (mxI (mxI (mxI (mxI (mxI (mxI IA 14 3 0) 15 3 0) 16 3 0) 17 3 0) 14 2 0) 15 2 0) 16 2 0) 17 2 0) 14 1 0) 15 1 0) 16 1 0) 17 1 0) 14 0 0) 15 0 0) 16 0 0) 17 0 0) 18 1 4) 18 0 4) 9 15 0) 9 14 0), JA, QA)) := by
  refine mxRn.c2 4 0 (z := 95) (lz := [(0, .ref 9), (1, .long 154618822656)]) (w1 := (shA, IA, JA, QA)) (pc' := 8) (lv' := [(0, .ref 9), (1, .int (xs 1)), (2, .int (xs 2))]) (r := []) (fun n => rfl) (p1_c11a_z4 xs h_1) ?_
  show mxRn 110 8 [(0, .ref 9), (1, .int (xs 1)), (2, .int (xs 2))] [] (shA, (mxI (mxI (mxI (mxI (mxI (mxI (mxI (mxI (mxI (mxI (mxI (mxI (mxI (mxI (mxI (mxI (mxI (mxI (mxI (mxI IA 14 3 0) 15 3 0) 16 3 0) 17 3 0) 14 2 0) 15 2 0) 16 2 0) 17 2 0) 14 1 0) 15 1 0) 16 1 0) 17 1 0) 14 0 0) 15 0 0) 16 0 0) 17 0 0) 18 1 4) 18 0 4) 9 15 0) 9 14 0), JA, QA) _
  refine mxRn.g2 6 0 (pc' := 16) (lv' := [(0, .ref 9), (1, .int (xs 1)), (2, .int (xs 2))]) (st' := [.int (-1), .int 0, .int (xs 1)]) (w' := (shA, (mxI (mxI (mxI (mxI (mxI (mxI (mxI (mxI (mxI (mxI (mxI (mxI (mxI (mxI (mxI (mxI (mxI (mxI (mxI (mxI IA 14 3 0) 15 3 0) 16 3 0) 17 3 0) 14 2 0) 15 2 0) 16 2 0) 17 2 0) 14 1 0) 15 1 0) 16 1 0) 17 1 0) 14 0 0) 15 0 0) 16 0 0) 17 0 0) 18 1 4) 18 0 4) 9 15 0) 9 14 0), JA, QA)) (fun n => rfl) ?_
  refine mxRn.c2 1 0 (z := 81) (lz := [(0, .int (xs 1)), (1, .int 0), (2, .int (-1))]) (w1 := (shA, (mxI (mxI (mxI (mxI (mxI (mxI (mxI (mxI (mxI (mxI (mxI (mxI (mxI (mxI (mxI (mxI (mxI (mxI (mxI (mxI IA 14 3 0) 15 3 0) 16 3 0) 17 3 0) 14 2 0) 15 2 0) 16 2 0) 17 2 0) 14 1 0) 15 1 0) 16 1 0) 17 1 0) 14 0 0) 15 0 0) 16 0 0) 17 0 0) 18 1 4) 18 0 4) 9 15 0) 9 14 0), JA, QA)) (pc' := 19) (lv' := [(0, .ref 9), (1, .int (xs 1)), (2, .int (xs 2))]) (r := []) (fun n => rfl) (p1_c11a_z5 xs h_1) ?_
  show mxRn 110 19 [(0, .ref 9), (1, .int (xs 1)), (2, .int (xs 2))] [.int 0] (shA, (mxI (mxI (mxI (mxI (mxI (mxI (mxI (mxI (mxI (mxI (mxI (mxI (mxI (mxI (mxI (mxI (mxI (mxI (mxI (mxI IA 14 3 0) 15 3 0) 16 3 0) 17 3 0) 14 2 0) 15 2 0) 16 2 0) 17 2 0) 14 1 0) 15 1 0) 16 1 0) 17 1 0) 14 0 0) 15 0 0) 16 0 0) 17 0 0) 18 1 4) 18 0 4) 9 15 0) 9 14 0), JA, QA) _
  exact mxRn.ret 3 (fun n => rfl)
set_option maxRecDepth 1000000 in
set_option maxHeartbeats 4000000 in
theorem p1_c11a (xs : Nat → Int32) (h_1 : 0 ≤ (xs 1).toInt) : mxOk 6 xs 33 [(0, .retAddr 2), (1, .ref 0), (2, .ref 9), (3, .int 0)] [.int 11] (shA, IA, JA, QA) := by
  refine mxOk.g2 6 0 (pc' := 454) (lv' := [(0, .retAddr 2), (1, .ref 0), (2, .ref 9), (3, .int 0)]) (st' := [.int 1, .retAddr 2, .ref 0]) (w' := (shA, IA, JA, QA)) (fun n => rfl) ?_
  refine mxOk.g2 6 0 (pc' := 460) (lv' := [(0, .retAddr 2), (1, .ref 0), (2, .ref 9), (3, .int 0)]) (st' := [.int (xs 2), .int (xs 1), .ref 0]) (w' := (shA, IA, JA, QA)) (fun n => rfl) ?_
  refine mxOk.c2 1 0 (z := 68) (lz := [(0, .ref 0), (1, .int (xs 1)), (2, .int (xs 2))]) (w1 := (shA, IA, JA, QA)) (pc' := 463) (lv' := [(0, .retAddr 2), (1, .ref 0), (2, .ref 9), (3, .int 0)]) (r := []) (fun n => rfl) (p1_c11a_z1 xs h_1) ?_
  show mxOk 6 xs 463 [(0, .retAddr 2), (1, .ref 0), (2, .ref 9), (3, .int 0)] [.int (-1)] (shA, IA, JA, QA)
  refine mxOk.g2 6 0 (pc' := 469) (lv' := [(0, .retAddr 2), (1, .ref 0), (2, .ref 9), (3, .int 0)]) (st' := [.int (xs 1), .ref 9, .int (-1)]) (w' := (shA, IA, JA, QA)) (fun n => rfl) ?_
  refine mxOk.c2 6 0 (z := 110) (lz := [(0, .ref 9), (1, .int (xs 1)), (2, .int (xs 2))]) (w1 := (shA, IA, JA, QA)) (pc' := 477) (lv' := [(0, .retAddr 2), (1, .ref 0), (2, .ref 9), (3, .int 0)]) (r := [.int (-1)]) (fun n => rfl) (p1_c11a_z3 xs h_1) ?_
  show mxOk 6 xs 477 [(0, .retAddr 2), (1, .ref 0), (2, .ref 9), (3, .int 0)] [.int (-1), .int (-1)] (shA, (mxI (mxI (mxI (mxI (mxI (mxI (mxI (mxI (mxI (mxI (mxI (mxI (mxI (mxI (mxI (mxI (mxI (mxI (mxI (mxI IA 14 3 0) 15 3 0) 16 3 0) 17 3 0) 14 2 0) 15 2 0) 16 2 0) 17 2 0) 14 1 0) 15 1 0) 16 1 0) 17 1 0) 14 0 0) 15 0 0) 16 0 0) 17 0 0) 18 1 4) 18 0 4) 9 15 0) 9 14 0), JA, QA)
  refine mxOk.g2 6 0 (pc' := 21) (lv' := [(0, .retAddr 2), (1, .ref 0), (2, .ref 9), (3, .int 6)]) (st' := [.int 6, .int 6]) (w' := (shA, (mxI (mxI (mxI (mxI (mxI (mxI (mxI (mxI (mxI (mxI (mxI (mxI (mxI (mxI (mxI (mxI (mxI (mxI (mxI (mxI IA 14 3 0) 15 3 0) 16 3 0) 17 3 0) 14 2 0) 15 2 0) 16 2 0) 17 2 0) 14 1 0) 15 1 0) 16 1 0) 17 1 0) 14 0 0) 15 0 0) 16 0 0) 17 0 0) 18 1 4) 18 0 4) 9 15 0) 9 14 0), JA, QA)) (fun n => rfl) ?_
  exact mxOk.ret 5 (w' := (shA, (mxI (mxI (mxI (mxI (mxI (mxI (mxI (mxI (mxI (mxI (mxI (mxI (mxI (mxI (mxI (mxI (mxI (mxI (mxI (mxI IA 14 3 0) 15 3 0) 16 3 0) 17 3 0) 14 2 0) 15 2 0) 16 2 0) 17 2 0) 14 1 0) 15 1 0) 16 1 0) 17 1 0) 14 0 0) 15 0 0) 16 0 0) 17 0 0) 18 1 4) 18 0 4) 9 15 0) 9 14 0), JA, QA)) (fun n => rfl) (show shA.length ≤ 600000 from Nat.le_of_ble_eq_true rfl) (show (shA.map (fun q => q.2)).sum ≤ 7302250 from Nat.le_of_ble_eq_true rfl)
set_option maxRecDepth 1000000 in
set_option maxHeartbeats 4000000 in
theorem p1_c13b_z1 (xs : Nat → Int32) (h_1 : (xs 1).toInt < 0) : mxRn 73 0 [(0, .ref 0), (1, .int (xs 1))] [] (shA, IA, JA, QA) (some (.int (-1)), (shA, IA, JA, QA)) := by
  refine mxRn.it2 2 0 (bb := Op.ifCond.holds .lt (xs 1)) (pc' := 27) (lv' := [(0, .ref 0), (1, .int (xs 1))]) (st' := []) (w' := (shA, IA, JA, QA)) (X := fun nf => mxev (nf + 0) 73 4 [(0, .ref 0), (1, .int (xs 1))] [] (shA, IA, JA, QA)) (fun n => rfl) (hd_lt_t (by omega)) ?_
  exact mxRn.ret 2 (fun n => rfl)
set_option maxRecDepth 1000000 in
set_option maxHeartbeats 4000000 in
theorem p1_c13b_z3 (xs : Nat → Int32) (h_1 : (xs 1).toInt < 0) : mxRn 81 0 [(0, .int (xs 1)), (1, .int 0), (2, .int (-1))] [] (shA, IA, JA, QA) (some (.int 0), (shA, IA, JA, QA)) := by
  refine mxRn.it2 3 0 (bb := Op.if_icmp.holds .lt (xs 1) (0 : Int32)) (pc' := 14) (lv' := [(0, .int (xs 1)), (1, .int 0), (2, .int (-1))]) (st' := []) (w' := (shA, IA, JA, QA)) (X := fun nf => mxev (nf + 0) 81 5 [(0, .int (xs 1)), (1, .int 0), (2, .int (-1))] [] (shA, IA, JA, QA)) (fun n => rfl) (hc_lt_t 0 rfl (by omega)) ?_
  exact mxRn.ret 2 (fun n => rfl)
set_option maxRecDepth 1000000 in
set_option maxHeartbeats 4000000 in
theorem p1_c13b_z2 (xs : Nat → Int32) (h_1 : (xs 1).toInt < 0) : mxRn 120 0 [(0, .ref 9), (1, .int (xs 1))] [] (shA, IA, JA, QA) (some (.int (-1)), (shA, IA, JA, QA)) := by
  refine mxRn.g2 6 0 (pc' := 8) (lv' := [(0, .ref 9), (1, .int (xs 1))]) (st' := [.int (-1), .int 0, .int (xs 1)]) (w' := (shA, IA, JA, QA)) (fun n => rfl) ?_
  refine mxRn.c2 1 0 (z := 81) (lz := [(0, .int (xs 1)), (1, .int 0), (2, .int (-1))]) (w1 := (shA, IA, JA, QA)) (pc' := 11) (lv' := [(0, .ref 9), (1, .int (xs 1))]) (r := []) (fun n => rfl) (p1_c13b_z3 xs h_1) ?_
  show mxRn 120 11 [(0, .ref 9), (1, .int (xs 1))] [.int 0] (shA, IA, JA, QA) _
  exact mxRn.ret 3 (fun n => rfl)
set_option maxRecDepth 1000000 in
set_option maxHeartbeats 4000000 in
theorem p1_c13b (xs : Nat → Int32) (h_1 : (xs 1).toInt < 0) : mxOk 6 xs 33 [(0, .retAddr 2), (1, .ref 0), (2, .ref 9), (3, .int 0)] [.int 13] (shA, IA, JA, QA) := by
  refine mxOk.g2 6 0 (pc' := 530) (lv' := [(0, .retAddr 2), (1, .ref 0), (2, .ref 9), (3, .int 0)]) (st' := [.int 1, .retAddr 2, .ref 0]) (w' := (shA, IA, JA, QA)) (fun n => rfl) ?_
  refine mxOk.c2 2 0 (z := 73) (lz := [(0, .ref 0), (1, .int (xs 1))]) (w1 := (shA, IA, JA, QA)) (pc' := 534) (lv' := [(0, .retAddr 2), (1, .ref 0), (2, .ref 9), (3, .int 0)]) (r := []) (fun n => rfl) (p1_c13b_z1 xs h_1) ?_
  show mxOk 6 xs 534 [(0, .retAddr 2), (1, .ref 0), (2, .ref 9), (3, .int 0)] [.int (-1)] (shA, IA, JA, QA)
  refine mxOk.g2 6 0 (pc' := 540) (lv' := [(0, .retAddr 2), (1, .ref 0), (2, .ref 9), (3, .int 0)]) (st' := [.int (xs 1), .ref 9, .int (-1)]) (w' := (shA, IA, JA, QA)) (fun n => rfl) ?_
  refine mxOk.c2 1 0 (z := 120) (lz := [(0, .ref 9), (1, .int (xs 1))]) (w1 := (shA, IA, JA, QA)) (pc' := 543) (lv' := [(0, .retAddr 2), (1, .ref 0), (2, .ref 9), (3, .int 0)]) (r := [.int (-1)]) (fun n => rfl) (p1_c13b_z2 xs h_1) ?_
  show mxOk 6 xs 543 [(0, .retAddr 2), (1, .ref 0), (2, .ref 9), (3, .int 0)] [.int (-1), .int (-1)] (shA, IA, JA, QA)
  refine mxOk.g2 6 0 (pc' := 21) (lv' := [(0, .retAddr 2), (1, .ref 0), (2, .ref 9), (3, .int 6)]) (st' := [.int 6, .int 6]) (w' := (shA, IA, JA, QA)) (fun n => rfl) ?_
  exact mxOk.ret 5 (w' := (shA, IA, JA, QA)) (fun n => rfl) (show shA.length ≤ 600000 from Nat.le_of_ble_eq_true rfl) (show (shA.map (fun q => q.2)).sum ≤ 7302250 from Nat.le_of_ble_eq_true rfl)
set_option maxRecDepth 1000000 in
set_option maxHeartbeats 4000000 in
theorem p1_c13a_z1 (xs : Nat → Int32) (h_1 : 0 ≤ (xs 1).toInt) : mxRn 73 0 [(0, .ref 0), (1, .int (xs 1))] [] (shA, IA, JA, QA) (some (.int (-1)), (shA, IA, JA, QA)) := by
  refine mxRn.if2 2 0 (bb := Op.ifCond.holds .lt (xs 1)) (pc' := 4) (lv' := [(0, .ref 0), (1, .int (xs 1))]) (st' := []) (w' := (shA, IA, JA, QA)) (X := fun nf => mxev (nf + 0) 73 27 [(0, .ref 0), (1, .int (xs 1))] [] (shA, IA, JA, QA)) (fun n => rfl) (hd_lt_f (by omega)) ?_
  refine mxRn.it2 4 0 (bb := Op.if_icmp.holds .ge (xs 1) (0 : Int32)) (pc' := 27) (lv' := [(0, .ref 0), (1, .int (xs 1))]) (st' := []) (w' := (shA, IA, JA, QA)) (X := fun nf => mxev (nf + 0) 73 12 [(0, .ref 0), (1, .int (xs 1))] [] (shA, IA, JA, QA)) (fun n => rfl) (hc_ge_t 0 rfl (by omega)) ?_
  exact mxRn.ret 2 (fun n => rfl)
set_option maxRecDepth 1000000 in
set_option maxHeartbeats 4000000 in
theorem p1_c13a_z3 (xs : Nat → Int32) (h_1 : 0 ≤ (xs 1).toInt) : mxRn 81 0 [(0, .int (xs 1)), (1, .int 0), (2, .int (-1))] [] (shA, IA, JA, QA) (some (.int 0), (shA, IA, JA, QA)) := by
  refine mxRn.if2 3 0 (bb := Op.if_icmp.holds .lt (xs 1) (0 : Int32)) (pc' := 5) (lv' := [(0, .int (xs 1)), (1, .int 0), (2, .int (-1))]) (st' := []) (w' := (shA, IA, JA, QA)) (X := fun nf => mxev (nf + 0) 81 14 [(0, .int (xs 1)), (1, .int 0), (2, .int (-1))] [] (shA, IA, JA, QA)) (fun n => rfl) (hc_lt_f 0 rfl (by omega)) ?_
  refine mxRn.it2 3 0 (bb := Op.if_icmp.holds .gt (xs 1) (-1 : Int32)) (pc' := 14) (lv' := [(0, .int (xs 1)), (1, .int 0), (2, .int (-1))]) (st' := []) (w' := (shA, IA, JA, QA)) (X := fun nf => mxev (nf + 0) 81 10 [(0, .int (xs 1)), (1, .int 0), (2, .int (-1))] [] (shA, IA, JA, QA)) (fun n => rfl) (hc_gt_t (-1) rfl (by omega)) ?_
  exact mxRn.ret 2 (fun n => rfl)
set_option maxRecDepth 1000000 in
set_option maxHeartbeats 4000000 in
theorem p1_c13a_z2 (xs : Nat → Int32) (h_1 : 0 ≤ (xs 1).toInt) : mxRn 120 0 [(0, .ref 9), (1, .int (xs 1))] [] (shA, IA, JA, QA) (some (.int (-1)), (shA, IA, JA, QA)) := by
  refine mxRn.g2 6 0 (pc' := 8) (lv' := [(0, .ref 9), (1, .int (xs 1))]) (st' := [.int (-1), .int 0, .int (xs 1)]) (w' := (shA, IA, JA, QA)) (fun n => rfl) ?_
  refine mxRn.c2 1 0 (z := 81) (lz := [(0, .int (xs 1)), (1, .int 0), (2, .int (-1))]) (w1 := (shA, IA, JA, QA)) (pc' := 11) (lv' := [(0, .ref 9), (1, .int (xs 1))]) (r := []) (fun n => rfl) (p1_c13a_z3 xs h_1) ?_
  show mxRn 120 11 [(0, .ref 9), (1, .int (xs 1))] [.int 0] (shA, IA, JA, QA) _
  exact mxRn.ret 3 (fun n => rfl)
set_option maxRecDepth 1000000 in
set_option maxHeartbeats 4000000 in
theorem p1_c13a (xs : Nat → Int32) (h_1 : 0 ≤ (xs 1).toInt) : mxOk 6 xs 33 [(0, .retAddr 2), (1, .ref 0), (2, .ref 9), (3, .int 0)] [.int 13] (shA, IA, JA, QA) := by
  refine mxOk.g2 6 0 (pc' := 530) (lv' := [(0, .retAddr 2), (1, .ref 0), (2, .ref 9), (3, .int 0)]) (st' := [.int 1, .retAddr 2, .ref 0]) (w' := (shA, IA, JA, QA)) (fun n => rfl) ?_
  refine mxOk.c2 2 0 (z := 73) (lz := [(0, .ref 0), (1, .int (xs 1))]) (w1 := (shA, IA, JA, QA)) (pc' := 534) (lv' := [(0, .retAddr 2), (1, .ref 0), (2, .ref 9), (3, .int 0)]) (r := []) (fun n => rfl) (p1_c13a_z1 xs h_1) ?_
  show mxOk 6 xs 534 [(0, .retAddr 2), (1, .ref 0), (2, .ref 9), (3, .int 0)] [.int (-1)] (shA, IA, JA, QA)
  refine mxOk.g2 6 0 (pc' := 540) (lv' := [(0, .retAddr 2), (1, .ref 0), (2, .ref 9), (3, .int 0)]) (st' := [.int (xs 1), .ref 9, .int (-1)]) (w' := (shA, IA, JA, QA)) (fun n => rfl) ?_
  refine mxOk.c2 1 0 (z := 120) (lz := [(0, .ref 9), (1, .int (xs 1))]) (w1 := (shA, IA, JA, QA)) (pc' := 543) (lv' := [(0, .retAddr 2), (1, .ref 0), (2, .ref 9), (3, .int 0)]) (r := [.int (-1)]) (fun n => rfl) (p1_c13a_z2 xs h_1) ?_
  show mxOk 6 xs 543 [(0, .retAddr 2), (1, .ref 0), (2, .ref 9), (3, .int 0)] [.int (-1), .int (-1)] (shA, IA, JA, QA)
  refine mxOk.g2 6 0 (pc' := 21) (lv' := [(0, .retAddr 2), (1, .ref 0), (2, .ref 9), (3, .int 6)]) (st' := [.int 6, .int 6]) (w' := (shA, IA, JA, QA)) (fun n => rfl) ?_
  exact mxOk.ret 5 (w' := (shA, IA, JA, QA)) (fun n => rfl) (show shA.length ≤ 600000 from Nat.le_of_ble_eq_true rfl) (show (shA.map (fun q => q.2)).sum ≤ 7302250 from Nat.le_of_ble_eq_true rfl)
set_option maxRecDepth 1000000 in
set_option maxHeartbeats 4000000 in
theorem p1_c4b_z1 (xs : Nat → Int32) (h_1 : (xs 1).toInt < 0) : mxRn 59 0 [(0, .ref 0), (1, .int (xs 1)), (2, .int (xs 2))] [] (shA, IA, JA, QA) (some (.int (-1)), (shA, IA, JA, QA)) := by
  refine mxRn.it2 2 0 (bb := Op.ifCond.holds .lt (xs 1)) (pc' := 20) (lv' := [(0, .ref 0), (1, .int (xs 1)), (2, .int (xs 2))]) (st' := []) (w' := (shA, IA, JA, QA)) (X := fun nf => mxev (nf + 0) 59 4 [(0, .ref 0), (1, .int (xs 1)), (2, .int (xs 2))] [] (shA, IA, JA, QA)) (fun n => rfl) (hd_lt_t (by omega)) ?_
  exact mxRn.ret 2 (fun n => rfl)
set_option maxRecDepth 1000000 in
set_option maxHeartbeats 4000000 in
theorem p1_c4b_z3 (xs : Nat → Int32) (h_1 : (xs 1).toInt < 0) : mxRn 81 0 [(0, .int (xs 1)), (1, .int 0), (2, .int 6)] [] (shA, IA, JA, QA) (some (.int 0), (shA, IA, JA, QA)) := by
  refine mxRn.it2 3 0 (bb := Op.if_icmp.holds .lt (xs 1) (0 : Int32)) (pc' := 14) (lv' := [(0, .int (xs 1)), (1, .int 0), (2, .int 6)]) (st' := []) (w' := (shA, IA, JA, QA)) (X := fun nf => mxev (nf + 0) 81 5 [(0, .int (xs 1)), (1, .int 0), (2, .int 6)] [] (shA, IA, JA, QA)) (fun n => rfl) (hc_lt_t 0 rfl (by omega)) ?_
  exact mxRn.ret 2 (fun n => rfl)
set_option maxRecDepth 1000000 in
set_option maxHeartbeats 4000000 in
theorem p1_c4b_z2 (xs : Nat → Int32) (h_1 : (xs 1).toInt < 0) : mxRn 122 0 [(0, .ref 9), (1, .int (xs 1)), (2, .int (xs 2))] [] (shA, IA, JA, QA) (some (.int (-1)), (shA, IA, JA, QA)) := by
  refine mxRn.c2 4 0 (z := 81) (lz := [(0, .int (xs 1)), (1, .int 0), (2, .int 6)]) (w1 := (shA, IA, JA, QA)) (pc' := 7) (lv' := [(0, .ref 9), (1, .int (xs 1)), (2, .int (xs 2))]) (r := []) (fun n => rfl) (p1_c4b_z3 xs h_1) ?_
  show mxRn 122 7 [(0, .ref 9), (1, .int (xs 1)), (2, .int (xs 2))] [.int 0] (shA, IA, JA, QA) _
  exact mxRn.ret 3 (fun n => rfl)
set_option maxRecDepth 1000000 in
set_option maxHeartbeats 4000000 in
theorem p1_c4b (xs : Nat → Int32) (h_1 : (xs 1).toInt < 0) : mxOk 6 xs 33 [(0, .retAddr 2), (1, .ref 0), (2, .ref 9), (3, .int 0)] [.int 4] (shA, IA, JA, QA) := by
  refine mxOk.g2 6 0 (pc' := 243) (lv' := [(0, .retAddr 2), (1, .ref 0), (2, .ref 9), (3, .int 0)]) (st' := [.int 1, .retAddr 2, .ref 0]) (w' := (shA, IA, JA, QA)) (fun n => rfl) ?_
  refine mxOk.g2 6 0 (pc' := 249) (lv' := [(0, .retAddr 2), (1, .ref 0), (2, .ref 9), (3, .int 0)]) (st' := [.int (xs 2), .int (xs 1), .ref 0]) (w' := (shA, IA, JA, QA)) (fun n => rfl) ?_
  refine mxOk.c2 1 0 (z := 59) (lz := [(0, .ref 0), (1, .int (xs 1)), (2, .int (xs 2))]) (w1 := (shA, IA, JA, QA)) (pc' := 252) (lv' := [(0, .retAddr 2), (1, .ref 0), (2, .ref 9), (3, .int 0)]) (r := []) (fun n => rfl) (p1_c4b_z1 xs h_1) ?_
  show mxOk 6 xs 252 [(0, .retAddr 2), (1, .ref 0), (2, .ref 9), (3, .int 0)] [.int (-1)] (shA, IA, JA, QA)
  refine mxOk.g2 6 0 (pc' := 258) (lv' := [(0, .retAddr 2), (1, .ref 0), (2, .ref 9), (3, .int 0)]) (st' := [.int (xs 1), .ref 9, .int (-1)]) (w' := (shA, IA, JA, QA)) (fun n => rfl) ?_
  refine mxOk.c2 6 0 (z := 122) (lz := [(0, .ref 9), (1, .int (xs 1)), (2, .int (xs 2))]) (w1 := (shA, IA, JA, QA)) (pc' := 266) (lv' := [(0, .retAddr 2), (1, .ref 0), (2, .ref 9), (3, .int 0)]) (r := [.int (-1)]) (fun n => rfl) (p1_c4b_z2 xs h_1) ?_
  show mxOk 6 xs 266 [(0, .retAddr 2), (1, .ref 0), (2, .ref 9), (3, .int 0)] [.int (-1), .int (-1)] (shA, IA, JA, QA)
  refine mxOk.g2 6 0 (pc' := 21) (lv' := [(0, .retAddr 2), (1, .ref 0), (2, .ref 9), (3, .int 6)]) (st' := [.int 6, .int 6]) (w' := (shA, IA, JA, QA)) (fun n => rfl) ?_
  exact mxOk.ret 5 (w' := (shA, IA, JA, QA)) (fun n => rfl) (show shA.length ≤ 600000 from Nat.le_of_ble_eq_true rfl) (show (shA.map (fun q => q.2)).sum ≤ 7302250 from Nat.le_of_ble_eq_true rfl)
set_option maxRecDepth 1000000 in
set_option maxHeartbeats 4000000 in
theorem p1_c4a_z1 (xs : Nat → Int32) (h_1 : 6 < (xs 1).toInt) : mxRn 59 0 [(0, .ref 0), (1, .int (xs 1)), (2, .int (xs 2))] [] (shA, IA, JA, QA) (some (.int (-1)), (shA, IA, JA, QA)) := by
  refine mxRn.if2 2 0 (bb := Op.ifCond.holds .lt (xs 1)) (pc' := 4) (lv' := [(0, .ref 0), (1, .int (xs 1)), (2, .int (xs 2))]) (st' := []) (w' := (shA, IA, JA, QA)) (X := fun nf => mxev (nf + 0) 59 20 [(0, .ref 0), (1, .int (xs 1)), (2, .int (xs 2))] [] (shA, IA, JA, QA)) (fun n => rfl) (hd_lt_f (by omega)) ?_
  refine mxRn.it2 3 0 (bb := Op.if_icmp.holds .ge (xs 1) (7 : Int32)) (pc' := 20) (lv' := [(0, .ref 0), (1, .int (xs 1)), (2, .int (xs 2))]) (st' := []) (w' := (shA, IA, JA, QA)) (X := fun nf => mxev (nf + 0) 59 10 [(0, .ref 0), (1, .int (xs 1)), (2, .int (xs 2))] [] (shA, IA, JA, QA)) (fun n => rfl) (hc_ge_t 7 rfl (by omega)) ?_
  exact mxRn.ret 2 (fun n => rfl)
set_option maxRecDepth 1000000 in
set_option maxHeartbeats 4000000 in
theorem p1_c4a_z3 (xs : Nat → Int32) (h_1 : 6 < (xs 1).toInt) : mxRn 81 0 [(0, .int (xs 1)), (1, .int 0), (2, .int 6)] [] (shA, IA, JA, QA) (some (.int 0), (shA, IA, JA, QA)) := by
  refine mxRn.if2 3 0 (bb := Op.if_icmp.holds .lt (xs 1) (0 : Int32)) (pc' := 5) (lv' := [(0, .int (xs 1)), (1, .int 0), (2, .int 6)]) (st' := []) (w' := (shA, IA, JA, QA)) (X := fun nf => mxev (nf + 0) 81 14 [(0, .int (xs 1)), (1, .int 0), (2, .int 6)] [] (shA, IA, JA, QA)) (fun n => rfl) (hc_lt_f 0 rfl (by omega)) ?_
  refine mxRn.it2 3 0 (bb := Op.if_icmp.holds .gt (xs 1) (6 : Int32)) (pc' := 14) (lv' := [(0, .int (xs 1)), (1, .int 0), (2, .int 6)]) (st' := []) (w' := (shA, IA, JA, QA)) (X := fun nf => mxev (nf + 0) 81 10 [(0, .int (xs 1)), (1, .int 0), (2, .int 6)] [] (shA, IA, JA, QA)) (fun n => rfl) (hc_gt_t 6 rfl (by omega)) ?_
  exact mxRn.ret 2 (fun n => rfl)
set_option maxRecDepth 1000000 in
set_option maxHeartbeats 4000000 in
theorem p1_c4a_z2 (xs : Nat → Int32) (h_1 : 6 < (xs 1).toInt) : mxRn 122 0 [(0, .ref 9), (1, .int (xs 1)), (2, .int (xs 2))] [] (shA, IA, JA, QA) (some (.int (-1)), (shA, IA, JA, QA)) := by
  refine mxRn.c2 4 0 (z := 81) (lz := [(0, .int (xs 1)), (1, .int 0), (2, .int 6)]) (w1 := (shA, IA, JA, QA)) (pc' := 7) (lv' := [(0, .ref 9), (1, .int (xs 1)), (2, .int (xs 2))]) (r := []) (fun n => rfl) (p1_c4a_z3 xs h_1) ?_
  show mxRn 122 7 [(0, .ref 9), (1, .int (xs 1)), (2, .int (xs 2))] [.int 0] (shA, IA, JA, QA) _
  exact mxRn.ret 3 (fun n => rfl)
set_option maxRecDepth 1000000 in
set_option maxHeartbeats 4000000 in
theorem p1_c4a (xs : Nat → Int32) (h_1 : 6 < (xs 1).toInt) : mxOk 6 xs 33 [(0, .retAddr 2), (1, .ref 0), (2, .ref 9), (3, .int 0)] [.int 4] (shA, IA, JA, QA) := by
  refine mxOk.g2 6 0 (pc' := 243) (lv' := [(0, .retAddr 2), (1, .ref 0), (2, .ref 9), (3, .int 0)]) (st' := [.int 1, .retAddr 2, .ref 0]) (w' := (shA, IA, JA, QA)) (fun n => rfl) ?_
  refine mxOk.g2 6 0 (pc' := 249) (lv' := [(0, .retAddr 2), (1, .ref 0), (2, .ref 9), (3, .int 0)]) (st' := [.int (xs 2), .int (xs 1), .ref 0]) (w' := (shA, IA, JA, QA)) (fun n => rfl) ?_
  refine mxOk.c2 1 0 (z := 59) (lz := [(0, .ref 0), (1, .int (xs 1)), (2, .int (xs 2))]) (w1 := (shA, IA, JA, QA)) (pc' := 252) (lv' := [(0, .retAddr 2), (1, .ref 0), (2, .ref 9), (3, .int 0)]) (r := []) (fun n => rfl) (p1_c4a_z1 xs h_1) ?_
  show mxOk 6 xs 252 [(0, .retAddr 2), (1, .ref 0), (2, .ref 9), (3, .int 0)] [.int (-1)] (shA, IA, JA, QA)
  refine mxOk.g2 6 0 (pc' := 258) (lv' := [(0, .retAddr 2), (1, .ref 0), (2, .ref 9), (3, .int 0)]) (st' := [.int (xs 1), .ref 9, .int (-1)]) (w' := (shA, IA, JA, QA)) (fun n => rfl) ?_
  refine mxOk.c2 6 0 (z := 122) (lz := [(0, .ref 9), (1, .int (xs 1)), (2, .int (xs 2))]) (w1 := (shA, IA, JA, QA)) (pc' := 266) (lv' := [(0, .retAddr 2), (1, .ref 0), (2, .ref 9), (3, .int 0)]) (r := [.int (-1)]) (fun n => rfl) (p1_c4a_z2 xs h_1) ?_
  show mxOk 6 xs 266 [(0, .retAddr 2), (1, .ref 0), (2, .ref 9), (3, .int 0)] [.int (-1), .int (-1)] (shA, IA, JA, QA)
  refine mxOk.g2 6 0 (pc' := 21) (lv' := [(0, .retAddr 2), (1, .ref 0), (2, .ref 9), (3, .int 6)]) (st' := [.int 6, .int 6]) (w' := (shA, IA, JA, QA)) (fun n => rfl) ?_
  exact mxOk.ret 5 (w' := (shA, IA, JA, QA)) (fun n => rfl) (show shA.length ≤ 600000 from Nat.le_of_ble_eq_true rfl) (show (shA.map (fun q => q.2)).sum ≤ 7302250 from Nat.le_of_ble_eq_true rfl)
set_option maxRecDepth 1000000 in
set_option maxHeartbeats 4000000 in
theorem p1_c4v0b_z1 (xs : Nat → Int32) (h_1 : xs 1 = 0) (h_2 : (xs 2).toInt < 0) : mxRn 59 0 [(0, .ref 0), (1, .int 0), (2, .int (xs 2))] [] (shA, IA, JA, QA) (some (.int (-1)), (shA, IA, JA, QA)) := by
  refine mxRn.g2 6 0 (pc' := 11) (lv' := [(0, .ref 0), (1, .int 0), (2, .int (xs 2))]) (st' := [.int (xs 2)]) (w' := (shA, IA, JA, QA)) (fun n => rfl) ?_
  refine mxRn.it2 1 0 (bb := Op.ifCond.holds .lt (xs 2)) (pc' := 20) (lv' := [(0, .ref 0), (1, .int 0), (2, .int (xs 2))]) (st' := []) (w' := (shA, IA, JA, QA)) (X := fun nf => mxev (nf + 0) 59 14 [(0, .ref 0), (1, .int 0), (2, .int (xs 2))] [] (shA, IA, JA, QA)) (fun n => rfl) (hd_lt_t (by omega)) ?_
  exact mxRn.ret 2 (fun n => rfl)
set_option maxRecDepth 1000000 in
set_option maxHeartbeats 4000000 in
theorem p1_c4v0b_z3 (xs : Nat → Int32) (h_1 : xs 1 = 0) (h_2 : (xs 2).toInt < 0) : mxRn 81 0 [(0, .int 0), (1, .int 0), (2, .int 6)] [] (shA, IA, JA, QA) (some (.int 1), (shA, IA, JA, QA)) := by
  refine mxRn.g2 6 0 (pc' := 10) (lv' := [(0, .int 0), (1, .int 0), (2, .int 6)]) (st' := []) (w' := (shA, IA, JA, QA)) (fun n => rfl) ?_
  exact mxRn.ret 3 (fun n => rfl)
set_option maxRecDepth 1000000 in
set_option maxHeartbeats 4000000 in
theorem p1_c4v0b_z4 (xs : Nat → Int32) (h_1 : xs 1 = 0) (h_2 : (xs 2).toInt < 0) : mxRn 81 0 [(0, .int (xs 2)), (1, .int 0), (2, .int 99)] [] (shA, IA, JA, QA) (some (.int 0), (shA, IA, JA, QA)) := by
  refine mxRn.it2 3 0 (bb := Op.if_icmp.holds .lt (xs 2) (0 : Int32)) (pc' := 14) (lv' := [(0, .int (xs 2)), (1, .int 0), (2, .int 99)]) (st' := []) (w' := (shA, IA, JA, QA)) (X := fun nf => mxev (nf + 0) 81 5 [(0, .int (xs 2)), (1, .int 0), (2, .int 99)] [] (shA, IA, JA, QA)) (fun n => rfl) (hc_lt_t 0 rfl (by omega)) ?_
  exact mxRn.ret 2 (fun n => rfl)
set_option maxRecDepth 1000000 in
set_option maxHeartbeats 4000000 in
theorem p1_c4v0b_z2 (xs : Nat → Int32) (h_1 : xs 1 = 0) (h_2 : (xs 2).toInt < 0) : mxRn 122 0 [(0, .ref 9), (1, .int 0), (2, .int (xs 2))] [] (shA, IA, JA, QA) (some (.int (-1)), (shA, IA, JA, QA)) := by
  refine mxRn.c2 4 0 (z := 81) (lz := [(0, .int 0), (1, .int 0), (2, .int 6)]) (w1 := (shA, IA, JA, QA)) (pc' := 7) (lv' := [(0, .ref 9), (1, .int 0), (2, .int (xs 2))]) (r := []) (fun n => rfl) (p1_c4v0b_z3 xs h_1 h_2) ?_
  show mxRn 122 7 [(0, .ref 9), (1, .int 0), (2, .int (xs 2))] [.int 1] (shA, IA, JA, QA) _
  refine mxRn.c2 5 0 (z := 81) (lz := [(0, .int (xs 2)), (1, .int 0), (2, .int 99)]) (w1 := (shA, IA, JA, QA)) (pc' := 17) (lv' := [(0, .ref 9), (1, .int 0), (2, .int (xs 2))]) (r := []) (fun n => rfl) (p1_c4v0b_z4 xs h_1 h_2) ?_
  show mxRn 122 17 [(0, .ref 9), (1, .int 0), (2, .int (xs 2))] [.int 0] (shA, IA, JA, QA) _
  exact mxRn.ret 3 (fun n => rfl)
set_option maxRecDepth 1000000 in
set_option maxHeartbeats 4000000 in
theorem p1_c4v0b (xs : Nat → Int32) (h_1 : xs 1 = 0) (h_2 : (xs 2).toInt < 0) : mxOk 6 xs 33 [(0, .retAddr 2), (1, .ref 0), (2, .ref 9), (3, .int 0)] [.int 4] (shA, IA, JA, QA) := by
  refine mxOk.g2 6 0 (pc' := 243) (lv' := [(0, .retAddr 2), (1, .ref 0), (2, .ref 9), (3, .int 0)]) (st' := [.int 1, .retAddr 2, .ref 0]) (w' := (shA, IA, JA, QA)) (fun n => rfl) ?_
  refine mxOk.g2 1 0 (pc' := 244) (lv' := [(0, .retAddr 2), (1, .ref 0), (2, .ref 9), (3, .int 0)]) (st' := [.int (xs 1), .ref 0]) (w' := (shA, IA, JA, QA)) (fun n => rfl) ?_
  rw [h_1]
  refine mxOk.c2 6 0 (z := 59) (lz := [(0, .ref 0), (1, .int 0), (2, .int (xs 2))]) (w1 := (shA, IA, JA, QA)) (pc' := 252) (lv' := [(0, .retAddr 2), (1, .ref 0), (2, .ref 9), (3, .int 0)]) (r := []) (fun n => rfl) (p1_c4v0b_z1 xs h_1 h_2) ?_
  show mxOk 6 xs 252 [(0, .retAddr 2), (1, .ref 0), (2, .ref 9), (3, .int 0)] [.int (-1)] (shA, IA, JA, QA)
  refine mxOk.g2 6 0 (pc' := 258) (lv' := [(0, .retAddr 2), (1, .ref 0), (2, .ref 9), (3, .int 0)]) (st' := [.int (xs 1), .ref 9, .int (-1)]) (w' := (shA, IA, JA, QA)) (fun n => rfl) ?_
  rw [h_1]
  refine mxOk.c2 6 0 (z := 122) (lz := [(0, .ref 9), (1, .int 0), (2, .int (xs 2))]) (w1 := (shA, IA, JA, QA)) (pc' := 266) (lv' := [(0, .retAddr 2), (1, .ref 0), (2, .ref 9), (3, .int 0)]) (r := [.int (-1)]) (fun n => rfl) (p1_c4v0b_z2 xs h_1 h_2) ?_
  show mxOk 6 xs 266 [(0, .retAddr 2), (1, .ref 0), (2, .ref 9), (3, .int 0)] [.int (-1), .int (-1)] (shA, IA, JA, QA)
  refine mxOk.g2 6 0 (pc' := 21) (lv' := [(0, .retAddr 2), (1, .ref 0), (2, .ref 9), (3, .int 6)]) (st' := [.int 6, .int 6]) (w' := (shA, IA, JA, QA)) (fun n => rfl) ?_
  exact mxOk.ret 5 (w' := (shA, IA, JA, QA)) (fun n => rfl) (show shA.length ≤ 600000 from Nat.le_of_ble_eq_true rfl) (show (shA.map (fun q => q.2)).sum ≤ 7302250 from Nat.le_of_ble_eq_true rfl)
set_option maxRecDepth 1000000 in
set_option maxHeartbeats 4000000 in
theorem p1_c4v0a_z1 (xs : Nat → Int32) (h_1 : xs 1 = 0) (h_2 : 99 < (xs 2).toInt) : mxRn 59 0 [(0, .ref 0), (1, .int 0), (2, .int (xs 2))] [] (shA, IA, JA, QA) (some (.int (-1)), (shA, IA, JA, QA)) := by
  refine mxRn.g2 6 0 (pc' := 11) (lv' := [(0, .ref 0), (1, .int 0), (2, .int (xs 2))]) (st' := [.int (xs 2)]) (w' := (shA, IA, JA, QA)) (fun n => rfl) ?_
  refine mxRn.if2 1 0 (bb := Op.ifCond.holds .lt (xs 2)) (pc' := 14) (lv' := [(0, .ref 0), (1, .int 0), (2, .int (xs 2))]) (st' := []) (w' := (shA, IA, JA, QA)) (X := fun nf => mxev (nf + 0) 59 20 [(0, .ref 0), (1, .int 0), (2, .int (xs 2))] [] (shA, IA, JA, QA)) (fun n => rfl) (hd_lt_f (by omega)) ?_
  refine mxRn.if2 3 0 (bb := Op.if_icmp.holds .le (xs 2) (99 : Int32)) (pc' := 20) (lv' := [(0, .ref 0), (1, .int 0), (2, .int (xs 2))]) (st' := []) (w' := (shA, IA, JA, QA)) (X := fun nf => mxev (nf + 0) 59 22 [(0, .ref 0), (1, .int 0), (2, .int (xs 2))] [] (shA, IA, JA, QA)) (fun n => rfl) (hc_le_f 99 rfl (by omega)) ?_
  exact mxRn.ret 2 (fun n => rfl)
set_option maxRecDepth 1000000 in
set_option maxHeartbeats 4000000 in
theorem p1_c4v0a_z3 (xs : Nat → Int32) (h_1 : xs 1 = 0) (h_2 : 99 < (xs 2).toInt) : mxRn 81 0 [(0, .int 0), (1, .int 0), (2, .int 6)] [] (shA, IA, JA, QA) (some (.int 1), (shA, IA, JA, QA)) := by
  refine mxRn.g2 6 0 (pc' := 10) (lv' := [(0, .int 0), (1, .int 0), (2, .int 6)]) (st' := []) (w' := (shA, IA, JA, QA)) (fun n => rfl) ?_
  exact mxRn.ret 3 (fun n => rfl)
set_option maxRecDepth 1000000 in
set_option maxHeartbeats 4000000 in
theorem p1_c4v0a_z4 (xs : Nat → Int32) (h_1 : xs 1 = 0) (h_2 : 99 < (xs 2).toInt) : mxRn 81 0 [(0, .int (xs 2)), (1, .int 0), (2, .int 99)] [] (shA, IA, JA, QA) (some (.int 0), (shA, IA, JA, QA)) := by
  refine mxRn.if2 3 0 (bb := Op.if_icmp.holds .lt (xs 2) (0 : Int32)) (pc' := 5) (lv' := [(0, .int (xs 2)), (1, .int 0), (2, .int 99)]) (st' := []) (w' := (shA, IA, JA, QA)) (X := fun nf => mxev (nf + 0) 81 14 [(0, .int (xs 2)), (1, .int 0), (2, .int 99)] [] (shA, IA, JA, QA)) (fun n => rfl) (hc_lt_f 0 rfl (by omega)) ?_
  refine mxRn.it2 3 0 (bb := Op.if_icmp.holds .gt (xs 2) (99 : Int32)) (pc' := 14) (lv' := [(0, .int (xs 2)), (1, .int 0), (2, .int 99)]) (st' := []) (w' := (shA, IA, JA, QA)) (X := fun nf => mxev (nf + 0) 81 10 [(0, .int (xs 2)), (1, .int 0), (2, .int 99)] [] (shA, IA, JA, QA)) (fun n => rfl) (hc_gt_t 99 rfl (by omega)) ?_
  exact mxRn.ret 2 (fun n => rfl)
set_option maxRecDepth 1000000 in
set_option maxHeartbeats 4000000 in
theorem p1_c4v0a_z2 (xs : Nat → Int32) (h_1 : xs 1 = 0) (h_2 : 99 < (xs 2).toInt) : mxRn 122 0 [(0, .ref 9), (1, .int 0), (2, .int (xs 2))] [] (shA, IA, JA, QA) (some (.int (-1)), (shA, IA, JA, QA)) := by
  refine mxRn.c2 4 0 (z := 81) (lz := [(0, .int 0), (1, .int 0), (2, .int 6)]) (w1 := (shA, IA, JA, QA)) (pc' := 7) (lv' := [(0, .ref 9), (1, .int 0), (2, .int (xs 2))]) (r := []) (fun n => rfl) (p1_c4v0a_z3 xs h_1 h_2) ?_
  show mxRn 122 7 [(0, .ref 9), (1, .int 0), (2, .int (xs 2))] [.int 1] (shA, IA, JA, QA) _
  refine mxRn.c2 5 0 (z := 81) (lz := [(0, .int (xs 2)), (1, .int 0), (2, .int 99)]) (w1 := (shA, IA, JA, QA)) (pc' := 17) (lv' := [(0, .ref 9), (1, .int 0), (2, .int (xs 2))]) (r := []) (fun n => rfl) (p1_c4v0a_z4 xs h_1 h_2) ?_
  show mxRn 122 17 [(0, .ref 9), (1, .int 0), (2, .int (xs 2))] [.int 0] (shA, IA, JA, QA) _
  exact mxRn.ret 3 (fun n => rfl)
set_option maxRecDepth 1000000 in
set_option maxHeartbeats 4000000 in
theorem p1_c4v0a (xs : Nat → Int32) (h_1 : xs 1 = 0) (h_2 : 99 < (xs 2).toInt) : mxOk 6 xs 33 [(0, .retAddr 2), (1, .ref 0), (2, .ref 9), (3, .int 0)] [.int 4] (shA, IA, JA, QA) := by
  refine mxOk.g2 6 0 (pc' := 243) (lv' := [(0, .retAddr 2), (1, .ref 0), (2, .ref 9), (3, .int 0)]) (st' := [.int 1, .retAddr 2, .ref 0]) (w' := (shA, IA, JA, QA)) (fun n => rfl) ?_
  refine mxOk.g2 1 0 (pc' := 244) (lv' := [(0, .retAddr 2), (1, .ref 0), (2, .ref 9), (3, .int 0)]) (st' := [.int (xs 1), .ref 0]) (w' := (shA, IA, JA, QA)) (fun n => rfl) ?_
  rw [h_1]
  refine mxOk.c2 6 0 (z := 59) (lz := [(0, .ref 0), (1, .int 0), (2, .int (xs 2))]) (w1 := (shA, IA, JA, QA)) (pc' := 252) (lv' := [(0, .retAddr 2), (1, .ref 0), (2, .ref 9), (3, .int 0)]) (r := []) (fun n => rfl) (p1_c4v0a_z1 xs h_1 h_2) ?_
  show mxOk 6 xs 252 [(0, .retAddr 2), (1, .ref 0), (2, .ref 9), (3, .int 0)] [.int (-1)] (shA, IA, JA, QA)
  refine mxOk.g2 6 0 (pc' := 258) (lv' := [(0, .retAddr 2), (1, .ref 0), (2, .ref 9), (3, .int 0)]) (st' := [.int (xs 1), .ref 9, .int (-1)]) (w' := (shA, IA, JA, QA)) (fun n => rfl) ?_
  rw [h_1]
  refine mxOk.c2 6 0 (z := 122) (lz := [(0, .ref 9), (1, .int 0), (2, .int (xs 2))]) (w1 := (shA, IA, JA, QA)) (pc' := 266) (lv' := [(0, .retAddr 2), (1, .ref 0), (2, .ref 9), (3, .int 0)]) (r := [.int (-1)]) (fun n => rfl) (p1_c4v0a_z2 xs h_1 h_2) ?_
  show mxOk 6 xs 266 [(0, .retAddr 2), (1, .ref 0), (2, .ref 9), (3, .int 0)] [.int (-1), .int (-1)] (shA, IA, JA, QA)
  refine mxOk.g2 6 0 (pc' := 21) (lv' := [(0, .retAddr 2), (1, .ref 0), (2, .ref 9), (3, .int 6)]) (st' := [.int 6, .int 6]) (w' := (shA, IA, JA, QA)) (fun n => rfl) ?_
  exact mxOk.ret 5 (w' := (shA, IA, JA, QA)) (fun n => rfl) (show shA.length ≤ 600000 from Nat.le_of_ble_eq_true rfl) (show (shA.map (fun q => q.2)).sum ≤ 7302250 from Nat.le_of_ble_eq_true rfl)
set_option maxRecDepth 1000000 in
set_option maxHeartbeats 4000000 in
theorem p1_c4v0s_z1 (xs : Nat → Int32) (h_1 : xs 1 = 0) (h_2 : 0 ≤ (xs 2).toInt ∧ (xs 2).toInt ≤ 99) : mxRn 59 0 [(0, .ref 0), (1, .int 0), (2, .int (xs 2))] [] (shA, IA, JA, QA) (some (.int 1), (shA, (mxI IA 4 0 (xs 2)), JA, QA)) := by
  refine mxRn.g2 6 0 (pc' := 11) (lv' := [(0, .ref 0), (1, .int 0), (2, .int (xs 2))]) (st' := [.int (xs 2)]) (w' := (shA, IA, JA, QA)) (fun n => rfl) ?_
  refine mxRn.if2 1 0 (bb := Op.ifCond.holds .lt (xs 2)) (pc' := 14) (lv' := [(0, .ref 0), (1, .int 0), (2, .int (xs 2))]) (st' := []) (w' := (shA, IA, JA, QA)) (X := fun nf => mxev (nf + 0) 59 20 [(0, .ref 0), (1, .int 0), (2, .int (xs 2))] [] (shA, IA, JA, QA)) (fun n => rfl) (hd_lt_f (by omega)) ?_
  refine mxRn.it2 3 0 (bb := Op.if_icmp.holds .le (xs 2) (99 : Int32)) (pc' := 22) (lv' := [(0, .ref 0), (1, .int 0), (2, .int (xs 2))]) (st' := []) (w' := (shA, IA, JA, QA)) (X := fun nf => mxev (nf + 0) 59 20 [(0, .ref 0), (1, .int 0), (2, .int (xs 2))] [] (shA, IA, JA, QA)) (fun n => rfl) (hc_le_t 99 rfl (by omega)) ?_
  refine mxRn.g2 6 0 (pc' := 30) (lv' := [(0, .ref 0), (1, .int 0), (2, .int (xs 2)), (3, .int 1)]) (st' := [.ref 0]) (w' := (shA, IA, JA, QA)) (fun n => rfl) ?_
  exact mxRn.ret 6 (fun n => rfl)
set_option maxRecDepth 1000000 in
set_option maxHeartbeats 4000000 in
theorem p1_c4v0s_z3 (xs : Nat → Int32) (h_1 : xs 1 = 0) (h_2 : 0 ≤ (xs 2).toInt ∧ (xs 2).toInt ≤ 99) : mxRn 81 0 [(0, .int 0), (1, .int 0), (2, .int 6)] [] (shA, (mxI IA 4 0 (xs 2)), JA, QA) (some (.int 1), (shA, (mxI IA 4 0 (xs 2)), JA, QA)) := by
  refine mxRn.g2 6 0 (pc' := 10) (lv' := [(0, .int 0), (1, .int 0), (2, .int 6)]) (st' := []) (w' := (shA, (mxI IA 4 0 (xs 2)), JA, QA)) (fun n => rfl) ?_
  exact mxRn.ret 3 (fun n => rfl)
set_option maxRecDepth 1000000 in
set_option maxHeartbeats 4000000 in
theorem p1_c4v0s_z4 (xs : Nat → Int32) (h_1 : xs 1 = 0) (h_2 : 0 ≤ (xs 2).toInt ∧ (xs 2).toInt ≤ 99) : mxRn 81 0 [(0, .int (xs 2)), (1, .int 0), (2, .int 99)] [] (shA, (mxI IA 4 0 (xs 2)), JA, QA) (some (.int 1), (shA, (mxI IA 4 0 (xs 2)), JA, QA)) := by
  refine mxRn.if2 3 0 (bb := Op.if_icmp.holds .lt (xs 2) (0 : Int32)) (pc' := 5) (lv' := [(0, .int (xs 2)), (1, .int 0), (2, .int 99)]) (st' := []) (w' := (shA, (mxI IA 4 0 (xs 2)), JA, QA)) (X := fun nf => mxev (nf + 0) 81 14 [(0, .int (xs 2)), (1, .int 0), (2, .int 99)] [] (shA, (mxI IA 4 0 (xs 2)), JA, QA)) (fun n => rfl) (hc_lt_f 0 rfl (by omega)) ?_
  refine mxRn.if2 3 0 (bb := Op.if_icmp.holds .gt (xs 2) (99 : Int32)) (pc' := 10) (lv' := [(0, .int (xs 2)), (1, .int 0), (2, .int 99)]) (st' := []) (w' := (shA, (mxI IA 4 0 (xs 2)), JA, QA)) (X := fun nf => mxev (nf + 0) 81 14 [(0, .int (xs 2)), (1, .int 0), (2, .int 99)] [] (shA, (mxI IA 4 0 (xs 2)), JA, QA)) (fun n => rfl) (hc_gt_f 99 rfl (by omega)) ?_
  exact mxRn.ret 3 (fun n => rfl)
set_option maxRecDepth 1000000 in
set_option maxHeartbeats 4000000 in
theorem p1_c4v0s_z2 (xs : Nat → Int32) (h_1 : xs 1 = 0) (h_2 : 0 ≤ (xs 2).toInt ∧ (xs 2).toInt ≤ 99) : mxRn 122 0 [(0, .ref 9), (1, .int 0), (2, .int (xs 2))] [] (shA, (mxI IA 4 0 (xs 2)), JA, QA) (some (.int 1), (shA, (mxI (mxI IA 4 0 (xs 2)) 27 0 (xs 2)), JA, QA)) := by
  refine mxRn.c2 4 0 (z := 81) (lz := [(0, .int 0), (1, .int 0), (2, .int 6)]) (w1 := (shA, (mxI IA 4 0 (xs 2)), JA, QA)) (pc' := 7) (lv' := [(0, .ref 9), (1, .int 0), (2, .int (xs 2))]) (r := []) (fun n => rfl) (p1_c4v0s_z3 xs h_1 h_2) ?_
  show mxRn 122 7 [(0, .ref 9), (1, .int 0), (2, .int (xs 2))] [.int 1] (shA, (mxI IA 4 0 (xs 2)), JA, QA) _
  refine mxRn.c2 5 0 (z := 81) (lz := [(0, .int (xs 2)), (1, .int 0), (2, .int 99)]) (w1 := (shA, (mxI IA 4 0 (xs 2)), JA, QA)) (pc' := 17) (lv' := [(0, .ref 9), (1, .int 0), (2, .int (xs 2))]) (r := []) (fun n => rfl) (p1_c4v0s_z4 xs h_1 h_2) ?_
  show mxRn 122 17 [(0, .ref 9), (1, .int 0), (2, .int (xs 2))] [.int 1] (shA, (mxI IA 4 0 (xs 2)), JA, QA) _
  refine mxRn.g2 6 0 (pc' := 29) (lv' := [(0, .ref 9), (1, .int 0), (2, .int (xs 2)), (3, .int 1)]) (st' := []) (w' := (shA, (mxI IA 4 0 (xs 2)), JA, QA)) (fun n => rfl) ?_
  refine mxRn.g2 6 0 (pc' := 37) (lv' := [(0, .ref 9), (1, .int 0), (2, .int (xs 2)), (3, .int 1)]) (st' := [.int 1]) (w' := (shA, (mxI (mxI IA 4 0 (xs 2)) 27 0 (xs 2)), JA, QA)) (fun n => rfl) ?_
  exact mxRn.ret 1 (fun n => rfl)
set_option maxRecDepth 1000000 in
set_option maxHeartbeats 4000000 in
theorem p1_c4v0s (xs : Nat → Int32) (h_1 : xs 1 = 0) (h_2 : 0 ≤ (xs 2).toInt ∧ (xs 2).toInt ≤ 99) : mxOk 6 xs 33 [(0, .retAddr 2), (1, .ref 0), (2, .ref 9), (3, .int 0)] [.int 4] (shA, IA, JA, QA) := by
  refine mxOk.g2 6 0 (pc' := 243) (lv' := [(0, .retAddr 2), (1, .ref 0), (2, .ref 9), (3, .int 0)]) (st' := [.int 1, .retAddr 2, .ref 0]) (w' := (shA, IA, JA, QA)) (fun n => rfl) ?_
  refine mxOk.g2 1 0 (pc' := 244) (lv' := [(0, .retAddr 2), (1, .ref 0), (2, .ref 9), (3, .int 0)]) (st' := [.int (xs 1), .ref 0]) (w' := (shA, IA, JA, QA)) (fun n => rfl) ?_
  rw [h_1]
  refine mxOk.c2 6 0 (z := 59) (lz := [(0, .ref 0), (1, .int 0), (2, .int (xs 2))]) (w1 := (shA, IA, JA, QA)) (pc' := 252) (lv' := [(0, .retAddr 2), (1, .ref 0), (2, .ref 9), (3, .int 0)]) (r := []) (fun n => rfl) (p1_c4v0s_z1 xs h_1 h_2) ?_
  show mxOk 6 xs 252 [(0, .retAddr 2), (1, .ref 0), (2, .ref 9), (3, .int 0)] [.int 1] (shA, (mxI IA 4 0 (xs 2)), JA, QA)
  refine mxOk.g2 6 0 (pc' := 258) (lv' := [(0, .retAddr 2), (1, .ref 0), (2, .ref 9), (3, .int 0)]) (st' := [.int (xs 1), .ref 9, .int 1]) (w' := (shA, (mxI IA 4 0 (xs 2)), JA, QA)) (fun n => rfl) ?_
  rw [h_1]
  refine mxOk.c2 6 0 (z := 122) (lz := [(0, .ref 9), (1, .int 0), (2, .int (xs 2))]) (w1 := (shA, (mxI IA 4 0 (xs 2)), JA, QA)) (pc' := 266) (lv' := [(0, .retAddr 2), (1, .ref 0), (2, .ref 9), (3, .int 0)]) (r := [.int 1]) (fun n => rfl) (p1_c4v0s_z2 xs h_1 h_2) ?_
  show mxOk 6 xs 266 [(0, .retAddr 2), (1, .ref 0), (2, .ref 9), (3, .int 0)] [.int 1, .int 1] (shA, (mxI (mxI IA 4 0 (xs 2)) 27 0 (xs 2)), JA, QA)
  refine mxOk.g2 6 0 (pc' := 21) (lv' := [(0, .retAddr 2), (1, .ref 0), (2, .ref 9), (3, .int 6)]) (st' := [.int 6, .int 6]) (w' := (shA, (mxI (mxI IA 4 0 (xs 2)) 27 0 (xs 2)), JA, QA)) (fun n => rfl) ?_
  exact mxOk.ret 5 (w' := (shA, (mxI (mxI IA 4 0 (xs 2)) 27 0 (xs 2)), JA, QA)) (fun n => rfl) (show shA.length ≤ 600000 from Nat.le_of_ble_eq_true rfl) (show (shA.map (fun q => q.2)).sum ≤ 7302250 from Nat.le_of_ble_eq_true rfl)
