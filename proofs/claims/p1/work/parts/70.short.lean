set_option maxRecDepth 1000000 in
set_option maxHeartbeats 4000000 in
theorem p1_L0 (xs : Nat → Int32) : mxOk 0 xs 18 [(0, .retAddr 2), (1, .ref 0), (2, .ref 9), (3, .int 0)] [] (shA, IA, JA, QA) := by
  refine mxOk.g2 6 0 (pc' := 633) (lv' := [(0, .retAddr 2), (1, .ref 0), (2, .ref 9), (3, .int 0)]) (st' := []) (w' := (shA, IA, JA, QA)) (fun n => rfl) ?_
  exact mxOk.ret 2 (w' := (shA, IA, JA, QA)) (fun n => rfl) (show shA.length ≤ 600000 from Nat.le_of_ble_eq_true rfl) (show (shA.map (fun q => q.2)).sum ≤ 7302250 from Nat.le_of_ble_eq_true rfl)
set_option maxRecDepth 1000000 in
set_option maxHeartbeats 4000000 in
theorem p1_L1 (xs : Nat → Int32) : mxOk 1 xs 18 [(0, .retAddr 2), (1, .ref 0), (2, .ref 9), (3, .int 0)] [] (shA, IA, JA, QA) := by
  refine mxOk.g2 6 0 (pc' := 633) (lv' := [(0, .retAddr 2), (1, .ref 0), (2, .ref 9), (3, .int 0)]) (st' := []) (w' := (shA, IA, JA, QA)) (fun n => rfl) ?_
  exact mxOk.ret 2 (w' := (shA, IA, JA, QA)) (fun n => rfl) (show shA.length ≤ 600000 from Nat.le_of_ble_eq_true rfl) (show (shA.map (fun q => q.2)).sum ≤ 7302250 from Nat.le_of_ble_eq_true rfl)
set_option maxRecDepth 1000000 in
set_option maxHeartbeats 4000000 in
theorem p1_L2 (xs : Nat → Int32) : mxOk 2 xs 18 [(0, .retAddr 2), (1, .ref 0), (2, .ref 9), (3, .int 0)] [] (shA, IA, JA, QA) := by
  refine mxOk.g2 6 0 (pc' := 633) (lv' := [(0, .retAddr 2), (1, .ref 0), (2, .ref 9), (3, .int 0)]) (st' := []) (w' := (shA, IA, JA, QA)) (fun n => rfl) ?_
  exact mxOk.ret 2 (w' := (shA, IA, JA, QA)) (fun n => rfl) (show shA.length ≤ 600000 from Nat.le_of_ble_eq_true rfl) (show (shA.map (fun q => q.2)).sum ≤ 7302250 from Nat.le_of_ble_eq_true rfl)
set_option maxRecDepth 1000000 in
set_option maxHeartbeats 4000000 in
theorem p1_L3 (xs : Nat → Int32) : mxOk 3 xs 18 [(0, .retAddr 2), (1, .ref 0), (2, .ref 9), (3, .int 0)] [] (shA, IA, JA, QA) := by
  refine mxOk.g2 6 0 (pc' := 633) (lv' := [(0, .retAddr 2), (1, .ref 0), (2, .ref 9), (3, .int 0)]) (st' := []) (w' := (shA, IA, JA, QA)) (fun n => rfl) ?_
  exact mxOk.ret 2 (w' := (shA, IA, JA, QA)) (fun n => rfl) (show shA.length ≤ 600000 from Nat.le_of_ble_eq_true rfl) (show (shA.map (fun q => q.2)).sum ≤ 7302250 from Nat.le_of_ble_eq_true rfl)
set_option maxRecDepth 1000000 in
set_option maxHeartbeats 4000000 in
theorem p1_L4 (xs : Nat → Int32) : mxOk 4 xs 18 [(0, .retAddr 2), (1, .ref 0), (2, .ref 9), (3, .int 0)] [] (shA, IA, JA, QA) := by
  refine mxOk.g2 6 0 (pc' := 633) (lv' := [(0, .retAddr 2), (1, .ref 0), (2, .ref 9), (3, .int 0)]) (st' := []) (w' := (shA, IA, JA, QA)) (fun n => rfl) ?_
  exact mxOk.ret 2 (w' := (shA, IA, JA, QA)) (fun n => rfl) (show shA.length ≤ 600000 from Nat.le_of_ble_eq_true rfl) (show (shA.map (fun q => q.2)).sum ≤ 7302250 from Nat.le_of_ble_eq_true rfl)
set_option maxRecDepth 1000000 in
set_option maxHeartbeats 4000000 in
theorem p1_L5 (xs : Nat → Int32) : mxOk 5 xs 18 [(0, .retAddr 2), (1, .ref 0), (2, .ref 9), (3, .int 0)] [] (shA, IA, JA, QA) := by
  refine mxOk.g2 6 0 (pc' := 633) (lv' := [(0, .retAddr 2), (1, .ref 0), (2, .ref 9), (3, .int 0)]) (st' := []) (w' := (shA, IA, JA, QA)) (fun n => rfl) ?_
  exact mxOk.ret 2 (w' := (shA, IA, JA, QA)) (fun n => rfl) (show shA.length ≤ 600000 from Nat.le_of_ble_eq_true rfl) (show (shA.map (fun q => q.2)).sum ≤ 7302250 from Nat.le_of_ble_eq_true rfl)
