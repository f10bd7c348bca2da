set_option maxRecDepth 1000000 in
set_option maxHeartbeats 4000000 in
theorem r_start (ex : List (Nat × Nat)) (I : Nat → Nat → Int32) (J : Nat → Nat → Int64) (ln ki : Int32) (I1 : Nat → Nat → Int32) (J1 : Nat → Nat → Int64) (Hz : mxRn 16 0 [(0, .ref 28)] [] (shS ex, I, J, QS) (none, (shS ex, I1, J1, QS))) (I2 : Nat → Nat → Int32) (J2 : Nat → Nat → Int64) (Hy : mxRn 19 0 [(0, .ref 28), (1, .long 0), (3, .int 0)] [] (shS ex, I1, J1, QS) (none, (shS ex, I2, J2, QS))) {res : mxR} (H : mxRn 15 16 [(0, .ref 28), (1, .ref 3), (2, .int (ln)), (3, .int (ki)), (4, .int 0), (5, .int 0)] [] (shS ex, I2, J2, QS) res) : mxRn 15 0 [(0, .ref 28), (1, .ref 3), (2, .int (ln)), (3, .int (ki))] [] (shS ex, I, J, QS) res := by
  refine mxRn.c2 2 0 (z := 16) (lz := [(0, .ref 28)]) (w1 := (shS ex, I, J, QS)) (pc' := 4) (lv' := [(0, .ref 28), (1, .ref 3), (2, .int (ln)), (3, .int (ki))]) (r := []) (fun n => rfl) (Hz) ?_
  show mxRn 15 4 [(0, .ref 28), (1, .ref 3), (2, .int (ln)), (3, .int (ki))] [] (shS ex, I1, J1, QS) _
  refine mxRn.c2 4 0 (z := 19) (lz := [(0, .ref 28), (1, .long 0), (3, .int 0)]) (w1 := (shS ex, I1, J1, QS)) (pc' := 10) (lv' := [(0, .ref 28), (1, .ref 3), (2, .int (ln)), (3, .int (ki))]) (r := []) (fun n => rfl) (Hy) ?_
  show mxRn 15 10 [(0, .ref 28), (1, .ref 3), (2, .int (ln)), (3, .int (ki))] [] (shS ex, I2, J2, QS) _
  refine mxRn.g2 4 0 (pc' := 16) (lv' := [(0, .ref 28), (1, .ref 3), (2, .int (ln)), (3, .int (ki)), (4, .int 0), (5, .int 0)]) (st' := []) (w' := (shS ex, I2, J2, QS)) (fun n => rfl) ?_
  exact H
set_option maxRecDepth 1000000 in
set_option maxHeartbeats 4000000 in
theorem r_end0 (ex : List (Nat × Nat)) (I : Nat → Nat → Int32) (J : Nat → Nat → Int64) (ln ki : Int32) (fi dn : Int32) (h0 : Op.if_icmp.holds .ge (dn) (ln) = true) : mxRn 15 16 [(0, .ref 28), (1, .ref 3), (2, .int (ln)), (3, .int (ki)), (4, .int (fi)), (5, .int (dn))] [] (shS ex, I, J, QS) (some (.int 0), (shS ex, I, J, QS)) := by
  refine mxRn.it2 3 0 (bb := Op.if_icmp.holds .ge (dn) (ln)) (pc' := 79) (lv' := [(0, .ref 28), (1, .ref 3), (2, .int (ln)), (3, .int (ki)), (4, .int (fi)), (5, .int (dn))]) (st' := []) (w' := (shS ex, I, J, QS)) (X := fun nf => mxev (nf + 0) 15 22 [(0, .ref 28), (1, .ref 3), (2, .int (ln)), (3, .int (ki)), (4, .int (fi)), (5, .int (dn))] [] (shS ex, I, J, QS)) (fun n => rfl) h0 ?_
  exact mxRn.ret 2 (fun n => rfl)
set_option maxRecDepth 1000000 in
set_option maxHeartbeats 4000000 in
theorem r_in0 (ex : List (Nat × Nat)) (I : Nat → Nat → Int32) (J : Nat → Nat → Int64) (ln ki : Int32) (fi dn : Int32) (h0 : Op.if_icmp.holds .ge (dn) (ln) = false) {res : mxR} (H : mxRn 15 28 [(0, .ref 28), (1, .ref 3), (2, .int (ln)), (3, .int (ki)), (4, .int (fi)), (5, .int (dn)), (6, .int (I 28 4))] [] (shS ex, I, J, QS) res) : mxRn 15 16 [(0, .ref 28), (1, .ref 3), (2, .int (ln)), (3, .int (ki)), (4, .int (fi)), (5, .int (dn))] [] (shS ex, I, J, QS) res := by
  refine mxRn.if2 3 0 (bb := Op.if_icmp.holds .ge (dn) (ln)) (pc' := 22) (lv' := [(0, .ref 28), (1, .ref 3), (2, .int (ln)), (3, .int (ki)), (4, .int (fi)), (5, .int (dn))]) (st' := []) (w' := (shS ex, I, J, QS)) (X := fun nf => mxev (nf + 0) 15 79 [(0, .ref 28), (1, .ref 3), (2, .int (ln)), (3, .int (ki)), (4, .int (fi)), (5, .int (dn))] [] (shS ex, I, J, QS)) (fun n => rfl) h0 ?_
  refine mxRn.g2 3 0 (pc' := 28) (lv' := [(0, .ref 28), (1, .ref 3), (2, .int (ln)), (3, .int (ki)), (4, .int (fi)), (5, .int (dn)), (6, .int (I 28 4))]) (st' := []) (w' := (shS ex, I, J, QS)) (fun n => rfl) ?_
  exact H
set_option maxRecDepth 1000000 in
set_option maxHeartbeats 4000000 in
theorem r_end1 (ex : List (Nat × Nat)) (I : Nat → Nat → Int32) (J : Nat → Nat → Int64) (ln ki : Int32) (fi dn : Int32) (bo : Int32) (h0 : Op.if_icmp.holds .ge (dn) (ln) = true) : mxRn 15 16 [(0, .ref 28), (1, .ref 3), (2, .int (ln)), (3, .int (ki)), (4, .int (fi)), (5, .int (dn)), (6, .int (bo))] [] (shS ex, I, J, QS) (some (.int 0), (shS ex, I, J, QS)) := by
  refine mxRn.it2 3 0 (bb := Op.if_icmp.holds .ge (dn) (ln)) (pc' := 79) (lv' := [(0, .ref 28), (1, .ref 3), (2, .int (ln)), (3, .int (ki)), (4, .int (fi)), (5, .int (dn)), (6, .int (bo))]) (st' := []) (w' := (shS ex, I, J, QS)) (X := fun nf => mxev (nf + 0) 15 22 [(0, .ref 28), (1, .ref 3), (2, .int (ln)), (3, .int (ki)), (4, .int (fi)), (5, .int (dn)), (6, .int (bo))] [] (shS ex, I, J, QS)) (fun n => rfl) h0 ?_
  exact mxRn.ret 2 (fun n => rfl)
set_option maxRecDepth 1000000 in
set_option maxHeartbeats 4000000 in
theorem r_in1 (ex : List (Nat × Nat)) (I : Nat → Nat → Int32) (J : Nat → Nat → Int64) (ln ki : Int32) (fi dn : Int32) (bo : Int32) (h0 : Op.if_icmp.holds .ge (dn) (ln) = false) {res : mxR} (H : mxRn 15 28 [(0, .ref 28), (1, .ref 3), (2, .int (ln)), (3, .int (ki)), (4, .int (fi)), (5, .int (dn)), (6, .int (I 28 4))] [] (shS ex, I, J, QS) res) : mxRn 15 16 [(0, .ref 28), (1, .ref 3), (2, .int (ln)), (3, .int (ki)), (4, .int (fi)), (5, .int (dn)), (6, .int (bo))] [] (shS ex, I, J, QS) res := by
  refine mxRn.if2 3 0 (bb := Op.if_icmp.holds .ge (dn) (ln)) (pc' := 22) (lv' := [(0, .ref 28), (1, .ref 3), (2, .int (ln)), (3, .int (ki)), (4, .int (fi)), (5, .int (dn)), (6, .int (bo))]) (st' := []) (w' := (shS ex, I, J, QS)) (X := fun nf => mxev (nf + 0) 15 79 [(0, .ref 28), (1, .ref 3), (2, .int (ln)), (3, .int (ki)), (4, .int (fi)), (5, .int (dn)), (6, .int (bo))] [] (shS ex, I, J, QS)) (fun n => rfl) h0 ?_
  refine mxRn.g2 3 0 (pc' := 28) (lv' := [(0, .ref 28), (1, .ref 3), (2, .int (ln)), (3, .int (ki)), (4, .int (fi)), (5, .int (dn)), (6, .int (I 28 4))]) (st' := []) (w' := (shS ex, I, J, QS)) (fun n => rfl) ?_
  exact H
set_option maxRecDepth 1000000 in
set_option maxHeartbeats 4000000 in
theorem r_find (ex : List (Nat × Nat)) (I : Nat → Nat → Int32) (J : Nat → Nat → Int64) (ln ki : Int32) (fi dn be : Int32) (I1 : Nat → Nat → Int32) (J1 : Nat → Nat → Int64) (Hz : mxRn 17 0 [(0, .ref 28), (1, .ref 3), (2, .int fi), (3, .int be), (4, .int ki)] [] (shS ex, I, J, QS) (none, (shS ex, I1, J1, QS))) {res : mxR} (H : mxRn 15 38 [(0, .ref 28), (1, .ref 3), (2, .int (ln)), (3, .int (ki)), (4, .int (fi)), (5, .int (dn)), (6, .int (be))] [] (shS ex, I1, J1, QS) res) : mxRn 15 28 [(0, .ref 28), (1, .ref 3), (2, .int (ln)), (3, .int (ki)), (4, .int (fi)), (5, .int (dn)), (6, .int (be))] [] (shS ex, I, J, QS) res := by
  refine mxRn.c2 6 0 (z := 17) (lz := [(0, .ref 28), (1, .ref 3), (2, .int (fi)), (3, .int (be)), (4, .int (ki))]) (w1 := (shS ex, I, J, QS)) (pc' := 38) (lv' := [(0, .ref 28), (1, .ref 3), (2, .int (ln)), (3, .int (ki)), (4, .int (fi)), (5, .int (dn)), (6, .int (be))]) (r := []) (fun n => rfl) (Hz) ?_
  show mxRn 15 38 [(0, .ref 28), (1, .ref 3), (2, .int (ln)), (3, .int (ki)), (4, .int (fi)), (5, .int (dn)), (6, .int (be))] [] (shS ex, I1, J1, QS) _
  exact H
set_option maxRecDepth 1000000 in
set_option maxHeartbeats 4000000 in
theorem r_flaw (ex : List (Nat × Nat)) (I : Nat → Nat → Int32) (J : Nat → Nat → Int64) (ln ki : Int32) (fi dn be : Int32) (h0 : Op.ifCond.holds .eq (I 28 6) = false) : mxRn 15 38 [(0, .ref 28), (1, .ref 3), (2, .int (ln)), (3, .int (ki)), (4, .int (fi)), (5, .int (dn)), (6, .int (be))] [] (shS ex, I, J, QS) (some (.int ((dn) + (1 : Int32))), (shS ex, I, J, QS)) := by
  refine mxRn.if2 3 0 (bb := Op.ifCond.holds .eq (I 28 6)) (pc' := 45) (lv' := [(0, .ref 28), (1, .ref 3), (2, .int (ln)), (3, .int (ki)), (4, .int (fi)), (5, .int (dn)), (6, .int (be))]) (st' := []) (w' := (shS ex, I, J, QS)) (X := fun nf => mxev (nf + 0) 15 50 [(0, .ref 28), (1, .ref 3), (2, .int (ln)), (3, .int (ki)), (4, .int (fi)), (5, .int (dn)), (6, .int (be))] [] (shS ex, I, J, QS)) (fun n => rfl) h0 ?_
  exact mxRn.ret 4 (fun n => rfl)
set_option maxRecDepth 1000000 in
set_option maxHeartbeats 4000000 in
theorem r_go (ex : List (Nat × Nat)) (I : Nat → Nat → Int32) (J : Nat → Nat → Int64) (ln ki : Int32) (fi dn be : Int32) (I1 : Nat → Nat → Int32) (J1 : Nat → Nat → Int64) (Hz : mxRn 18 0 [(0, .ref 28), (1, .ref 3), (2, .int fi), (3, .int be)] [] (shS ex, I, J, QS) (none, (shS ex, I1, J1, QS))) (h0 : Op.ifCond.holds .eq (I 28 6) = true) {res : mxR} (H : mxRn 15 59 [(0, .ref 28), (1, .ref 3), (2, .int (ln)), (3, .int (ki)), (4, .int (fi)), (5, .int (dn)), (6, .int (be))] [] (shS ex, I1, J1, QS) res) : mxRn 15 38 [(0, .ref 28), (1, .ref 3), (2, .int (ln)), (3, .int (ki)), (4, .int (fi)), (5, .int (dn)), (6, .int (be))] [] (shS ex, I, J, QS) res := by
  refine mxRn.it2 3 0 (bb := Op.ifCond.holds .eq (I 28 6)) (pc' := 50) (lv' := [(0, .ref 28), (1, .ref 3), (2, .int (ln)), (3, .int (ki)), (4, .int (fi)), (5, .int (dn)), (6, .int (be))]) (st' := []) (w' := (shS ex, I, J, QS)) (X := fun nf => mxev (nf + 0) 15 45 [(0, .ref 28), (1, .ref 3), (2, .int (ln)), (3, .int (ki)), (4, .int (fi)), (5, .int (dn)), (6, .int (be))] [] (shS ex, I, J, QS)) (fun n => rfl) h0 ?_
  refine mxRn.c2 5 0 (z := 18) (lz := [(0, .ref 28), (1, .ref 3), (2, .int (fi)), (3, .int (be))]) (w1 := (shS ex, I, J, QS)) (pc' := 59) (lv' := [(0, .ref 28), (1, .ref 3), (2, .int (ln)), (3, .int (ki)), (4, .int (fi)), (5, .int (dn)), (6, .int (be))]) (r := []) (fun n => rfl) (Hz) ?_
  show mxRn 15 59 [(0, .ref 28), (1, .ref 3), (2, .int (ln)), (3, .int (ki)), (4, .int (fi)), (5, .int (dn)), (6, .int (be))] [] (shS ex, I1, J1, QS) _
  exact H
set_option maxRecDepth 1000000 in
set_option maxHeartbeats 4000000 in
theorem r_spent (ex : List (Nat × Nat)) (I : Nat → Nat → Int32) (J : Nat → Nat → Int64) (ln ki : Int32) (fi dn be : Int32) (h0 : Op.ifCond.holds .eq (I 28 5) = false) : mxRn 15 59 [(0, .ref 28), (1, .ref 3), (2, .int (ln)), (3, .int (ki)), (4, .int (fi)), (5, .int (dn)), (6, .int (be))] [] (shS ex, I, J, QS) (some (.int (-2)), (shS ex, I, J, QS)) := by
  refine mxRn.if2 3 0 (bb := Op.ifCond.holds .eq (I 28 5)) (pc' := 66) (lv' := [(0, .ref 28), (1, .ref 3), (2, .int (ln)), (3, .int (ki)), (4, .int (fi)), (5, .int (dn)), (6, .int (be))]) (st' := []) (w' := (shS ex, I, J, QS)) (X := fun nf => mxev (nf + 0) 15 69 [(0, .ref 28), (1, .ref 3), (2, .int (ln)), (3, .int (ki)), (4, .int (fi)), (5, .int (dn)), (6, .int (be))] [] (shS ex, I, J, QS)) (fun n => rfl) h0 ?_
  exact mxRn.ret 2 (fun n => rfl)
set_option maxRecDepth 1000000 in
set_option maxHeartbeats 4000000 in
theorem r_loop (ex : List (Nat × Nat)) (I : Nat → Nat → Int32) (J : Nat → Nat → Int64) (ln ki : Int32) (fi dn be : Int32) (h0 : Op.ifCond.holds .eq (I 28 5) = true) {res : mxR} (H : mxRn 15 16 [(0, .ref 28), (1, .ref 3), (2, .int (ln)), (3, .int (ki)), (4, .int (be)), (5, .int ((dn) + 1)), (6, .int (be))] [] (shS ex, I, J, QS) res) : mxRn 15 59 [(0, .ref 28), (1, .ref 3), (2, .int (ln)), (3, .int (ki)), (4, .int (fi)), (5, .int (dn)), (6, .int (be))] [] (shS ex, I, J, QS) res := by
  refine mxRn.it2 3 0 (bb := Op.ifCond.holds .eq (I 28 5)) (pc' := 69) (lv' := [(0, .ref 28), (1, .ref 3), (2, .int (ln)), (3, .int (ki)), (4, .int (fi)), (5, .int (dn)), (6, .int (be))]) (st' := []) (w' := (shS ex, I, J, QS)) (X := fun nf => mxev (nf + 0) 15 66 [(0, .ref 28), (1, .ref 3), (2, .int (ln)), (3, .int (ki)), (4, .int (fi)), (5, .int (dn)), (6, .int (be))] [] (shS ex, I, J, QS)) (fun n => rfl) h0 ?_
  refine mxRn.g2 4 0 (pc' := 16) (lv' := [(0, .ref 28), (1, .ref 3), (2, .int (ln)), (3, .int (ki)), (4, .int (be)), (5, .int ((dn) + 1)), (6, .int (be))]) (st' := []) (w' := (shS ex, I, J, QS)) (fun n => rfl) ?_
  exact H
