def w_hit (I : Nat → Nat → Int32) (s : Int64) (t : Int32) : Bool := (cond (Op.ifCond.holds .eq (cond (s_knows (s) (t)) 1 0)) false (cond (Op.if_icmp.holds .ne (s_owner (s) (t)) (1 : Int32)) false (cond (Op.ifCond.holds .eq (cond (w_good I (s) (t) (1)) 1 0)) false true)))
set_option maxRecDepth 1000000 in
theorem w_ride_hit (sh : List (Nat × Nat)) (J : Nat → Nat → Int64) (Q : Nat → Nat → Value) (I : Nat → Nat → Int32) (s : Int64) (t : Int32) (ht : Op.if_icmp.holds .ge (t) (4 : Int32) = false) (hh : w_hit I s t = true) : mxRn 51 2 [(0, .ref 3), (1, .long s), (3, .int t)] [] ((7, 18) :: (0, 200) :: (4, 6) :: (6, 9) :: sh, I, J, Q) (some (.int 1), ((7, 18) :: (0, 200) :: (4, 6) :: (6, 9) :: sh, I, J, Q)) := by
  cases c1 : Op.ifCond.holds .eq (cond (s_knows (s) (t)) 1 0) with
  | true =>
    unfold w_hit at hh
    rw [c1] at hh
    cases hh
  | false =>
    cases c2 : Op.if_icmp.holds .ne (s_owner (s) (t)) (1 : Int32) with
    | true =>
      unfold w_hit at hh
      rw [c1, c2] at hh
      cases hh
    | false =>
      cases c3 : Op.ifCond.holds .eq (cond (w_good I (s) (t) (1)) 1 0) with
      | true =>
        unfold w_hit at hh
        rw [c1, c2, c3] at hh
        cases hh
      | false =>
        refine mxRn.if2 3 0 (bb := Op.if_icmp.holds .ge (t) (4 : Int32)) (pc' := 7) (lv' := [(0, .ref 3), (1, .long (s)), (3, .int (t))]) (st' := []) (w' := ((7, 18) :: (0, 200) :: (4, 6) :: (6, 9) :: sh, I, J, Q)) (X := fun nf => mxev (nf + 0) 51 42 [(0, .ref 3), (1, .long (s)), (3, .int (t))] [] ((7, 18) :: (0, 200) :: (4, 6) :: (6, 9) :: sh, I, J, Q)) (fun n => rfl) ht ?_
        refine mxRn.c2 3 0 (z := 29) (lz := [(0, .long (s)), (2, .int (t))]) (w1 := ((7, 18) :: (0, 200) :: (4, 6) :: (6, 9) :: sh, I, J, Q)) (pc' := 12) (lv' := [(0, .ref 3), (1, .long (s)), (3, .int (t))]) (r := []) (fun n => rfl) (s_knows_run ((7, 18) :: (0, 200) :: (4, 6) :: (6, 9) :: sh, I, J, Q) (s) (t)) ?_
        show mxRn 51 12 [(0, .ref 3), (1, .long (s)), (3, .int (t))] [.int (cond (s_knows (s) (t)) 1 0)] ((7, 18) :: (0, 200) :: (4, 6) :: (6, 9) :: sh, I, J, Q) _
        refine mxRn.if2 1 0 (bb := Op.ifCond.holds .eq (cond (s_knows (s) (t)) 1 0)) (pc' := 15) (lv' := [(0, .ref 3), (1, .long (s)), (3, .int (t))]) (st' := []) (w' := ((7, 18) :: (0, 200) :: (4, 6) :: (6, 9) :: sh, I, J, Q)) (X := fun nf => mxev (nf + 0) 51 36 [(0, .ref 3), (1, .long (s)), (3, .int (t))] [] ((7, 18) :: (0, 200) :: (4, 6) :: (6, 9) :: sh, I, J, Q)) (fun n => rfl) c1 ?_
        refine mxRn.c2 3 0 (z := 23) (lz := [(0, .long (s)), (2, .int (t))]) (w1 := ((7, 18) :: (0, 200) :: (4, 6) :: (6, 9) :: sh, I, J, Q)) (pc' := 20) (lv' := [(0, .ref 3), (1, .long (s)), (3, .int (t))]) (r := []) (fun n => rfl) (s_owner_run ((7, 18) :: (0, 200) :: (4, 6) :: (6, 9) :: sh, I, J, Q) (s) (t)) ?_
        show mxRn 51 20 [(0, .ref 3), (1, .long (s)), (3, .int (t))] [.int (s_owner (s) (t))] ((7, 18) :: (0, 200) :: (4, 6) :: (6, 9) :: sh, I, J, Q) _
        refine mxRn.if2 2 0 (bb := Op.if_icmp.holds .ne (s_owner (s) (t)) (1 : Int32)) (pc' := 24) (lv' := [(0, .ref 3), (1, .long (s)), (3, .int (t))]) (st' := []) (w' := ((7, 18) :: (0, 200) :: (4, 6) :: (6, 9) :: sh, I, J, Q)) (X := fun nf => mxev (nf + 0) 51 36 [(0, .ref 3), (1, .long (s)), (3, .int (t))] [] ((7, 18) :: (0, 200) :: (4, 6) :: (6, 9) :: sh, I, J, Q)) (fun n => rfl) c2 ?_
        refine mxRn.c2 5 0 (z := 41) (lz := [(0, .ref 3), (1, .long (s)), (3, .int (t)), (4, .int 1)]) (w1 := ((7, 18) :: (0, 200) :: (4, 6) :: (6, 9) :: sh, I, J, Q)) (pc' := 31) (lv' := [(0, .ref 3), (1, .long (s)), (3, .int (t))]) (r := []) (fun n => rfl) (w_good_run sh J Q I (s) (t) (1)) ?_
        show mxRn 51 31 [(0, .ref 3), (1, .long (s)), (3, .int (t))] [.int (cond (w_good I (s) (t) (1)) 1 0)] ((7, 18) :: (0, 200) :: (4, 6) :: (6, 9) :: sh, I, J, Q) _
        refine mxRn.if2 1 0 (bb := Op.ifCond.holds .eq (cond (w_good I (s) (t) (1)) 1 0)) (pc' := 34) (lv' := [(0, .ref 3), (1, .long (s)), (3, .int (t))]) (st' := []) (w' := ((7, 18) :: (0, 200) :: (4, 6) :: (6, 9) :: sh, I, J, Q)) (X := fun nf => mxev (nf + 0) 51 36 [(0, .ref 3), (1, .long (s)), (3, .int (t))] [] ((7, 18) :: (0, 200) :: (4, 6) :: (6, 9) :: sh, I, J, Q)) (fun n => rfl) c3 ?_
        exact mxRn.ret 2 (fun n => rfl)
set_option maxRecDepth 1000000 in
theorem w_ride_no (sh : List (Nat × Nat)) (J : Nat → Nat → Int64) (Q : Nat → Nat → Value) (I : Nat → Nat → Int32) (s : Int64) (t : Int32) (ht : Op.if_icmp.holds .ge (t) (4 : Int32) = false) (hh : w_hit I s t = false) {res : mxR} (H : mxRn 51 2 [(0, .ref 3), (1, .long s), (3, .int (t + 1))] [] ((7, 18) :: (0, 200) :: (4, 6) :: (6, 9) :: sh, I, J, Q) res) : mxRn 51 2 [(0, .ref 3), (1, .long s), (3, .int t)] [] ((7, 18) :: (0, 200) :: (4, 6) :: (6, 9) :: sh, I, J, Q) res := by
  cases c1 : Op.ifCond.holds .eq (cond (s_knows (s) (t)) 1 0) with
  | true =>
    refine mxRn.if2 3 0 (bb := Op.if_icmp.holds .ge (t) (4 : Int32)) (pc' := 7) (lv' := [(0, .ref 3), (1, .long (s)), (3, .int (t))]) (st' := []) (w' := ((7, 18) :: (0, 200) :: (4, 6) :: (6, 9) :: sh, I, J, Q)) (X := fun nf => mxev (nf + 0) 51 42 [(0, .ref 3), (1, .long (s)), (3, .int (t))] [] ((7, 18) :: (0, 200) :: (4, 6) :: (6, 9) :: sh, I, J, Q)) (fun n => rfl) ht ?_
    refine mxRn.c2 3 0 (z := 29) (lz := [(0, .long (s)), (2, .int (t))]) (w1 := ((7, 18) :: (0, 200) :: (4, 6) :: (6, 9) :: sh, I, J, Q)) (pc' := 12) (lv' := [(0, .ref 3), (1, .long (s)), (3, .int (t))]) (r := []) (fun n => rfl) (s_knows_run ((7, 18) :: (0, 200) :: (4, 6) :: (6, 9) :: sh, I, J, Q) (s) (t)) ?_
    show mxRn 51 12 [(0, .ref 3), (1, .long (s)), (3, .int (t))] [.int (cond (s_knows (s) (t)) 1 0)] ((7, 18) :: (0, 200) :: (4, 6) :: (6, 9) :: sh, I, J, Q) _
    refine mxRn.it2 1 0 (bb := Op.ifCond.holds .eq (cond (s_knows (s) (t)) 1 0)) (pc' := 36) (lv' := [(0, .ref 3), (1, .long (s)), (3, .int (t))]) (st' := []) (w' := ((7, 18) :: (0, 200) :: (4, 6) :: (6, 9) :: sh, I, J, Q)) (X := fun nf => mxev (nf + 0) 51 15 [(0, .ref 3), (1, .long (s)), (3, .int (t))] [] ((7, 18) :: (0, 200) :: (4, 6) :: (6, 9) :: sh, I, J, Q)) (fun n => rfl) c1 ?_
    refine mxRn.g2 2 0 (pc' := 2) (lv' := [(0, .ref 3), (1, .long (s)), (3, .int ((t) + 1))]) (st' := []) (w' := ((7, 18) :: (0, 200) :: (4, 6) :: (6, 9) :: sh, I, J, Q)) (fun n => rfl) ?_
    exact H
  | false =>
    cases c2 : Op.if_icmp.holds .ne (s_owner (s) (t)) (1 : Int32) with
    | true =>
      refine mxRn.if2 3 0 (bb := Op.if_icmp.holds .ge (t) (4 : Int32)) (pc' := 7) (lv' := [(0, .ref 3), (1, .long (s)), (3, .int (t))]) (st' := []) (w' := ((7, 18) :: (0, 200) :: (4, 6) :: (6, 9) :: sh, I, J, Q)) (X := fun nf => mxev (nf + 0) 51 42 [(0, .ref 3), (1, .long (s)), (3, .int (t))] [] ((7, 18) :: (0, 200) :: (4, 6) :: (6, 9) :: sh, I, J, Q)) (fun n => rfl) ht ?_
      refine mxRn.c2 3 0 (z := 29) (lz := [(0, .long (s)), (2, .int (t))]) (w1 := ((7, 18) :: (0, 200) :: (4, 6) :: (6, 9) :: sh, I, J, Q)) (pc' := 12) (lv' := [(0, .ref 3), (1, .long (s)), (3, .int (t))]) (r := []) (fun n => rfl) (s_knows_run ((7, 18) :: (0, 200) :: (4, 6) :: (6, 9) :: sh, I, J, Q) (s) (t)) ?_
      show mxRn 51 12 [(0, .ref 3), (1, .long (s)), (3, .int (t))] [.int (cond (s_knows (s) (t)) 1 0)] ((7, 18) :: (0, 200) :: (4, 6) :: (6, 9) :: sh, I, J, Q) _
      refine mxRn.if2 1 0 (bb := Op.ifCond.holds .eq (cond (s_knows (s) (t)) 1 0)) (pc' := 15) (lv' := [(0, .ref 3), (1, .long (s)), (3, .int (t))]) (st' := []) (w' := ((7, 18) :: (0, 200) :: (4, 6) :: (6, 9) :: sh, I, J, Q)) (X := fun nf => mxev (nf + 0) 51 36 [(0, .ref 3), (1, .long (s)), (3, .int (t))] [] ((7, 18) :: (0, 200) :: (4, 6) :: (6, 9) :: sh, I, J, Q)) (fun n => rfl) c1 ?_
      refine mxRn.c2 3 0 (z := 23) (lz := [(0, .long (s)), (2, .int (t))]) (w1 := ((7, 18) :: (0, 200) :: (4, 6) :: (6, 9) :: sh, I, J, Q)) (pc' := 20) (lv' := [(0, .ref 3), (1, .long (s)), (3, .int (t))]) (r := []) (fun n => rfl) (s_owner_run ((7, 18) :: (0, 200) :: (4, 6) :: (6, 9) :: sh, I, J, Q) (s) (t)) ?_
      show mxRn 51 20 [(0, .ref 3), (1, .long (s)), (3, .int (t))] [.int (s_owner (s) (t))] ((7, 18) :: (0, 200) :: (4, 6) :: (6, 9) :: sh, I, J, Q) _
      refine mxRn.it2 2 0 (bb := Op.if_icmp.holds .ne (s_owner (s) (t)) (1 : Int32)) (pc' := 36) (lv' := [(0, .ref 3), (1, .long (s)), (3, .int (t))]) (st' := []) (w' := ((7, 18) :: (0, 200) :: (4, 6) :: (6, 9) :: sh, I, J, Q)) (X := fun nf => mxev (nf + 0) 51 24 [(0, .ref 3), (1, .long (s)), (3, .int (t))] [] ((7, 18) :: (0, 200) :: (4, 6) :: (6, 9) :: sh, I, J, Q)) (fun n => rfl) c2 ?_
      refine mxRn.g2 2 0 (pc' := 2) (lv' := [(0, .ref 3), (1, .long (s)), (3, .int ((t) + 1))]) (st' := []) (w' := ((7, 18) :: (0, 200) :: (4, 6) :: (6, 9) :: sh, I, J, Q)) (fun n => rfl) ?_
      exact H
    | false =>
      cases c3 : Op.ifCond.holds .eq (cond (w_good I (s) (t) (1)) 1 0) with
      | true =>
        refine mxRn.if2 3 0 (bb := Op.if_icmp.holds .ge (t) (4 : Int32)) (pc' := 7) (lv' := [(0, .ref 3), (1, .long (s)), (3, .int (t))]) (st' := []) (w' := ((7, 18) :: (0, 200) :: (4, 6) :: (6, 9) :: sh, I, J, Q)) (X := fun nf => mxev (nf + 0) 51 42 [(0, .ref 3), (1, .long (s)), (3, .int (t))] [] ((7, 18) :: (0, 200) :: (4, 6) :: (6, 9) :: sh, I, J, Q)) (fun n => rfl) ht ?_
        refine mxRn.c2 3 0 (z := 29) (lz := [(0, .long (s)), (2, .int (t))]) (w1 := ((7, 18) :: (0, 200) :: (4, 6) :: (6, 9) :: sh, I, J, Q)) (pc' := 12) (lv' := [(0, .ref 3), (1, .long (s)), (3, .int (t))]) (r := []) (fun n => rfl) (s_knows_run ((7, 18) :: (0, 200) :: (4, 6) :: (6, 9) :: sh, I, J, Q) (s) (t)) ?_
        show mxRn 51 12 [(0, .ref 3), (1, .long (s)), (3, .int (t))] [.int (cond (s_knows (s) (t)) 1 0)] ((7, 18) :: (0, 200) :: (4, 6) :: (6, 9) :: sh, I, J, Q) _
        refine mxRn.if2 1 0 (bb := Op.ifCond.holds .eq (cond (s_knows (s) (t)) 1 0)) (pc' := 15) (lv' := [(0, .ref 3), (1, .long (s)), (3, .int (t))]) (st' := []) (w' := ((7, 18) :: (0, 200) :: (4, 6) :: (6, 9) :: sh, I, J, Q)) (X := fun nf => mxev (nf + 0) 51 36 [(0, .ref 3), (1, .long (s)), (3, .int (t))] [] ((7, 18) :: (0, 200) :: (4, 6) :: (6, 9) :: sh, I, J, Q)) (fun n => rfl) c1 ?_
        refine mxRn.c2 3 0 (z := 23) (lz := [(0, .long (s)), (2, .int (t))]) (w1 := ((7, 18) :: (0, 200) :: (4, 6) :: (6, 9) :: sh, I, J, Q)) (pc' := 20) (lv' := [(0, .ref 3), (1, .long (s)), (3, .int (t))]) (r := []) (fun n => rfl) (s_owner_run ((7, 18) :: (0, 200) :: (4, 6) :: (6, 9) :: sh, I, J, Q) (s) (t)) ?_
        show mxRn 51 20 [(0, .ref 3), (1, .long (s)), (3, .int (t))] [.int (s_owner (s) (t))] ((7, 18) :: (0, 200) :: (4, 6) :: (6, 9) :: sh, I, J, Q) _
        refine mxRn.if2 2 0 (bb := Op.if_icmp.holds .ne (s_owner (s) (t)) (1 : Int32)) (pc' := 24) (lv' := [(0, .ref 3), (1, .long (s)), (3, .int (t))]) (st' := []) (w' := ((7, 18) :: (0, 200) :: (4, 6) :: (6, 9) :: sh, I, J, Q)) (X := fun nf => mxev (nf + 0) 51 36 [(0, .ref 3), (1, .long (s)), (3, .int (t))] [] ((7, 18) :: (0, 200) :: (4, 6) :: (6, 9) :: sh, I, J, Q)) (fun n => rfl) c2 ?_
        refine mxRn.c2 5 0 (z := 41) (lz := [(0, .ref 3), (1, .long (s)), (3, .int (t)), (4, .int 1)]) (w1 := ((7, 18) :: (0, 200) :: (4, 6) :: (6, 9) :: sh, I, J, Q)) (pc' := 31) (lv' := [(0, .ref 3), (1, .long (s)), (3, .int (t))]) (r := []) (fun n => rfl) (w_good_run sh J Q I (s) (t) (1)) ?_
        show mxRn 51 31 [(0, .ref 3), (1, .long (s)), (3, .int (t))] [.int (cond (w_good I (s) (t) (1)) 1 0)] ((7, 18) :: (0, 200) :: (4, 6) :: (6, 9) :: sh, I, J, Q) _
        refine mxRn.it2 1 0 (bb := Op.ifCond.holds .eq (cond (w_good I (s) (t) (1)) 1 0)) (pc' := 36) (lv' := [(0, .ref 3), (1, .long (s)), (3, .int (t))]) (st' := []) (w' := ((7, 18) :: (0, 200) :: (4, 6) :: (6, 9) :: sh, I, J, Q)) (X := fun nf => mxev (nf + 0) 51 34 [(0, .ref 3), (1, .long (s)), (3, .int (t))] [] ((7, 18) :: (0, 200) :: (4, 6) :: (6, 9) :: sh, I, J, Q)) (fun n => rfl) c3 ?_
        refine mxRn.g2 2 0 (pc' := 2) (lv' := [(0, .ref 3), (1, .long (s)), (3, .int ((t) + 1))]) (st' := []) (w' := ((7, 18) :: (0, 200) :: (4, 6) :: (6, 9) :: sh, I, J, Q)) (fun n => rfl) ?_
        exact H
      | false =>
        unfold w_hit at hh
        rw [c1, c2, c3] at hh
        cases hh
def w_canRide (I : Nat → Nat → Int32) (s : Int64) : Bool := cond (w_hit I s 0) true (cond (w_hit I s 1) true (cond (w_hit I s 2) true (w_hit I s 3)))
set_option maxRecDepth 1000000 in
theorem w_canRide_run (sh : List (Nat × Nat)) (J : Nat → Nat → Int64) (Q : Nat → Nat → Value) (I : Nat → Nat → Int32) (s : Int64) : mxRn 51 0 [(0, .ref 3), (1, .long s)] [] ((7, 18) :: (0, 200) :: (4, 6) :: (6, 9) :: sh, I, J, Q) (some (.int (cond (w_canRide I s) 1 0)), ((7, 18) :: (0, 200) :: (4, 6) :: (6, 9) :: sh, I, J, Q)) := by
  refine mxRn.g2 2 0 (pc' := 2) (lv' := [(0, .ref 3), (1, .long s), (3, .int 0)]) (st' := []) (w' := ((7, 18) :: (0, 200) :: (4, 6) :: (6, 9) :: sh, I, J, Q)) (fun n => rfl) ?_
  cases q0 : w_hit I s 0 with
  | true =>
    have e : w_canRide I s = true := by unfold w_canRide; rw [q0]; rfl
    rw [e]
    exact w_ride_hit sh J Q I s 0 rfl q0
  | false =>
    refine w_ride_no sh J Q I s 0 rfl q0 ?_
    show mxRn 51 2 [(0, .ref 3), (1, .long s), (3, .int 1)] [] ((7, 18) :: (0, 200) :: (4, 6) :: (6, 9) :: sh, I, J, Q) _
    cases q1 : w_hit I s 1 with
    | true =>
      have e : w_canRide I s = true := by unfold w_canRide; rw [q0, q1]; rfl
      rw [e]
      exact w_ride_hit sh J Q I s 1 rfl q1
    | false =>
      refine w_ride_no sh J Q I s 1 rfl q1 ?_
      show mxRn 51 2 [(0, .ref 3), (1, .long s), (3, .int 2)] [] ((7, 18) :: (0, 200) :: (4, 6) :: (6, 9) :: sh, I, J, Q) _
      cases q2 : w_hit I s 2 with
      | true =>
        have e : w_canRide I s = true := by unfold w_canRide; rw [q0, q1, q2]; rfl
        rw [e]
        exact w_ride_hit sh J Q I s 2 rfl q2
      | false =>
        refine w_ride_no sh J Q I s 2 rfl q2 ?_
        show mxRn 51 2 [(0, .ref 3), (1, .long s), (3, .int 3)] [] ((7, 18) :: (0, 200) :: (4, 6) :: (6, 9) :: sh, I, J, Q) _
        cases q3 : w_hit I s 3 with
        | true =>
          have e : w_canRide I s = true := by unfold w_canRide; rw [q0, q1, q2, q3]; rfl
          rw [e]
          exact w_ride_hit sh J Q I s 3 rfl q3
        | false =>
          have e : w_canRide I s = false := by unfold w_canRide; rw [q0, q1, q2, q3]; rfl
          rw [e]
          refine w_ride_no sh J Q I s 3 rfl q3 ?_
          show mxRn 51 2 [(0, .ref 3), (1, .long s), (3, .int 4)] [] ((7, 18) :: (0, 200) :: (4, 6) :: (6, 9) :: sh, I, J, Q) _
          exact mxRn.ret 5 (fun n => rfl)
def w_tick1 (I : Nat → Nat → Int32) (x : Int64) (t : Int32) : Int64 := (cond (Op.ifCond.holds .eq (cond (s_lives (x) (t)) 1 0)) (x) (cond (Op.if_icmp.holds .lt (s_ticks (s_ticked (x) (t)) (t)) (I 3 8)) (s_ticked (x) (t)) (s_ended (s_ticked (x) (t)) (t))))
set_option maxRecDepth 1000000 in
theorem w_tk_it (sh : List (Nat × Nat)) (J : Nat → Nat → Int64) (Q : Nat → Nat → Value) (I : Nat → Nat → Int32) (s : Int64) (x : Int64) (t : Int32) (ht : Op.if_icmp.holds .ge (t) (4 : Int32) = false) {res : mxR} (H : mxRn 52 14 [(0, .ref 3), (1, .long s), (3, .long (w_tick1 I x t)), (5, .int (t + 1))] [] ((7, 18) :: (0, 200) :: (4, 6) :: (6, 9) :: sh, I, J, Q) res) : mxRn 52 14 [(0, .ref 3), (1, .long s), (3, .long x), (5, .int t)] [] ((7, 18) :: (0, 200) :: (4, 6) :: (6, 9) :: sh, I, J, Q) res := by
  cases c1 : Op.ifCond.holds .eq (cond (s_lives (x) (t)) 1 0) with
  | true =>
    have e : w_tick1 I x t = (x) := by unfold w_tick1; rw [c1]; rfl
    rw [e] at H
    refine mxRn.if2 3 0 (bb := Op.if_icmp.holds .ge (t) (4 : Int32)) (pc' := 20) (lv' := [(0, .ref 3), (1, .long (s)), (3, .long (x)), (5, .int (t))]) (st' := []) (w' := ((7, 18) :: (0, 200) :: (4, 6) :: (6, 9) :: sh, I, J, Q)) (X := fun nf => mxev (nf + 0) 52 66 [(0, .ref 3), (1, .long (s)), (3, .long (x)), (5, .int (t))] [] ((7, 18) :: (0, 200) :: (4, 6) :: (6, 9) :: sh, I, J, Q)) (fun n => rfl) ht ?_
    refine mxRn.c2 3 0 (z := 22) (lz := [(0, .long (x)), (2, .int (t))]) (w1 := ((7, 18) :: (0, 200) :: (4, 6) :: (6, 9) :: sh, I, J, Q)) (pc' := 26) (lv' := [(0, .ref 3), (1, .long (s)), (3, .long (x)), (5, .int (t))]) (r := []) (fun n => rfl) (s_lives_run ((7, 18) :: (0, 200) :: (4, 6) :: (6, 9) :: sh, I, J, Q) (x) (t)) ?_
    show mxRn 52 26 [(0, .ref 3), (1, .long (s)), (3, .long (x)), (5, .int (t))] [.int (cond (s_lives (x) (t)) 1 0)] ((7, 18) :: (0, 200) :: (4, 6) :: (6, 9) :: sh, I, J, Q) _
    refine mxRn.it2 1 0 (bb := Op.ifCond.holds .eq (cond (s_lives (x) (t)) 1 0)) (pc' := 60) (lv' := [(0, .ref 3), (1, .long (s)), (3, .long (x)), (5, .int (t))]) (st' := []) (w' := ((7, 18) :: (0, 200) :: (4, 6) :: (6, 9) :: sh, I, J, Q)) (X := fun nf => mxev (nf + 0) 52 29 [(0, .ref 3), (1, .long (s)), (3, .long (x)), (5, .int (t))] [] ((7, 18) :: (0, 200) :: (4, 6) :: (6, 9) :: sh, I, J, Q)) (fun n => rfl) c1 ?_
    refine mxRn.g2 2 0 (pc' := 14) (lv' := [(0, .ref 3), (1, .long (s)), (3, .long (x)), (5, .int ((t) + 1))]) (st' := []) (w' := ((7, 18) :: (0, 200) :: (4, 6) :: (6, 9) :: sh, I, J, Q)) (fun n => rfl) ?_
    exact H
  | false =>
    cases c2 : Op.if_icmp.holds .lt (s_ticks (s_ticked (x) (t)) (t)) (I 3 8) with
    | true =>
      have e : w_tick1 I x t = (s_ticked (x) (t)) := by unfold w_tick1; rw [c1, c2]; rfl
      rw [e] at H
      refine mxRn.if2 3 0 (bb := Op.if_icmp.holds .ge (t) (4 : Int32)) (pc' := 20) (lv' := [(0, .ref 3), (1, .long (s)), (3, .long (x)), (5, .int (t))]) (st' := []) (w' := ((7, 18) :: (0, 200) :: (4, 6) :: (6, 9) :: sh, I, J, Q)) (X := fun nf => mxev (nf + 0) 52 66 [(0, .ref 3), (1, .long (s)), (3, .long (x)), (5, .int (t))] [] ((7, 18) :: (0, 200) :: (4, 6) :: (6, 9) :: sh, I, J, Q)) (fun n => rfl) ht ?_
      refine mxRn.c2 3 0 (z := 22) (lz := [(0, .long (x)), (2, .int (t))]) (w1 := ((7, 18) :: (0, 200) :: (4, 6) :: (6, 9) :: sh, I, J, Q)) (pc' := 26) (lv' := [(0, .ref 3), (1, .long (s)), (3, .long (x)), (5, .int (t))]) (r := []) (fun n => rfl) (s_lives_run ((7, 18) :: (0, 200) :: (4, 6) :: (6, 9) :: sh, I, J, Q) (x) (t)) ?_
      show mxRn 52 26 [(0, .ref 3), (1, .long (s)), (3, .long (x)), (5, .int (t))] [.int (cond (s_lives (x) (t)) 1 0)] ((7, 18) :: (0, 200) :: (4, 6) :: (6, 9) :: sh, I, J, Q) _
      refine mxRn.if2 1 0 (bb := Op.ifCond.holds .eq (cond (s_lives (x) (t)) 1 0)) (pc' := 29) (lv' := [(0, .ref 3), (1, .long (s)), (3, .long (x)), (5, .int (t))]) (st' := []) (w' := ((7, 18) :: (0, 200) :: (4, 6) :: (6, 9) :: sh, I, J, Q)) (X := fun nf => mxev (nf + 0) 52 60 [(0, .ref 3), (1, .long (s)), (3, .long (x)), (5, .int (t))] [] ((7, 18) :: (0, 200) :: (4, 6) :: (6, 9) :: sh, I, J, Q)) (fun n => rfl) c1 ?_
      refine mxRn.c2 3 0 (z := 32) (lz := [(0, .long (x)), (2, .int (t))]) (w1 := ((7, 18) :: (0, 200) :: (4, 6) :: (6, 9) :: sh, I, J, Q)) (pc' := 35) (lv' := [(0, .ref 3), (1, .long (s)), (3, .long (x)), (5, .int (t))]) (r := []) (fun n => rfl) (s_ticked_run ((7, 18) :: (0, 200) :: (4, 6) :: (6, 9) :: sh, I, J, Q) (x) (t)) ?_
      show mxRn 52 35 [(0, .ref 3), (1, .long (s)), (3, .long (x)), (5, .int (t))] [.long (s_ticked (x) (t))] ((7, 18) :: (0, 200) :: (4, 6) :: (6, 9) :: sh, I, J, Q) _
      refine mxRn.c2 4 0 (z := 25) (lz := [(0, .long (s_ticked (x) (t))), (2, .int (t))]) (w1 := ((7, 18) :: (0, 200) :: (4, 6) :: (6, 9) :: sh, I, J, Q)) (pc' := 42) (lv' := [(0, .ref 3), (1, .long (s)), (3, .long (s_ticked (x) (t))), (5, .int (t))]) (r := []) (fun n => rfl) (s_ticks_run ((7, 18) :: (0, 200) :: (4, 6) :: (6, 9) :: sh, I, J, Q) (s_ticked (x) (t)) (t)) ?_
      show mxRn 52 42 [(0, .ref 3), (1, .long (s)), (3, .long (s_ticked (x) (t))), (5, .int (t))] [.int (s_ticks (s_ticked (x) (t)) (t))] ((7, 18) :: (0, 200) :: (4, 6) :: (6, 9) :: sh, I, J, Q) _
      refine mxRn.it2 3 0 (bb := Op.if_icmp.holds .lt (s_ticks (s_ticked (x) (t)) (t)) (I 3 8)) (pc' := 58) (lv' := [(0, .ref 3), (1, .long (s)), (3, .long (s_ticked (x) (t))), (5, .int (t))]) (st' := []) (w' := ((7, 18) :: (0, 200) :: (4, 6) :: (6, 9) :: sh, I, J, Q)) (X := fun nf => mxev (nf + 0) 52 49 [(0, .ref 3), (1, .long (s)), (3, .long (s_ticked (x) (t))), (5, .int (t))] [] ((7, 18) :: (0, 200) :: (4, 6) :: (6, 9) :: sh, I, J, Q)) (fun n => rfl) c2 ?_
      refine mxRn.g2 4 0 (pc' := 14) (lv' := [(0, .ref 3), (1, .long (s)), (3, .long (s_ticked (x) (t))), (5, .int ((t) + 1))]) (st' := []) (w' := ((7, 18) :: (0, 200) :: (4, 6) :: (6, 9) :: sh, I, J, Q)) (fun n => rfl) ?_
      exact H
    | false =>
      have e : w_tick1 I x t = (s_ended (s_ticked (x) (t)) (t)) := by unfold w_tick1; rw [c1, c2]; rfl
      rw [e] at H
      refine mxRn.if2 3 0 (bb := Op.if_icmp.holds .ge (t) (4 : Int32)) (pc' := 20) (lv' := [(0, .ref 3), (1, .long (s)), (3, .long (x)), (5, .int (t))]) (st' := []) (w' := ((7, 18) :: (0, 200) :: (4, 6) :: (6, 9) :: sh, I, J, Q)) (X := fun nf => mxev (nf + 0) 52 66 [(0, .ref 3), (1, .long (s)), (3, .long (x)), (5, .int (t))] [] ((7, 18) :: (0, 200) :: (4, 6) :: (6, 9) :: sh, I, J, Q)) (fun n => rfl) ht ?_
      refine mxRn.c2 3 0 (z := 22) (lz := [(0, .long (x)), (2, .int (t))]) (w1 := ((7, 18) :: (0, 200) :: (4, 6) :: (6, 9) :: sh, I, J, Q)) (pc' := 26) (lv' := [(0, .ref 3), (1, .long (s)), (3, .long (x)), (5, .int (t))]) (r := []) (fun n => rfl) (s_lives_run ((7, 18) :: (0, 200) :: (4, 6) :: (6, 9) :: sh, I, J, Q) (x) (t)) ?_
      show mxRn 52 26 [(0, .ref 3), (1, .long (s)), (3, .long (x)), (5, .int (t))] [.int (cond (s_lives (x) (t)) 1 0)] ((7, 18) :: (0, 200) :: (4, 6) :: (6, 9) :: sh, I, J, Q) _
      refine mxRn.if2 1 0 (bb := Op.ifCond.holds .eq (cond (s_lives (x) (t)) 1 0)) (pc' := 29) (lv' := [(0, .ref 3), (1, .long (s)), (3, .long (x)), (5, .int (t))]) (st' := []) (w' := ((7, 18) :: (0, 200) :: (4, 6) :: (6, 9) :: sh, I, J, Q)) (X := fun nf => mxev (nf + 0) 52 60 [(0, .ref 3), (1, .long (s)), (3, .long (x)), (5, .int (t))] [] ((7, 18) :: (0, 200) :: (4, 6) :: (6, 9) :: sh, I, J, Q)) (fun n => rfl) c1 ?_
      refine mxRn.c2 3 0 (z := 32) (lz := [(0, .long (x)), (2, .int (t))]) (w1 := ((7, 18) :: (0, 200) :: (4, 6) :: (6, 9) :: sh, I, J, Q)) (pc' := 35) (lv' := [(0, .ref 3), (1, .long (s)), (3, .long (x)), (5, .int (t))]) (r := []) (fun n => rfl) (s_ticked_run ((7, 18) :: (0, 200) :: (4, 6) :: (6, 9) :: sh, I, J, Q) (x) (t)) ?_
      show mxRn 52 35 [(0, .ref 3), (1, .long (s)), (3, .long (x)), (5, .int (t))] [.long (s_ticked (x) (t))] ((7, 18) :: (0, 200) :: (4, 6) :: (6, 9) :: sh, I, J, Q) _
      refine mxRn.c2 4 0 (z := 25) (lz := [(0, .long (s_ticked (x) (t))), (2, .int (t))]) (w1 := ((7, 18) :: (0, 200) :: (4, 6) :: (6, 9) :: sh, I, J, Q)) (pc' := 42) (lv' := [(0, .ref 3), (1, .long (s)), (3, .long (s_ticked (x) (t))), (5, .int (t))]) (r := []) (fun n => rfl) (s_ticks_run ((7, 18) :: (0, 200) :: (4, 6) :: (6, 9) :: sh, I, J, Q) (s_ticked (x) (t)) (t)) ?_
      show mxRn 52 42 [(0, .ref 3), (1, .long (s)), (3, .long (s_ticked (x) (t))), (5, .int (t))] [.int (s_ticks (s_ticked (x) (t)) (t))] ((7, 18) :: (0, 200) :: (4, 6) :: (6, 9) :: sh, I, J, Q) _
      refine mxRn.if2 3 0 (bb := Op.if_icmp.holds .lt (s_ticks (s_ticked (x) (t)) (t)) (I 3 8)) (pc' := 49) (lv' := [(0, .ref 3), (1, .long (s)), (3, .long (s_ticked (x) (t))), (5, .int (t))]) (st' := []) (w' := ((7, 18) :: (0, 200) :: (4, 6) :: (6, 9) :: sh, I, J, Q)) (X := fun nf => mxev (nf + 0) 52 58 [(0, .ref 3), (1, .long (s)), (3, .long (s_ticked (x) (t))), (5, .int (t))] [] ((7, 18) :: (0, 200) :: (4, 6) :: (6, 9) :: sh, I, J, Q)) (fun n => rfl) c2 ?_
      refine mxRn.c2 3 0 (z := 30) (lz := [(0, .long (s_ticked (x) (t))), (2, .int (t))]) (w1 := ((7, 18) :: (0, 200) :: (4, 6) :: (6, 9) :: sh, I, J, Q)) (pc' := 55) (lv' := [(0, .ref 3), (1, .long (s)), (3, .long (s_ticked (x) (t))), (5, .int (t))]) (r := []) (fun n => rfl) (s_ended_run ((7, 18) :: (0, 200) :: (4, 6) :: (6, 9) :: sh, I, J, Q) (s_ticked (x) (t)) (t)) ?_
      show mxRn 52 55 [(0, .ref 3), (1, .long (s)), (3, .long (s_ticked (x) (t))), (5, .int (t))] [.long (s_ended (s_ticked (x) (t)) (t))] ((7, 18) :: (0, 200) :: (4, 6) :: (6, 9) :: sh, I, J, Q) _
      refine mxRn.g2 4 0 (pc' := 14) (lv' := [(0, .ref 3), (1, .long (s)), (3, .long (s_ended (s_ticked (x) (t)) (t))), (5, .int ((t) + 1))]) (st' := []) (w' := ((7, 18) :: (0, 200) :: (4, 6) :: (6, 9) :: sh, I, J, Q)) (fun n => rfl) ?_
      exact H
def w_ticked (I : Nat → Nat → Int32) (s : Int64) : Int64 := cond (Op.ifCond.holds .ne (I 3 8)) (w_tick1 I (w_tick1 I (w_tick1 I (w_tick1 I s 0) 1) 2) 3) s
set_option maxRecDepth 1000000 in
theorem w_ticked_run (sh : List (Nat × Nat)) (J : Nat → Nat → Int64) (Q : Nat → Nat → Value) (I : Nat → Nat → Int32) (s : Int64) : mxRn 52 0 [(0, .ref 3), (1, .long s)] [] ((7, 18) :: (0, 200) :: (4, 6) :: (6, 9) :: sh, I, J, Q) (some (.long (w_ticked I s)), ((7, 18) :: (0, 200) :: (4, 6) :: (6, 9) :: sh, I, J, Q)) := by
  cases q : Op.ifCond.holds .ne (I 3 8) with
  | false =>
    have e : w_ticked I s = s := by unfold w_ticked; rw [q]; rfl
    rw [e]
    refine mxRn.if2 3 0 (bb := Op.ifCond.holds .ne (I 3 8)) (pc' := 7) (lv' := [(0, .ref 3), (1, .long s)]) (st' := []) (w' := ((7, 18) :: (0, 200) :: (4, 6) :: (6, 9) :: sh, I, J, Q)) (X := fun nf => mxev (nf + 0) 52 9 [(0, .ref 3), (1, .long s)] [] ((7, 18) :: (0, 200) :: (4, 6) :: (6, 9) :: sh, I, J, Q)) (fun n => rfl) q ?_
    exact mxRn.ret 2 (fun n => rfl)
  | true =>
    have e : w_ticked I s = w_tick1 I (w_tick1 I (w_tick1 I (w_tick1 I s 0) 1) 2) 3 := by unfold w_ticked; rw [q]; rfl
    rw [e]
    refine mxRn.it2 3 0 (bb := Op.ifCond.holds .ne (I 3 8)) (pc' := 9) (lv' := [(0, .ref 3), (1, .long s)]) (st' := []) (w' := ((7, 18) :: (0, 200) :: (4, 6) :: (6, 9) :: sh, I, J, Q)) (X := fun nf => mxev (nf + 0) 52 7 [(0, .ref 3), (1, .long s)] [] ((7, 18) :: (0, 200) :: (4, 6) :: (6, 9) :: sh, I, J, Q)) (fun n => rfl) q ?_
    refine mxRn.g2 4 0 (pc' := 14) (lv' := [(0, .ref 3), (1, .long s), (3, .long s), (5, .int 0)]) (st' := []) (w' := ((7, 18) :: (0, 200) :: (4, 6) :: (6, 9) :: sh, I, J, Q)) (fun n => rfl) ?_
    refine w_tk_it sh J Q I s (s) 0 rfl ?_
    show mxRn 52 14 [(0, .ref 3), (1, .long s), (3, .long (w_tick1 I (s) 0)), (5, .int 1)] [] ((7, 18) :: (0, 200) :: (4, 6) :: (6, 9) :: sh, I, J, Q) _
    refine w_tk_it sh J Q I s (w_tick1 I (s) 0) 1 rfl ?_
    show mxRn 52 14 [(0, .ref 3), (1, .long s), (3, .long (w_tick1 I (w_tick1 I (s) 0) 1)), (5, .int 2)] [] ((7, 18) :: (0, 200) :: (4, 6) :: (6, 9) :: sh, I, J, Q) _
    refine w_tk_it sh J Q I s (w_tick1 I (w_tick1 I (s) 0) 1) 2 rfl ?_
    show mxRn 52 14 [(0, .ref 3), (1, .long s), (3, .long (w_tick1 I (w_tick1 I (w_tick1 I (s) 0) 1) 2)), (5, .int 3)] [] ((7, 18) :: (0, 200) :: (4, 6) :: (6, 9) :: sh, I, J, Q) _
    refine w_tk_it sh J Q I s (w_tick1 I (w_tick1 I (w_tick1 I (s) 0) 1) 2) 3 rfl ?_
    show mxRn 52 14 [(0, .ref 3), (1, .long s), (3, .long (w_tick1 I (w_tick1 I (w_tick1 I (w_tick1 I (s) 0) 1) 2) 3)), (5, .int 4)] [] ((7, 18) :: (0, 200) :: (4, 6) :: (6, 9) :: sh, I, J, Q) _
    exact mxRn.ret 5 (fun n => rfl)
def w_after0 (I : Nat → Nat → Int32) (s : Int64) : Int64 := (w_visited I (s) (0))
set_option maxRecDepth 1000000 in
theorem w_after0_l0 (sh : List (Nat × Nat)) (J : Nat → Nat → Int64) (Q : Nat → Nat → Value) (I : Nat → Nat → Int32) (s : Int64) : mxRn 39 0 [(0, .ref 3), (1, .long (s)), (3, .int 0)] [] ((7, 18) :: (0, 200) :: (4, 6) :: (6, 9) :: sh, I, J, Q) (some (.long (w_visited I (s) (0))), ((7, 18) :: (0, 200) :: (4, 6) :: (6, 9) :: sh, I, J, Q)) := by
  refine mxRn.c2 6 0 (z := 43) (lz := [(0, .ref 3), (1, .long (s)), (3, .int 0)]) (w1 := ((7, 18) :: (0, 200) :: (4, 6) :: (6, 9) :: sh, I, J, Q)) (pc' := 66) (lv' := [(0, .ref 3), (1, .long (s)), (3, .int 0)]) (r := []) (fun n => rfl) (w_visited_run sh J Q I (s) (0)) ?_
  show mxRn 39 66 [(0, .ref 3), (1, .long (s)), (3, .int 0)] [.long (w_visited I (s) (0))] ((7, 18) :: (0, 200) :: (4, 6) :: (6, 9) :: sh, I, J, Q) _
  exact mxRn.ret 1 (fun n => rfl)
set_option maxRecDepth 1000000 in
theorem w_after0_run (sh : List (Nat × Nat)) (J : Nat → Nat → Int64) (Q : Nat → Nat → Value) (I : Nat → Nat → Int32) (s : Int64) : mxRn 39 0 [(0, .ref 3), (1, .long (s)), (3, .int 0)] [] ((7, 18) :: (0, 200) :: (4, 6) :: (6, 9) :: sh, I, J, Q) (some (.long (w_after0 I s)), ((7, 18) :: (0, 200) :: (4, 6) :: (6, 9) :: sh, I, J, Q)) := by
  have e : w_after0 I s = (w_visited I (s) (0)) := by unfold w_after0; rfl
  rw [e]
  exact w_after0_l0 sh J Q I s 
def w_after1 (I : Nat → Nat → Int32) (s : Int64) : Int64 := (w_loggedIn I (s) (0))
set_option maxRecDepth 1000000 in
theorem w_after1_l0 (sh : List (Nat × Nat)) (J : Nat → Nat → Int64) (Q : Nat → Nat → Value) (I : Nat → Nat → Int32) (s : Int64) : mxRn 39 0 [(0, .ref 3), (1, .long (s)), (3, .int 1)] [] ((7, 18) :: (0, 200) :: (4, 6) :: (6, 9) :: sh, I, J, Q) (some (.long (w_loggedIn I (s) (0))), ((7, 18) :: (0, 200) :: (4, 6) :: (6, 9) :: sh, I, J, Q)) := by
  refine mxRn.c2 6 0 (z := 45) (lz := [(0, .ref 3), (1, .long (s)), (3, .int 0)]) (w1 := ((7, 18) :: (0, 200) :: (4, 6) :: (6, 9) :: sh, I, J, Q)) (pc' := 73) (lv' := [(0, .ref 3), (1, .long (s)), (3, .int 1)]) (r := []) (fun n => rfl) (w_loggedIn_run sh J Q I (s) (0)) ?_
  show mxRn 39 73 [(0, .ref 3), (1, .long (s)), (3, .int 1)] [.long (w_loggedIn I (s) (0))] ((7, 18) :: (0, 200) :: (4, 6) :: (6, 9) :: sh, I, J, Q) _
  exact mxRn.ret 1 (fun n => rfl)
set_option maxRecDepth 1000000 in
theorem w_after1_run (sh : List (Nat × Nat)) (J : Nat → Nat → Int64) (Q : Nat → Nat → Value) (I : Nat → Nat → Int32) (s : Int64) : mxRn 39 0 [(0, .ref 3), (1, .long (s)), (3, .int 1)] [] ((7, 18) :: (0, 200) :: (4, 6) :: (6, 9) :: sh, I, J, Q) (some (.long (w_after1 I s)), ((7, 18) :: (0, 200) :: (4, 6) :: (6, 9) :: sh, I, J, Q)) := by
  have e : w_after1 I s = (w_loggedIn I (s) (0)) := by unfold w_after1; rfl
  rw [e]
  exact w_after1_l0 sh J Q I s 
def w_after2 (I : Nat → Nat → Int32) (s : Int64) : Int64 := (w_left I (s))
set_option maxRecDepth 1000000 in
theorem w_after2_l0 (sh : List (Nat × Nat)) (J : Nat → Nat → Int64) (Q : Nat → Nat → Value) (I : Nat → Nat → Int32) (s : Int64) : mxRn 39 0 [(0, .ref 3), (1, .long (s)), (3, .int 2)] [] ((7, 18) :: (0, 200) :: (4, 6) :: (6, 9) :: sh, I, J, Q) (some (.long (w_left I (s))), ((7, 18) :: (0, 200) :: (4, 6) :: (6, 9) :: sh, I, J, Q)) := by
  refine mxRn.c2 5 0 (z := 46) (lz := [(0, .ref 3), (1, .long (s))]) (w1 := ((7, 18) :: (0, 200) :: (4, 6) :: (6, 9) :: sh, I, J, Q)) (pc' := 79) (lv' := [(0, .ref 3), (1, .long (s)), (3, .int 2)]) (r := []) (fun n => rfl) (w_left_run sh J Q I (s)) ?_
  show mxRn 39 79 [(0, .ref 3), (1, .long (s)), (3, .int 2)] [.long (w_left I (s))] ((7, 18) :: (0, 200) :: (4, 6) :: (6, 9) :: sh, I, J, Q) _
  exact mxRn.ret 1 (fun n => rfl)
set_option maxRecDepth 1000000 in
theorem w_after2_run (sh : List (Nat × Nat)) (J : Nat → Nat → Int64) (Q : Nat → Nat → Value) (I : Nat → Nat → Int32) (s : Int64) : mxRn 39 0 [(0, .ref 3), (1, .long (s)), (3, .int 2)] [] ((7, 18) :: (0, 200) :: (4, 6) :: (6, 9) :: sh, I, J, Q) (some (.long (w_after2 I s)), ((7, 18) :: (0, 200) :: (4, 6) :: (6, 9) :: sh, I, J, Q)) := by
  have e : w_after2 I s = (w_left I (s)) := by unfold w_after2; rfl
  rw [e]
  exact w_after2_l0 sh J Q I s 
def w_after3 (I : Nat → Nat → Int32) (s : Int64) : Int64 := (cond (Op.ifCond.holds .eq (cond (w_canAct I (s)) 1 0)) (-1) (s))
set_option maxRecDepth 1000000 in
theorem w_after3_l0 (sh : List (Nat × Nat)) (J : Nat → Nat → Int64) (Q : Nat → Nat → Value) (I : Nat → Nat → Int32) (s : Int64) (c1 : Op.ifCond.holds .eq (cond (w_canAct I (s)) 1 0) = true) : mxRn 39 0 [(0, .ref 3), (1, .long (s)), (3, .int 3)] [] ((7, 18) :: (0, 200) :: (4, 6) :: (6, 9) :: sh, I, J, Q) (some (.long (-1)), ((7, 18) :: (0, 200) :: (4, 6) :: (6, 9) :: sh, I, J, Q)) := by
  refine mxRn.c2 5 0 (z := 47) (lz := [(0, .ref 3), (1, .long (s))]) (w1 := ((7, 18) :: (0, 200) :: (4, 6) :: (6, 9) :: sh, I, J, Q)) (pc' := 85) (lv' := [(0, .ref 3), (1, .long (s)), (3, .int 3)]) (r := []) (fun n => rfl) (w_canAct_run sh J Q I (s)) ?_
  show mxRn 39 85 [(0, .ref 3), (1, .long (s)), (3, .int 3)] [.int (cond (w_canAct I (s)) 1 0)] ((7, 18) :: (0, 200) :: (4, 6) :: (6, 9) :: sh, I, J, Q) _
  refine mxRn.it2 1 0 (bb := Op.ifCond.holds .eq (cond (w_canAct I (s)) 1 0)) (pc' := 92) (lv' := [(0, .ref 3), (1, .long (s)), (3, .int 3)]) (st' := []) (w' := ((7, 18) :: (0, 200) :: (4, 6) :: (6, 9) :: sh, I, J, Q)) (X := fun nf => mxev (nf + 0) 39 88 [(0, .ref 3), (1, .long (s)), (3, .int 3)] [] ((7, 18) :: (0, 200) :: (4, 6) :: (6, 9) :: sh, I, J, Q)) (fun n => rfl) c1 ?_
  exact mxRn.ret 2 (fun n => rfl)
set_option maxRecDepth 1000000 in
theorem w_after3_l1 (sh : List (Nat × Nat)) (J : Nat → Nat → Int64) (Q : Nat → Nat → Value) (I : Nat → Nat → Int32) (s : Int64) (c1 : Op.ifCond.holds .eq (cond (w_canAct I (s)) 1 0) = false) : mxRn 39 0 [(0, .ref 3), (1, .long (s)), (3, .int 3)] [] ((7, 18) :: (0, 200) :: (4, 6) :: (6, 9) :: sh, I, J, Q) (some (.long (s)), ((7, 18) :: (0, 200) :: (4, 6) :: (6, 9) :: sh, I, J, Q)) := by
  refine mxRn.c2 5 0 (z := 47) (lz := [(0, .ref 3), (1, .long (s))]) (w1 := ((7, 18) :: (0, 200) :: (4, 6) :: (6, 9) :: sh, I, J, Q)) (pc' := 85) (lv' := [(0, .ref 3), (1, .long (s)), (3, .int 3)]) (r := []) (fun n => rfl) (w_canAct_run sh J Q I (s)) ?_
  show mxRn 39 85 [(0, .ref 3), (1, .long (s)), (3, .int 3)] [.int (cond (w_canAct I (s)) 1 0)] ((7, 18) :: (0, 200) :: (4, 6) :: (6, 9) :: sh, I, J, Q) _
  refine mxRn.if2 1 0 (bb := Op.ifCond.holds .eq (cond (w_canAct I (s)) 1 0)) (pc' := 88) (lv' := [(0, .ref 3), (1, .long (s)), (3, .int 3)]) (st' := []) (w' := ((7, 18) :: (0, 200) :: (4, 6) :: (6, 9) :: sh, I, J, Q)) (X := fun nf => mxev (nf + 0) 39 92 [(0, .ref 3), (1, .long (s)), (3, .int 3)] [] ((7, 18) :: (0, 200) :: (4, 6) :: (6, 9) :: sh, I, J, Q)) (fun n => rfl) c1 ?_
  exact mxRn.ret 3 (fun n => rfl)
set_option maxRecDepth 1000000 in
theorem w_after3_run (sh : List (Nat × Nat)) (J : Nat → Nat → Int64) (Q : Nat → Nat → Value) (I : Nat → Nat → Int32) (s : Int64) : mxRn 39 0 [(0, .ref 3), (1, .long (s)), (3, .int 3)] [] ((7, 18) :: (0, 200) :: (4, 6) :: (6, 9) :: sh, I, J, Q) (some (.long (w_after3 I s)), ((7, 18) :: (0, 200) :: (4, 6) :: (6, 9) :: sh, I, J, Q)) := by
  cases c1 : Op.ifCond.holds .eq (cond (w_canAct I (s)) 1 0) with
  | true =>
    have e : w_after3 I s = (-1) := by unfold w_after3; rw [c1]; rfl
    rw [e]
    exact w_after3_l0 sh J Q I s c1
  | false =>
    have e : w_after3 I s = (s) := by unfold w_after3; rw [c1]; rfl
    rw [e]
    exact w_after3_l1 sh J Q I s c1
def w_after4 (I : Nat → Nat → Int32) (s : Int64) : Int64 := (w_followed I (s))
set_option maxRecDepth 1000000 in
theorem w_after4_l0 (sh : List (Nat × Nat)) (J : Nat → Nat → Int64) (Q : Nat → Nat → Value) (I : Nat → Nat → Int32) (s : Int64) : mxRn 39 0 [(0, .ref 3), (1, .long (s)), (3, .int 4)] [] ((7, 18) :: (0, 200) :: (4, 6) :: (6, 9) :: sh, I, J, Q) (some (.long (w_followed I (s))), ((7, 18) :: (0, 200) :: (4, 6) :: (6, 9) :: sh, I, J, Q)) := by
  refine mxRn.c2 5 0 (z := 48) (lz := [(0, .ref 3), (1, .long (s))]) (w1 := ((7, 18) :: (0, 200) :: (4, 6) :: (6, 9) :: sh, I, J, Q)) (pc' := 101) (lv' := [(0, .ref 3), (1, .long (s)), (3, .int 4)]) (r := []) (fun n => rfl) (w_followed_run sh J Q I (s)) ?_
  show mxRn 39 101 [(0, .ref 3), (1, .long (s)), (3, .int 4)] [.long (w_followed I (s))] ((7, 18) :: (0, 200) :: (4, 6) :: (6, 9) :: sh, I, J, Q) _
  exact mxRn.ret 1 (fun n => rfl)
set_option maxRecDepth 1000000 in
theorem w_after4_run (sh : List (Nat × Nat)) (J : Nat → Nat → Int64) (Q : Nat → Nat → Value) (I : Nat → Nat → Int32) (s : Int64) : mxRn 39 0 [(0, .ref 3), (1, .long (s)), (3, .int 4)] [] ((7, 18) :: (0, 200) :: (4, 6) :: (6, 9) :: sh, I, J, Q) (some (.long (w_after4 I s)), ((7, 18) :: (0, 200) :: (4, 6) :: (6, 9) :: sh, I, J, Q)) := by
  have e : w_after4 I s = (w_followed I (s)) := by unfold w_after4; rfl
  rw [e]
  exact w_after4_l0 sh J Q I s 
def w_after5 (I : Nat → Nat → Int32) (s : Int64) : Int64 := (cond (Op.ifCond.holds .eq (cond (w_canBeSent I (s)) 1 0)) (-1) (s))
set_option maxRecDepth 1000000 in
theorem w_after5_l0 (sh : List (Nat × Nat)) (J : Nat → Nat → Int64) (Q : Nat → Nat → Value) (I : Nat → Nat → Int32) (s : Int64) (c1 : Op.ifCond.holds .eq (cond (w_canBeSent I (s)) 1 0) = true) : mxRn 39 0 [(0, .ref 3), (1, .long (s)), (3, .int 5)] [] ((7, 18) :: (0, 200) :: (4, 6) :: (6, 9) :: sh, I, J, Q) (some (.long (-1)), ((7, 18) :: (0, 200) :: (4, 6) :: (6, 9) :: sh, I, J, Q)) := by
  refine mxRn.c2 5 0 (z := 49) (lz := [(0, .ref 3), (1, .long (s))]) (w1 := ((7, 18) :: (0, 200) :: (4, 6) :: (6, 9) :: sh, I, J, Q)) (pc' := 107) (lv' := [(0, .ref 3), (1, .long (s)), (3, .int 5)]) (r := []) (fun n => rfl) (w_canBeSent_run sh J Q I (s)) ?_
  show mxRn 39 107 [(0, .ref 3), (1, .long (s)), (3, .int 5)] [.int (cond (w_canBeSent I (s)) 1 0)] ((7, 18) :: (0, 200) :: (4, 6) :: (6, 9) :: sh, I, J, Q) _
  refine mxRn.it2 1 0 (bb := Op.ifCond.holds .eq (cond (w_canBeSent I (s)) 1 0)) (pc' := 114) (lv' := [(0, .ref 3), (1, .long (s)), (3, .int 5)]) (st' := []) (w' := ((7, 18) :: (0, 200) :: (4, 6) :: (6, 9) :: sh, I, J, Q)) (X := fun nf => mxev (nf + 0) 39 110 [(0, .ref 3), (1, .long (s)), (3, .int 5)] [] ((7, 18) :: (0, 200) :: (4, 6) :: (6, 9) :: sh, I, J, Q)) (fun n => rfl) c1 ?_
  exact mxRn.ret 2 (fun n => rfl)
set_option maxRecDepth 1000000 in
theorem w_after5_l1 (sh : List (Nat × Nat)) (J : Nat → Nat → Int64) (Q : Nat → Nat → Value) (I : Nat → Nat → Int32) (s : Int64) (c1 : Op.ifCond.holds .eq (cond (w_canBeSent I (s)) 1 0) = false) : mxRn 39 0 [(0, .ref 3), (1, .long (s)), (3, .int 5)] [] ((7, 18) :: (0, 200) :: (4, 6) :: (6, 9) :: sh, I, J, Q) (some (.long (s)), ((7, 18) :: (0, 200) :: (4, 6) :: (6, 9) :: sh, I, J, Q)) := by
  refine mxRn.c2 5 0 (z := 49) (lz := [(0, .ref 3), (1, .long (s))]) (w1 := ((7, 18) :: (0, 200) :: (4, 6) :: (6, 9) :: sh, I, J, Q)) (pc' := 107) (lv' := [(0, .ref 3), (1, .long (s)), (3, .int 5)]) (r := []) (fun n => rfl) (w_canBeSent_run sh J Q I (s)) ?_
  show mxRn 39 107 [(0, .ref 3), (1, .long (s)), (3, .int 5)] [.int (cond (w_canBeSent I (s)) 1 0)] ((7, 18) :: (0, 200) :: (4, 6) :: (6, 9) :: sh, I, J, Q) _
  refine mxRn.if2 1 0 (bb := Op.ifCond.holds .eq (cond (w_canBeSent I (s)) 1 0)) (pc' := 110) (lv' := [(0, .ref 3), (1, .long (s)), (3, .int 5)]) (st' := []) (w' := ((7, 18) :: (0, 200) :: (4, 6) :: (6, 9) :: sh, I, J, Q)) (X := fun nf => mxev (nf + 0) 39 114 [(0, .ref 3), (1, .long (s)), (3, .int 5)] [] ((7, 18) :: (0, 200) :: (4, 6) :: (6, 9) :: sh, I, J, Q)) (fun n => rfl) c1 ?_
  exact mxRn.ret 3 (fun n => rfl)
set_option maxRecDepth 1000000 in
theorem w_after5_run (sh : List (Nat × Nat)) (J : Nat → Nat → Int64) (Q : Nat → Nat → Value) (I : Nat → Nat → Int32) (s : Int64) : mxRn 39 0 [(0, .ref 3), (1, .long (s)), (3, .int 5)] [] ((7, 18) :: (0, 200) :: (4, 6) :: (6, 9) :: sh, I, J, Q) (some (.long (w_after5 I s)), ((7, 18) :: (0, 200) :: (4, 6) :: (6, 9) :: sh, I, J, Q)) := by
  cases c1 : Op.ifCond.holds .eq (cond (w_canBeSent I (s)) 1 0) with
  | true =>
    have e : w_after5 I s = (-1) := by unfold w_after5; rw [c1]; rfl
    rw [e]
    exact w_after5_l0 sh J Q I s c1
  | false =>
    have e : w_after5 I s = (s) := by unfold w_after5; rw [c1]; rfl
    rw [e]
    exact w_after5_l1 sh J Q I s c1
def w_after6 (I : Nat → Nat → Int32) (s : Int64) : Int64 := (w_shown I (s))
set_option maxRecDepth 1000000 in
theorem w_after6_l0 (sh : List (Nat × Nat)) (J : Nat → Nat → Int64) (Q : Nat → Nat → Value) (I : Nat → Nat → Int32) (s : Int64) : mxRn 39 0 [(0, .ref 3), (1, .long (s)), (3, .int 6)] [] ((7, 18) :: (0, 200) :: (4, 6) :: (6, 9) :: sh, I, J, Q) (some (.long (w_shown I (s))), ((7, 18) :: (0, 200) :: (4, 6) :: (6, 9) :: sh, I, J, Q)) := by
  refine mxRn.c2 5 0 (z := 50) (lz := [(0, .ref 3), (1, .long (s))]) (w1 := ((7, 18) :: (0, 200) :: (4, 6) :: (6, 9) :: sh, I, J, Q)) (pc' := 123) (lv' := [(0, .ref 3), (1, .long (s)), (3, .int 6)]) (r := []) (fun n => rfl) (w_shown_run sh J Q I (s)) ?_
  show mxRn 39 123 [(0, .ref 3), (1, .long (s)), (3, .int 6)] [.long (w_shown I (s))] ((7, 18) :: (0, 200) :: (4, 6) :: (6, 9) :: sh, I, J, Q) _
  exact mxRn.ret 1 (fun n => rfl)
set_option maxRecDepth 1000000 in
theorem w_after6_run (sh : List (Nat × Nat)) (J : Nat → Nat → Int64) (Q : Nat → Nat → Value) (I : Nat → Nat → Int32) (s : Int64) : mxRn 39 0 [(0, .ref 3), (1, .long (s)), (3, .int 6)] [] ((7, 18) :: (0, 200) :: (4, 6) :: (6, 9) :: sh, I, J, Q) (some (.long (w_after6 I s)), ((7, 18) :: (0, 200) :: (4, 6) :: (6, 9) :: sh, I, J, Q)) := by
  have e : w_after6 I s = (w_shown I (s)) := by unfold w_after6; rfl
  rw [e]
  exact w_after6_l0 sh J Q I s 
def w_after7 (I : Nat → Nat → Int32) (s : Int64) : Int64 := (w_visited I (s) (1))
set_option maxRecDepth 1000000 in
theorem w_after7_l0 (sh : List (Nat × Nat)) (J : Nat → Nat → Int64) (Q : Nat → Nat → Value) (I : Nat → Nat → Int32) (s : Int64) : mxRn 39 0 [(0, .ref 3), (1, .long (s)), (3, .int 7)] [] ((7, 18) :: (0, 200) :: (4, 6) :: (6, 9) :: sh, I, J, Q) (some (.long (w_visited I (s) (1))), ((7, 18) :: (0, 200) :: (4, 6) :: (6, 9) :: sh, I, J, Q)) := by
  refine mxRn.c2 6 0 (z := 43) (lz := [(0, .ref 3), (1, .long (s)), (3, .int 1)]) (w1 := ((7, 18) :: (0, 200) :: (4, 6) :: (6, 9) :: sh, I, J, Q)) (pc' := 130) (lv' := [(0, .ref 3), (1, .long (s)), (3, .int 7)]) (r := []) (fun n => rfl) (w_visited_run sh J Q I (s) (1)) ?_
  show mxRn 39 130 [(0, .ref 3), (1, .long (s)), (3, .int 7)] [.long (w_visited I (s) (1))] ((7, 18) :: (0, 200) :: (4, 6) :: (6, 9) :: sh, I, J, Q) _
  exact mxRn.ret 1 (fun n => rfl)
set_option maxRecDepth 1000000 in
theorem w_after7_run (sh : List (Nat × Nat)) (J : Nat → Nat → Int64) (Q : Nat → Nat → Value) (I : Nat → Nat → Int32) (s : Int64) : mxRn 39 0 [(0, .ref 3), (1, .long (s)), (3, .int 7)] [] ((7, 18) :: (0, 200) :: (4, 6) :: (6, 9) :: sh, I, J, Q) (some (.long (w_after7 I s)), ((7, 18) :: (0, 200) :: (4, 6) :: (6, 9) :: sh, I, J, Q)) := by
  have e : w_after7 I s = (w_visited I (s) (1)) := by unfold w_after7; rfl
  rw [e]
  exact w_after7_l0 sh J Q I s 
def w_after8 (I : Nat → Nat → Int32) (s : Int64) : Int64 := (w_loggedIn I (s) (1))
set_option maxRecDepth 1000000 in
theorem w_after8_l0 (sh : List (Nat × Nat)) (J : Nat → Nat → Int64) (Q : Nat → Nat → Value) (I : Nat → Nat → Int32) (s : Int64) : mxRn 39 0 [(0, .ref 3), (1, .long (s)), (3, .int 8)] [] ((7, 18) :: (0, 200) :: (4, 6) :: (6, 9) :: sh, I, J, Q) (some (.long (w_loggedIn I (s) (1))), ((7, 18) :: (0, 200) :: (4, 6) :: (6, 9) :: sh, I, J, Q)) := by
  refine mxRn.c2 6 0 (z := 45) (lz := [(0, .ref 3), (1, .long (s)), (3, .int 1)]) (w1 := ((7, 18) :: (0, 200) :: (4, 6) :: (6, 9) :: sh, I, J, Q)) (pc' := 137) (lv' := [(0, .ref 3), (1, .long (s)), (3, .int 8)]) (r := []) (fun n => rfl) (w_loggedIn_run sh J Q I (s) (1)) ?_
  show mxRn 39 137 [(0, .ref 3), (1, .long (s)), (3, .int 8)] [.long (w_loggedIn I (s) (1))] ((7, 18) :: (0, 200) :: (4, 6) :: (6, 9) :: sh, I, J, Q) _
  exact mxRn.ret 1 (fun n => rfl)
set_option maxRecDepth 1000000 in
theorem w_after8_run (sh : List (Nat × Nat)) (J : Nat → Nat → Int64) (Q : Nat → Nat → Value) (I : Nat → Nat → Int32) (s : Int64) : mxRn 39 0 [(0, .ref 3), (1, .long (s)), (3, .int 8)] [] ((7, 18) :: (0, 200) :: (4, 6) :: (6, 9) :: sh, I, J, Q) (some (.long (w_after8 I s)), ((7, 18) :: (0, 200) :: (4, 6) :: (6, 9) :: sh, I, J, Q)) := by
  have e : w_after8 I s = (w_loggedIn I (s) (1)) := by unfold w_after8; rfl
  rw [e]
  exact w_after8_l0 sh J Q I s 
def w_after9 (I : Nat → Nat → Int32) (s : Int64) : Int64 := (cond (Op.ifCond.holds .eq (cond (w_canRide I (s)) 1 0)) (-1) (s))
set_option maxRecDepth 1000000 in
theorem w_after9_l0 (sh : List (Nat × Nat)) (J : Nat → Nat → Int64) (Q : Nat → Nat → Value) (I : Nat → Nat → Int32) (s : Int64) (c1 : Op.ifCond.holds .eq (cond (w_canRide I (s)) 1 0) = true) : mxRn 39 0 [(0, .ref 3), (1, .long (s)), (3, .int 9)] [] ((7, 18) :: (0, 200) :: (4, 6) :: (6, 9) :: sh, I, J, Q) (some (.long (-1)), ((7, 18) :: (0, 200) :: (4, 6) :: (6, 9) :: sh, I, J, Q)) := by
  refine mxRn.c2 5 0 (z := 51) (lz := [(0, .ref 3), (1, .long (s))]) (w1 := ((7, 18) :: (0, 200) :: (4, 6) :: (6, 9) :: sh, I, J, Q)) (pc' := 143) (lv' := [(0, .ref 3), (1, .long (s)), (3, .int 9)]) (r := []) (fun n => rfl) (w_canRide_run sh J Q I (s)) ?_
  show mxRn 39 143 [(0, .ref 3), (1, .long (s)), (3, .int 9)] [.int (cond (w_canRide I (s)) 1 0)] ((7, 18) :: (0, 200) :: (4, 6) :: (6, 9) :: sh, I, J, Q) _
  refine mxRn.it2 1 0 (bb := Op.ifCond.holds .eq (cond (w_canRide I (s)) 1 0)) (pc' := 150) (lv' := [(0, .ref 3), (1, .long (s)), (3, .int 9)]) (st' := []) (w' := ((7, 18) :: (0, 200) :: (4, 6) :: (6, 9) :: sh, I, J, Q)) (X := fun nf => mxev (nf + 0) 39 146 [(0, .ref 3), (1, .long (s)), (3, .int 9)] [] ((7, 18) :: (0, 200) :: (4, 6) :: (6, 9) :: sh, I, J, Q)) (fun n => rfl) c1 ?_
  exact mxRn.ret 2 (fun n => rfl)
set_option maxRecDepth 1000000 in
theorem w_after9_l1 (sh : List (Nat × Nat)) (J : Nat → Nat → Int64) (Q : Nat → Nat → Value) (I : Nat → Nat → Int32) (s : Int64) (c1 : Op.ifCond.holds .eq (cond (w_canRide I (s)) 1 0) = false) : mxRn 39 0 [(0, .ref 3), (1, .long (s)), (3, .int 9)] [] ((7, 18) :: (0, 200) :: (4, 6) :: (6, 9) :: sh, I, J, Q) (some (.long (s)), ((7, 18) :: (0, 200) :: (4, 6) :: (6, 9) :: sh, I, J, Q)) := by
  refine mxRn.c2 5 0 (z := 51) (lz := [(0, .ref 3), (1, .long (s))]) (w1 := ((7, 18) :: (0, 200) :: (4, 6) :: (6, 9) :: sh, I, J, Q)) (pc' := 143) (lv' := [(0, .ref 3), (1, .long (s)), (3, .int 9)]) (r := []) (fun n => rfl) (w_canRide_run sh J Q I (s)) ?_
  show mxRn 39 143 [(0, .ref 3), (1, .long (s)), (3, .int 9)] [.int (cond (w_canRide I (s)) 1 0)] ((7, 18) :: (0, 200) :: (4, 6) :: (6, 9) :: sh, I, J, Q) _
  refine mxRn.if2 1 0 (bb := Op.ifCond.holds .eq (cond (w_canRide I (s)) 1 0)) (pc' := 146) (lv' := [(0, .ref 3), (1, .long (s)), (3, .int 9)]) (st' := []) (w' := ((7, 18) :: (0, 200) :: (4, 6) :: (6, 9) :: sh, I, J, Q)) (X := fun nf => mxev (nf + 0) 39 150 [(0, .ref 3), (1, .long (s)), (3, .int 9)] [] ((7, 18) :: (0, 200) :: (4, 6) :: (6, 9) :: sh, I, J, Q)) (fun n => rfl) c1 ?_
  exact mxRn.ret 3 (fun n => rfl)
set_option maxRecDepth 1000000 in
theorem w_after9_run (sh : List (Nat × Nat)) (J : Nat → Nat → Int64) (Q : Nat → Nat → Value) (I : Nat → Nat → Int32) (s : Int64) : mxRn 39 0 [(0, .ref 3), (1, .long (s)), (3, .int 9)] [] ((7, 18) :: (0, 200) :: (4, 6) :: (6, 9) :: sh, I, J, Q) (some (.long (w_after9 I s)), ((7, 18) :: (0, 200) :: (4, 6) :: (6, 9) :: sh, I, J, Q)) := by
  cases c1 : Op.ifCond.holds .eq (cond (w_canRide I (s)) 1 0) with
  | true =>
    have e : w_after9 I s = (-1) := by unfold w_after9; rw [c1]; rfl
    rw [e]
    exact w_after9_l0 sh J Q I s c1
  | false =>
    have e : w_after9 I s = (s) := by unfold w_after9; rw [c1]; rfl
    rw [e]
    exact w_after9_l1 sh J Q I s c1
def w_after10 (I : Nat → Nat → Int32) (s : Int64) : Int64 := (w_ticked I (s))
set_option maxRecDepth 1000000 in
theorem w_after10_l0 (sh : List (Nat × Nat)) (J : Nat → Nat → Int64) (Q : Nat → Nat → Value) (I : Nat → Nat → Int32) (s : Int64) : mxRn 39 0 [(0, .ref 3), (1, .long (s)), (3, .int 10)] [] ((7, 18) :: (0, 200) :: (4, 6) :: (6, 9) :: sh, I, J, Q) (some (.long (w_ticked I (s))), ((7, 18) :: (0, 200) :: (4, 6) :: (6, 9) :: sh, I, J, Q)) := by
  refine mxRn.c2 5 0 (z := 52) (lz := [(0, .ref 3), (1, .long (s))]) (w1 := ((7, 18) :: (0, 200) :: (4, 6) :: (6, 9) :: sh, I, J, Q)) (pc' := 159) (lv' := [(0, .ref 3), (1, .long (s)), (3, .int 10)]) (r := []) (fun n => rfl) (w_ticked_run sh J Q I (s)) ?_
  show mxRn 39 159 [(0, .ref 3), (1, .long (s)), (3, .int 10)] [.long (w_ticked I (s))] ((7, 18) :: (0, 200) :: (4, 6) :: (6, 9) :: sh, I, J, Q) _
  exact mxRn.ret 1 (fun n => rfl)
set_option maxRecDepth 1000000 in
theorem w_after10_run (sh : List (Nat × Nat)) (J : Nat → Nat → Int64) (Q : Nat → Nat → Value) (I : Nat → Nat → Int32) (s : Int64) : mxRn 39 0 [(0, .ref 3), (1, .long (s)), (3, .int 10)] [] ((7, 18) :: (0, 200) :: (4, 6) :: (6, 9) :: sh, I, J, Q) (some (.long (w_after10 I s)), ((7, 18) :: (0, 200) :: (4, 6) :: (6, 9) :: sh, I, J, Q)) := by
  have e : w_after10 I s = (w_ticked I (s)) := by unfold w_after10; rfl
  rw [e]
  exact w_after10_l0 sh J Q I s 
def w_flaw0 (I : Nat → Nat → Int32) (s : Int64) : Int32 := 0
set_option maxRecDepth 1000000 in
theorem w_flaw0_l0 (sh : List (Nat × Nat)) (J : Nat → Nat → Int64) (Q : Nat → Nat → Value) (I : Nat → Nat → Int32) (s : Int64) : mxRn 40 0 [(0, .ref 3), (1, .long (s)), (3, .int 0)] [] ((7, 18) :: (0, 200) :: (4, 6) :: (6, 9) :: sh, I, J, Q) (some (.int 0), ((7, 18) :: (0, 200) :: (4, 6) :: (6, 9) :: sh, I, J, Q)) := by
  exact mxRn.ret 4 (fun n => rfl)
set_option maxRecDepth 1000000 in
theorem w_flaw0_run (sh : List (Nat × Nat)) (J : Nat → Nat → Int64) (Q : Nat → Nat → Value) (I : Nat → Nat → Int32) (s : Int64) : mxRn 40 0 [(0, .ref 3), (1, .long (s)), (3, .int 0)] [] ((7, 18) :: (0, 200) :: (4, 6) :: (6, 9) :: sh, I, J, Q) (some (.int (w_flaw0 I s)), ((7, 18) :: (0, 200) :: (4, 6) :: (6, 9) :: sh, I, J, Q)) := by
  have e : w_flaw0 I s = 0 := by unfold w_flaw0; rfl
  rw [e]
  exact w_flaw0_l0 sh J Q I s 
def w_flaw1 (I : Nat → Nat → Int32) (s : Int64) : Int32 := 0
set_option maxRecDepth 1000000 in
theorem w_flaw1_l0 (sh : List (Nat × Nat)) (J : Nat → Nat → Int64) (Q : Nat → Nat → Value) (I : Nat → Nat → Int32) (s : Int64) : mxRn 40 0 [(0, .ref 3), (1, .long (s)), (3, .int 1)] [] ((7, 18) :: (0, 200) :: (4, 6) :: (6, 9) :: sh, I, J, Q) (some (.int 0), ((7, 18) :: (0, 200) :: (4, 6) :: (6, 9) :: sh, I, J, Q)) := by
  exact mxRn.ret 4 (fun n => rfl)
set_option maxRecDepth 1000000 in
theorem w_flaw1_run (sh : List (Nat × Nat)) (J : Nat → Nat → Int64) (Q : Nat → Nat → Value) (I : Nat → Nat → Int32) (s : Int64) : mxRn 40 0 [(0, .ref 3), (1, .long (s)), (3, .int 1)] [] ((7, 18) :: (0, 200) :: (4, 6) :: (6, 9) :: sh, I, J, Q) (some (.int (w_flaw1 I s)), ((7, 18) :: (0, 200) :: (4, 6) :: (6, 9) :: sh, I, J, Q)) := by
  have e : w_flaw1 I s = 0 := by unfold w_flaw1; rfl
  rw [e]
  exact w_flaw1_l0 sh J Q I s 
def w_flaw2 (I : Nat → Nat → Int32) (s : Int64) : Int32 := 0
set_option maxRecDepth 1000000 in
theorem w_flaw2_l0 (sh : List (Nat × Nat)) (J : Nat → Nat → Int64) (Q : Nat → Nat → Value) (I : Nat → Nat → Int32) (s : Int64) : mxRn 40 0 [(0, .ref 3), (1, .long (s)), (3, .int 2)] [] ((7, 18) :: (0, 200) :: (4, 6) :: (6, 9) :: sh, I, J, Q) (some (.int 0), ((7, 18) :: (0, 200) :: (4, 6) :: (6, 9) :: sh, I, J, Q)) := by
  exact mxRn.ret 4 (fun n => rfl)
set_option maxRecDepth 1000000 in
theorem w_flaw2_run (sh : List (Nat × Nat)) (J : Nat → Nat → Int64) (Q : Nat → Nat → Value) (I : Nat → Nat → Int32) (s : Int64) : mxRn 40 0 [(0, .ref 3), (1, .long (s)), (3, .int 2)] [] ((7, 18) :: (0, 200) :: (4, 6) :: (6, 9) :: sh, I, J, Q) (some (.int (w_flaw2 I s)), ((7, 18) :: (0, 200) :: (4, 6) :: (6, 9) :: sh, I, J, Q)) := by
  have e : w_flaw2 I s = 0 := by unfold w_flaw2; rfl
  rw [e]
  exact w_flaw2_l0 sh J Q I s 
def w_flaw3 (I : Nat → Nat → Int32) (s : Int64) : Int32 := (cond (Op.ifCond.holds .eq (cond (w_canAct I (s)) 1 0)) 0 (cond (Op.ifCond.holds .eq (cond (w_visitorHolds (s) (2)) 1 0)) 0 3))
set_option maxRecDepth 1000000 in
theorem w_flaw3_l0 (sh : List (Nat × Nat)) (J : Nat → Nat → Int64) (Q : Nat → Nat → Value) (I : Nat → Nat → Int32) (s : Int64) (c1 : Op.ifCond.holds .eq (cond (w_canAct I (s)) 1 0) = true) : mxRn 40 0 [(0, .ref 3), (1, .long (s)), (3, .int 3)] [] ((7, 18) :: (0, 200) :: (4, 6) :: (6, 9) :: sh, I, J, Q) (some (.int 0), ((7, 18) :: (0, 200) :: (4, 6) :: (6, 9) :: sh, I, J, Q)) := by
  refine mxRn.c2 5 0 (z := 47) (lz := [(0, .ref 3), (1, .long (s))]) (w1 := ((7, 18) :: (0, 200) :: (4, 6) :: (6, 9) :: sh, I, J, Q)) (pc' := 41) (lv' := [(0, .ref 3), (1, .long (s)), (3, .int 3)]) (r := []) (fun n => rfl) (w_canAct_run sh J Q I (s)) ?_
  show mxRn 40 41 [(0, .ref 3), (1, .long (s)), (3, .int 3)] [.int (cond (w_canAct I (s)) 1 0)] ((7, 18) :: (0, 200) :: (4, 6) :: (6, 9) :: sh, I, J, Q) _
  refine mxRn.it2 1 0 (bb := Op.ifCond.holds .eq (cond (w_canAct I (s)) 1 0)) (pc' := 56) (lv' := [(0, .ref 3), (1, .long (s)), (3, .int 3)]) (st' := []) (w' := ((7, 18) :: (0, 200) :: (4, 6) :: (6, 9) :: sh, I, J, Q)) (X := fun nf => mxev (nf + 0) 40 44 [(0, .ref 3), (1, .long (s)), (3, .int 3)] [] ((7, 18) :: (0, 200) :: (4, 6) :: (6, 9) :: sh, I, J, Q)) (fun n => rfl) c1 ?_
  exact mxRn.ret 2 (fun n => rfl)
set_option maxRecDepth 1000000 in
theorem w_flaw3_l1 (sh : List (Nat × Nat)) (J : Nat → Nat → Int64) (Q : Nat → Nat → Value) (I : Nat → Nat → Int32) (s : Int64) (c1 : Op.ifCond.holds .eq (cond (w_canAct I (s)) 1 0) = false) (c2 : Op.ifCond.holds .eq (cond (w_visitorHolds (s) (2)) 1 0) = true) : mxRn 40 0 [(0, .ref 3), (1, .long (s)), (3, .int 3)] [] ((7, 18) :: (0, 200) :: (4, 6) :: (6, 9) :: sh, I, J, Q) (some (.int 0), ((7, 18) :: (0, 200) :: (4, 6) :: (6, 9) :: sh, I, J, Q)) := by
  refine mxRn.c2 5 0 (z := 47) (lz := [(0, .ref 3), (1, .long (s))]) (w1 := ((7, 18) :: (0, 200) :: (4, 6) :: (6, 9) :: sh, I, J, Q)) (pc' := 41) (lv' := [(0, .ref 3), (1, .long (s)), (3, .int 3)]) (r := []) (fun n => rfl) (w_canAct_run sh J Q I (s)) ?_
  show mxRn 40 41 [(0, .ref 3), (1, .long (s)), (3, .int 3)] [.int (cond (w_canAct I (s)) 1 0)] ((7, 18) :: (0, 200) :: (4, 6) :: (6, 9) :: sh, I, J, Q) _
  refine mxRn.if2 1 0 (bb := Op.ifCond.holds .eq (cond (w_canAct I (s)) 1 0)) (pc' := 44) (lv' := [(0, .ref 3), (1, .long (s)), (3, .int 3)]) (st' := []) (w' := ((7, 18) :: (0, 200) :: (4, 6) :: (6, 9) :: sh, I, J, Q)) (X := fun nf => mxev (nf + 0) 40 56 [(0, .ref 3), (1, .long (s)), (3, .int 3)] [] ((7, 18) :: (0, 200) :: (4, 6) :: (6, 9) :: sh, I, J, Q)) (fun n => rfl) c1 ?_
  refine mxRn.c2 3 0 (z := 42) (lz := [(0, .long (s)), (2, .int 2)]) (w1 := ((7, 18) :: (0, 200) :: (4, 6) :: (6, 9) :: sh, I, J, Q)) (pc' := 49) (lv' := [(0, .ref 3), (1, .long (s)), (3, .int 3)]) (r := []) (fun n => rfl) (w_visitorHolds_run ((7, 18) :: (0, 200) :: (4, 6) :: (6, 9) :: sh, I, J, Q) (s) (2)) ?_
  show mxRn 40 49 [(0, .ref 3), (1, .long (s)), (3, .int 3)] [.int (cond (w_visitorHolds (s) (2)) 1 0)] ((7, 18) :: (0, 200) :: (4, 6) :: (6, 9) :: sh, I, J, Q) _
  refine mxRn.it2 1 0 (bb := Op.ifCond.holds .eq (cond (w_visitorHolds (s) (2)) 1 0)) (pc' := 56) (lv' := [(0, .ref 3), (1, .long (s)), (3, .int 3)]) (st' := []) (w' := ((7, 18) :: (0, 200) :: (4, 6) :: (6, 9) :: sh, I, J, Q)) (X := fun nf => mxev (nf + 0) 40 52 [(0, .ref 3), (1, .long (s)), (3, .int 3)] [] ((7, 18) :: (0, 200) :: (4, 6) :: (6, 9) :: sh, I, J, Q)) (fun n => rfl) c2 ?_
  exact mxRn.ret 2 (fun n => rfl)
set_option maxRecDepth 1000000 in
theorem w_flaw3_l2 (sh : List (Nat × Nat)) (J : Nat → Nat → Int64) (Q : Nat → Nat → Value) (I : Nat → Nat → Int32) (s : Int64) (c1 : Op.ifCond.holds .eq (cond (w_canAct I (s)) 1 0) = false) (c2 : Op.ifCond.holds .eq (cond (w_visitorHolds (s) (2)) 1 0) = false) : mxRn 40 0 [(0, .ref 3), (1, .long (s)), (3, .int 3)] [] ((7, 18) :: (0, 200) :: (4, 6) :: (6, 9) :: sh, I, J, Q) (some (.int 3), ((7, 18) :: (0, 200) :: (4, 6) :: (6, 9) :: sh, I, J, Q)) := by
  refine mxRn.c2 5 0 (z := 47) (lz := [(0, .ref 3), (1, .long (s))]) (w1 := ((7, 18) :: (0, 200) :: (4, 6) :: (6, 9) :: sh, I, J, Q)) (pc' := 41) (lv' := [(0, .ref 3), (1, .long (s)), (3, .int 3)]) (r := []) (fun n => rfl) (w_canAct_run sh J Q I (s)) ?_
  show mxRn 40 41 [(0, .ref 3), (1, .long (s)), (3, .int 3)] [.int (cond (w_canAct I (s)) 1 0)] ((7, 18) :: (0, 200) :: (4, 6) :: (6, 9) :: sh, I, J, Q) _
  refine mxRn.if2 1 0 (bb := Op.ifCond.holds .eq (cond (w_canAct I (s)) 1 0)) (pc' := 44) (lv' := [(0, .ref 3), (1, .long (s)), (3, .int 3)]) (st' := []) (w' := ((7, 18) :: (0, 200) :: (4, 6) :: (6, 9) :: sh, I, J, Q)) (X := fun nf => mxev (nf + 0) 40 56 [(0, .ref 3), (1, .long (s)), (3, .int 3)] [] ((7, 18) :: (0, 200) :: (4, 6) :: (6, 9) :: sh, I, J, Q)) (fun n => rfl) c1 ?_
  refine mxRn.c2 3 0 (z := 42) (lz := [(0, .long (s)), (2, .int 2)]) (w1 := ((7, 18) :: (0, 200) :: (4, 6) :: (6, 9) :: sh, I, J, Q)) (pc' := 49) (lv' := [(0, .ref 3), (1, .long (s)), (3, .int 3)]) (r := []) (fun n => rfl) (w_visitorHolds_run ((7, 18) :: (0, 200) :: (4, 6) :: (6, 9) :: sh, I, J, Q) (s) (2)) ?_
  show mxRn 40 49 [(0, .ref 3), (1, .long (s)), (3, .int 3)] [.int (cond (w_visitorHolds (s) (2)) 1 0)] ((7, 18) :: (0, 200) :: (4, 6) :: (6, 9) :: sh, I, J, Q) _
  refine mxRn.if2 1 0 (bb := Op.ifCond.holds .eq (cond (w_visitorHolds (s) (2)) 1 0)) (pc' := 52) (lv' := [(0, .ref 3), (1, .long (s)), (3, .int 3)]) (st' := []) (w' := ((7, 18) :: (0, 200) :: (4, 6) :: (6, 9) :: sh, I, J, Q)) (X := fun nf => mxev (nf + 0) 40 56 [(0, .ref 3), (1, .long (s)), (3, .int 3)] [] ((7, 18) :: (0, 200) :: (4, 6) :: (6, 9) :: sh, I, J, Q)) (fun n => rfl) c2 ?_
  exact mxRn.ret 3 (fun n => rfl)
set_option maxRecDepth 1000000 in
theorem w_flaw3_run (sh : List (Nat × Nat)) (J : Nat → Nat → Int64) (Q : Nat → Nat → Value) (I : Nat → Nat → Int32) (s : Int64) : mxRn 40 0 [(0, .ref 3), (1, .long (s)), (3, .int 3)] [] ((7, 18) :: (0, 200) :: (4, 6) :: (6, 9) :: sh, I, J, Q) (some (.int (w_flaw3 I s)), ((7, 18) :: (0, 200) :: (4, 6) :: (6, 9) :: sh, I, J, Q)) := by
  cases c1 : Op.ifCond.holds .eq (cond (w_canAct I (s)) 1 0) with
  | true =>
    have e : w_flaw3 I s = 0 := by unfold w_flaw3; rw [c1]; rfl
    rw [e]
    exact w_flaw3_l0 sh J Q I s c1
  | false =>
    cases c2 : Op.ifCond.holds .eq (cond (w_visitorHolds (s) (2)) 1 0) with
    | true =>
      have e : w_flaw3 I s = 0 := by unfold w_flaw3; rw [c1, c2]; rfl
      rw [e]
      exact w_flaw3_l1 sh J Q I s c1 c2
    | false =>
      have e : w_flaw3 I s = 3 := by unfold w_flaw3; rw [c1, c2]; rfl
      rw [e]
      exact w_flaw3_l2 sh J Q I s c1 c2
def w_flaw4 (I : Nat → Nat → Int32) (s : Int64) : Int32 := 0
set_option maxRecDepth 1000000 in
theorem w_flaw4_l0 (sh : List (Nat × Nat)) (J : Nat → Nat → Int64) (Q : Nat → Nat → Value) (I : Nat → Nat → Int32) (s : Int64) : mxRn 40 0 [(0, .ref 3), (1, .long (s)), (3, .int 4)] [] ((7, 18) :: (0, 200) :: (4, 6) :: (6, 9) :: sh, I, J, Q) (some (.int 0), ((7, 18) :: (0, 200) :: (4, 6) :: (6, 9) :: sh, I, J, Q)) := by
  exact mxRn.ret 4 (fun n => rfl)
set_option maxRecDepth 1000000 in
theorem w_flaw4_run (sh : List (Nat × Nat)) (J : Nat → Nat → Int64) (Q : Nat → Nat → Value) (I : Nat → Nat → Int32) (s : Int64) : mxRn 40 0 [(0, .ref 3), (1, .long (s)), (3, .int 4)] [] ((7, 18) :: (0, 200) :: (4, 6) :: (6, 9) :: sh, I, J, Q) (some (.int (w_flaw4 I s)), ((7, 18) :: (0, 200) :: (4, 6) :: (6, 9) :: sh, I, J, Q)) := by
  have e : w_flaw4 I s = 0 := by unfold w_flaw4; rfl
  rw [e]
  exact w_flaw4_l0 sh J Q I s 
def w_flaw5 (I : Nat → Nat → Int32) (s : Int64) : Int32 := (cond (Op.ifCond.holds .eq (cond (w_canBeSent I (s)) 1 0)) 0 2)
set_option maxRecDepth 1000000 in
theorem w_flaw5_l0 (sh : List (Nat × Nat)) (J : Nat → Nat → Int64) (Q : Nat → Nat → Value) (I : Nat → Nat → Int32) (s : Int64) (c1 : Op.ifCond.holds .eq (cond (w_canBeSent I (s)) 1 0) = true) : mxRn 40 0 [(0, .ref 3), (1, .long (s)), (3, .int 5)] [] ((7, 18) :: (0, 200) :: (4, 6) :: (6, 9) :: sh, I, J, Q) (some (.int 0), ((7, 18) :: (0, 200) :: (4, 6) :: (6, 9) :: sh, I, J, Q)) := by
  refine mxRn.c2 5 0 (z := 49) (lz := [(0, .ref 3), (1, .long (s))]) (w1 := ((7, 18) :: (0, 200) :: (4, 6) :: (6, 9) :: sh, I, J, Q)) (pc' := 63) (lv' := [(0, .ref 3), (1, .long (s)), (3, .int 5)]) (r := []) (fun n => rfl) (w_canBeSent_run sh J Q I (s)) ?_
  show mxRn 40 63 [(0, .ref 3), (1, .long (s)), (3, .int 5)] [.int (cond (w_canBeSent I (s)) 1 0)] ((7, 18) :: (0, 200) :: (4, 6) :: (6, 9) :: sh, I, J, Q) _
  refine mxRn.it2 1 0 (bb := Op.ifCond.holds .eq (cond (w_canBeSent I (s)) 1 0)) (pc' := 70) (lv' := [(0, .ref 3), (1, .long (s)), (3, .int 5)]) (st' := []) (w' := ((7, 18) :: (0, 200) :: (4, 6) :: (6, 9) :: sh, I, J, Q)) (X := fun nf => mxev (nf + 0) 40 66 [(0, .ref 3), (1, .long (s)), (3, .int 5)] [] ((7, 18) :: (0, 200) :: (4, 6) :: (6, 9) :: sh, I, J, Q)) (fun n => rfl) c1 ?_
  exact mxRn.ret 2 (fun n => rfl)
set_option maxRecDepth 1000000 in
theorem w_flaw5_l1 (sh : List (Nat × Nat)) (J : Nat → Nat → Int64) (Q : Nat → Nat → Value) (I : Nat → Nat → Int32) (s : Int64) (c1 : Op.ifCond.holds .eq (cond (w_canBeSent I (s)) 1 0) = false) : mxRn 40 0 [(0, .ref 3), (1, .long (s)), (3, .int 5)] [] ((7, 18) :: (0, 200) :: (4, 6) :: (6, 9) :: sh, I, J, Q) (some (.int 2), ((7, 18) :: (0, 200) :: (4, 6) :: (6, 9) :: sh, I, J, Q)) := by
  refine mxRn.c2 5 0 (z := 49) (lz := [(0, .ref 3), (1, .long (s))]) (w1 := ((7, 18) :: (0, 200) :: (4, 6) :: (6, 9) :: sh, I, J, Q)) (pc' := 63) (lv' := [(0, .ref 3), (1, .long (s)), (3, .int 5)]) (r := []) (fun n => rfl) (w_canBeSent_run sh J Q I (s)) ?_
  show mxRn 40 63 [(0, .ref 3), (1, .long (s)), (3, .int 5)] [.int (cond (w_canBeSent I (s)) 1 0)] ((7, 18) :: (0, 200) :: (4, 6) :: (6, 9) :: sh, I, J, Q) _
  refine mxRn.if2 1 0 (bb := Op.ifCond.holds .eq (cond (w_canBeSent I (s)) 1 0)) (pc' := 66) (lv' := [(0, .ref 3), (1, .long (s)), (3, .int 5)]) (st' := []) (w' := ((7, 18) :: (0, 200) :: (4, 6) :: (6, 9) :: sh, I, J, Q)) (X := fun nf => mxev (nf + 0) 40 70 [(0, .ref 3), (1, .long (s)), (3, .int 5)] [] ((7, 18) :: (0, 200) :: (4, 6) :: (6, 9) :: sh, I, J, Q)) (fun n => rfl) c1 ?_
  exact mxRn.ret 3 (fun n => rfl)
set_option maxRecDepth 1000000 in
theorem w_flaw5_run (sh : List (Nat × Nat)) (J : Nat → Nat → Int64) (Q : Nat → Nat → Value) (I : Nat → Nat → Int32) (s : Int64) : mxRn 40 0 [(0, .ref 3), (1, .long (s)), (3, .int 5)] [] ((7, 18) :: (0, 200) :: (4, 6) :: (6, 9) :: sh, I, J, Q) (some (.int (w_flaw5 I s)), ((7, 18) :: (0, 200) :: (4, 6) :: (6, 9) :: sh, I, J, Q)) := by
  cases c1 : Op.ifCond.holds .eq (cond (w_canBeSent I (s)) 1 0) with
  | true =>
    have e : w_flaw5 I s = 0 := by unfold w_flaw5; rw [c1]; rfl
    rw [e]
    exact w_flaw5_l0 sh J Q I s c1
  | false =>
    have e : w_flaw5 I s = 2 := by unfold w_flaw5; rw [c1]; rfl
    rw [e]
    exact w_flaw5_l1 sh J Q I s c1
def w_flaw6 (I : Nat → Nat → Int32) (s : Int64) : Int32 := 0
set_option maxRecDepth 1000000 in
theorem w_flaw6_l0 (sh : List (Nat × Nat)) (J : Nat → Nat → Int64) (Q : Nat → Nat → Value) (I : Nat → Nat → Int32) (s : Int64) : mxRn 40 0 [(0, .ref 3), (1, .long (s)), (3, .int 6)] [] ((7, 18) :: (0, 200) :: (4, 6) :: (6, 9) :: sh, I, J, Q) (some (.int 0), ((7, 18) :: (0, 200) :: (4, 6) :: (6, 9) :: sh, I, J, Q)) := by
  exact mxRn.ret 4 (fun n => rfl)
set_option maxRecDepth 1000000 in
theorem w_flaw6_run (sh : List (Nat × Nat)) (J : Nat → Nat → Int64) (Q : Nat → Nat → Value) (I : Nat → Nat → Int32) (s : Int64) : mxRn 40 0 [(0, .ref 3), (1, .long (s)), (3, .int 6)] [] ((7, 18) :: (0, 200) :: (4, 6) :: (6, 9) :: sh, I, J, Q) (some (.int (w_flaw6 I s)), ((7, 18) :: (0, 200) :: (4, 6) :: (6, 9) :: sh, I, J, Q)) := by
  have e : w_flaw6 I s = 0 := by unfold w_flaw6; rfl
  rw [e]
  exact w_flaw6_l0 sh J Q I s 
def w_flaw7 (I : Nat → Nat → Int32) (s : Int64) : Int32 := 0
set_option maxRecDepth 1000000 in
theorem w_flaw7_l0 (sh : List (Nat × Nat)) (J : Nat → Nat → Int64) (Q : Nat → Nat → Value) (I : Nat → Nat → Int32) (s : Int64) : mxRn 40 0 [(0, .ref 3), (1, .long (s)), (3, .int 7)] [] ((7, 18) :: (0, 200) :: (4, 6) :: (6, 9) :: sh, I, J, Q) (some (.int 0), ((7, 18) :: (0, 200) :: (4, 6) :: (6, 9) :: sh, I, J, Q)) := by
  exact mxRn.ret 4 (fun n => rfl)
set_option maxRecDepth 1000000 in
theorem w_flaw7_run (sh : List (Nat × Nat)) (J : Nat → Nat → Int64) (Q : Nat → Nat → Value) (I : Nat → Nat → Int32) (s : Int64) : mxRn 40 0 [(0, .ref 3), (1, .long (s)), (3, .int 7)] [] ((7, 18) :: (0, 200) :: (4, 6) :: (6, 9) :: sh, I, J, Q) (some (.int (w_flaw7 I s)), ((7, 18) :: (0, 200) :: (4, 6) :: (6, 9) :: sh, I, J, Q)) := by
  have e : w_flaw7 I s = 0 := by unfold w_flaw7; rfl
  rw [e]
  exact w_flaw7_l0 sh J Q I s 
def w_flaw8 (I : Nat → Nat → Int32) (s : Int64) : Int32 := 0
set_option maxRecDepth 1000000 in
theorem w_flaw8_l0 (sh : List (Nat × Nat)) (J : Nat → Nat → Int64) (Q : Nat → Nat → Value) (I : Nat → Nat → Int32) (s : Int64) : mxRn 40 0 [(0, .ref 3), (1, .long (s)), (3, .int 8)] [] ((7, 18) :: (0, 200) :: (4, 6) :: (6, 9) :: sh, I, J, Q) (some (.int 0), ((7, 18) :: (0, 200) :: (4, 6) :: (6, 9) :: sh, I, J, Q)) := by
  exact mxRn.ret 4 (fun n => rfl)
set_option maxRecDepth 1000000 in
theorem w_flaw8_run (sh : List (Nat × Nat)) (J : Nat → Nat → Int64) (Q : Nat → Nat → Value) (I : Nat → Nat → Int32) (s : Int64) : mxRn 40 0 [(0, .ref 3), (1, .long (s)), (3, .int 8)] [] ((7, 18) :: (0, 200) :: (4, 6) :: (6, 9) :: sh, I, J, Q) (some (.int (w_flaw8 I s)), ((7, 18) :: (0, 200) :: (4, 6) :: (6, 9) :: sh, I, J, Q)) := by
  have e : w_flaw8 I s = 0 := by unfold w_flaw8; rfl
  rw [e]
  exact w_flaw8_l0 sh J Q I s 
def w_flaw9 (I : Nat → Nat → Int32) (s : Int64) : Int32 := (cond (Op.ifCond.holds .eq (cond (w_canRide I (s)) 1 0)) 0 1)
set_option maxRecDepth 1000000 in
theorem w_flaw9_l0 (sh : List (Nat × Nat)) (J : Nat → Nat → Int64) (Q : Nat → Nat → Value) (I : Nat → Nat → Int32) (s : Int64) (c1 : Op.ifCond.holds .eq (cond (w_canRide I (s)) 1 0) = true) : mxRn 40 0 [(0, .ref 3), (1, .long (s)), (3, .int 9)] [] ((7, 18) :: (0, 200) :: (4, 6) :: (6, 9) :: sh, I, J, Q) (some (.int 0), ((7, 18) :: (0, 200) :: (4, 6) :: (6, 9) :: sh, I, J, Q)) := by
  refine mxRn.c2 5 0 (z := 51) (lz := [(0, .ref 3), (1, .long (s))]) (w1 := ((7, 18) :: (0, 200) :: (4, 6) :: (6, 9) :: sh, I, J, Q)) (pc' := 77) (lv' := [(0, .ref 3), (1, .long (s)), (3, .int 9)]) (r := []) (fun n => rfl) (w_canRide_run sh J Q I (s)) ?_
  show mxRn 40 77 [(0, .ref 3), (1, .long (s)), (3, .int 9)] [.int (cond (w_canRide I (s)) 1 0)] ((7, 18) :: (0, 200) :: (4, 6) :: (6, 9) :: sh, I, J, Q) _
  refine mxRn.it2 1 0 (bb := Op.ifCond.holds .eq (cond (w_canRide I (s)) 1 0)) (pc' := 84) (lv' := [(0, .ref 3), (1, .long (s)), (3, .int 9)]) (st' := []) (w' := ((7, 18) :: (0, 200) :: (4, 6) :: (6, 9) :: sh, I, J, Q)) (X := fun nf => mxev (nf + 0) 40 80 [(0, .ref 3), (1, .long (s)), (3, .int 9)] [] ((7, 18) :: (0, 200) :: (4, 6) :: (6, 9) :: sh, I, J, Q)) (fun n => rfl) c1 ?_
  exact mxRn.ret 2 (fun n => rfl)
set_option maxRecDepth 1000000 in
theorem w_flaw9_l1 (sh : List (Nat × Nat)) (J : Nat → Nat → Int64) (Q : Nat → Nat → Value) (I : Nat → Nat → Int32) (s : Int64) (c1 : Op.ifCond.holds .eq (cond (w_canRide I (s)) 1 0) = false) : mxRn 40 0 [(0, .ref 3), (1, .long (s)), (3, .int 9)] [] ((7, 18) :: (0, 200) :: (4, 6) :: (6, 9) :: sh, I, J, Q) (some (.int 1), ((7, 18) :: (0, 200) :: (4, 6) :: (6, 9) :: sh, I, J, Q)) := by
  refine mxRn.c2 5 0 (z := 51) (lz := [(0, .ref 3), (1, .long (s))]) (w1 := ((7, 18) :: (0, 200) :: (4, 6) :: (6, 9) :: sh, I, J, Q)) (pc' := 77) (lv' := [(0, .ref 3), (1, .long (s)), (3, .int 9)]) (r := []) (fun n => rfl) (w_canRide_run sh J Q I (s)) ?_
  show mxRn 40 77 [(0, .ref 3), (1, .long (s)), (3, .int 9)] [.int (cond (w_canRide I (s)) 1 0)] ((7, 18) :: (0, 200) :: (4, 6) :: (6, 9) :: sh, I, J, Q) _
  refine mxRn.if2 1 0 (bb := Op.ifCond.holds .eq (cond (w_canRide I (s)) 1 0)) (pc' := 80) (lv' := [(0, .ref 3), (1, .long (s)), (3, .int 9)]) (st' := []) (w' := ((7, 18) :: (0, 200) :: (4, 6) :: (6, 9) :: sh, I, J, Q)) (X := fun nf => mxev (nf + 0) 40 84 [(0, .ref 3), (1, .long (s)), (3, .int 9)] [] ((7, 18) :: (0, 200) :: (4, 6) :: (6, 9) :: sh, I, J, Q)) (fun n => rfl) c1 ?_
  exact mxRn.ret 3 (fun n => rfl)
set_option maxRecDepth 1000000 in
theorem w_flaw9_run (sh : List (Nat × Nat)) (J : Nat → Nat → Int64) (Q : Nat → Nat → Value) (I : Nat → Nat → Int32) (s : Int64) : mxRn 40 0 [(0, .ref 3), (1, .long (s)), (3, .int 9)] [] ((7, 18) :: (0, 200) :: (4, 6) :: (6, 9) :: sh, I, J, Q) (some (.int (w_flaw9 I s)), ((7, 18) :: (0, 200) :: (4, 6) :: (6, 9) :: sh, I, J, Q)) := by
  cases c1 : Op.ifCond.holds .eq (cond (w_canRide I (s)) 1 0) with
  | true =>
    have e : w_flaw9 I s = 0 := by unfold w_flaw9; rw [c1]; rfl
    rw [e]
    exact w_flaw9_l0 sh J Q I s c1
  | false =>
    have e : w_flaw9 I s = 1 := by unfold w_flaw9; rw [c1]; rfl
    rw [e]
    exact w_flaw9_l1 sh J Q I s c1
def w_flaw10 (I : Nat → Nat → Int32) (s : Int64) : Int32 := 0
set_option maxRecDepth 1000000 in
theorem w_flaw10_l0 (sh : List (Nat × Nat)) (J : Nat → Nat → Int64) (Q : Nat → Nat → Value) (I : Nat → Nat → Int32) (s : Int64) : mxRn 40 0 [(0, .ref 3), (1, .long (s)), (3, .int 10)] [] ((7, 18) :: (0, 200) :: (4, 6) :: (6, 9) :: sh, I, J, Q) (some (.int 0), ((7, 18) :: (0, 200) :: (4, 6) :: (6, 9) :: sh, I, J, Q)) := by
  exact mxRn.ret 4 (fun n => rfl)
set_option maxRecDepth 1000000 in
theorem w_flaw10_run (sh : List (Nat × Nat)) (J : Nat → Nat → Int64) (Q : Nat → Nat → Value) (I : Nat → Nat → Int32) (s : Int64) : mxRn 40 0 [(0, .ref 3), (1, .long (s)), (3, .int 10)] [] ((7, 18) :: (0, 200) :: (4, 6) :: (6, 9) :: sh, I, J, Q) (some (.int (w_flaw10 I s)), ((7, 18) :: (0, 200) :: (4, 6) :: (6, 9) :: sh, I, J, Q)) := by
  have e : w_flaw10 I s = 0 := by unfold w_flaw10; rfl
  rw [e]
  exact w_flaw10_l0 sh J Q I s 
