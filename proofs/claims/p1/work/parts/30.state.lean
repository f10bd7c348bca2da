def s_lives (s : Int64) (t : Int32) : Bool := (cond (Op.ifCond.holds .eq (lg_cmp (((((s)).toUInt64 >>> (((((8 : Int32) * (t))).toInt64).toUInt64 &&& Int64.toUInt64 63)).toInt64) &&& (1 : Int64)) (0 : Int64))) false true)
set_option maxRecDepth 1000000 in
theorem s_lives_l0 (w : mxW) (s : Int64) (t : Int32) (c1 : Op.ifCond.holds .eq (lg_cmp (((((s)).toUInt64 >>> (((((8 : Int32) * (t))).toInt64).toUInt64 &&& Int64.toUInt64 63)).toInt64) &&& (1 : Int64)) (0 : Int64)) = true) : mxRn 22 0 [(0, .long (s)), (2, .int (t))] [] w (some (.int 0), w) := by
  refine mxRn.g2 6 0 (pc' := 7) (lv' := [(0, .long (s)), (2, .int (t))]) (st' := [.long 1, .long ((((s)).toUInt64 >>> (((((8 : Int32) * (t))).toInt64).toUInt64 &&& Int64.toUInt64 63)).toInt64)]) (w' := w) (fun n => rfl) ?_
  refine mxRn.it2 4 0 (bb := Op.ifCond.holds .eq (lg_cmp (((((s)).toUInt64 >>> (((((8 : Int32) * (t))).toInt64).toUInt64 &&& Int64.toUInt64 63)).toInt64) &&& (1 : Int64)) (0 : Int64))) (pc' := 17) (lv' := [(0, .long (s)), (2, .int (t))]) (st' := []) (w' := w) (X := fun nf => mxev (nf + 0) 22 13 [(0, .long (s)), (2, .int (t))] [] w) (fun n => rfl) c1 ?_
  exact mxRn.ret 2 (fun n => rfl)
set_option maxRecDepth 1000000 in
theorem s_lives_l1 (w : mxW) (s : Int64) (t : Int32) (c1 : Op.ifCond.holds .eq (lg_cmp (((((s)).toUInt64 >>> (((((8 : Int32) * (t))).toInt64).toUInt64 &&& Int64.toUInt64 63)).toInt64) &&& (1 : Int64)) (0 : Int64)) = false) : mxRn 22 0 [(0, .long (s)), (2, .int (t))] [] w (some (.int 1), w) := by
  refine mxRn.g2 6 0 (pc' := 7) (lv' := [(0, .long (s)), (2, .int (t))]) (st' := [.long 1, .long ((((s)).toUInt64 >>> (((((8 : Int32) * (t))).toInt64).toUInt64 &&& Int64.toUInt64 63)).toInt64)]) (w' := w) (fun n => rfl) ?_
  refine mxRn.if2 4 0 (bb := Op.ifCond.holds .eq (lg_cmp (((((s)).toUInt64 >>> (((((8 : Int32) * (t))).toInt64).toUInt64 &&& Int64.toUInt64 63)).toInt64) &&& (1 : Int64)) (0 : Int64))) (pc' := 13) (lv' := [(0, .long (s)), (2, .int (t))]) (st' := []) (w' := w) (X := fun nf => mxev (nf + 0) 22 17 [(0, .long (s)), (2, .int (t))] [] w) (fun n => rfl) c1 ?_
  exact mxRn.ret 3 (fun n => rfl)
set_option maxRecDepth 1000000 in
theorem s_lives_run (w : mxW) (s : Int64) (t : Int32) : mxRn 22 0 [(0, .long (s)), (2, .int (t))] [] w (some (.int (cond (s_lives s t) 1 0)), w) := by
  cases c1 : Op.ifCond.holds .eq (lg_cmp (((((s)).toUInt64 >>> (((((8 : Int32) * (t))).toInt64).toUInt64 &&& Int64.toUInt64 63)).toInt64) &&& (1 : Int64)) (0 : Int64)) with
  | true =>
    have e : s_lives s t = false := by unfold s_lives; rw [c1]; rfl
    rw [e]
    exact s_lives_l0 w s t c1
  | false =>
    have e : s_lives s t = true := by unfold s_lives; rw [c1]; rfl
    rw [e]
    exact s_lives_l1 w s t c1
def s_owner (s : Int64) (t : Int32) : Int32 := (((((((s)).toUInt64 >>> ((((((8 : Int32) * (t)) + (1 : Int32))).toInt64).toUInt64 &&& Int64.toUInt64 63)).toInt64)).toInt32) &&& (3 : Int32))
set_option maxRecDepth 1000000 in
theorem s_owner_l0 (w : mxW) (s : Int64) (t : Int32) : mxRn 23 0 [(0, .long (s)), (2, .int (t))] [] w (some (.int (((((((s)).toUInt64 >>> ((((((8 : Int32) * (t)) + (1 : Int32))).toInt64).toUInt64 &&& Int64.toUInt64 63)).toInt64)).toInt32) &&& (3 : Int32))), w) := by
  refine mxRn.g2 6 0 (pc' := 7) (lv' := [(0, .long (s)), (2, .int (t))]) (st' := [.int (((8 : Int32) * (t)) + (1 : Int32)), .long (s)]) (w' := w) (fun n => rfl) ?_
  exact mxRn.ret 5 (fun n => rfl)
set_option maxRecDepth 1000000 in
theorem s_owner_run (w : mxW) (s : Int64) (t : Int32) : mxRn 23 0 [(0, .long (s)), (2, .int (t))] [] w (some (.int (s_owner s t)), w) := by
  have e : s_owner s t = (((((((s)).toUInt64 >>> ((((((8 : Int32) * (t)) + (1 : Int32))).toInt64).toUInt64 &&& Int64.toUInt64 63)).toInt64)).toInt32) &&& (3 : Int32)) := by unfold s_owner; rfl
  rw [e]
  exact s_owner_l0 w s t 
def s_bound (s : Int64) (t : Int32) : Int32 := (((((((s)).toUInt64 >>> ((((((8 : Int32) * (t)) + (3 : Int32))).toInt64).toUInt64 &&& Int64.toUInt64 63)).toInt64)).toInt32) &&& (1 : Int32))
set_option maxRecDepth 1000000 in
theorem s_bound_l0 (w : mxW) (s : Int64) (t : Int32) : mxRn 24 0 [(0, .long (s)), (2, .int (t))] [] w (some (.int (((((((s)).toUInt64 >>> ((((((8 : Int32) * (t)) + (3 : Int32))).toInt64).toUInt64 &&& Int64.toUInt64 63)).toInt64)).toInt32) &&& (1 : Int32))), w) := by
  refine mxRn.g2 6 0 (pc' := 7) (lv' := [(0, .long (s)), (2, .int (t))]) (st' := [.int (((8 : Int32) * (t)) + (3 : Int32)), .long (s)]) (w' := w) (fun n => rfl) ?_
  exact mxRn.ret 5 (fun n => rfl)
set_option maxRecDepth 1000000 in
theorem s_bound_run (w : mxW) (s : Int64) (t : Int32) : mxRn 24 0 [(0, .long (s)), (2, .int (t))] [] w (some (.int (s_bound s t)), w) := by
  have e : s_bound s t = (((((((s)).toUInt64 >>> ((((((8 : Int32) * (t)) + (3 : Int32))).toInt64).toUInt64 &&& Int64.toUInt64 63)).toInt64)).toInt32) &&& (1 : Int32)) := by unfold s_bound; rfl
  rw [e]
  exact s_bound_l0 w s t 
def s_ticks (s : Int64) (t : Int32) : Int32 := (((((((s)).toUInt64 >>> ((((((8 : Int32) * (t)) + (4 : Int32))).toInt64).toUInt64 &&& Int64.toUInt64 63)).toInt64)).toInt32) &&& (15 : Int32))
set_option maxRecDepth 1000000 in
theorem s_ticks_l0 (w : mxW) (s : Int64) (t : Int32) : mxRn 25 0 [(0, .long (s)), (2, .int (t))] [] w (some (.int (((((((s)).toUInt64 >>> ((((((8 : Int32) * (t)) + (4 : Int32))).toInt64).toUInt64 &&& Int64.toUInt64 63)).toInt64)).toInt32) &&& (15 : Int32))), w) := by
  refine mxRn.g2 6 0 (pc' := 7) (lv' := [(0, .long (s)), (2, .int (t))]) (st' := [.int (((8 : Int32) * (t)) + (4 : Int32)), .long (s)]) (w' := w) (fun n => rfl) ?_
  exact mxRn.ret 5 (fun n => rfl)
set_option maxRecDepth 1000000 in
theorem s_ticks_run (w : mxW) (s : Int64) (t : Int32) : mxRn 25 0 [(0, .long (s)), (2, .int (t))] [] w (some (.int (s_ticks s t)), w) := by
  have e : s_ticks s t = (((((((s)).toUInt64 >>> ((((((8 : Int32) * (t)) + (4 : Int32))).toInt64).toUInt64 &&& Int64.toUInt64 63)).toInt64)).toInt32) &&& (15 : Int32)) := by unfold s_ticks; rfl
  rw [e]
  exact s_ticks_l0 w s t 
def s_given (s : Int64) : Int32 := (((((((s)).toUInt64 >>> ((((32 : Int32)).toInt64).toUInt64 &&& Int64.toUInt64 63)).toInt64)).toInt32) &&& (7 : Int32))
set_option maxRecDepth 1000000 in
theorem s_given_l0 (w : mxW) (s : Int64) : mxRn 26 0 [(0, .long (s))] [] w (some (.int (((((((s)).toUInt64 >>> ((((32 : Int32)).toInt64).toUInt64 &&& Int64.toUInt64 63)).toInt64)).toInt32) &&& (7 : Int32))), w) := by
  refine mxRn.g2 6 0 (pc' := 8) (lv' := [(0, .long (s))]) (st' := [.int (((((((s)).toUInt64 >>> ((((32 : Int32)).toInt64).toUInt64 &&& Int64.toUInt64 63)).toInt64)).toInt32) &&& (7 : Int32))]) (w' := w) (fun n => rfl) ?_
  exact mxRn.ret 1 (fun n => rfl)
set_option maxRecDepth 1000000 in
theorem s_given_run (w : mxW) (s : Int64) : mxRn 26 0 [(0, .long (s))] [] w (some (.int (s_given s)), w) := by
  have e : s_given s = (((((((s)).toUInt64 >>> ((((32 : Int32)).toInt64).toUInt64 &&& Int64.toUInt64 63)).toInt64)).toInt32) &&& (7 : Int32)) := by unfold s_given; rfl
  rw [e]
  exact s_given_l0 w s 
def s_store (s : Int64) (t : Int32) : Int32 := ((((((((s)).toUInt64 >>> (((((35 : Int32) + ((3 : Int32) * (t)))).toInt64).toUInt64 &&& Int64.toUInt64 63)).toInt64)).toInt32) &&& (7 : Int32)) - (1 : Int32))
set_option maxRecDepth 1000000 in
theorem s_store_l0 (w : mxW) (s : Int64) (t : Int32) : mxRn 27 0 [(0, .long (s)), (2, .int (t))] [] w (some (.int ((((((((s)).toUInt64 >>> (((((35 : Int32) + ((3 : Int32) * (t)))).toInt64).toUInt64 &&& Int64.toUInt64 63)).toInt64)).toInt32) &&& (7 : Int32)) - (1 : Int32))), w) := by
  refine mxRn.g2 6 0 (pc' := 7) (lv' := [(0, .long (s)), (2, .int (t))]) (st' := [.int ((35 : Int32) + ((3 : Int32) * (t))), .long (s)]) (w' := w) (fun n => rfl) ?_
  refine mxRn.g2 6 0 (pc' := 14) (lv' := [(0, .long (s)), (2, .int (t))]) (st' := [.int ((((((((s)).toUInt64 >>> (((((35 : Int32) + ((3 : Int32) * (t)))).toInt64).toUInt64 &&& Int64.toUInt64 63)).toInt64)).toInt32) &&& (7 : Int32)) - (1 : Int32))]) (w' := w) (fun n => rfl) ?_
  exact mxRn.ret 1 (fun n => rfl)
set_option maxRecDepth 1000000 in
theorem s_store_run (w : mxW) (s : Int64) (t : Int32) : mxRn 27 0 [(0, .long (s)), (2, .int (t))] [] w (some (.int (s_store s t)), w) := by
  have e : s_store s t = ((((((((s)).toUInt64 >>> (((((35 : Int32) + ((3 : Int32) * (t)))).toInt64).toUInt64 &&& Int64.toUInt64 63)).toInt64)).toInt32) &&& (7 : Int32)) - (1 : Int32)) := by unfold s_store; rfl
  rw [e]
  exact s_store_l0 w s t 
def s_known (s : Int64) : Int32 := (((((((s)).toUInt64 >>> ((((41 : Int32)).toInt64).toUInt64 &&& Int64.toUInt64 63)).toInt64)).toInt32) &&& (15 : Int32))
set_option maxRecDepth 1000000 in
theorem s_known_l0 (w : mxW) (s : Int64) : mxRn 28 0 [(0, .long (s))] [] w (some (.int (((((((s)).toUInt64 >>> ((((41 : Int32)).toInt64).toUInt64 &&& Int64.toUInt64 63)).toInt64)).toInt32) &&& (15 : Int32))), w) := by
  refine mxRn.g2 6 0 (pc' := 8) (lv' := [(0, .long (s))]) (st' := [.int (((((((s)).toUInt64 >>> ((((41 : Int32)).toInt64).toUInt64 &&& Int64.toUInt64 63)).toInt64)).toInt32) &&& (15 : Int32))]) (w' := w) (fun n => rfl) ?_
  exact mxRn.ret 1 (fun n => rfl)
set_option maxRecDepth 1000000 in
theorem s_known_run (w : mxW) (s : Int64) : mxRn 28 0 [(0, .long (s))] [] w (some (.int (s_known s)), w) := by
  have e : s_known s = (((((((s)).toUInt64 >>> ((((41 : Int32)).toInt64).toUInt64 &&& Int64.toUInt64 63)).toInt64)).toInt32) &&& (15 : Int32)) := by unfold s_known; rfl
  rw [e]
  exact s_known_l0 w s 
def s_knows (s : Int64) (t : Int32) : Bool := (cond (Op.ifCond.holds .eq (lg_cmp (((((s)).toUInt64 >>> (((((41 : Int32) + (t))).toInt64).toUInt64 &&& Int64.toUInt64 63)).toInt64) &&& (1 : Int64)) (0 : Int64))) false true)
set_option maxRecDepth 1000000 in
theorem s_knows_l0 (w : mxW) (s : Int64) (t : Int32) (c1 : Op.ifCond.holds .eq (lg_cmp (((((s)).toUInt64 >>> (((((41 : Int32) + (t))).toInt64).toUInt64 &&& Int64.toUInt64 63)).toInt64) &&& (1 : Int64)) (0 : Int64)) = true) : mxRn 29 0 [(0, .long (s)), (2, .int (t))] [] w (some (.int 0), w) := by
  refine mxRn.g2 6 0 (pc' := 7) (lv' := [(0, .long (s)), (2, .int (t))]) (st' := [.long 1, .long ((((s)).toUInt64 >>> (((((41 : Int32) + (t))).toInt64).toUInt64 &&& Int64.toUInt64 63)).toInt64)]) (w' := w) (fun n => rfl) ?_
  refine mxRn.it2 4 0 (bb := Op.ifCond.holds .eq (lg_cmp (((((s)).toUInt64 >>> (((((41 : Int32) + (t))).toInt64).toUInt64 &&& Int64.toUInt64 63)).toInt64) &&& (1 : Int64)) (0 : Int64))) (pc' := 17) (lv' := [(0, .long (s)), (2, .int (t))]) (st' := []) (w' := w) (X := fun nf => mxev (nf + 0) 29 13 [(0, .long (s)), (2, .int (t))] [] w) (fun n => rfl) c1 ?_
  exact mxRn.ret 2 (fun n => rfl)
set_option maxRecDepth 1000000 in
theorem s_knows_l1 (w : mxW) (s : Int64) (t : Int32) (c1 : Op.ifCond.holds .eq (lg_cmp (((((s)).toUInt64 >>> (((((41 : Int32) + (t))).toInt64).toUInt64 &&& Int64.toUInt64 63)).toInt64) &&& (1 : Int64)) (0 : Int64)) = false) : mxRn 29 0 [(0, .long (s)), (2, .int (t))] [] w (some (.int 1), w) := by
  refine mxRn.g2 6 0 (pc' := 7) (lv' := [(0, .long (s)), (2, .int (t))]) (st' := [.long 1, .long ((((s)).toUInt64 >>> (((((41 : Int32) + (t))).toInt64).toUInt64 &&& Int64.toUInt64 63)).toInt64)]) (w' := w) (fun n => rfl) ?_
  refine mxRn.if2 4 0 (bb := Op.ifCond.holds .eq (lg_cmp (((((s)).toUInt64 >>> (((((41 : Int32) + (t))).toInt64).toUInt64 &&& Int64.toUInt64 63)).toInt64) &&& (1 : Int64)) (0 : Int64))) (pc' := 13) (lv' := [(0, .long (s)), (2, .int (t))]) (st' := []) (w' := w) (X := fun nf => mxev (nf + 0) 29 17 [(0, .long (s)), (2, .int (t))] [] w) (fun n => rfl) c1 ?_
  exact mxRn.ret 3 (fun n => rfl)
set_option maxRecDepth 1000000 in
theorem s_knows_run (w : mxW) (s : Int64) (t : Int32) : mxRn 29 0 [(0, .long (s)), (2, .int (t))] [] w (some (.int (cond (s_knows s t) 1 0)), w) := by
  cases c1 : Op.ifCond.holds .eq (lg_cmp (((((s)).toUInt64 >>> (((((41 : Int32) + (t))).toInt64).toUInt64 &&& Int64.toUInt64 63)).toInt64) &&& (1 : Int64)) (0 : Int64)) with
  | true =>
    have e : s_knows s t = false := by unfold s_knows; rw [c1]; rfl
    rw [e]
    exact s_knows_l0 w s t c1
  | false =>
    have e : s_knows s t = true := by unfold s_knows; rw [c1]; rfl
    rw [e]
    exact s_knows_l1 w s t c1
def s_ended (s : Int64) (t : Int32) : Int64 := ((s) &&& (((1 : Int64) <<< ((((8 : Int32) * (t))).toInt64 &&& 63)) ^^^ (-1 : Int64)))
set_option maxRecDepth 1000000 in
theorem s_ended_l0 (w : mxW) (s : Int64) (t : Int32) : mxRn 30 0 [(0, .long (s)), (2, .int (t))] [] w (some (.long ((s) &&& (((1 : Int64) <<< ((((8 : Int32) * (t))).toInt64 &&& 63)) ^^^ (-1 : Int64)))), w) := by
  refine mxRn.g2 6 0 (pc' := 7) (lv' := [(0, .long (s)), (2, .int (t))]) (st' := [.long ((1 : Int64) <<< ((((8 : Int32) * (t))).toInt64 &&& 63)), .long (s)]) (w' := w) (fun n => rfl) ?_
  exact mxRn.ret 4 (fun n => rfl)
set_option maxRecDepth 1000000 in
theorem s_ended_run (w : mxW) (s : Int64) (t : Int32) : mxRn 30 0 [(0, .long (s)), (2, .int (t))] [] w (some (.long (s_ended s t)), w) := by
  have e : s_ended s t = ((s) &&& (((1 : Int64) <<< ((((8 : Int32) * (t))).toInt64 &&& 63)) ^^^ (-1 : Int64))) := by unfold s_ended; rfl
  rw [e]
  exact s_ended_l0 w s t 
def s_owned (s : Int64) (t : Int32) (u : Int32) : Int64 := ((((s) &&& (((7 : Int64) <<< (((((8 : Int32) * (t)) + (1 : Int32))).toInt64 &&& 63)) ^^^ (-1 : Int64))) ||| (((((u) + (1 : Int32))).toInt64) <<< (((((8 : Int32) * (t)) + (1 : Int32))).toInt64 &&& 63))) ||| ((((u)).toInt64) <<< (((((8 : Int32) * (t)) + (3 : Int32))).toInt64 &&& 63)))
set_option maxRecDepth 1000000 in
theorem s_owned_l0 (w : mxW) (s : Int64) (t : Int32) (u : Int32) : mxRn 31 0 [(0, .long (s)), (2, .int (t)), (3, .int (u))] [] w (some (.long ((((s) &&& (((7 : Int64) <<< (((((8 : Int32) * (t)) + (1 : Int32))).toInt64 &&& 63)) ^^^ (-1 : Int64))) ||| (((((u) + (1 : Int32))).toInt64) <<< (((((8 : Int32) * (t)) + (1 : Int32))).toInt64 &&& 63))) ||| ((((u)).toInt64) <<< (((((8 : Int32) * (t)) + (3 : Int32))).toInt64 &&& 63)))), w) := by
  refine mxRn.g2 6 0 (pc' := 9) (lv' := [(0, .long (s)), (2, .int (t)), (3, .int (u))]) (st' := [.int 1, .int ((8 : Int32) * (t)), .long 7, .long (s)]) (w' := w) (fun n => rfl) ?_
  refine mxRn.g2 6 0 (pc' := 18) (lv' := [(0, .long (s)), (2, .int (t)), (3, .int (u)), (4, .long ((s) &&& (((7 : Int64) <<< (((((8 : Int32) * (t)) + (1 : Int32))).toInt64 &&& 63)) ^^^ (-1 : Int64))))]) (st' := []) (w' := w) (fun n => rfl) ?_
  refine mxRn.g2 6 0 (pc' := 26) (lv' := [(0, .long (s)), (2, .int (t)), (3, .int (u)), (4, .long ((s) &&& (((7 : Int64) <<< (((((8 : Int32) * (t)) + (1 : Int32))).toInt64 &&& 63)) ^^^ (-1 : Int64))))]) (st' := [.int 8, .long ((((u) + (1 : Int32))).toInt64), .long ((s) &&& (((7 : Int64) <<< (((((8 : Int32) * (t)) + (1 : Int32))).toInt64 &&& 63)) ^^^ (-1 : Int64)))]) (w' := w) (fun n => rfl) ?_
  refine mxRn.g2 6 0 (pc' := 32) (lv' := [(0, .long (s)), (2, .int (t)), (3, .int (u)), (4, .long ((s) &&& (((7 : Int64) <<< (((((8 : Int32) * (t)) + (1 : Int32))).toInt64 &&& 63)) ^^^ (-1 : Int64))))]) (st' := [.long (((s) &&& (((7 : Int64) <<< (((((8 : Int32) * (t)) + (1 : Int32))).toInt64 &&& 63)) ^^^ (-1 : Int64))) ||| (((((u) + (1 : Int32))).toInt64) <<< (((((8 : Int32) * (t)) + (1 : Int32))).toInt64 &&& 63)))]) (w' := w) (fun n => rfl) ?_
  refine mxRn.g2 6 0 (pc' := 39) (lv' := [(0, .long (s)), (2, .int (t)), (3, .int (u)), (4, .long ((s) &&& (((7 : Int64) <<< (((((8 : Int32) * (t)) + (1 : Int32))).toInt64 &&& 63)) ^^^ (-1 : Int64))))]) (st' := [.int 3, .int ((8 : Int32) * (t)), .long (((u)).toInt64), .long (((s) &&& (((7 : Int64) <<< (((((8 : Int32) * (t)) + (1 : Int32))).toInt64 &&& 63)) ^^^ (-1 : Int64))) ||| (((((u) + (1 : Int32))).toInt64) <<< (((((8 : Int32) * (t)) + (1 : Int32))).toInt64 &&& 63)))]) (w' := w) (fun n => rfl) ?_
  exact mxRn.ret 4 (fun n => rfl)
set_option maxRecDepth 1000000 in
theorem s_owned_run (w : mxW) (s : Int64) (t : Int32) (u : Int32) : mxRn 31 0 [(0, .long (s)), (2, .int (t)), (3, .int (u))] [] w (some (.long (s_owned s t u)), w) := by
  have e : s_owned s t u = ((((s) &&& (((7 : Int64) <<< (((((8 : Int32) * (t)) + (1 : Int32))).toInt64 &&& 63)) ^^^ (-1 : Int64))) ||| (((((u) + (1 : Int32))).toInt64) <<< (((((8 : Int32) * (t)) + (1 : Int32))).toInt64 &&& 63))) ||| ((((u)).toInt64) <<< (((((8 : Int32) * (t)) + (3 : Int32))).toInt64 &&& 63))) := by unfold s_owned; rfl
  rw [e]
  exact s_owned_l0 w s t u 
def s_ticked (s : Int64) (t : Int32) : Int64 := ((s) + ((1 : Int64) <<< (((((8 : Int32) * (t)) + (4 : Int32))).toInt64 &&& 63)))
set_option maxRecDepth 1000000 in
theorem s_ticked_l0 (w : mxW) (s : Int64) (t : Int32) : mxRn 32 0 [(0, .long (s)), (2, .int (t))] [] w (some (.long ((s) + ((1 : Int64) <<< (((((8 : Int32) * (t)) + (4 : Int32))).toInt64 &&& 63)))), w) := by
  refine mxRn.g2 6 0 (pc' := 7) (lv' := [(0, .long (s)), (2, .int (t))]) (st' := [.int 4, .int ((8 : Int32) * (t)), .long 1, .long (s)]) (w' := w) (fun n => rfl) ?_
  exact mxRn.ret 4 (fun n => rfl)
set_option maxRecDepth 1000000 in
theorem s_ticked_run (w : mxW) (s : Int64) (t : Int32) : mxRn 32 0 [(0, .long (s)), (2, .int (t))] [] w (some (.long (s_ticked s t)), w) := by
  have e : s_ticked s t = ((s) + ((1 : Int64) <<< (((((8 : Int32) * (t)) + (4 : Int32))).toInt64 &&& 63))) := by unfold s_ticked; rfl
  rw [e]
  exact s_ticked_l0 w s t 
def s_stored (s : Int64) (t : Int32) (u : Int32) : Int64 := (((s) &&& (((7 : Int64) <<< ((((35 : Int32) + ((3 : Int32) * (t)))).toInt64 &&& 63)) ^^^ (-1 : Int64))) ||| (((((u) + (1 : Int32))).toInt64) <<< ((((35 : Int32) + ((3 : Int32) * (t)))).toInt64 &&& 63)))
set_option maxRecDepth 1000000 in
theorem s_stored_l0 (w : mxW) (s : Int64) (t : Int32) (u : Int32) : mxRn 33 0 [(0, .long (s)), (2, .int (t)), (3, .int (u))] [] w (some (.long (((s) &&& (((7 : Int64) <<< ((((35 : Int32) + ((3 : Int32) * (t)))).toInt64 &&& 63)) ^^^ (-1 : Int64))) ||| (((((u) + (1 : Int32))).toInt64) <<< ((((35 : Int32) + ((3 : Int32) * (t)))).toInt64 &&& 63)))), w) := by
  refine mxRn.g2 6 0 (pc' := 9) (lv' := [(0, .long (s)), (2, .int (t)), (3, .int (u))]) (st' := [.int ((3 : Int32) * (t)), .int 35, .long 7, .long (s)]) (w' := w) (fun n => rfl) ?_
  refine mxRn.g2 6 0 (pc' := 18) (lv' := [(0, .long (s)), (2, .int (t)), (3, .int (u)), (4, .long ((s) &&& (((7 : Int64) <<< ((((35 : Int32) + ((3 : Int32) * (t)))).toInt64 &&& 63)) ^^^ (-1 : Int64))))]) (st' := []) (w' := w) (fun n => rfl) ?_
  refine mxRn.g2 6 0 (pc' := 26) (lv' := [(0, .long (s)), (2, .int (t)), (3, .int (u)), (4, .long ((s) &&& (((7 : Int64) <<< ((((35 : Int32) + ((3 : Int32) * (t)))).toInt64 &&& 63)) ^^^ (-1 : Int64))))]) (st' := [.int 35, .long ((((u) + (1 : Int32))).toInt64), .long ((s) &&& (((7 : Int64) <<< ((((35 : Int32) + ((3 : Int32) * (t)))).toInt64 &&& 63)) ^^^ (-1 : Int64)))]) (w' := w) (fun n => rfl) ?_
  refine mxRn.g2 6 0 (pc' := 32) (lv' := [(0, .long (s)), (2, .int (t)), (3, .int (u)), (4, .long ((s) &&& (((7 : Int64) <<< ((((35 : Int32) + ((3 : Int32) * (t)))).toInt64 &&& 63)) ^^^ (-1 : Int64))))]) (st' := [.long (((s) &&& (((7 : Int64) <<< ((((35 : Int32) + ((3 : Int32) * (t)))).toInt64 &&& 63)) ^^^ (-1 : Int64))) ||| (((((u) + (1 : Int32))).toInt64) <<< ((((35 : Int32) + ((3 : Int32) * (t)))).toInt64 &&& 63)))]) (w' := w) (fun n => rfl) ?_
  exact mxRn.ret 1 (fun n => rfl)
set_option maxRecDepth 1000000 in
theorem s_stored_run (w : mxW) (s : Int64) (t : Int32) (u : Int32) : mxRn 33 0 [(0, .long (s)), (2, .int (t)), (3, .int (u))] [] w (some (.long (s_stored s t u)), w) := by
  have e : s_stored s t u = (((s) &&& (((7 : Int64) <<< ((((35 : Int32) + ((3 : Int32) * (t)))).toInt64 &&& 63)) ^^^ (-1 : Int64))) ||| (((((u) + (1 : Int32))).toInt64) <<< ((((35 : Int32) + ((3 : Int32) * (t)))).toInt64 &&& 63))) := by unfold s_stored; rfl
  rw [e]
  exact s_stored_l0 w s t u 
def s_learnt (s : Int64) (t : Int32) : Int64 := ((s) ||| ((1 : Int64) <<< ((((41 : Int32) + (t))).toInt64 &&& 63)))
set_option maxRecDepth 1000000 in
theorem s_learnt_l0 (w : mxW) (s : Int64) (t : Int32) : mxRn 34 0 [(0, .long (s)), (2, .int (t))] [] w (some (.long ((s) ||| ((1 : Int64) <<< ((((41 : Int32) + (t))).toInt64 &&& 63)))), w) := by
  refine mxRn.g2 6 0 (pc' := 7) (lv' := [(0, .long (s)), (2, .int (t))]) (st' := [.long ((1 : Int64) <<< ((((41 : Int32) + (t))).toInt64 &&& 63)), .long (s)]) (w' := w) (fun n => rfl) ?_
  exact mxRn.ret 2 (fun n => rfl)
set_option maxRecDepth 1000000 in
theorem s_learnt_run (w : mxW) (s : Int64) (t : Int32) : mxRn 34 0 [(0, .long (s)), (2, .int (t))] [] w (some (.long (s_learnt s t)), w) := by
  have e : s_learnt s t = ((s) ||| ((1 : Int64) <<< ((((41 : Int32) + (t))).toInt64 &&& 63))) := by unfold s_learnt; rfl
  rw [e]
  exact s_learnt_l0 w s t 
def s_minted (s : Int64) (t : Int32) (u : Int32) : Int64 := (((s) ||| (((1 : Int64) ||| ((((u)).toInt64) <<< (((3 : Int32)).toInt64 &&& 63))) <<< ((((8 : Int32) * (t))).toInt64 &&& 63))) + (4294967296 : Int64))
set_option maxRecDepth 1000000 in
theorem s_minted_l0 (w : mxW) (s : Int64) (t : Int32) (u : Int32) : mxRn 35 0 [(0, .long (s)), (2, .int (t)), (3, .int (u))] [] w (some (.long (((s) ||| (((1 : Int64) ||| ((((u)).toInt64) <<< (((3 : Int32)).toInt64 &&& 63))) <<< ((((8 : Int32) * (t))).toInt64 &&& 63))) + (4294967296 : Int64))), w) := by
  refine mxRn.g2 6 0 (pc' := 6) (lv' := [(0, .long (s)), (2, .int (t)), (3, .int (u))]) (st' := [.long ((1 : Int64) ||| ((((u)).toInt64) <<< (((3 : Int32)).toInt64 &&& 63)))]) (w' := w) (fun n => rfl) ?_
  refine mxRn.g2 6 0 (pc' := 15) (lv' := [(0, .long (s)), (2, .int (t)), (3, .int (u)), (4, .long ((1 : Int64) ||| ((((u)).toInt64) <<< (((3 : Int32)).toInt64 &&& 63))))]) (st' := [.int ((8 : Int32) * (t)), .long ((1 : Int64) ||| ((((u)).toInt64) <<< (((3 : Int32)).toInt64 &&& 63))), .long (s)]) (w' := w) (fun n => rfl) ?_
  exact mxRn.ret 5 (fun n => rfl)
set_option maxRecDepth 1000000 in
theorem s_minted_run (w : mxW) (s : Int64) (t : Int32) (u : Int32) : mxRn 35 0 [(0, .long (s)), (2, .int (t)), (3, .int (u))] [] w (some (.long (s_minted s t u)), w) := by
  have e : s_minted s t u = (((s) ||| (((1 : Int64) ||| ((((u)).toInt64) <<< (((3 : Int32)).toInt64 &&& 63))) <<< ((((8 : Int32) * (t))).toInt64 &&& 63))) + (4294967296 : Int64)) := by unfold s_minted; rfl
  rw [e]
  exact s_minted_l0 w s t u 
