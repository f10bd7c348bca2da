theorem t5_sub : (1 : Int32) - Int32.ofInt 1 = 0 := by decide
theorem lc_lm (x : Int64) : ∀ j, j < 8 → lc x (nI j) = lm x (nI j) := by
  have key : ∀ (X : BitVec 64) (s : Nat), s ≤ 28 → ((X >>> s).signExtend 32 &&& 15#32) = ((X.sshiftRight s) &&& 15#64).signExtend 32 := by
    intro X s hs
    rw [BitVec.signExtend_eq_setWidth_of_le _ (by decide), BitVec.signExtend_eq_setWidth_of_le _ (by decide)]
    apply BitVec.eq_of_getLsbD_eq
    intro i hi
    rw [BitVec.getLsbD_and, BitVec.getLsbD_setWidth, BitVec.getLsbD_setWidth, BitVec.getLsbD_and, BitVec.getLsbD_ushiftRight, BitVec.getLsbD_sshiftRight]
    by_cases h4 : i < 4
    · have e1 : ¬ 64 ≤ i := by omega
      have e2 : s + i < 64 := by omega
      have e3 : (15#32).getLsbD i = true := by rcases (show i = 0 ∨ i = 1 ∨ i = 2 ∨ i = 3 by omega) with rfl | rfl | rfl | rfl <;> rfl
      have e4 : (15#64).getLsbD i = true := by rcases (show i = 0 ∨ i = 1 ∨ i = 2 ∨ i = 3 by omega) with rfl | rfl | rfl | rfl <;> rfl
      rw [e3, e4]
      simp [e1, e2, hi]
    · have e5 : 15 < 2 ^ i := Nat.lt_of_lt_of_le (show 15 < 2 ^ 4 by decide) (Nat.pow_le_pow_right (by decide) (by omega))
      have e3 : (15#32).getLsbD i = false := by rw [BitVec.getLsbD_ofNat, Nat.testBit_lt_two_pow e5, Bool.and_false]
      have e4 : (15#64).getLsbD i = false := by rw [BitVec.getLsbD_ofNat, Nat.testBit_lt_two_pow e5, Bool.and_false]
      rw [e3, e4, Bool.and_false, Bool.and_false, Bool.and_false]
  intro j hj
  match j, hj with
  | 0, _ => exact Int32.toBitVec_inj.mp (show (lc x (nI 0)).toBitVec = (lm x (nI 0)).toBitVec from key x.toBitVec 0 (by decide))
  | 1, _ => exact Int32.toBitVec_inj.mp (show (lc x (nI 1)).toBitVec = (lm x (nI 1)).toBitVec from key x.toBitVec 4 (by decide))
  | 2, _ => exact Int32.toBitVec_inj.mp (show (lc x (nI 2)).toBitVec = (lm x (nI 2)).toBitVec from key x.toBitVec 8 (by decide))
  | 3, _ => exact Int32.toBitVec_inj.mp (show (lc x (nI 3)).toBitVec = (lm x (nI 3)).toBitVec from key x.toBitVec 12 (by decide))
  | 4, _ => exact Int32.toBitVec_inj.mp (show (lc x (nI 4)).toBitVec = (lm x (nI 4)).toBitVec from key x.toBitVec 16 (by decide))
  | 5, _ => exact Int32.toBitVec_inj.mp (show (lc x (nI 5)).toBitVec = (lm x (nI 5)).toBitVec from key x.toBitVec 20 (by decide))
  | 6, _ => exact Int32.toBitVec_inj.mp (show (lc x (nI 6)).toBitVec = (lm x (nI 6)).toBitVec from key x.toBitVec 24 (by decide))
  | 7, _ => exact Int32.toBitVec_inj.mp (show (lc x (nI 7)).toBitVec = (lm x (nI 7)).toBitVec from key x.toBitVec 28 (by decide))
theorem tc_tm {x : Int64} {j : Nat} (hj : j < 8) : tc_ok x j ↔ tm_ok x j := by
  unfold tc_ok tm_ok
  rw [lc_lm x j hj]
set_option maxRecDepth 1000000 in
set_option maxHeartbeats 4000000 in
theorem tcp (x : Int64) (nn : Nat) (h_n : 1 ≤ (nI nn).toInt ∧ (nI nn).toInt ≤ 8) {res : mxR} (H : mxRn 60 25 [(0, .ref 0), (1, .int (nI nn)), (2, .long (x)), (4, .int 0)] [] (shA, IA, JA, QA) res) : mxRn 60 0 [(0, .ref 0), (1, .int (nI nn)), (2, .long (x))] [] (shA, IA, JA, QA) res := by
  refine mxRn.if2 3 0 (bb := Op.if_icmp.holds .lt (nI nn) (1 : Int32)) (pc' := 5) (lv' := [(0, .ref 0), (1, .int (nI nn)), (2, .long (x))]) (st' := []) (w' := (shA, IA, JA, QA)) (X := fun nf => mxev (nf + 0) 60 20 [(0, .ref 0), (1, .int (nI nn)), (2, .long (x))] [] (shA, IA, JA, QA)) (fun n => rfl) (hc_lt_f 1 rfl (by omega)) ?_
  refine mxRn.if2 3 0 (bb := Op.if_icmp.holds .gt (nI nn) (8 : Int32)) (pc' := 11) (lv' := [(0, .ref 0), (1, .int (nI nn)), (2, .long (x))]) (st' := []) (w' := (shA, IA, JA, QA)) (X := fun nf => mxev (nf + 0) 60 20 [(0, .ref 0), (1, .int (nI nn)), (2, .long (x))] [] (shA, IA, JA, QA)) (fun n => rfl) (hc_gt_f 8 rfl (by omega)) ?_
  refine mxRn.g2 6 0 (pc' := 25) (lv' := [(0, .ref 0), (1, .int (nI nn)), (2, .long (x)), (4, .int 0)]) (st' := []) (w' := (shA, IA, JA, QA)) (fun n => rfl) ?_
  exact H
set_option maxRecDepth 1000000 in
set_option maxHeartbeats 4000000 in
theorem tce (x : Int64) (nn : Nat) (l : Int32) : mxRn 60 60 [(0, .ref 0), (1, .int (nI nn)), (2, .long (x)), (4, .int (nI nn)), (5, .int (l))] [] (shA, IA, JA, QA) (some (.int 0), (shA, (mxI (mxI IA 6 0 (nI nn)) 0 7 1), (mxJ JA 5 0 (x)), QA)) := by
  refine mxRn.g2 6 0 (pc' := 70) (lv' := [(0, .ref 0), (1, .int (nI nn)), (2, .long (x)), (4, .int (nI nn)), (5, .int (l))]) (st' := []) (w' := (shA, IA, (mxJ JA 5 0 (x)), QA)) (fun n => rfl) ?_
  refine mxRn.g2 6 0 (pc' := 80) (lv' := [(0, .ref 0), (1, .int (nI nn)), (2, .long (x)), (4, .int (nI nn)), (5, .int (l))]) (st' := []) (w' := (shA, (mxI IA 6 0 (nI nn)), (mxJ JA 5 0 (x)), QA)) (fun n => rfl) ?_
  refine mxRn.g2 6 0 (pc' := 90) (lv' := [(0, .ref 0), (1, .int (nI nn)), (2, .long (x)), (4, .int (nI nn)), (5, .int (l))]) (st' := []) (w' := (shA, (mxI (mxI IA 6 0 (nI nn)) 0 7 1), (mxJ JA 5 0 (x)), QA)) (fun n => rfl) ?_
  exact mxRn.ret 5 (fun n => by
    show some (some (Value.int ((1 : Int32) - Int32.ofInt 1)), _) = some (some (Value.int 0), _)
    rw [t5_sub])
set_option maxRecDepth 1000000 in
set_option maxHeartbeats 4000000 in
theorem tmp1_z1 (x : Int64) (nn : Nat) (h_n : 1 ≤ (nI nn).toInt ∧ (nI nn).toInt ≤ 8) {res : mxR} (H : mxRn 111 24 [(0, .ref 9), (1, .int (nI nn)), (2, .long (x)), (4, .int 0)] [] (shA, (mxI (mxI IA 6 0 (nI nn)) 0 7 1), (mxJ JA 5 0 (x)), QA) res) : mxRn 81 0 [(0, .int (nI nn)), (1, .int 1), (2, .int 8)] [] (shA, (mxI (mxI IA 6 0 (nI nn)) 0 7 1), (mxJ JA 5 0 (x)), QA) (some (.int 1), (shA, (mxI (mxI IA 6 0 (nI nn)) 0 7 1), (mxJ JA 5 0 (x)), QA)) := by
  refine mxRn.if2 3 0 (bb := Op.if_icmp.holds .lt (nI nn) (1 : Int32)) (pc' := 5) (lv' := [(0, .int (nI nn)), (1, .int 1), (2, .int 8)]) (st' := []) (w' := (shA, (mxI (mxI IA 6 0 (nI nn)) 0 7 1), (mxJ JA 5 0 (x)), QA)) (X := fun nf => mxev (nf + 0) 81 14 [(0, .int (nI nn)), (1, .int 1), (2, .int 8)] [] (shA, (mxI (mxI IA 6 0 (nI nn)) 0 7 1), (mxJ JA 5 0 (x)), QA)) (fun n => rfl) (hc_lt_f 1 rfl (by omega)) ?_
  refine mxRn.if2 3 0 (bb := Op.if_icmp.holds .gt (nI nn) (8 : Int32)) (pc' := 10) (lv' := [(0, .int (nI nn)), (1, .int 1), (2, .int 8)]) (st' := []) (w' := (shA, (mxI (mxI IA 6 0 (nI nn)) 0 7 1), (mxJ JA 5 0 (x)), QA)) (X := fun nf => mxev (nf + 0) 81 14 [(0, .int (nI nn)), (1, .int 1), (2, .int 8)] [] (shA, (mxI (mxI IA 6 0 (nI nn)) 0 7 1), (mxJ JA 5 0 (x)), QA)) (fun n => rfl) (hc_gt_f 8 rfl (by omega)) ?_
  exact mxRn.ret 3 (fun n => rfl)
set_option maxRecDepth 1000000 in
set_option maxHeartbeats 4000000 in
theorem tmp1 (x : Int64) (nn : Nat) (h_n : 1 ≤ (nI nn).toInt ∧ (nI nn).toInt ≤ 8) {res : mxR} (H : mxRn 111 24 [(0, .ref 9), (1, .int (nI nn)), (2, .long (x)), (4, .int 0)] [] (shA, (mxI (mxI IA 6 0 (nI nn)) 0 7 1), (mxJ JA 5 0 (x)), QA) res) : mxRn 111 0 [(0, .ref 9), (1, .int (nI nn)), (2, .long (x))] [] (shA, (mxI (mxI IA 6 0 (nI nn)) 0 7 1), (mxJ JA 5 0 (x)), QA) res := by
  refine mxRn.g2 6 0 (pc' := 11) (lv' := [(0, .ref 9), (1, .int (nI nn)), (2, .long (x))]) (st' := [.int 1, .int (nI nn)]) (w' := (shA, (mxI (mxI IA 6 0 (nI nn)) 0 7 1), (mxJ JA 5 0 (x)), QA)) (fun n => rfl) ?_
  refine mxRn.c2 2 0 (z := 81) (lz := [(0, .int (nI nn)), (1, .int 1), (2, .int 8)]) (w1 := (shA, (mxI (mxI IA 6 0 (nI nn)) 0 7 1), (mxJ JA 5 0 (x)), QA)) (pc' := 16) (lv' := [(0, .ref 9), (1, .int (nI nn)), (2, .long (x))]) (r := []) (fun n => rfl) (tmp1_z1 x nn h_n H) ?_
  show mxRn 111 16 [(0, .ref 9), (1, .int (nI nn)), (2, .long (x))] [.int 1] (shA, (mxI (mxI IA 6 0 (nI nn)) 0 7 1), (mxJ JA 5 0 (x)), QA) _
  refine mxRn.g2 3 0 (pc' := 24) (lv' := [(0, .ref 9), (1, .int (nI nn)), (2, .long (x)), (4, .int 0)]) (st' := []) (w' := (shA, (mxI (mxI IA 6 0 (nI nn)) 0 7 1), (mxJ JA 5 0 (x)), QA)) (fun n => rfl) ?_
  exact H
set_option maxRecDepth 1000000 in
set_option maxHeartbeats 4000000 in
theorem tmp0_z1 (x : Int64) (nn : Nat) (h_n : 1 ≤ (nI nn).toInt ∧ (nI nn).toInt ≤ 8) {res : mxR} (H : mxRn 111 24 [(0, .ref 9), (1, .int (nI nn)), (2, .long (x)), (4, .int 0)] [] (shA, IA, JA, QA) res) : mxRn 81 0 [(0, .int (nI nn)), (1, .int 1), (2, .int 8)] [] (shA, IA, JA, QA) (some (.int 1), (shA, IA, JA, QA)) := by
  refine mxRn.if2 3 0 (bb := Op.if_icmp.holds .lt (nI nn) (1 : Int32)) (pc' := 5) (lv' := [(0, .int (nI nn)), (1, .int 1), (2, .int 8)]) (st' := []) (w' := (shA, IA, JA, QA)) (X := fun nf => mxev (nf + 0) 81 14 [(0, .int (nI nn)), (1, .int 1), (2, .int 8)] [] (shA, IA, JA, QA)) (fun n => rfl) (hc_lt_f 1 rfl (by omega)) ?_
  refine mxRn.if2 3 0 (bb := Op.if_icmp.holds .gt (nI nn) (8 : Int32)) (pc' := 10) (lv' := [(0, .int (nI nn)), (1, .int 1), (2, .int 8)]) (st' := []) (w' := (shA, IA, JA, QA)) (X := fun nf => mxev (nf + 0) 81 14 [(0, .int (nI nn)), (1, .int 1), (2, .int 8)] [] (shA, IA, JA, QA)) (fun n => rfl) (hc_gt_f 8 rfl (by omega)) ?_
  exact mxRn.ret 3 (fun n => rfl)
set_option maxRecDepth 1000000 in
set_option maxHeartbeats 4000000 in
theorem tmp0 (x : Int64) (nn : Nat) (h_n : 1 ≤ (nI nn).toInt ∧ (nI nn).toInt ≤ 8) {res : mxR} (H : mxRn 111 24 [(0, .ref 9), (1, .int (nI nn)), (2, .long (x)), (4, .int 0)] [] (shA, IA, JA, QA) res) : mxRn 111 0 [(0, .ref 9), (1, .int (nI nn)), (2, .long (x))] [] (shA, IA, JA, QA) res := by
  refine mxRn.g2 6 0 (pc' := 11) (lv' := [(0, .ref 9), (1, .int (nI nn)), (2, .long (x))]) (st' := [.int 1, .int (nI nn)]) (w' := (shA, IA, JA, QA)) (fun n => rfl) ?_
  refine mxRn.c2 2 0 (z := 81) (lz := [(0, .int (nI nn)), (1, .int 1), (2, .int 8)]) (w1 := (shA, IA, JA, QA)) (pc' := 16) (lv' := [(0, .ref 9), (1, .int (nI nn)), (2, .long (x))]) (r := []) (fun n => rfl) (tmp0_z1 x nn h_n H) ?_
  show mxRn 111 16 [(0, .ref 9), (1, .int (nI nn)), (2, .long (x))] [.int 1] (shA, IA, JA, QA) _
  refine mxRn.g2 3 0 (pc' := 24) (lv' := [(0, .ref 9), (1, .int (nI nn)), (2, .long (x)), (4, .int 0)]) (st' := []) (w' := (shA, IA, JA, QA)) (fun n => rfl) ?_
  exact H
set_option maxRecDepth 1000000 in
set_option maxHeartbeats 4000000 in
theorem tme (x : Int64) (nn : Nat) (l : Int32) : mxRn 111 64 [(0, .ref 9), (1, .int (nI nn)), (2, .long (x)), (4, .int (nI nn)), (5, .int (l))] [] (shA, (mxI (mxI IA 6 0 (nI nn)) 0 7 1), (mxJ JA 5 0 (x)), QA) (some (.int 0), (shA, (mxI (mxI (mxI (mxI IA 6 0 (nI nn)) 0 7 1) 19 0 (nI nn)) 9 21 1), (mxJ (mxJ JA 5 0 (x)) 20 0 (x)), QA)) := by
  refine mxRn.g2 6 0 (pc' := 74) (lv' := [(0, .ref 9), (1, .int (nI nn)), (2, .long (x)), (4, .int (nI nn)), (5, .int (l))]) (st' := []) (w' := (shA, (mxI (mxI IA 6 0 (nI nn)) 0 7 1), (mxJ (mxJ JA 5 0 (x)) 20 0 (x)), QA)) (fun n => rfl) ?_
  refine mxRn.g2 6 0 (pc' := 84) (lv' := [(0, .ref 9), (1, .int (nI nn)), (2, .long (x)), (4, .int (nI nn)), (5, .int (l))]) (st' := []) (w' := (shA, (mxI (mxI (mxI IA 6 0 (nI nn)) 0 7 1) 19 0 (nI nn)), (mxJ (mxJ JA 5 0 (x)) 20 0 (x)), QA)) (fun n => rfl) ?_
  refine mxRn.g2 6 0 (pc' := 94) (lv' := [(0, .ref 9), (1, .int (nI nn)), (2, .long (x)), (4, .int (nI nn)), (5, .int (l))]) (st' := []) (w' := (shA, (mxI (mxI (mxI (mxI IA 6 0 (nI nn)) 0 7 1) 19 0 (nI nn)) 9 21 1), (mxJ (mxJ JA 5 0 (x)) 20 0 (x)), QA)) (fun n => rfl) ?_
  exact mxRn.ret 5 (fun n => by
    show some (some (Value.int ((1 : Int32) - Int32.ofInt 1)), _) = some (some (Value.int 0), _)
    rw [t5_sub])
theorem t5_n {nn : Nat} (h_n : 1 ≤ (nI nn).toInt ∧ (nI nn).toInt ≤ 8) (h : nn < 2 ^ 31) : 1 ≤ nn ∧ nn ≤ 8 := by
  rw [nI_toInt h] at h_n
  omega
theorem t5_cg (x : Int64) (nn : Nat) (h_n : 1 ≤ (nI nn).toInt ∧ (nI nn).toInt ≤ 8) (h : nn < 2 ^ 31) (hg : ∀ q, q < nn → tc_ok x q) : mxRn 60 0 [(0, .ref 0), (1, .int (nI nn)), (2, .long (x))] [] (shA, IA, JA, QA) (some (.int 0), (shA, (mxI (mxI IA 6 0 (nI nn)) 0 7 1), (mxJ JA 5 0 (x)), QA)) :=
  tcp x nn h_n (tc_all x nn (t5_n h_n h).1 (t5_n h_n h).2 (shA, IA, JA, QA) (fun l => tce x nn l) hg)
theorem t5_cb (x : Int64) (nn : Nat) (h_n : 1 ≤ (nI nn).toInt ∧ (nI nn).toInt ≤ 8) (h : nn < 2 ^ 31) (hb : ∃ q, q < nn ∧ ¬ tc_ok x q) : mxRn 60 0 [(0, .ref 0), (1, .int (nI nn)), (2, .long (x))] [] (shA, IA, JA, QA) (some (.int (-1)), (shA, IA, JA, QA)) :=
  tcp x nn h_n (tc_bad x nn (t5_n h_n h).1 (t5_n h_n h).2 (shA, IA, JA, QA) hb)
theorem t5_mg (x : Int64) (nn : Nat) (h_n : 1 ≤ (nI nn).toInt ∧ (nI nn).toInt ≤ 8) (h : nn < 2 ^ 31) (hg : ∀ q, q < nn → tm_ok x q) : mxRn 111 0 [(0, .ref 9), (1, .int (nI nn)), (2, .long (x))] [] (shA, (mxI (mxI IA 6 0 (nI nn)) 0 7 1), (mxJ JA 5 0 (x)), QA) (some (.int 0), (shA, (mxI (mxI (mxI (mxI IA 6 0 (nI nn)) 0 7 1) 19 0 (nI nn)) 9 21 1), (mxJ (mxJ JA 5 0 (x)) 20 0 (x)), QA)) :=
  tmp1 x nn h_n (tm_all x nn (t5_n h_n h).1 (t5_n h_n h).2 (shA, (mxI (mxI IA 6 0 (nI nn)) 0 7 1), (mxJ JA 5 0 (x)), QA) (fun l => tme x nn l) hg)
theorem t5_mb (x : Int64) (nn : Nat) (h_n : 1 ≤ (nI nn).toInt ∧ (nI nn).toInt ≤ 8) (h : nn < 2 ^ 31) (hb : ∃ q, q < nn ∧ ¬ tm_ok x q) : mxRn 111 0 [(0, .ref 9), (1, .int (nI nn)), (2, .long (x))] [] (shA, IA, JA, QA) (some (.int (-1)), (shA, IA, JA, QA)) :=
  tmp0 x nn h_n (tm_bad x nn (t5_n h_n h).1 (t5_n h_n h).2 (shA, IA, JA, QA) hb)
set_option maxRecDepth 1000000 in
set_option maxHeartbeats 4000000 in
theorem p1_c5g (xs : Nat → Int32) (h1 : mxRn 60 0 [(0, .ref 0), (1, .int (xs 1)), (2, .long (((((xs 2)).toInt64) <<< (((32 : Int32)).toInt64 &&& 63)) ||| ((((xs 3)).toInt64) &&& (4294967295 : Int64))))] [] (shA, IA, JA, QA) (some (.int 0), (shA, (mxI (mxI IA 6 0 (xs 1)) 0 7 1), (mxJ JA 5 0 (((((xs 2)).toInt64) <<< (((32 : Int32)).toInt64 &&& 63)) ||| ((((xs 3)).toInt64) &&& (4294967295 : Int64)))), QA))) (h2 : mxRn 111 0 [(0, .ref 9), (1, .int (xs 1)), (2, .long (((((xs 2)).toInt64) <<< (((32 : Int32)).toInt64 &&& 63)) ||| ((((xs 3)).toInt64) &&& (4294967295 : Int64))))] [] (shA, (mxI (mxI IA 6 0 (xs 1)) 0 7 1), (mxJ JA 5 0 (((((xs 2)).toInt64) <<< (((32 : Int32)).toInt64 &&& 63)) ||| ((((xs 3)).toInt64) &&& (4294967295 : Int64)))), QA) (some (.int 0), (shA, (mxI (mxI (mxI (mxI IA 6 0 (xs 1)) 0 7 1) 19 0 (xs 1)) 9 21 1), (mxJ (mxJ JA 5 0 (((((xs 2)).toInt64) <<< (((32 : Int32)).toInt64 &&& 63)) ||| ((((xs 3)).toInt64) &&& (4294967295 : Int64)))) 20 0 (((((xs 2)).toInt64) <<< (((32 : Int32)).toInt64 &&& 63)) ||| ((((xs 3)).toInt64) &&& (4294967295 : Int64)))), QA))) : mxOk 6 xs 33 [(0, .retAddr 2), (1, .ref 0), (2, .ref 9), (3, .int 0)] [.int 5] (shA, IA, JA, QA) := by
  refine mxOk.g2 8 0 (pc' := 278) (lv' := [(0, .retAddr 2), (1, .ref 0), (2, .ref 9), (3, .int 0)]) (st' := [.retAddr 2, .int (xs 1), .ref 0]) (w' := (shA, IA, JA, QA)) (fun n => rfl) ?_
  refine mxOk.g2 8 0 (pc' := 287) (lv' := [(0, .retAddr 2), (1, .ref 0), (2, .ref 9), (3, .int 0)]) (st' := [.retAddr 2, .long ((((xs 2)).toInt64) <<< (((32 : Int32)).toInt64 &&& 63)), .int (xs 1), .ref 0]) (w' := (shA, IA, JA, QA)) (fun n => rfl) ?_
  refine mxOk.g2 8 0 (pc' := 297) (lv' := [(0, .retAddr 2), (1, .ref 0), (2, .ref 9), (3, .int 0)]) (st' := [.long (((((xs 2)).toInt64) <<< (((32 : Int32)).toInt64 &&& 63)) ||| ((((xs 3)).toInt64) &&& (4294967295 : Int64))), .int (xs 1), .ref 0]) (w' := (shA, IA, JA, QA)) (fun n => rfl) ?_
  refine mxOk.c2 1 0 (z := 60) (lz := [(0, .ref 0), (1, .int (xs 1)), (2, .long (((((xs 2)).toInt64) <<< (((32 : Int32)).toInt64 &&& 63)) ||| ((((xs 3)).toInt64) &&& (4294967295 : Int64))))]) (w1 := (shA, IA, JA, QA)) (pc' := 300) (lv' := [(0, .retAddr 2), (1, .ref 0), (2, .ref 9), (3, .int 0)]) (r := []) (fun n => rfl) (h1) ?_
  show mxOk 6 xs 300 [(0, .retAddr 2), (1, .ref 0), (2, .ref 9), (3, .int 0)] [.int 0] (shA, (mxI (mxI IA 6 0 (xs 1)) 0 7 1), (mxJ JA 5 0 (((((xs 2)).toInt64) <<< (((32 : Int32)).toInt64 &&& 63)) ||| ((((xs 3)).toInt64) &&& (4294967295 : Int64)))), QA)
  refine mxOk.g2 8 0 (pc' := 308) (lv' := [(0, .retAddr 2), (1, .ref 0), (2, .ref 9), (3, .int 0)]) (st' := [.int 0, .retAddr 2, .int (xs 1), .ref 9, .int 0]) (w' := (shA, (mxI (mxI IA 6 0 (xs 1)) 0 7 1), (mxJ JA 5 0 (((((xs 2)).toInt64) <<< (((32 : Int32)).toInt64 &&& 63)) ||| ((((xs 3)).toInt64) &&& (4294967295 : Int64)))), QA)) (fun n => rfl) ?_
  refine mxOk.g2 8 0 (pc' := 317) (lv' := [(0, .retAddr 2), (1, .ref 0), (2, .ref 9), (3, .int 0)]) (st' := [.int 0, .retAddr 2, .long ((((xs 2)).toInt64) <<< (((32 : Int32)).toInt64 &&& 63)), .int (xs 1), .ref 9, .int 0]) (w' := (shA, (mxI (mxI IA 6 0 (xs 1)) 0 7 1), (mxJ JA 5 0 (((((xs 2)).toInt64) <<< (((32 : Int32)).toInt64 &&& 63)) ||| ((((xs 3)).toInt64) &&& (4294967295 : Int64)))), QA)) (fun n => rfl) ?_
  refine mxOk.c2 8 0 (z := 111) (lz := [(0, .ref 9), (1, .int (xs 1)), (2, .long (((((xs 2)).toInt64) <<< (((32 : Int32)).toInt64 &&& 63)) ||| ((((xs 3)).toInt64) &&& (4294967295 : Int64))))]) (w1 := (shA, (mxI (mxI IA 6 0 (xs 1)) 0 7 1), (mxJ JA 5 0 (((((xs 2)).toInt64) <<< (((32 : Int32)).toInt64 &&& 63)) ||| ((((xs 3)).toInt64) &&& (4294967295 : Int64)))), QA)) (pc' := 329) (lv' := [(0, .retAddr 2), (1, .ref 0), (2, .ref 9), (3, .int 0)]) (r := [.int 0]) (fun n => rfl) (h2) ?_
  show mxOk 6 xs 329 [(0, .retAddr 2), (1, .ref 0), (2, .ref 9), (3, .int 0)] [.int 0, .int 0] (shA, (mxI (mxI (mxI (mxI IA 6 0 (xs 1)) 0 7 1) 19 0 (xs 1)) 9 21 1), (mxJ (mxJ JA 5 0 (((((xs 2)).toInt64) <<< (((32 : Int32)).toInt64 &&& 63)) ||| ((((xs 3)).toInt64) &&& (4294967295 : Int64)))) 20 0 (((((xs 2)).toInt64) <<< (((32 : Int32)).toInt64 &&& 63)) ||| ((((xs 3)).toInt64) &&& (4294967295 : Int64)))), QA)
  refine mxOk.g2 8 0 (pc' := 24) (lv' := [(0, .retAddr 2), (1, .ref 0), (2, .ref 9), (3, .int 6)]) (st' := [.int 0, .int 6]) (w' := (shA, (mxI (mxI (mxI (mxI IA 6 0 (xs 1)) 0 7 1) 19 0 (xs 1)) 9 21 1), (mxJ (mxJ JA 5 0 (((((xs 2)).toInt64) <<< (((32 : Int32)).toInt64 &&& 63)) ||| ((((xs 3)).toInt64) &&& (4294967295 : Int64)))) 20 0 (((((xs 2)).toInt64) <<< (((32 : Int32)).toInt64 &&& 63)) ||| ((((xs 3)).toInt64) &&& (4294967295 : Int64)))), QA)) (fun n => rfl) ?_
  exact mxOk.ret 3 (w' := (shA, (mxI (mxI (mxI (mxI IA 6 0 (xs 1)) 0 7 1) 19 0 (xs 1)) 9 21 1), (mxJ (mxJ JA 5 0 (((((xs 2)).toInt64) <<< (((32 : Int32)).toInt64 &&& 63)) ||| ((((xs 3)).toInt64) &&& (4294967295 : Int64)))) 20 0 (((((xs 2)).toInt64) <<< (((32 : Int32)).toInt64 &&& 63)) ||| ((((xs 3)).toInt64) &&& (4294967295 : Int64)))), QA)) (fun n => rfl) (show shA.length ≤ 600000 from Nat.le_of_ble_eq_true rfl) (show (shA.map (fun q => q.2)).sum ≤ 7302250 from Nat.le_of_ble_eq_true rfl)
set_option maxRecDepth 1000000 in
set_option maxHeartbeats 4000000 in
theorem p1_c5n (xs : Nat → Int32) (h1 : mxRn 60 0 [(0, .ref 0), (1, .int (xs 1)), (2, .long (((((xs 2)).toInt64) <<< (((32 : Int32)).toInt64 &&& 63)) ||| ((((xs 3)).toInt64) &&& (4294967295 : Int64))))] [] (shA, IA, JA, QA) (some (.int (-1)), (shA, IA, JA, QA))) (h2 : mxRn 111 0 [(0, .ref 9), (1, .int (xs 1)), (2, .long (((((xs 2)).toInt64) <<< (((32 : Int32)).toInt64 &&& 63)) ||| ((((xs 3)).toInt64) &&& (4294967295 : Int64))))] [] (shA, IA, JA, QA) (some (.int (-1)), (shA, IA, JA, QA))) : mxOk 6 xs 33 [(0, .retAddr 2), (1, .ref 0), (2, .ref 9), (3, .int 0)] [.int 5] (shA, IA, JA, QA) := by
  refine mxOk.g2 8 0 (pc' := 278) (lv' := [(0, .retAddr 2), (1, .ref 0), (2, .ref 9), (3, .int 0)]) (st' := [.retAddr 2, .int (xs 1), .ref 0]) (w' := (shA, IA, JA, QA)) (fun n => rfl) ?_
  refine mxOk.g2 8 0 (pc' := 287) (lv' := [(0, .retAddr 2), (1, .ref 0), (2, .ref 9), (3, .int 0)]) (st' := [.retAddr 2, .long ((((xs 2)).toInt64) <<< (((32 : Int32)).toInt64 &&& 63)), .int (xs 1), .ref 0]) (w' := (shA, IA, JA, QA)) (fun n => rfl) ?_
  refine mxOk.g2 8 0 (pc' := 297) (lv' := [(0, .retAddr 2), (1, .ref 0), (2, .ref 9), (3, .int 0)]) (st' := [.long (((((xs 2)).toInt64) <<< (((32 : Int32)).toInt64 &&& 63)) ||| ((((xs 3)).toInt64) &&& (4294967295 : Int64))), .int (xs 1), .ref 0]) (w' := (shA, IA, JA, QA)) (fun n => rfl) ?_
  refine mxOk.c2 1 0 (z := 60) (lz := [(0, .ref 0), (1, .int (xs 1)), (2, .long (((((xs 2)).toInt64) <<< (((32 : Int32)).toInt64 &&& 63)) ||| ((((xs 3)).toInt64) &&& (4294967295 : Int64))))]) (w1 := (shA, IA, JA, QA)) (pc' := 300) (lv' := [(0, .retAddr 2), (1, .ref 0), (2, .ref 9), (3, .int 0)]) (r := []) (fun n => rfl) (h1) ?_
  show mxOk 6 xs 300 [(0, .retAddr 2), (1, .ref 0), (2, .ref 9), (3, .int 0)] [.int (-1)] (shA, IA, JA, QA)
  refine mxOk.g2 8 0 (pc' := 308) (lv' := [(0, .retAddr 2), (1, .ref 0), (2, .ref 9), (3, .int 0)]) (st' := [.int 0, .retAddr 2, .int (xs 1), .ref 9, .int (-1)]) (w' := (shA, IA, JA, QA)) (fun n => rfl) ?_
  refine mxOk.g2 8 0 (pc' := 317) (lv' := [(0, .retAddr 2), (1, .ref 0), (2, .ref 9), (3, .int 0)]) (st' := [.int 0, .retAddr 2, .long ((((xs 2)).toInt64) <<< (((32 : Int32)).toInt64 &&& 63)), .int (xs 1), .ref 9, .int (-1)]) (w' := (shA, IA, JA, QA)) (fun n => rfl) ?_
  refine mxOk.c2 8 0 (z := 111) (lz := [(0, .ref 9), (1, .int (xs 1)), (2, .long (((((xs 2)).toInt64) <<< (((32 : Int32)).toInt64 &&& 63)) ||| ((((xs 3)).toInt64) &&& (4294967295 : Int64))))]) (w1 := (shA, IA, JA, QA)) (pc' := 329) (lv' := [(0, .retAddr 2), (1, .ref 0), (2, .ref 9), (3, .int 0)]) (r := [.int (-1)]) (fun n => rfl) (h2) ?_
  show mxOk 6 xs 329 [(0, .retAddr 2), (1, .ref 0), (2, .ref 9), (3, .int 0)] [.int (-1), .int (-1)] (shA, IA, JA, QA)
  refine mxOk.g2 8 0 (pc' := 24) (lv' := [(0, .retAddr 2), (1, .ref 0), (2, .ref 9), (3, .int 6)]) (st' := [.int 0, .int 6]) (w' := (shA, IA, JA, QA)) (fun n => rfl) ?_
  exact mxOk.ret 3 (w' := (shA, IA, JA, QA)) (fun n => rfl) (show shA.length ≤ 600000 from Nat.le_of_ble_eq_true rfl) (show (shA.map (fun q => q.2)).sum ≤ 7302250 from Nat.le_of_ble_eq_true rfl)
theorem p1_c5s (xs : Nat → Int32) (h_1 : 1 ≤ (xs 1).toInt ∧ (xs 1).toInt ≤ 8) : mxOk 6 xs 33 [(0, .retAddr 2), (1, .ref 0), (2, .ref 9), (3, .int 0)] [.int 5] (shA, IA, JA, QA) := by
  obtain ⟨nn, hlt, hn⟩ := nI_of (x := xs 1) (fun h => by
    have := Int32.lt_iff_toInt_lt.mp h
    have e0 : (0 : Int32).toInt = 0 := rfl
    omega)
  rw [hn] at h_1
  have hb := t5_n h_1 hlt
  rcases Classical.em (∀ q, q < nn → tc_ok (((((xs 2)).toInt64) <<< (((32 : Int32)).toInt64 &&& 63)) ||| ((((xs 3)).toInt64) &&& (4294967295 : Int64))) q) with hg | hg
  · have h1 := t5_cg (((((xs 2)).toInt64) <<< (((32 : Int32)).toInt64 &&& 63)) ||| ((((xs 3)).toInt64) &&& (4294967295 : Int64))) nn h_1 hlt hg
    have h2 := t5_mg (((((xs 2)).toInt64) <<< (((32 : Int32)).toInt64 &&& 63)) ||| ((((xs 3)).toInt64) &&& (4294967295 : Int64))) nn h_1 hlt (fun q hq => (tc_tm (by omega)).mp (hg q hq))
    rw [← hn] at h1 h2
    exact p1_c5g xs h1 h2
  · have hx : ∃ q, q < nn ∧ ¬ tc_ok (((((xs 2)).toInt64) <<< (((32 : Int32)).toInt64 &&& 63)) ||| ((((xs 3)).toInt64) &&& (4294967295 : Int64))) q := by
      rcases Classical.em (∃ q, q < nn ∧ ¬ tc_ok (((((xs 2)).toInt64) <<< (((32 : Int32)).toInt64 &&& 63)) ||| ((((xs 3)).toInt64) &&& (4294967295 : Int64))) q) with h | h
      · exact h
      · exact absurd (fun q hq => Classical.byContradiction fun hc => h ⟨q, hq, hc⟩) hg
    obtain ⟨q, hq, hc⟩ := hx
    have h1 := t5_cb (((((xs 2)).toInt64) <<< (((32 : Int32)).toInt64 &&& 63)) ||| ((((xs 3)).toInt64) &&& (4294967295 : Int64))) nn h_1 hlt ⟨q, hq, hc⟩
    have h2 := t5_mb (((((xs 2)).toInt64) <<< (((32 : Int32)).toInt64 &&& 63)) ||| ((((xs 3)).toInt64) &&& (4294967295 : Int64))) nn h_1 hlt ⟨q, hq, fun h => hc ((tc_tm (by omega)).mpr h)⟩
    rw [← hn] at h1 h2
    exact p1_c5n xs h1 h2
