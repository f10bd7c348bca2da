/-! worlds whose cells 9, 21 to 25 are known -/
def shW (a : Nat → Nat × Nat) (sh : List (Nat × Nat)) : List (Nat × Nat) := a 0 :: a 1 :: a 2 :: a 3 :: a 4 :: a 5 :: a 6 :: a 7 :: a 8 :: (8, 37) :: a 10 :: a 11 :: a 12 :: a 13 :: a 14 :: a 15 :: a 16 :: a 17 :: a 18 :: a 19 :: a 20 :: (1, 20001) :: (0, 20001) :: (0, 20001) :: (0, 65536) :: (0, 10) :: sh
def QW (Q : Nat → Nat → Value) : Nat → Nat → Value := mxQ (mxQ (mxQ (mxQ (mxQ Q 9 24 (.ref 21)) 9 25 (.ref 22)) 9 26 (.ref 23)) 9 27 (.ref 24)) 9 30 (.ref 25)
theorem QW_eq {Q : Nat → Nat → Value} (h24 : Q 9 24 = .ref 21) (h25 : Q 9 25 = .ref 22) (h26 : Q 9 26 = .ref 23) (h27 : Q 9 27 = .ref 24) (h30 : Q 9 30 = .ref 25) : QW Q = Q := by
  unfold QW
  rw [mxQ_self h24, mxQ_self h25, mxQ_self h26, mxQ_self h27, mxQ_self h30]
theorem shW_ex : ∀ (l : List (Nat × Nat)), l[9]? = some (8, 37) → l[21]? = some (1, 20001) → l[22]? = some (0, 20001) → l[23]? = some (0, 20001) → l[24]? = some (0, 65536) → l[25]? = some (0, 10) → ∃ a sh, l = shW a sh := by
  intro l h9 h21 h22 h23 h24 h25
  rcases l with _ | ⟨x0, l⟩
  · cases h25
  rcases l with _ | ⟨x1, l⟩
  · cases h25
  rcases l with _ | ⟨x2, l⟩
  · cases h25
  rcases l with _ | ⟨x3, l⟩
  · cases h25
  rcases l with _ | ⟨x4, l⟩
  · cases h25
  rcases l with _ | ⟨x5, l⟩
  · cases h25
  rcases l with _ | ⟨x6, l⟩
  · cases h25
  rcases l with _ | ⟨x7, l⟩
  · cases h25
  rcases l with _ | ⟨x8, l⟩
  · cases h25
  rcases l with _ | ⟨x9, l⟩
  · cases h25
  rcases l with _ | ⟨x10, l⟩
  · cases h25
  rcases l with _ | ⟨x11, l⟩
  · cases h25
  rcases l with _ | ⟨x12, l⟩
  · cases h25
  rcases l with _ | ⟨x13, l⟩
  · cases h25
  rcases l with _ | ⟨x14, l⟩
  · cases h25
  rcases l with _ | ⟨x15, l⟩
  · cases h25
  rcases l with _ | ⟨x16, l⟩
  · cases h25
  rcases l with _ | ⟨x17, l⟩
  · cases h25
  rcases l with _ | ⟨x18, l⟩
  · cases h25
  rcases l with _ | ⟨x19, l⟩
  · cases h25
  rcases l with _ | ⟨x20, l⟩
  · cases h25
  rcases l with _ | ⟨x21, l⟩
  · cases h25
  rcases l with _ | ⟨x22, l⟩
  · cases h25
  rcases l with _ | ⟨x23, l⟩
  · cases h25
  rcases l with _ | ⟨x24, l⟩
  · cases h25
  rcases l with _ | ⟨x25, l⟩
  · cases h25
  cases h9; cases h21; cases h22; cases h23; cases h24; cases h25
  exact ⟨fun k => [x0, x1, x2, x3, x4, x5, x6, x7, x8, (0, 0), x10, x11, x12, x13, x14, x15, x16, x17, x18, x19, x20, (0, 0), (0, 0), (0, 0), (0, 0), (0, 0)].getD k (0, 0), l, rfl⟩
set_option maxRecDepth 100000 in
theorem wc_go {a : Nat → Nat × Nat} {sh : List (Nat × Nat)} {I : Nat → Nat → Int32} {J : Nat → Nat → Int64} {Q : Nat → Nat → Value} {res : mxR} {r ln kd x : Int32} (hx : Op.if_icmp.holds .ge x 65536 = false) (hi : mxin x 65536 = true) (H : mxRn 117 8 [(0, .ref 9), (1, .int r), (2, .int ln), (3, .int kd), (4, .int (x + 1))] [] (shW a sh, (mxI I 24 (x).toNatClampNeg (0)), J, QW Q) res) : mxRn 117 8 [(0, .ref 9), (1, .int r), (2, .int ln), (3, .int kd), (4, .int x)] [] (shW a sh, I, J, QW Q) res := by
  refine mxRn.if2 3 0 (bb := Op.if_icmp.holds .ge (x) (65536)) (pc' := 15) (lv' := [(0, .ref 9), (1, .int r), (2, .int ln), (3, .int kd), (4, .int x)]) (st' := []) (w' := (shW a sh, I, J, QW Q)) (X := fun n => mxev n 117 29 [(0, .ref 9), (1, .int r), (2, .int ln), (3, .int kd), (4, .int x)] [] (shW a sh, I, J, QW Q)) (fun n => rfl) hx ?_
  refine mxRn.it2 5 0 (bb := mxin (x) 65536) (pc' := 23) (lv' := [(0, .ref 9), (1, .int r), (2, .int ln), (3, .int kd), (4, .int x)]) (st' := []) (w' := (shW a sh, (mxI I 24 (x).toNatClampNeg (0)), J, QW Q)) (X := fun n => none) (fun n => rfl) hi ?_
  refine mxRn.g2 2 0 (pc' := 8) (lv' := [(0, .ref 9), (1, .int r), (2, .int ln), (3, .int kd), (4, .int (x + 1))]) (st' := []) (w' := (shW a sh, (mxI I 24 (x).toNatClampNeg (0)), J, QW Q)) (fun n => rfl) ?_
  exact H
set_option maxRecDepth 100000 in
theorem wc_end {a : Nat → Nat × Nat} {sh : List (Nat × Nat)} {I : Nat → Nat → Int32} {J : Nat → Nat → Int64} {Q : Nat → Nat → Value} {res : mxR} {r ln kd x : Int32} (hx : Op.if_icmp.holds .ge x 65536 = true) (H : mxRn 117 29 [(0, .ref 9), (1, .int r), (2, .int ln), (3, .int kd), (4, .int x)] [] (shW a sh, I, J, QW Q) res) : mxRn 117 8 [(0, .ref 9), (1, .int r), (2, .int ln), (3, .int kd), (4, .int x)] [] (shW a sh, I, J, QW Q) res := by
  refine mxRn.it2 3 0 (bb := Op.if_icmp.holds .ge (x) (65536)) (pc' := 29) (lv' := [(0, .ref 9), (1, .int r), (2, .int ln), (3, .int kd), (4, .int x)]) (st' := []) (w' := (shW a sh, I, J, QW Q)) (X := fun n => mxev n 117 15 [(0, .ref 9), (1, .int r), (2, .int ln), (3, .int kd), (4, .int x)] [] (shW a sh, I, J, QW Q)) (fun n => rfl) hx ?_
  exact H
set_option maxRecDepth 100000 in
theorem po_free {a : Nat → Nat × Nat} {sh : List (Nat × Nat)} {I : Nat → Nat → Int32} {J : Nat → Nat → Int64} {Q : Nat → Nat → Value} {res : mxR} {v : Int64} {h : Int32} (hi : mxin h 65536 = true) (hz : Op.ifCond.holds .le (I 24 h.toNatClampNeg) = true) (H : mxRn 115 54 [(0, .ref 9), (1, .long v), (3, .int h)] [] (shW a sh, I, J, QW Q) res) : mxRn 115 17 [(0, .ref 9), (1, .long v), (3, .int h)] [] (shW a sh, I, J, QW Q) res := by
  refine mxRn.it2 4 0 (bb := mxin (h) 65536) (pc' := 23) (lv' := [(0, .ref 9), (1, .long v), (3, .int h)]) (st' := [.int (I 24 (h).toNatClampNeg)]) (w' := (shW a sh, I, J, QW Q)) (X := fun n => none) (fun n => rfl) hi ?_
  refine mxRn.it2 1 0 (bb := Op.ifCond.holds .le ((I 24 (h).toNatClampNeg))) (pc' := 54) (lv' := [(0, .ref 9), (1, .long v), (3, .int h)]) (st' := []) (w' := (shW a sh, I, J, QW Q)) (X := fun n => mxev n 115 26 [(0, .ref 9), (1, .long v), (3, .int h)] [] (shW a sh, I, J, QW Q)) (fun n => rfl) hz ?_
  exact H
set_option maxRecDepth 100000 in
theorem po_same {a : Nat → Nat × Nat} {sh : List (Nat × Nat)} {I : Nat → Nat → Int32} {J : Nat → Nat → Int64} {Q : Nat → Nat → Value} {res : mxR} {v : Int64} {h : Int32} (hi : mxin h 65536 = true) (hz : Op.ifCond.holds .le (I 24 h.toNatClampNeg) = false) (hj : mxin (I 24 h.toNatClampNeg - 1) 20001 = true) (hs : Op.ifCond.holds .eq (lg_cmp (J 21 (I 24 h.toNatClampNeg - 1).toNatClampNeg) v) = true) (H : mxRn 115 54 [(0, .ref 9), (1, .long v), (3, .int h)] [] (shW a sh, I, J, QW Q) res) : mxRn 115 17 [(0, .ref 9), (1, .long v), (3, .int h)] [] (shW a sh, I, J, QW Q) res := by
  refine mxRn.it2 4 0 (bb := mxin (h) 65536) (pc' := 23) (lv' := [(0, .ref 9), (1, .long v), (3, .int h)]) (st' := [.int (I 24 (h).toNatClampNeg)]) (w' := (shW a sh, I, J, QW Q)) (X := fun n => none) (fun n => rfl) hi ?_
  refine mxRn.if2 1 0 (bb := Op.ifCond.holds .le ((I 24 (h).toNatClampNeg))) (pc' := 26) (lv' := [(0, .ref 9), (1, .long v), (3, .int h)]) (st' := []) (w' := (shW a sh, I, J, QW Q)) (X := fun n => mxev n 115 54 [(0, .ref 9), (1, .long v), (3, .int h)] [] (shW a sh, I, J, QW Q)) (fun n => rfl) hz ?_
  refine mxRn.it2 6 0 (bb := mxin (h) 65536) (pc' := 36) (lv' := [(0, .ref 9), (1, .long v), (3, .int h)]) (st' := [.int (I 24 (h).toNatClampNeg), .ref 21]) (w' := (shW a sh, I, J, QW Q)) (X := fun n => none) (fun n => rfl) hi ?_
  refine mxRn.it2 3 0 (bb := mxin (((I 24 (h).toNatClampNeg) - 1)) 20001) (pc' := 39) (lv' := [(0, .ref 9), (1, .long v), (3, .int h)]) (st' := [.long (J 21 (((I 24 (h).toNatClampNeg) - 1)).toNatClampNeg)]) (w' := (shW a sh, I, J, QW Q)) (X := fun n => none) (fun n => rfl) hj ?_
  refine mxRn.it2 3 0 (bb := Op.ifCond.holds .eq ((lg_cmp ((J 21 (((I 24 (h).toNatClampNeg) - 1)).toNatClampNeg)) (v)))) (pc' := 54) (lv' := [(0, .ref 9), (1, .long v), (3, .int h)]) (st' := []) (w' := (shW a sh, I, J, QW Q)) (X := fun n => mxev n 115 44 [(0, .ref 9), (1, .long v), (3, .int h)] [] (shW a sh, I, J, QW Q)) (fun n => rfl) hs ?_
  exact H
set_option maxRecDepth 100000 in
theorem po_next {a : Nat → Nat × Nat} {sh : List (Nat × Nat)} {I : Nat → Nat → Int32} {J : Nat → Nat → Int64} {Q : Nat → Nat → Value} {res : mxR} {v : Int64} {h : Int32} (hi : mxin h 65536 = true) (hz : Op.ifCond.holds .le (I 24 h.toNatClampNeg) = false) (hj : mxin (I 24 h.toNatClampNeg - 1) 20001 = true) (hs : Op.ifCond.holds .eq (lg_cmp (J 21 (I 24 h.toNatClampNeg - 1).toNatClampNeg) v) = false) (H : mxRn 115 17 [(0, .ref 9), (1, .long v), (3, .int ((h + 1) &&& 65535))] [] (shW a sh, I, J, QW Q) res) : mxRn 115 17 [(0, .ref 9), (1, .long v), (3, .int h)] [] (shW a sh, I, J, QW Q) res := by
  refine mxRn.it2 4 0 (bb := mxin (h) 65536) (pc' := 23) (lv' := [(0, .ref 9), (1, .long v), (3, .int h)]) (st' := [.int (I 24 (h).toNatClampNeg)]) (w' := (shW a sh, I, J, QW Q)) (X := fun n => none) (fun n => rfl) hi ?_
  refine mxRn.if2 1 0 (bb := Op.ifCond.holds .le ((I 24 (h).toNatClampNeg))) (pc' := 26) (lv' := [(0, .ref 9), (1, .long v), (3, .int h)]) (st' := []) (w' := (shW a sh, I, J, QW Q)) (X := fun n => mxev n 115 54 [(0, .ref 9), (1, .long v), (3, .int h)] [] (shW a sh, I, J, QW Q)) (fun n => rfl) hz ?_
  refine mxRn.it2 6 0 (bb := mxin (h) 65536) (pc' := 36) (lv' := [(0, .ref 9), (1, .long v), (3, .int h)]) (st' := [.int (I 24 (h).toNatClampNeg), .ref 21]) (w' := (shW a sh, I, J, QW Q)) (X := fun n => none) (fun n => rfl) hi ?_
  refine mxRn.it2 3 0 (bb := mxin (((I 24 (h).toNatClampNeg) - 1)) 20001) (pc' := 39) (lv' := [(0, .ref 9), (1, .long v), (3, .int h)]) (st' := [.long (J 21 (((I 24 (h).toNatClampNeg) - 1)).toNatClampNeg)]) (w' := (shW a sh, I, J, QW Q)) (X := fun n => none) (fun n => rfl) hj ?_
  refine mxRn.if2 3 0 (bb := Op.ifCond.holds .eq ((lg_cmp ((J 21 (((I 24 (h).toNatClampNeg) - 1)).toNatClampNeg)) (v)))) (pc' := 44) (lv' := [(0, .ref 9), (1, .long v), (3, .int h)]) (st' := []) (w' := (shW a sh, I, J, QW Q)) (X := fun n => mxev n 115 54 [(0, .ref 9), (1, .long v), (3, .int h)] [] (shW a sh, I, J, QW Q)) (fun n => rfl) hs ?_
  refine mxRn.g2 6 0 (pc' := 51) (lv' := [(0, .ref 9), (1, .long v), (3, .int ((h + 1) &&& 65535))]) (st' := []) (w' := (shW a sh, I, J, QW Q)) (fun n => rfl) ?_
  refine mxRn.g2 1 0 (pc' := 17) (lv' := [(0, .ref 9), (1, .long v), (3, .int ((h + 1) &&& 65535))]) (st' := []) (w' := (shW a sh, I, J, QW Q)) (fun n => rfl) ?_
  exact H
set_option maxRecDepth 100000 in
theorem po_end {a : Nat → Nat × Nat} {sh : List (Nat × Nat)} {I : Nat → Nat → Int32} {J : Nat → Nat → Int64} {Q : Nat → Nat → Value} {v : Int64} {h : Int32} : mxRn 115 54 [(0, .ref 9), (1, .long v), (3, .int h)] [] (shW a sh, I, J, QW Q) (some (.int h), (shW a sh, I, J, QW Q)) := mxRn.ret 2 (fun n => rfl)
set_option maxRecDepth 100000 in
theorem me_no {a : Nat → Nat × Nat} {sh : List (Nat × Nat)} {I : Nat → Nat → Int32} {J : Nat → Nat → Int64} {Q : Nat → Nat → Value} {res : mxR} {v : Int64} {f l h : Int32} (hi : mxin h 65536 = true) (hz : Op.ifCond.holds .ne (I 24 h.toNatClampNeg) = true) (H : mxRn 116 79 [(0, .ref 9), (1, .long v), (3, .int f), (4, .int l), (5, .int h)] [] (shW a sh, I, J, QW Q) res) : mxRn 116 7 [(0, .ref 9), (1, .long v), (3, .int f), (4, .int l), (5, .int h)] [] (shW a sh, I, J, QW Q) res := by
  refine mxRn.it2 4 0 (bb := mxin (h) 65536) (pc' := 14) (lv' := [(0, .ref 9), (1, .long v), (3, .int f), (4, .int l), (5, .int h)]) (st' := [.int (I 24 (h).toNatClampNeg)]) (w' := (shW a sh, I, J, QW Q)) (X := fun n => none) (fun n => rfl) hi ?_
  refine mxRn.it2 1 0 (bb := Op.ifCond.holds .ne ((I 24 (h).toNatClampNeg))) (pc' := 79) (lv' := [(0, .ref 9), (1, .long v), (3, .int f), (4, .int l), (5, .int h)]) (st' := []) (w' := (shW a sh, I, J, QW Q)) (X := fun n => mxev n 116 17 [(0, .ref 9), (1, .long v), (3, .int f), (4, .int l), (5, .int h)] [] (shW a sh, I, J, QW Q)) (fun n => rfl) hz ?_
  exact H
set_option maxRecDepth 100000 in
theorem me_full {a : Nat → Nat × Nat} {sh : List (Nat × Nat)} {I : Nat → Nat → Int32} {J : Nat → Nat → Int64} {Q : Nat → Nat → Value} {res : mxR} {v : Int64} {f l h : Int32} (hi : mxin h 65536 = true) (hz : Op.ifCond.holds .ne (I 24 h.toNatClampNeg) = false) (hf : Op.if_icmp.holds .gt (I 9 28) 20000 = true) (H : mxRn 116 79 [(0, .ref 9), (1, .long v), (3, .int f), (4, .int l), (5, .int h)] [] (shW a sh, I, J, QW Q) res) : mxRn 116 7 [(0, .ref 9), (1, .long v), (3, .int f), (4, .int l), (5, .int h)] [] (shW a sh, I, J, QW Q) res := by
  refine mxRn.it2 4 0 (bb := mxin (h) 65536) (pc' := 14) (lv' := [(0, .ref 9), (1, .long v), (3, .int f), (4, .int l), (5, .int h)]) (st' := [.int (I 24 (h).toNatClampNeg)]) (w' := (shW a sh, I, J, QW Q)) (X := fun n => none) (fun n => rfl) hi ?_
  refine mxRn.if2 1 0 (bb := Op.ifCond.holds .ne ((I 24 (h).toNatClampNeg))) (pc' := 17) (lv' := [(0, .ref 9), (1, .long v), (3, .int f), (4, .int l), (5, .int h)]) (st' := []) (w' := (shW a sh, I, J, QW Q)) (X := fun n => mxev n 116 79 [(0, .ref 9), (1, .long v), (3, .int f), (4, .int l), (5, .int h)] [] (shW a sh, I, J, QW Q)) (fun n => rfl) hz ?_
  refine mxRn.it2 4 0 (bb := Op.if_icmp.holds .gt ((I 9 28)) (20000)) (pc' := 79) (lv' := [(0, .ref 9), (1, .long v), (3, .int f), (4, .int l), (5, .int h)]) (st' := []) (w' := (shW a sh, I, J, QW Q)) (X := fun n => mxev n 116 27 [(0, .ref 9), (1, .long v), (3, .int f), (4, .int l), (5, .int h)] [] (shW a sh, I, J, QW Q)) (fun n => rfl) hf ?_
  exact H
set_option maxRecDepth 100000 in
theorem me_put {a : Nat → Nat × Nat} {sh : List (Nat × Nat)} {I : Nat → Nat → Int32} {J : Nat → Nat → Int64} {Q : Nat → Nat → Value} {res : mxR} {v : Int64} {f l h : Int32} (hi : mxin h 65536 = true) (hz : Op.ifCond.holds .ne (I 24 h.toNatClampNeg) = false) (hf : Op.if_icmp.holds .gt (I 9 28) 20000 = false) (hn : mxin (I 9 28) 20001 = true) (H : mxRn 116 79 [(0, .ref 9), (1, .long v), (3, .int f), (4, .int l), (5, .int h)] [] (shW a sh, (mxI (mxI (mxI (mxI I 22 ((I 9 28)).toNatClampNeg (f)) 23 ((I 9 28)).toNatClampNeg (l)) 9 28 (((I 9 28) + 1))) 24 (h).toNatClampNeg (((mxI (mxI (mxI I 22 ((I 9 28)).toNatClampNeg (f)) 23 ((I 9 28)).toNatClampNeg (l)) 9 28 (((I 9 28) + 1))) 9 28))), (mxJ J 21 ((I 9 28)).toNatClampNeg (v)), QW Q) res) : mxRn 116 7 [(0, .ref 9), (1, .long v), (3, .int f), (4, .int l), (5, .int h)] [] (shW a sh, I, J, QW Q) res := by
  refine mxRn.it2 4 0 (bb := mxin (h) 65536) (pc' := 14) (lv' := [(0, .ref 9), (1, .long v), (3, .int f), (4, .int l), (5, .int h)]) (st' := [.int (I 24 (h).toNatClampNeg)]) (w' := (shW a sh, I, J, QW Q)) (X := fun n => none) (fun n => rfl) hi ?_
  refine mxRn.if2 1 0 (bb := Op.ifCond.holds .ne ((I 24 (h).toNatClampNeg))) (pc' := 17) (lv' := [(0, .ref 9), (1, .long v), (3, .int f), (4, .int l), (5, .int h)]) (st' := []) (w' := (shW a sh, I, J, QW Q)) (X := fun n => mxev n 116 79 [(0, .ref 9), (1, .long v), (3, .int f), (4, .int l), (5, .int h)] [] (shW a sh, I, J, QW Q)) (fun n => rfl) hz ?_
  refine mxRn.if2 4 0 (bb := Op.if_icmp.holds .gt ((I 9 28)) (20000)) (pc' := 27) (lv' := [(0, .ref 9), (1, .long v), (3, .int f), (4, .int l), (5, .int h)]) (st' := []) (w' := (shW a sh, I, J, QW Q)) (X := fun n => mxev n 116 79 [(0, .ref 9), (1, .long v), (3, .int f), (4, .int l), (5, .int h)] [] (shW a sh, I, J, QW Q)) (fun n => rfl) hf ?_
  refine mxRn.it2 6 0 (bb := mxin ((I 9 28)) 20001) (pc' := 37) (lv' := [(0, .ref 9), (1, .long v), (3, .int f), (4, .int l), (5, .int h)]) (st' := []) (w' := (shW a sh, I, (mxJ J 21 ((I 9 28)).toNatClampNeg (v)), QW Q)) (X := fun n => none) (fun n => rfl) hn ?_
  refine mxRn.it2 6 0 (bb := mxin ((I 9 28)) 20001) (pc' := 47) (lv' := [(0, .ref 9), (1, .long v), (3, .int f), (4, .int l), (5, .int h)]) (st' := []) (w' := (shW a sh, (mxI I 22 ((I 9 28)).toNatClampNeg (f)), (mxJ J 21 ((I 9 28)).toNatClampNeg (v)), QW Q)) (X := fun n => none) (fun n => rfl) hn ?_
  refine mxRn.it2 6 0 (bb := mxin ((I 9 28)) 20001) (pc' := 58) (lv' := [(0, .ref 9), (1, .long v), (3, .int f), (4, .int l), (5, .int h)]) (st' := []) (w' := (shW a sh, (mxI (mxI I 22 ((I 9 28)).toNatClampNeg (f)) 23 ((I 9 28)).toNatClampNeg (l)), (mxJ J 21 ((I 9 28)).toNatClampNeg (v)), QW Q)) (X := fun n => none) (fun n => rfl) hn ?_
  refine mxRn.g2 6 0 (pc' := 68) (lv' := [(0, .ref 9), (1, .long v), (3, .int f), (4, .int l), (5, .int h)]) (st' := []) (w' := (shW a sh, (mxI (mxI (mxI I 22 ((I 9 28)).toNatClampNeg (f)) 23 ((I 9 28)).toNatClampNeg (l)) 9 28 (((I 9 28) + 1))), (mxJ J 21 ((I 9 28)).toNatClampNeg (v)), QW Q)) (fun n => rfl) ?_
  refine mxRn.it2 6 0 (bb := mxin (h) 65536) (pc' := 79) (lv' := [(0, .ref 9), (1, .long v), (3, .int f), (4, .int l), (5, .int h)]) (st' := []) (w' := (shW a sh, (mxI (mxI (mxI (mxI I 22 ((I 9 28)).toNatClampNeg (f)) 23 ((I 9 28)).toNatClampNeg (l)) 9 28 (((I 9 28) + 1))) 24 (h).toNatClampNeg (((mxI (mxI (mxI I 22 ((I 9 28)).toNatClampNeg (f)) 23 ((I 9 28)).toNatClampNeg (l)) 9 28 (((I 9 28) + 1))) 9 28))), (mxJ J 21 ((I 9 28)).toNatClampNeg (v)), QW Q)) (X := fun n => none) (fun n => rfl) hi ?_
  exact H
set_option maxRecDepth 100000 in
theorem me_end {a : Nat → Nat × Nat} {sh : List (Nat × Nat)} {I : Nat → Nat → Int32} {J : Nat → Nat → Int64} {Q : Nat → Nat → Value} {v : Int64} {f l h : Int32} : mxRn 116 79 [(0, .ref 9), (1, .long v), (3, .int f), (4, .int l), (5, .int h)] [] (shW a sh, I, J, QW Q) (none, (shW a sh, I, J, QW Q)) := mxRn.ret 1 (fun n => rfl)
set_option maxRecDepth 100000 in
theorem le_0 {a : Nat → Nat × Nat} {sh : List (Nat × Nat)} {I : Nat → Nat → Int32} {J : Nat → Nat → Int64} {Q : Nat → Nat → Value} {res : mxR} {k l dp : Int32} (hi : mxin (dp - 1) 10 = true) (H : mxRn 118 16 [(0, .ref 9), (1, .int k), (2, .int l), (3, .int dp), (4, .int (dp - 1)), (5, .int k)] [] (shW a sh, (mxI I 25 ((dp - 1)).toNatClampNeg (l)), J, QW Q) res) : mxRn 118 0 [(0, .ref 9), (1, .int k), (2, .int l), (3, .int dp)] [] (shW a sh, I, J, QW Q) res := by
  refine mxRn.g2 6 0 (pc' := 9) (lv' := [(0, .ref 9), (1, .int k), (2, .int l), (3, .int dp), (4, .int (dp - 1))]) (st' := [.ref 25]) (w' := (shW a sh, I, J, QW Q)) (fun n => rfl) ?_
  refine mxRn.it2 3 0 (bb := mxin ((dp - 1)) 10) (pc' := 13) (lv' := [(0, .ref 9), (1, .int k), (2, .int l), (3, .int dp), (4, .int (dp - 1))]) (st' := []) (w' := (shW a sh, (mxI I 25 ((dp - 1)).toNatClampNeg (l)), J, QW Q)) (X := fun n => none) (fun n => rfl) hi ?_
  refine mxRn.g2 2 0 (pc' := 16) (lv' := [(0, .ref 9), (1, .int k), (2, .int l), (3, .int dp), (4, .int (dp - 1)), (5, .int k)]) (st' := []) (w' := (shW a sh, (mxI I 25 ((dp - 1)).toNatClampNeg (l)), J, QW Q)) (fun n => rfl) ?_
  exact H
set_option maxRecDepth 100000 in
theorem le_a {a : Nat → Nat × Nat} {sh : List (Nat × Nat)} {I : Nat → Nat → Int32} {J : Nat → Nat → Int64} {Q : Nat → Nat → Value} {res : mxR} {k l dp x s : Int32} (hs : mxin s 20001 = true) (H : mxRn 118 24 [(0, .ref 9), (1, .int k), (2, .int l), (3, .int dp), (4, .int x), (5, .int s)] [.int (Int32.ofInt (-1)), .int (I 22 (s).toNatClampNeg)] (shW a sh, I, J, QW Q) res) : mxRn 118 16 [(0, .ref 9), (1, .int k), (2, .int l), (3, .int dp), (4, .int x), (5, .int s)] [] (shW a sh, I, J, QW Q) res := by
  refine mxRn.it2 4 0 (bb := mxin (s) 20001) (pc' := 23) (lv' := [(0, .ref 9), (1, .int k), (2, .int l), (3, .int dp), (4, .int x), (5, .int s)]) (st' := [.int (I 22 (s).toNatClampNeg)]) (w' := (shW a sh, I, J, QW Q)) (X := fun n => none) (fun n => rfl) hs ?_
  refine mxRn.g2 1 0 (pc' := 24) (lv' := [(0, .ref 9), (1, .int k), (2, .int l), (3, .int dp), (4, .int x), (5, .int s)]) (st' := [.int (Int32.ofInt (-1)), .int (I 22 (s).toNatClampNeg)]) (w' := (shW a sh, I, J, QW Q)) (fun n => rfl) ?_
  exact H
set_option maxRecDepth 100000 in
theorem le_b {a : Nat → Nat × Nat} {sh : List (Nat × Nat)} {I : Nat → Nat → Int32} {J : Nat → Nat → Int64} {Q : Nat → Nat → Value} {res : mxR} {k l dp x s : Int32} {m1 z : Int32} (hz : Op.if_icmp.holds .eq z m1 = false) (H : mxRn 118 27 [(0, .ref 9), (1, .int k), (2, .int l), (3, .int dp), (4, .int x), (5, .int s)] [] (shW a sh, I, J, QW Q) res) : mxRn 118 24 [(0, .ref 9), (1, .int k), (2, .int l), (3, .int dp), (4, .int x), (5, .int s)] [.int m1, .int z] (shW a sh, I, J, QW Q) res := by
  refine mxRn.if2 1 0 (bb := Op.if_icmp.holds .eq (z) (m1)) (pc' := 27) (lv' := [(0, .ref 9), (1, .int k), (2, .int l), (3, .int dp), (4, .int x), (5, .int s)]) (st' := []) (w' := (shW a sh, I, J, QW Q)) (X := fun n => mxev n 118 56 [(0, .ref 9), (1, .int k), (2, .int l), (3, .int dp), (4, .int x), (5, .int s)] [] (shW a sh, I, J, QW Q)) (fun n => rfl) hz ?_
  exact H
set_option maxRecDepth 100000 in
theorem le_c {a : Nat → Nat × Nat} {sh : List (Nat × Nat)} {I : Nat → Nat → Int32} {J : Nat → Nat → Int64} {Q : Nat → Nat → Value} {res : mxR} {k l dp x s : Int32} {m1 z : Int32} (hz : Op.if_icmp.holds .eq z m1 = true) (H : mxRn 118 56 [(0, .ref 9), (1, .int k), (2, .int l), (3, .int dp), (4, .int x), (5, .int s)] [] (shW a sh, I, J, QW Q) res) : mxRn 118 24 [(0, .ref 9), (1, .int k), (2, .int l), (3, .int dp), (4, .int x), (5, .int s)] [.int m1, .int z] (shW a sh, I, J, QW Q) res := by
  refine mxRn.it2 1 0 (bb := Op.if_icmp.holds .eq (z) (m1)) (pc' := 56) (lv' := [(0, .ref 9), (1, .int k), (2, .int l), (3, .int dp), (4, .int x), (5, .int s)]) (st' := []) (w' := (shW a sh, I, J, QW Q)) (X := fun n => mxev n 118 27 [(0, .ref 9), (1, .int k), (2, .int l), (3, .int dp), (4, .int x), (5, .int s)] [] (shW a sh, I, J, QW Q)) (fun n => rfl) hz ?_
  exact H
theorem le_i {a : Nat → Nat × Nat} {sh : List (Nat × Nat)} {I : Nat → Nat → Int32} {J : Nat → Nat → Int64} {Q : Nat → Nat → Value} {res : mxR} {k l dp x s : Int32} (H : mxRn 118 30 [(0, .ref 9), (1, .int k), (2, .int l), (3, .int dp), (4, .int (x + Int32.ofInt (-1))), (5, .int s)] [] (shW a sh, I, J, QW Q) res) : mxRn 118 27 [(0, .ref 9), (1, .int k), (2, .int l), (3, .int dp), (4, .int x), (5, .int s)] [] (shW a sh, I, J, QW Q) res := by
  refine mxRn.g2 1 0 (fun n => ?_) H
  refine (sx_Ev_m (z := 118) (i := miX5_leads) rfl rfl n 27 [(0, .ref 9), (1, .int k), (2, .int l), (3, .int dp), (4, .int x), (5, .int s)] [] (shW a sh, I, J, QW Q) (.iinc 4 (-1)) 3 rfl rfl).trans ?_
  have e1 : mxg [(0, Value.ref 9), (1, .int k), (2, .int l), (3, .int dp), (4, .int x), (5, .int s)] 4 = some (.int x) := rfl
  have e2 : ∀ v : Int32, mxs1 [(0, Value.ref 9), (1, .int k), (2, .int l), (3, .int dp), (4, .int x), (5, .int s)] 4 (.int v) = [(0, Value.ref 9), (1, .int k), (2, .int l), (3, .int dp), (4, .int v), (5, .int s)] := fun v => rfl
  have e3 : Nat.blt 4 (mxi_L miX5_leads) = true := rfl
  simp only [mxS, e1, e2, e3, cond_true]
  rfl
set_option maxRecDepth 100000 in
theorem le_go2 {a : Nat → Nat × Nat} {sh : List (Nat × Nat)} {I : Nat → Nat → Int32} {J : Nat → Nat → Int64} {Q : Nat → Nat → Value} {res : mxR} {k l dp x s : Int32} (hs : mxin s 20001 = true) (hx : mxin x 10 = true) (H : mxRn 118 16 [(0, .ref 9), (1, .int k), (2, .int l), (3, .int dp), (4, .int x), (5, .int (I 22 (s).toNatClampNeg))] [] (shW a sh, (mxI I 25 (x).toNatClampNeg ((I 23 (s).toNatClampNeg))), J, QW Q) res) : mxRn 118 30 [(0, .ref 9), (1, .int k), (2, .int l), (3, .int dp), (4, .int x), (5, .int s)] [] (shW a sh, I, J, QW Q) res := by
  refine mxRn.g2 6 0 (pc' := 42) (lv' := [(0, .ref 9), (1, .int k), (2, .int l), (3, .int dp), (4, .int x), (5, .int s)]) (st' := [.int s, .ref 23, .int x, .ref 25]) (w' := (shW a sh, I, J, QW Q)) (fun n => rfl) ?_
  refine mxRn.it2 1 0 (bb := mxin (s) 20001) (pc' := 43) (lv' := [(0, .ref 9), (1, .int k), (2, .int l), (3, .int dp), (4, .int x), (5, .int s)]) (st' := [.int (I 23 (s).toNatClampNeg), .int x, .ref 25]) (w' := (shW a sh, I, J, QW Q)) (X := fun n => none) (fun n => rfl) hs ?_
  refine mxRn.it2 1 0 (bb := mxin (x) 10) (pc' := 44) (lv' := [(0, .ref 9), (1, .int k), (2, .int l), (3, .int dp), (4, .int x), (5, .int s)]) (st' := []) (w' := (shW a sh, (mxI I 25 (x).toNatClampNeg ((I 23 (s).toNatClampNeg))), J, QW Q)) (X := fun n => none) (fun n => rfl) hx ?_
  refine mxRn.it2 4 0 (bb := mxin (s) 20001) (pc' := 51) (lv' := [(0, .ref 9), (1, .int k), (2, .int l), (3, .int dp), (4, .int x), (5, .int s)]) (st' := [.int (I 22 (s).toNatClampNeg)]) (w' := (shW a sh, (mxI I 25 (x).toNatClampNeg ((I 23 (s).toNatClampNeg))), J, QW Q)) (X := fun n => none) (fun n => rfl) hs ?_
  refine mxRn.g2 2 0 (pc' := 16) (lv' := [(0, .ref 9), (1, .int k), (2, .int l), (3, .int dp), (4, .int x), (5, .int (I 22 (s).toNatClampNeg))]) (st' := []) (w' := (shW a sh, (mxI I 25 (x).toNatClampNeg ((I 23 (s).toNatClampNeg))), J, QW Q)) (fun n => rfl) ?_
  exact H
set_option maxRecDepth 100000 in
theorem le_end {a : Nat → Nat × Nat} {sh : List (Nat × Nat)} {I : Nat → Nat → Int32} {J : Nat → Nat → Int64} {Q : Nat → Nat → Value} {k l dp x s : Int32} : mxRn 118 56 [(0, .ref 9), (1, .int k), (2, .int l), (3, .int dp), (4, .int x), (5, .int s)] [] (shW a sh, I, J, QW Q) (none, (shW a sh, I, J, QW Q)) := mxRn.ret 1 (fun n => rfl)
set_option maxRecDepth 100000 in
theorem po_0 {a : Nat → Nat × Nat} {sh : List (Nat × Nat)} {I : Nat → Nat → Int32} {J : Nat → Nat → Int64} {Q : Nat → Nat → Value} {res : mxR} {v : Int64} (H : mxRn 115 17 [(0, .ref 9), (1, .long v), (3, .int ((((v ^^^ ((v).toUInt64 >>> ((17 : Int32).toInt64.toUInt64 &&& Int64.toUInt64 63)).toInt64) ^^^ ((v).toUInt64 >>> ((31 : Int32).toInt64.toUInt64 &&& Int64.toUInt64 63)).toInt64) &&& 65535)).toInt32)] [] (shW a sh, I, J, QW Q) res) : mxRn 115 0 [(0, .ref 9), (1, .long v)] [] (shW a sh, I, J, QW Q) res := by
  refine mxRn.g2 6 0 (pc' := 7) (lv' := [(0, .ref 9), (1, .long v)]) (st' := [.long v, .long (v ^^^ ((v).toUInt64 >>> ((17 : Int32).toInt64.toUInt64 &&& Int64.toUInt64 63)).toInt64)]) (w' := (shW a sh, I, J, QW Q)) (fun n => rfl) ?_
  refine mxRn.g2 6 0 (pc' := 16) (lv' := [(0, .ref 9), (1, .long v)]) (st' := [.int ((((v ^^^ ((v).toUInt64 >>> ((17 : Int32).toInt64.toUInt64 &&& Int64.toUInt64 63)).toInt64) ^^^ ((v).toUInt64 >>> ((31 : Int32).toInt64.toUInt64 &&& Int64.toUInt64 63)).toInt64) &&& 65535)).toInt32]) (w' := (shW a sh, I, J, QW Q)) (fun n => rfl) ?_
  refine mxRn.g2 1 0 (pc' := 17) (lv' := [(0, .ref 9), (1, .long v), (3, .int ((((v ^^^ ((v).toUInt64 >>> ((17 : Int32).toInt64.toUInt64 &&& Int64.toUInt64 63)).toInt64) ^^^ ((v).toUInt64 >>> ((31 : Int32).toInt64.toUInt64 &&& Int64.toUInt64 63)).toInt64) &&& 65535)).toInt32)]) (st' := []) (w' := (shW a sh, I, J, QW Q)) (fun n => rfl) ?_
  exact H
