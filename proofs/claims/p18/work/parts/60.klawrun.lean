/-! the runs of the law, op by op -/
def shL (a : Nat → Nat × Nat) (t : List (Nat × Nat)) : List (Nat × Nat) := (7, 18) :: a 1 :: a 2 :: a 3 :: a 4 :: a 5 :: a 6 :: a 7 :: a 8 :: (8, 37) :: t
def HD (w : mxW) : Prop := ∃ (a : Nat → Nat × Nat) (t : List (Nat × Nat)), w.1 = shL a t
theorem HD_of {w : mxW} (h0 : w.1[0]? = some (7, 18)) (h9 : w.1[9]? = some (8, 37)) : HD w := by
  obtain ⟨l, I, J, Q⟩ := w
  replace h0 : l[0]? = some (7, 18) := h0
  replace h9 : l[9]? = some (8, 37) := h9
  rcases l with _ | ⟨x0, l⟩
  · cases h0
  rcases l with _ | ⟨x1, l⟩
  · cases h9
  rcases l with _ | ⟨x2, l⟩
  · cases h9
  rcases l with _ | ⟨x3, l⟩
  · cases h9
  rcases l with _ | ⟨x4, l⟩
  · cases h9
  rcases l with _ | ⟨x5, l⟩
  · cases h9
  rcases l with _ | ⟨x6, l⟩
  · cases h9
  rcases l with _ | ⟨x7, l⟩
  · cases h9
  rcases l with _ | ⟨x8, l⟩
  · cases h9
  rcases l with _ | ⟨x9, l⟩
  · cases h9
  cases h0
  cases h9
  exact ⟨fun k => [(0, 0), x1, x2, x3, x4, x5, x6, x7, x8].getD k (0, 0), l, rfl⟩
def LV (i : Int32) : mxV := [(0, .retAddr 2), (1, .ref 0), (2, .ref 9), (3, .int i)]
set_option maxRecDepth 100000 in
theorem lr_feed {L : Nat} {xs : Nat → Int32} {i : Int32} {w w1 w2 : mxW} {x y : Int32} (hd : HD w) (hd1 : HD w1) (hi : ∀ c : Int, 1 ≤ c → c ≤ 5 → mxin (i + Int32.ofInt c) L = true) (h1 : mxRn 54 0 [(0, .ref 0), (1, .int (xs (i + Int32.ofInt 1).toNatClampNeg)), (2, .int (xs (i + Int32.ofInt 2).toNatClampNeg)), (3, .int (xs (i + Int32.ofInt 3).toNatClampNeg)), (4, .int (xs (i + Int32.ofInt 4).toNatClampNeg)), (5, .int (xs (i + Int32.ofInt 5).toNatClampNeg))] [] w (some (.int x), w1)) (h2 : mxRn 82 0 [(0, .ref 9), (1, .int (xs (i + Int32.ofInt 1).toNatClampNeg)), (2, .int (xs (i + Int32.ofInt 2).toNatClampNeg)), (3, .int (xs (i + Int32.ofInt 3).toNatClampNeg)), (4, .int (xs (i + Int32.ofInt 4).toNatClampNeg)), (5, .int (xs (i + Int32.ofInt 5).toNatClampNeg))] [] w1 (some (.int y), w2)) (H : mxOk L xs 627 (LV i) [] w2) : mxOk L xs 116 (LV i) [] w := by
  obtain ⟨s0, I, J, Q⟩ := w
  obtain ⟨s1, I1, J1, Q1⟩ := w1
  obtain ⟨a, t, e⟩ := hd
  obtain ⟨a1, t1, e1⟩ := hd1
  replace e : s0 = shL a t := e
  replace e1 : s1 = shL a1 t1 := e1
  subst e
  subst e1
  refine mxOk.it2 6 0 (bb := mxin (i + Int32.ofInt 1) L) (pc' := 122) (lv' := [(0, .retAddr 2), (1, .ref 0), (2, .ref 9), (3, .int i)]) (st' := [.int (xs (i + Int32.ofInt 1).toNatClampNeg), .ref 0]) (w' := (shL a t, I, J, Q)) (X := fun _ => none) (fun n => rfl) (hi 1 (by decide) (by decide)) ?_
  refine mxOk.it2 5 0 (bb := mxin (i + Int32.ofInt 2) L) (pc' := 127) (lv' := [(0, .retAddr 2), (1, .ref 0), (2, .ref 9), (3, .int i)]) (st' := [.int (xs (i + Int32.ofInt 2).toNatClampNeg), .int (xs (i + Int32.ofInt 1).toNatClampNeg), .ref 0]) (w' := (shL a t, I, J, Q)) (X := fun _ => none) (fun n => rfl) (hi 2 (by decide) (by decide)) ?_
  refine mxOk.it2 5 0 (bb := mxin (i + Int32.ofInt 3) L) (pc' := 132) (lv' := [(0, .retAddr 2), (1, .ref 0), (2, .ref 9), (3, .int i)]) (st' := [.int (xs (i + Int32.ofInt 3).toNatClampNeg), .int (xs (i + Int32.ofInt 2).toNatClampNeg), .int (xs (i + Int32.ofInt 1).toNatClampNeg), .ref 0]) (w' := (shL a t, I, J, Q)) (X := fun _ => none) (fun n => rfl) (hi 3 (by decide) (by decide)) ?_
  refine mxOk.it2 5 0 (bb := mxin (i + Int32.ofInt 4) L) (pc' := 137) (lv' := [(0, .retAddr 2), (1, .ref 0), (2, .ref 9), (3, .int i)]) (st' := [.int (xs (i + Int32.ofInt 4).toNatClampNeg), .int (xs (i + Int32.ofInt 3).toNatClampNeg), .int (xs (i + Int32.ofInt 2).toNatClampNeg), .int (xs (i + Int32.ofInt 1).toNatClampNeg), .ref 0]) (w' := (shL a t, I, J, Q)) (X := fun _ => none) (fun n => rfl) (hi 4 (by decide) (by decide)) ?_
  refine mxOk.it2 5 0 (bb := mxin (i + Int32.ofInt 5) L) (pc' := 142) (lv' := [(0, .retAddr 2), (1, .ref 0), (2, .ref 9), (3, .int i)]) (st' := [.int (xs (i + Int32.ofInt 5).toNatClampNeg), .int (xs (i + Int32.ofInt 4).toNatClampNeg), .int (xs (i + Int32.ofInt 3).toNatClampNeg), .int (xs (i + Int32.ofInt 2).toNatClampNeg), .int (xs (i + Int32.ofInt 1).toNatClampNeg), .ref 0]) (w' := (shL a t, I, J, Q)) (X := fun _ => none) (fun n => rfl) (hi 5 (by decide) (by decide)) ?_
  refine mxOk.c2 1 0 (z := 54) (pc' := 145) (lz := [(0, .ref 0), (1, .int (xs (i + Int32.ofInt 1).toNatClampNeg)), (2, .int (xs (i + Int32.ofInt 2).toNatClampNeg)), (3, .int (xs (i + Int32.ofInt 3).toNatClampNeg)), (4, .int (xs (i + Int32.ofInt 4).toNatClampNeg)), (5, .int (xs (i + Int32.ofInt 5).toNatClampNeg))]) (lv' := [(0, .retAddr 2), (1, .ref 0), (2, .ref 9), (3, .int i)]) (r := []) (w1 := (shL a t, I, J, Q)) (wz := (shL a1 t1, I1, J1, Q1)) (rz := some (.int x)) (fun n => rfl) h1 ?_
  show mxOk L xs 145 [(0, .retAddr 2), (1, .ref 0), (2, .ref 9), (3, .int i)] [.int x] (shL a1 t1, I1, J1, Q1)
  refine mxOk.it2 7 0 (bb := mxin (i + Int32.ofInt 1) L) (pc' := 152) (lv' := [(0, .retAddr 2), (1, .ref 0), (2, .ref 9), (3, .int i)]) (st' := [.int (xs (i + Int32.ofInt 1).toNatClampNeg), .ref 9]) (w' := (shL a1 t1, I1, J1, Q1)) (X := fun _ => none) (fun n => rfl) (hi 1 (by decide) (by decide)) ?_
  refine mxOk.it2 5 0 (bb := mxin (i + Int32.ofInt 2) L) (pc' := 157) (lv' := [(0, .retAddr 2), (1, .ref 0), (2, .ref 9), (3, .int i)]) (st' := [.int (xs (i + Int32.ofInt 2).toNatClampNeg), .int (xs (i + Int32.ofInt 1).toNatClampNeg), .ref 9]) (w' := (shL a1 t1, I1, J1, Q1)) (X := fun _ => none) (fun n => rfl) (hi 2 (by decide) (by decide)) ?_
  refine mxOk.it2 5 0 (bb := mxin (i + Int32.ofInt 3) L) (pc' := 162) (lv' := [(0, .retAddr 2), (1, .ref 0), (2, .ref 9), (3, .int i)]) (st' := [.int (xs (i + Int32.ofInt 3).toNatClampNeg), .int (xs (i + Int32.ofInt 2).toNatClampNeg), .int (xs (i + Int32.ofInt 1).toNatClampNeg), .ref 9]) (w' := (shL a1 t1, I1, J1, Q1)) (X := fun _ => none) (fun n => rfl) (hi 3 (by decide) (by decide)) ?_
  refine mxOk.it2 5 0 (bb := mxin (i + Int32.ofInt 4) L) (pc' := 167) (lv' := [(0, .retAddr 2), (1, .ref 0), (2, .ref 9), (3, .int i)]) (st' := [.int (xs (i + Int32.ofInt 4).toNatClampNeg), .int (xs (i + Int32.ofInt 3).toNatClampNeg), .int (xs (i + Int32.ofInt 2).toNatClampNeg), .int (xs (i + Int32.ofInt 1).toNatClampNeg), .ref 9]) (w' := (shL a1 t1, I1, J1, Q1)) (X := fun _ => none) (fun n => rfl) (hi 4 (by decide) (by decide)) ?_
  refine mxOk.it2 5 0 (bb := mxin (i + Int32.ofInt 5) L) (pc' := 172) (lv' := [(0, .retAddr 2), (1, .ref 0), (2, .ref 9), (3, .int i)]) (st' := [.int (xs (i + Int32.ofInt 5).toNatClampNeg), .int (xs (i + Int32.ofInt 4).toNatClampNeg), .int (xs (i + Int32.ofInt 3).toNatClampNeg), .int (xs (i + Int32.ofInt 2).toNatClampNeg), .int (xs (i + Int32.ofInt 1).toNatClampNeg), .ref 9]) (w' := (shL a1 t1, I1, J1, Q1)) (X := fun _ => none) (fun n => rfl) (hi 5 (by decide) (by decide)) ?_
  refine mxOk.c2 1 0 (z := 82) (pc' := 175) (lz := [(0, .ref 9), (1, .int (xs (i + Int32.ofInt 1).toNatClampNeg)), (2, .int (xs (i + Int32.ofInt 2).toNatClampNeg)), (3, .int (xs (i + Int32.ofInt 3).toNatClampNeg)), (4, .int (xs (i + Int32.ofInt 4).toNatClampNeg)), (5, .int (xs (i + Int32.ofInt 5).toNatClampNeg))]) (lv' := [(0, .retAddr 2), (1, .ref 0), (2, .ref 9), (3, .int i)]) (r := []) (w1 := (shL a1 t1, I1, J1, Q1)) (wz := w2) (rz := some (.int y)) (fun n => rfl) h2 ?_
  show mxOk L xs 175 [(0, .retAddr 2), (1, .ref 0), (2, .ref 9), (3, .int i)] [.int y] w2
  exact mxOk.g2 2 0 (fun n => rfl) H
set_option maxRecDepth 100000 in
theorem lr_end {L : Nat} {xs : Nat → Int32} {i : Int32} {w w1 w2 : mxW} {x y : Int32} (hd : HD w) (hd1 : HD w1) (hi : ∀ c : Int, 1 ≤ c → c ≤ 5 → mxin (i + Int32.ofInt c) L = true) (h1 : mxRn 56 0 [(0, .ref 0), (1, .int (xs (i + Int32.ofInt 1).toNatClampNeg))] [] w (some (.int x), w1)) (h2 : mxRn 84 0 [(0, .ref 9), (1, .int (xs (i + Int32.ofInt 1).toNatClampNeg))] [] w1 (some (.int y), w2)) (H : mxOk L xs 627 (LV i) [] w2) : mxOk L xs 179 (LV i) [] w := by
  obtain ⟨s0, I, J, Q⟩ := w
  obtain ⟨s1, I1, J1, Q1⟩ := w1
  obtain ⟨a, t, e⟩ := hd
  obtain ⟨a1, t1, e1⟩ := hd1
  replace e : s0 = shL a t := e
  replace e1 : s1 = shL a1 t1 := e1
  subst e
  subst e1
  refine mxOk.it2 6 0 (bb := mxin (i + Int32.ofInt 1) L) (pc' := 185) (lv' := [(0, .retAddr 2), (1, .ref 0), (2, .ref 9), (3, .int i)]) (st' := [.int (xs (i + Int32.ofInt 1).toNatClampNeg), .ref 0]) (w' := (shL a t, I, J, Q)) (X := fun _ => none) (fun n => rfl) (hi 1 (by decide) (by decide)) ?_
  refine mxOk.c2 1 0 (z := 56) (pc' := 188) (lz := [(0, .ref 0), (1, .int (xs (i + Int32.ofInt 1).toNatClampNeg))]) (lv' := [(0, .retAddr 2), (1, .ref 0), (2, .ref 9), (3, .int i)]) (r := []) (w1 := (shL a t, I, J, Q)) (wz := (shL a1 t1, I1, J1, Q1)) (rz := some (.int x)) (fun n => rfl) h1 ?_
  show mxOk L xs 188 [(0, .retAddr 2), (1, .ref 0), (2, .ref 9), (3, .int i)] [.int x] (shL a1 t1, I1, J1, Q1)
  refine mxOk.it2 7 0 (bb := mxin (i + Int32.ofInt 1) L) (pc' := 195) (lv' := [(0, .retAddr 2), (1, .ref 0), (2, .ref 9), (3, .int i)]) (st' := [.int (xs (i + Int32.ofInt 1).toNatClampNeg), .ref 9]) (w' := (shL a1 t1, I1, J1, Q1)) (X := fun _ => none) (fun n => rfl) (hi 1 (by decide) (by decide)) ?_
  refine mxOk.c2 1 0 (z := 84) (pc' := 198) (lz := [(0, .ref 9), (1, .int (xs (i + Int32.ofInt 1).toNatClampNeg))]) (lv' := [(0, .retAddr 2), (1, .ref 0), (2, .ref 9), (3, .int i)]) (r := []) (w1 := (shL a1 t1, I1, J1, Q1)) (wz := w2) (rz := some (.int y)) (fun n => rfl) h2 ?_
  show mxOk L xs 198 [(0, .retAddr 2), (1, .ref 0), (2, .ref 9), (3, .int i)] [.int y] w2
  exact mxOk.g2 2 0 (fun n => rfl) H
set_option maxRecDepth 100000 in
theorem lr_house {L : Nat} {xs : Nat → Int32} {i : Int32} {w w1 w2 : mxW} {x y : Int32} (hd : HD w) (hd1 : HD w1) (hi : ∀ c : Int, 1 ≤ c → c ≤ 5 → mxin (i + Int32.ofInt c) L = true) (h1 : mxRn 57 0 [(0, .ref 0)] [] w (some (.int x), w1)) (h2 : mxRn 91 0 [(0, .ref 9)] [] w1 (some (.int y), w2)) (H : mxOk L xs 627 (LV i) [] w2) : mxOk L xs 202 (LV i) [] w := by
  obtain ⟨s0, I, J, Q⟩ := w
  obtain ⟨s1, I1, J1, Q1⟩ := w1
  obtain ⟨a, t, e⟩ := hd
  obtain ⟨a1, t1, e1⟩ := hd1
  replace e : s0 = shL a t := e
  replace e1 : s1 = shL a1 t1 := e1
  subst e
  subst e1
  refine mxOk.c2 2 0 (z := 57) (pc' := 206) (lz := [(0, .ref 0)]) (lv' := [(0, .retAddr 2), (1, .ref 0), (2, .ref 9), (3, .int i)]) (r := []) (w1 := (shL a t, I, J, Q)) (wz := (shL a1 t1, I1, J1, Q1)) (rz := some (.int x)) (fun n => rfl) h1 ?_
  show mxOk L xs 206 [(0, .retAddr 2), (1, .ref 0), (2, .ref 9), (3, .int i)] [.int x] (shL a1 t1, I1, J1, Q1)
  refine mxOk.c2 3 0 (z := 91) (pc' := 211) (lz := [(0, .ref 9)]) (lv' := [(0, .retAddr 2), (1, .ref 0), (2, .ref 9), (3, .int i)]) (r := []) (w1 := (shL a1 t1, I1, J1, Q1)) (wz := w2) (rz := some (.int y)) (fun n => rfl) h2 ?_
  show mxOk L xs 211 [(0, .retAddr 2), (1, .ref 0), (2, .ref 9), (3, .int i)] [.int y] w2
  exact mxOk.g2 2 0 (fun n => rfl) H
set_option maxRecDepth 100000 in
theorem lr_has {L : Nat} {xs : Nat → Int32} {i : Int32} {w w1 w2 : mxW} {x y : Int32} (hd : HD w) (hd1 : HD w1) (hi : ∀ c : Int, 1 ≤ c → c ≤ 5 → mxin (i + Int32.ofInt c) L = true) (h1 : mxRn 58 0 [(0, .ref 0), (1, .int (xs (i + Int32.ofInt 1).toNatClampNeg))] [] w (some (.int x), w1)) (h2 : mxRn 92 0 [(0, .ref 9), (1, .int (xs (i + Int32.ofInt 1).toNatClampNeg))] [] w1 (some (.int y), w2)) (H : mxOk L xs 627 (LV i) [] w2) : mxOk L xs 215 (LV i) [] w := by
  obtain ⟨s0, I, J, Q⟩ := w
  obtain ⟨s1, I1, J1, Q1⟩ := w1
  obtain ⟨a, t, e⟩ := hd
  obtain ⟨a1, t1, e1⟩ := hd1
  replace e : s0 = shL a t := e
  replace e1 : s1 = shL a1 t1 := e1
  subst e
  subst e1
  refine mxOk.it2 6 0 (bb := mxin (i + Int32.ofInt 1) L) (pc' := 221) (lv' := [(0, .retAddr 2), (1, .ref 0), (2, .ref 9), (3, .int i)]) (st' := [.int (xs (i + Int32.ofInt 1).toNatClampNeg), .ref 0]) (w' := (shL a t, I, J, Q)) (X := fun _ => none) (fun n => rfl) (hi 1 (by decide) (by decide)) ?_
  refine mxOk.c2 1 0 (z := 58) (pc' := 224) (lz := [(0, .ref 0), (1, .int (xs (i + Int32.ofInt 1).toNatClampNeg))]) (lv' := [(0, .retAddr 2), (1, .ref 0), (2, .ref 9), (3, .int i)]) (r := []) (w1 := (shL a t, I, J, Q)) (wz := (shL a1 t1, I1, J1, Q1)) (rz := some (.int x)) (fun n => rfl) h1 ?_
  show mxOk L xs 224 [(0, .retAddr 2), (1, .ref 0), (2, .ref 9), (3, .int i)] [.int x] (shL a1 t1, I1, J1, Q1)
  refine mxOk.it2 7 0 (bb := mxin (i + Int32.ofInt 1) L) (pc' := 231) (lv' := [(0, .retAddr 2), (1, .ref 0), (2, .ref 9), (3, .int i)]) (st' := [.int (xs (i + Int32.ofInt 1).toNatClampNeg), .ref 9]) (w' := (shL a1 t1, I1, J1, Q1)) (X := fun _ => none) (fun n => rfl) (hi 1 (by decide) (by decide)) ?_
  refine mxOk.c2 1 0 (z := 92) (pc' := 234) (lz := [(0, .ref 9), (1, .int (xs (i + Int32.ofInt 1).toNatClampNeg))]) (lv' := [(0, .retAddr 2), (1, .ref 0), (2, .ref 9), (3, .int i)]) (r := []) (w1 := (shL a1 t1, I1, J1, Q1)) (wz := w2) (rz := some (.int y)) (fun n => rfl) h2 ?_
  show mxOk L xs 234 [(0, .retAddr 2), (1, .ref 0), (2, .ref 9), (3, .int i)] [.int y] w2
  exact mxOk.g2 2 0 (fun n => rfl) H
set_option maxRecDepth 100000 in
theorem lr_cost {L : Nat} {xs : Nat → Int32} {i : Int32} {w w1 w2 : mxW} {x y : Int32} (hd : HD w) (hd1 : HD w1) (hi : ∀ c : Int, 1 ≤ c → c ≤ 5 → mxin (i + Int32.ofInt c) L = true) (h1 : mxRn 59 0 [(0, .ref 0), (1, .int (xs (i + Int32.ofInt 1).toNatClampNeg)), (2, .int (xs (i + Int32.ofInt 2).toNatClampNeg))] [] w (some (.int x), w1)) (h2 : mxRn 122 0 [(0, .ref 9), (1, .int (xs (i + Int32.ofInt 1).toNatClampNeg)), (2, .int (xs (i + Int32.ofInt 2).toNatClampNeg))] [] w1 (some (.int y), w2)) (H : mxOk L xs 627 (LV i) [] w2) : mxOk L xs 238 (LV i) [] w := by
  obtain ⟨s0, I, J, Q⟩ := w
  obtain ⟨s1, I1, J1, Q1⟩ := w1
  obtain ⟨a, t, e⟩ := hd
  obtain ⟨a1, t1, e1⟩ := hd1
  replace e : s0 = shL a t := e
  replace e1 : s1 = shL a1 t1 := e1
  subst e
  subst e1
  refine mxOk.it2 6 0 (bb := mxin (i + Int32.ofInt 1) L) (pc' := 244) (lv' := [(0, .retAddr 2), (1, .ref 0), (2, .ref 9), (3, .int i)]) (st' := [.int (xs (i + Int32.ofInt 1).toNatClampNeg), .ref 0]) (w' := (shL a t, I, J, Q)) (X := fun _ => none) (fun n => rfl) (hi 1 (by decide) (by decide)) ?_
  refine mxOk.it2 5 0 (bb := mxin (i + Int32.ofInt 2) L) (pc' := 249) (lv' := [(0, .retAddr 2), (1, .ref 0), (2, .ref 9), (3, .int i)]) (st' := [.int (xs (i + Int32.ofInt 2).toNatClampNeg), .int (xs (i + Int32.ofInt 1).toNatClampNeg), .ref 0]) (w' := (shL a t, I, J, Q)) (X := fun _ => none) (fun n => rfl) (hi 2 (by decide) (by decide)) ?_
  refine mxOk.c2 1 0 (z := 59) (pc' := 252) (lz := [(0, .ref 0), (1, .int (xs (i + Int32.ofInt 1).toNatClampNeg)), (2, .int (xs (i + Int32.ofInt 2).toNatClampNeg))]) (lv' := [(0, .retAddr 2), (1, .ref 0), (2, .ref 9), (3, .int i)]) (r := []) (w1 := (shL a t, I, J, Q)) (wz := (shL a1 t1, I1, J1, Q1)) (rz := some (.int x)) (fun n => rfl) h1 ?_
  show mxOk L xs 252 [(0, .retAddr 2), (1, .ref 0), (2, .ref 9), (3, .int i)] [.int x] (shL a1 t1, I1, J1, Q1)
  refine mxOk.it2 7 0 (bb := mxin (i + Int32.ofInt 1) L) (pc' := 259) (lv' := [(0, .retAddr 2), (1, .ref 0), (2, .ref 9), (3, .int i)]) (st' := [.int (xs (i + Int32.ofInt 1).toNatClampNeg), .ref 9]) (w' := (shL a1 t1, I1, J1, Q1)) (X := fun _ => none) (fun n => rfl) (hi 1 (by decide) (by decide)) ?_
  refine mxOk.it2 5 0 (bb := mxin (i + Int32.ofInt 2) L) (pc' := 264) (lv' := [(0, .retAddr 2), (1, .ref 0), (2, .ref 9), (3, .int i)]) (st' := [.int (xs (i + Int32.ofInt 2).toNatClampNeg), .int (xs (i + Int32.ofInt 1).toNatClampNeg), .ref 9]) (w' := (shL a1 t1, I1, J1, Q1)) (X := fun _ => none) (fun n => rfl) (hi 2 (by decide) (by decide)) ?_
  refine mxOk.c2 1 0 (z := 122) (pc' := 267) (lz := [(0, .ref 9), (1, .int (xs (i + Int32.ofInt 1).toNatClampNeg)), (2, .int (xs (i + Int32.ofInt 2).toNatClampNeg))]) (lv' := [(0, .retAddr 2), (1, .ref 0), (2, .ref 9), (3, .int i)]) (r := []) (w1 := (shL a1 t1, I1, J1, Q1)) (wz := w2) (rz := some (.int y)) (fun n => rfl) h2 ?_
  show mxOk L xs 267 [(0, .retAddr 2), (1, .ref 0), (2, .ref 9), (3, .int i)] [.int y] w2
  exact mxOk.g2 2 0 (fun n => rfl) H
set_option maxRecDepth 100000 in
theorem lr_task {L : Nat} {xs : Nat → Int32} {i : Int32} {w w1 w2 : mxW} {x y : Int32} (hd : HD w) (hd1 : HD w1) (hi : ∀ c : Int, 1 ≤ c → c ≤ 5 → mxin (i + Int32.ofInt c) L = true) (h1 : mxRn 60 0 [(0, .ref 0), (1, .int (xs (i + Int32.ofInt 1).toNatClampNeg)), (2, .long ((((xs (i + Int32.ofInt 2).toNatClampNeg)).toInt64 <<< ((Int8.ofInt 32).toInt32.toInt64 &&& 63)) ||| (((xs (i + Int32.ofInt 3).toNatClampNeg)).toInt64 &&& (4294967295 : Int64))))] [] w (some (.int x), w1)) (h2 : mxRn 111 0 [(0, .ref 9), (1, .int (xs (i + Int32.ofInt 1).toNatClampNeg)), (2, .long ((((xs (i + Int32.ofInt 2).toNatClampNeg)).toInt64 <<< ((Int8.ofInt 32).toInt32.toInt64 &&& 63)) ||| (((xs (i + Int32.ofInt 3).toNatClampNeg)).toInt64 &&& (4294967295 : Int64))))] [] w1 (some (.int y), w2)) (H : mxOk L xs 627 (LV i) [] w2) : mxOk L xs 271 (LV i) [] w := by
  obtain ⟨s0, I, J, Q⟩ := w
  obtain ⟨s1, I1, J1, Q1⟩ := w1
  obtain ⟨a, t, e⟩ := hd
  obtain ⟨a1, t1, e1⟩ := hd1
  replace e : s0 = shL a t := e
  replace e1 : s1 = shL a1 t1 := e1
  subst e
  subst e1
  refine mxOk.it2 6 0 (bb := mxin (i + Int32.ofInt 1) L) (pc' := 277) (lv' := [(0, .retAddr 2), (1, .ref 0), (2, .ref 9), (3, .int i)]) (st' := [.int (xs (i + Int32.ofInt 1).toNatClampNeg), .ref 0]) (w' := (shL a t, I, J, Q)) (X := fun _ => none) (fun n => rfl) (hi 1 (by decide) (by decide)) ?_
  refine mxOk.it2 5 0 (bb := mxin (i + Int32.ofInt 2) L) (pc' := 282) (lv' := [(0, .retAddr 2), (1, .ref 0), (2, .ref 9), (3, .int i)]) (st' := [.int (xs (i + Int32.ofInt 2).toNatClampNeg), .int (xs (i + Int32.ofInt 1).toNatClampNeg), .ref 0]) (w' := (shL a t, I, J, Q)) (X := fun _ => none) (fun n => rfl) (hi 2 (by decide) (by decide)) ?_
  refine mxOk.g2 3 0 (pc' := 286) (lv' := [(0, .retAddr 2), (1, .ref 0), (2, .ref 9), (3, .int i)]) (st' := [.long (((xs (i + Int32.ofInt 2).toNatClampNeg)).toInt64 <<< ((Int8.ofInt 32).toInt32.toInt64 &&& 63)), .int (xs (i + Int32.ofInt 1).toNatClampNeg), .ref 0]) (w' := (shL a t, I, J, Q)) (fun n => rfl) ?_
  refine mxOk.it2 5 0 (bb := mxin (i + Int32.ofInt 3) L) (pc' := 291) (lv' := [(0, .retAddr 2), (1, .ref 0), (2, .ref 9), (3, .int i)]) (st' := [.int (xs (i + Int32.ofInt 3).toNatClampNeg), .long (((xs (i + Int32.ofInt 2).toNatClampNeg)).toInt64 <<< ((Int8.ofInt 32).toInt32.toInt64 &&& 63)), .int (xs (i + Int32.ofInt 1).toNatClampNeg), .ref 0]) (w' := (shL a t, I, J, Q)) (X := fun _ => none) (fun n => rfl) (hi 3 (by decide) (by decide)) ?_
  refine mxOk.g2 4 0 (pc' := 297) (lv' := [(0, .retAddr 2), (1, .ref 0), (2, .ref 9), (3, .int i)]) (st' := [.long ((((xs (i + Int32.ofInt 2).toNatClampNeg)).toInt64 <<< ((Int8.ofInt 32).toInt32.toInt64 &&& 63)) ||| (((xs (i + Int32.ofInt 3).toNatClampNeg)).toInt64 &&& (4294967295 : Int64))), .int (xs (i + Int32.ofInt 1).toNatClampNeg), .ref 0]) (w' := (shL a t, I, J, Q)) (fun n => rfl) ?_
  refine mxOk.c2 1 0 (z := 60) (pc' := 300) (lz := [(0, .ref 0), (1, .int (xs (i + Int32.ofInt 1).toNatClampNeg)), (2, .long ((((xs (i + Int32.ofInt 2).toNatClampNeg)).toInt64 <<< ((Int8.ofInt 32).toInt32.toInt64 &&& 63)) ||| (((xs (i + Int32.ofInt 3).toNatClampNeg)).toInt64 &&& (4294967295 : Int64))))]) (lv' := [(0, .retAddr 2), (1, .ref 0), (2, .ref 9), (3, .int i)]) (r := []) (w1 := (shL a t, I, J, Q)) (wz := (shL a1 t1, I1, J1, Q1)) (rz := some (.int x)) (fun n => rfl) h1 ?_
  show mxOk L xs 300 [(0, .retAddr 2), (1, .ref 0), (2, .ref 9), (3, .int i)] [.int x] (shL a1 t1, I1, J1, Q1)
  refine mxOk.it2 7 0 (bb := mxin (i + Int32.ofInt 1) L) (pc' := 307) (lv' := [(0, .retAddr 2), (1, .ref 0), (2, .ref 9), (3, .int i)]) (st' := [.int (xs (i + Int32.ofInt 1).toNatClampNeg), .ref 9]) (w' := (shL a1 t1, I1, J1, Q1)) (X := fun _ => none) (fun n => rfl) (hi 1 (by decide) (by decide)) ?_
  refine mxOk.it2 5 0 (bb := mxin (i + Int32.ofInt 2) L) (pc' := 312) (lv' := [(0, .retAddr 2), (1, .ref 0), (2, .ref 9), (3, .int i)]) (st' := [.int (xs (i + Int32.ofInt 2).toNatClampNeg), .int (xs (i + Int32.ofInt 1).toNatClampNeg), .ref 9]) (w' := (shL a1 t1, I1, J1, Q1)) (X := fun _ => none) (fun n => rfl) (hi 2 (by decide) (by decide)) ?_
  refine mxOk.g2 3 0 (pc' := 316) (lv' := [(0, .retAddr 2), (1, .ref 0), (2, .ref 9), (3, .int i)]) (st' := [.long (((xs (i + Int32.ofInt 2).toNatClampNeg)).toInt64 <<< ((Int8.ofInt 32).toInt32.toInt64 &&& 63)), .int (xs (i + Int32.ofInt 1).toNatClampNeg), .ref 9]) (w' := (shL a1 t1, I1, J1, Q1)) (fun n => rfl) ?_
  refine mxOk.it2 5 0 (bb := mxin (i + Int32.ofInt 3) L) (pc' := 321) (lv' := [(0, .retAddr 2), (1, .ref 0), (2, .ref 9), (3, .int i)]) (st' := [.int (xs (i + Int32.ofInt 3).toNatClampNeg), .long (((xs (i + Int32.ofInt 2).toNatClampNeg)).toInt64 <<< ((Int8.ofInt 32).toInt32.toInt64 &&& 63)), .int (xs (i + Int32.ofInt 1).toNatClampNeg), .ref 9]) (w' := (shL a1 t1, I1, J1, Q1)) (X := fun _ => none) (fun n => rfl) (hi 3 (by decide) (by decide)) ?_
  refine mxOk.g2 4 0 (pc' := 327) (lv' := [(0, .retAddr 2), (1, .ref 0), (2, .ref 9), (3, .int i)]) (st' := [.long ((((xs (i + Int32.ofInt 2).toNatClampNeg)).toInt64 <<< ((Int8.ofInt 32).toInt32.toInt64 &&& 63)) ||| (((xs (i + Int32.ofInt 3).toNatClampNeg)).toInt64 &&& (4294967295 : Int64))), .int (xs (i + Int32.ofInt 1).toNatClampNeg), .ref 9]) (w' := (shL a1 t1, I1, J1, Q1)) (fun n => rfl) ?_
  refine mxOk.c2 1 0 (z := 111) (pc' := 330) (lz := [(0, .ref 9), (1, .int (xs (i + Int32.ofInt 1).toNatClampNeg)), (2, .long ((((xs (i + Int32.ofInt 2).toNatClampNeg)).toInt64 <<< ((Int8.ofInt 32).toInt32.toInt64 &&& 63)) ||| (((xs (i + Int32.ofInt 3).toNatClampNeg)).toInt64 &&& (4294967295 : Int64))))]) (lv' := [(0, .retAddr 2), (1, .ref 0), (2, .ref 9), (3, .int i)]) (r := []) (w1 := (shL a1 t1, I1, J1, Q1)) (wz := w2) (rz := some (.int y)) (fun n => rfl) h2 ?_
  show mxOk L xs 330 [(0, .retAddr 2), (1, .ref 0), (2, .ref 9), (3, .int i)] [.int y] w2
  exact mxOk.g2 2 0 (fun n => rfl) H
set_option maxRecDepth 100000 in
theorem lr_goes {L : Nat} {xs : Nat → Int32} {i : Int32} {w w1 w2 : mxW} {x y : Int32} (hd : HD w) (hd1 : HD w1) (hi : ∀ c : Int, 1 ≤ c → c ≤ 5 → mxin (i + Int32.ofInt c) L = true) (h1 : mxRn 62 0 [(0, .ref 0), (1, .int (xs (i + Int32.ofInt 1).toNatClampNeg)), (2, .int (xs (i + Int32.ofInt 2).toNatClampNeg))] [] w (some (.int x), w1)) (h2 : mxRn 113 0 [(0, .ref 9), (1, .int (xs (i + Int32.ofInt 1).toNatClampNeg)), (2, .int (xs (i + Int32.ofInt 2).toNatClampNeg))] [] w1 (some (.int y), w2)) (H : mxOk L xs 627 (LV i) [] w2) : mxOk L xs 334 (LV i) [] w := by
  obtain ⟨s0, I, J, Q⟩ := w
  obtain ⟨s1, I1, J1, Q1⟩ := w1
  obtain ⟨a, t, e⟩ := hd
  obtain ⟨a1, t1, e1⟩ := hd1
  replace e : s0 = shL a t := e
  replace e1 : s1 = shL a1 t1 := e1
  subst e
  subst e1
  refine mxOk.it2 6 0 (bb := mxin (i + Int32.ofInt 1) L) (pc' := 340) (lv' := [(0, .retAddr 2), (1, .ref 0), (2, .ref 9), (3, .int i)]) (st' := [.int (xs (i + Int32.ofInt 1).toNatClampNeg), .ref 0]) (w' := (shL a t, I, J, Q)) (X := fun _ => none) (fun n => rfl) (hi 1 (by decide) (by decide)) ?_
  refine mxOk.it2 5 0 (bb := mxin (i + Int32.ofInt 2) L) (pc' := 345) (lv' := [(0, .retAddr 2), (1, .ref 0), (2, .ref 9), (3, .int i)]) (st' := [.int (xs (i + Int32.ofInt 2).toNatClampNeg), .int (xs (i + Int32.ofInt 1).toNatClampNeg), .ref 0]) (w' := (shL a t, I, J, Q)) (X := fun _ => none) (fun n => rfl) (hi 2 (by decide) (by decide)) ?_
  refine mxOk.c2 1 0 (z := 62) (pc' := 348) (lz := [(0, .ref 0), (1, .int (xs (i + Int32.ofInt 1).toNatClampNeg)), (2, .int (xs (i + Int32.ofInt 2).toNatClampNeg))]) (lv' := [(0, .retAddr 2), (1, .ref 0), (2, .ref 9), (3, .int i)]) (r := []) (w1 := (shL a t, I, J, Q)) (wz := (shL a1 t1, I1, J1, Q1)) (rz := some (.int x)) (fun n => rfl) h1 ?_
  show mxOk L xs 348 [(0, .retAddr 2), (1, .ref 0), (2, .ref 9), (3, .int i)] [.int x] (shL a1 t1, I1, J1, Q1)
  refine mxOk.it2 7 0 (bb := mxin (i + Int32.ofInt 1) L) (pc' := 355) (lv' := [(0, .retAddr 2), (1, .ref 0), (2, .ref 9), (3, .int i)]) (st' := [.int (xs (i + Int32.ofInt 1).toNatClampNeg), .ref 9]) (w' := (shL a1 t1, I1, J1, Q1)) (X := fun _ => none) (fun n => rfl) (hi 1 (by decide) (by decide)) ?_
  refine mxOk.it2 5 0 (bb := mxin (i + Int32.ofInt 2) L) (pc' := 360) (lv' := [(0, .retAddr 2), (1, .ref 0), (2, .ref 9), (3, .int i)]) (st' := [.int (xs (i + Int32.ofInt 2).toNatClampNeg), .int (xs (i + Int32.ofInt 1).toNatClampNeg), .ref 9]) (w' := (shL a1 t1, I1, J1, Q1)) (X := fun _ => none) (fun n => rfl) (hi 2 (by decide) (by decide)) ?_
  refine mxOk.c2 1 0 (z := 113) (pc' := 363) (lz := [(0, .ref 9), (1, .int (xs (i + Int32.ofInt 1).toNatClampNeg)), (2, .int (xs (i + Int32.ofInt 2).toNatClampNeg))]) (lv' := [(0, .retAddr 2), (1, .ref 0), (2, .ref 9), (3, .int i)]) (r := []) (w1 := (shL a1 t1, I1, J1, Q1)) (wz := w2) (rz := some (.int y)) (fun n => rfl) h2 ?_
  show mxOk L xs 363 [(0, .retAddr 2), (1, .ref 0), (2, .ref 9), (3, .int i)] [.int y] w2
  exact mxOk.g2 2 0 (fun n => rfl) H
set_option maxRecDepth 100000 in
theorem lr_drop {L : Nat} {xs : Nat → Int32} {i : Int32} {w w1 w2 : mxW} {x y : Int32} (hd : HD w) (hd1 : HD w1) (hi : ∀ c : Int, 1 ≤ c → c ≤ 5 → mxin (i + Int32.ofInt c) L = true) (h1 : mxRn 64 0 [(0, .ref 0)] [] w (some (.int x), w1)) (h2 : mxRn 114 0 [(0, .ref 9)] [] w1 (some (.int y), w2)) (H : mxOk L xs 627 (LV i) [] w2) : mxOk L xs 367 (LV i) [] w := by
  obtain ⟨s0, I, J, Q⟩ := w
  obtain ⟨s1, I1, J1, Q1⟩ := w1
  obtain ⟨a, t, e⟩ := hd
  obtain ⟨a1, t1, e1⟩ := hd1
  replace e : s0 = shL a t := e
  replace e1 : s1 = shL a1 t1 := e1
  subst e
  subst e1
  refine mxOk.c2 2 0 (z := 64) (pc' := 371) (lz := [(0, .ref 0)]) (lv' := [(0, .retAddr 2), (1, .ref 0), (2, .ref 9), (3, .int i)]) (r := []) (w1 := (shL a t, I, J, Q)) (wz := (shL a1 t1, I1, J1, Q1)) (rz := some (.int x)) (fun n => rfl) h1 ?_
  show mxOk L xs 371 [(0, .retAddr 2), (1, .ref 0), (2, .ref 9), (3, .int i)] [.int x] (shL a1 t1, I1, J1, Q1)
  refine mxOk.c2 3 0 (z := 114) (pc' := 376) (lz := [(0, .ref 9)]) (lv' := [(0, .retAddr 2), (1, .ref 0), (2, .ref 9), (3, .int i)]) (r := []) (w1 := (shL a1 t1, I1, J1, Q1)) (wz := w2) (rz := some (.int y)) (fun n => rfl) h2 ?_
  show mxOk L xs 376 [(0, .retAddr 2), (1, .ref 0), (2, .ref 9), (3, .int i)] [.int y] w2
  exact mxOk.g2 2 0 (fun n => rfl) H
set_option maxRecDepth 100000 in
theorem lr_begin {L : Nat} {xs : Nat → Int32} {i : Int32} {w w1 w2 : mxW} {x y : Int32} (hd : HD w) (hd1 : HD w1) (hi : ∀ c : Int, 1 ≤ c → c ≤ 5 → mxin (i + Int32.ofInt c) L = true) (h1 : mxRn 65 0 [(0, .ref 0), (1, .int (xs (i + Int32.ofInt 1).toNatClampNeg))] [] w (some (.int x), w1)) (h2 : mxRn 107 0 [(0, .ref 9), (1, .int (xs (i + Int32.ofInt 1).toNatClampNeg))] [] w1 (some (.int y), w2)) (H : mxOk L xs 627 (LV i) [] w2) : mxOk L xs 380 (LV i) [] w := by
  obtain ⟨s0, I, J, Q⟩ := w
  obtain ⟨s1, I1, J1, Q1⟩ := w1
  obtain ⟨a, t, e⟩ := hd
  obtain ⟨a1, t1, e1⟩ := hd1
  replace e : s0 = shL a t := e
  replace e1 : s1 = shL a1 t1 := e1
  subst e
  subst e1
  refine mxOk.it2 6 0 (bb := mxin (i + Int32.ofInt 1) L) (pc' := 386) (lv' := [(0, .retAddr 2), (1, .ref 0), (2, .ref 9), (3, .int i)]) (st' := [.int (xs (i + Int32.ofInt 1).toNatClampNeg), .ref 0]) (w' := (shL a t, I, J, Q)) (X := fun _ => none) (fun n => rfl) (hi 1 (by decide) (by decide)) ?_
  refine mxOk.c2 1 0 (z := 65) (pc' := 389) (lz := [(0, .ref 0), (1, .int (xs (i + Int32.ofInt 1).toNatClampNeg))]) (lv' := [(0, .retAddr 2), (1, .ref 0), (2, .ref 9), (3, .int i)]) (r := []) (w1 := (shL a t, I, J, Q)) (wz := (shL a1 t1, I1, J1, Q1)) (rz := some (.int x)) (fun n => rfl) h1 ?_
  show mxOk L xs 389 [(0, .retAddr 2), (1, .ref 0), (2, .ref 9), (3, .int i)] [.int x] (shL a1 t1, I1, J1, Q1)
  refine mxOk.it2 7 0 (bb := mxin (i + Int32.ofInt 1) L) (pc' := 396) (lv' := [(0, .retAddr 2), (1, .ref 0), (2, .ref 9), (3, .int i)]) (st' := [.int (xs (i + Int32.ofInt 1).toNatClampNeg), .ref 9]) (w' := (shL a1 t1, I1, J1, Q1)) (X := fun _ => none) (fun n => rfl) (hi 1 (by decide) (by decide)) ?_
  refine mxOk.c2 1 0 (z := 107) (pc' := 399) (lz := [(0, .ref 9), (1, .int (xs (i + Int32.ofInt 1).toNatClampNeg))]) (lv' := [(0, .retAddr 2), (1, .ref 0), (2, .ref 9), (3, .int i)]) (r := []) (w1 := (shL a1 t1, I1, J1, Q1)) (wz := w2) (rz := some (.int y)) (fun n => rfl) h2 ?_
  show mxOk L xs 399 [(0, .retAddr 2), (1, .ref 0), (2, .ref 9), (3, .int i)] [.int y] w2
  exact mxOk.g2 2 0 (fun n => rfl) H
set_option maxRecDepth 100000 in
theorem lr_letter {L : Nat} {xs : Nat → Int32} {i : Int32} {w w1 w2 : mxW} {x y : Int32} (hd : HD w) (hd1 : HD w1) (hi : ∀ c : Int, 1 ≤ c → c ≤ 5 → mxin (i + Int32.ofInt c) L = true) (h1 : mxRn 66 0 [(0, .ref 0), (1, .int (xs (i + Int32.ofInt 1).toNatClampNeg))] [] w (some (.int x), w1)) (h2 : mxRn 108 0 [(0, .ref 9), (1, .int (xs (i + Int32.ofInt 1).toNatClampNeg))] [] w1 (some (.int y), w2)) (H : mxOk L xs 627 (LV i) [] w2) : mxOk L xs 403 (LV i) [] w := by
  obtain ⟨s0, I, J, Q⟩ := w
  obtain ⟨s1, I1, J1, Q1⟩ := w1
  obtain ⟨a, t, e⟩ := hd
  obtain ⟨a1, t1, e1⟩ := hd1
  replace e : s0 = shL a t := e
  replace e1 : s1 = shL a1 t1 := e1
  subst e
  subst e1
  refine mxOk.it2 6 0 (bb := mxin (i + Int32.ofInt 1) L) (pc' := 409) (lv' := [(0, .retAddr 2), (1, .ref 0), (2, .ref 9), (3, .int i)]) (st' := [.int (xs (i + Int32.ofInt 1).toNatClampNeg), .ref 0]) (w' := (shL a t, I, J, Q)) (X := fun _ => none) (fun n => rfl) (hi 1 (by decide) (by decide)) ?_
  refine mxOk.c2 1 0 (z := 66) (pc' := 412) (lz := [(0, .ref 0), (1, .int (xs (i + Int32.ofInt 1).toNatClampNeg))]) (lv' := [(0, .retAddr 2), (1, .ref 0), (2, .ref 9), (3, .int i)]) (r := []) (w1 := (shL a t, I, J, Q)) (wz := (shL a1 t1, I1, J1, Q1)) (rz := some (.int x)) (fun n => rfl) h1 ?_
  show mxOk L xs 412 [(0, .retAddr 2), (1, .ref 0), (2, .ref 9), (3, .int i)] [.int x] (shL a1 t1, I1, J1, Q1)
  refine mxOk.it2 7 0 (bb := mxin (i + Int32.ofInt 1) L) (pc' := 419) (lv' := [(0, .retAddr 2), (1, .ref 0), (2, .ref 9), (3, .int i)]) (st' := [.int (xs (i + Int32.ofInt 1).toNatClampNeg), .ref 9]) (w' := (shL a1 t1, I1, J1, Q1)) (X := fun _ => none) (fun n => rfl) (hi 1 (by decide) (by decide)) ?_
  refine mxOk.c2 1 0 (z := 108) (pc' := 422) (lz := [(0, .ref 9), (1, .int (xs (i + Int32.ofInt 1).toNatClampNeg))]) (lv' := [(0, .retAddr 2), (1, .ref 0), (2, .ref 9), (3, .int i)]) (r := []) (w1 := (shL a1 t1, I1, J1, Q1)) (wz := w2) (rz := some (.int y)) (fun n => rfl) h2 ?_
  show mxOk L xs 422 [(0, .retAddr 2), (1, .ref 0), (2, .ref 9), (3, .int i)] [.int y] w2
  exact mxOk.g2 2 0 (fun n => rfl) H
set_option maxRecDepth 100000 in
theorem lr_row {L : Nat} {xs : Nat → Int32} {i : Int32} {w w1 w2 : mxW} {x y : Int32} (hd : HD w) (hd1 : HD w1) (hi : ∀ c : Int, 1 ≤ c → c ≤ 5 → mxin (i + Int32.ofInt c) L = true) (h1 : mxRn 67 0 [(0, .ref 0), (1, .int (xs (i + Int32.ofInt 1).toNatClampNeg))] [] w (some (.int x), w1)) (h2 : mxRn 109 0 [(0, .ref 9), (1, .int (xs (i + Int32.ofInt 1).toNatClampNeg))] [] w1 (some (.int y), w2)) (H : mxOk L xs 627 (LV i) [] w2) : mxOk L xs 426 (LV i) [] w := by
  obtain ⟨s0, I, J, Q⟩ := w
  obtain ⟨s1, I1, J1, Q1⟩ := w1
  obtain ⟨a, t, e⟩ := hd
  obtain ⟨a1, t1, e1⟩ := hd1
  replace e : s0 = shL a t := e
  replace e1 : s1 = shL a1 t1 := e1
  subst e
  subst e1
  refine mxOk.it2 6 0 (bb := mxin (i + Int32.ofInt 1) L) (pc' := 432) (lv' := [(0, .retAddr 2), (1, .ref 0), (2, .ref 9), (3, .int i)]) (st' := [.int (xs (i + Int32.ofInt 1).toNatClampNeg), .ref 0]) (w' := (shL a t, I, J, Q)) (X := fun _ => none) (fun n => rfl) (hi 1 (by decide) (by decide)) ?_
  refine mxOk.c2 1 0 (z := 67) (pc' := 435) (lz := [(0, .ref 0), (1, .int (xs (i + Int32.ofInt 1).toNatClampNeg))]) (lv' := [(0, .retAddr 2), (1, .ref 0), (2, .ref 9), (3, .int i)]) (r := []) (w1 := (shL a t, I, J, Q)) (wz := (shL a1 t1, I1, J1, Q1)) (rz := some (.int x)) (fun n => rfl) h1 ?_
  show mxOk L xs 435 [(0, .retAddr 2), (1, .ref 0), (2, .ref 9), (3, .int i)] [.int x] (shL a1 t1, I1, J1, Q1)
  refine mxOk.it2 7 0 (bb := mxin (i + Int32.ofInt 1) L) (pc' := 442) (lv' := [(0, .retAddr 2), (1, .ref 0), (2, .ref 9), (3, .int i)]) (st' := [.int (xs (i + Int32.ofInt 1).toNatClampNeg), .ref 9]) (w' := (shL a1 t1, I1, J1, Q1)) (X := fun _ => none) (fun n => rfl) (hi 1 (by decide) (by decide)) ?_
  refine mxOk.c2 1 0 (z := 109) (pc' := 445) (lz := [(0, .ref 9), (1, .int (xs (i + Int32.ofInt 1).toNatClampNeg))]) (lv' := [(0, .retAddr 2), (1, .ref 0), (2, .ref 9), (3, .int i)]) (r := []) (w1 := (shL a1 t1, I1, J1, Q1)) (wz := w2) (rz := some (.int y)) (fun n => rfl) h2 ?_
  show mxOk L xs 445 [(0, .retAddr 2), (1, .ref 0), (2, .ref 9), (3, .int i)] [.int y] w2
  exact mxOk.g2 2 0 (fun n => rfl) H
set_option maxRecDepth 100000 in
theorem lr_ticket {L : Nat} {xs : Nat → Int32} {i : Int32} {w w1 w2 : mxW} {x y : Int32} (hd : HD w) (hd1 : HD w1) (hi : ∀ c : Int, 1 ≤ c → c ≤ 5 → mxin (i + Int32.ofInt c) L = true) (h1 : mxRn 68 0 [(0, .ref 0), (1, .int (xs (i + Int32.ofInt 1).toNatClampNeg)), (2, .int (xs (i + Int32.ofInt 2).toNatClampNeg))] [] w (some (.int x), w1)) (h2 : mxRn 110 0 [(0, .ref 9), (1, .int (xs (i + Int32.ofInt 1).toNatClampNeg)), (2, .int (xs (i + Int32.ofInt 2).toNatClampNeg))] [] w1 (some (.int y), w2)) (H : mxOk L xs 627 (LV i) [] w2) : mxOk L xs 449 (LV i) [] w := by
  obtain ⟨s0, I, J, Q⟩ := w
  obtain ⟨s1, I1, J1, Q1⟩ := w1
  obtain ⟨a, t, e⟩ := hd
  obtain ⟨a1, t1, e1⟩ := hd1
  replace e : s0 = shL a t := e
  replace e1 : s1 = shL a1 t1 := e1
  subst e
  subst e1
  refine mxOk.it2 6 0 (bb := mxin (i + Int32.ofInt 1) L) (pc' := 455) (lv' := [(0, .retAddr 2), (1, .ref 0), (2, .ref 9), (3, .int i)]) (st' := [.int (xs (i + Int32.ofInt 1).toNatClampNeg), .ref 0]) (w' := (shL a t, I, J, Q)) (X := fun _ => none) (fun n => rfl) (hi 1 (by decide) (by decide)) ?_
  refine mxOk.it2 5 0 (bb := mxin (i + Int32.ofInt 2) L) (pc' := 460) (lv' := [(0, .retAddr 2), (1, .ref 0), (2, .ref 9), (3, .int i)]) (st' := [.int (xs (i + Int32.ofInt 2).toNatClampNeg), .int (xs (i + Int32.ofInt 1).toNatClampNeg), .ref 0]) (w' := (shL a t, I, J, Q)) (X := fun _ => none) (fun n => rfl) (hi 2 (by decide) (by decide)) ?_
  refine mxOk.c2 1 0 (z := 68) (pc' := 463) (lz := [(0, .ref 0), (1, .int (xs (i + Int32.ofInt 1).toNatClampNeg)), (2, .int (xs (i + Int32.ofInt 2).toNatClampNeg))]) (lv' := [(0, .retAddr 2), (1, .ref 0), (2, .ref 9), (3, .int i)]) (r := []) (w1 := (shL a t, I, J, Q)) (wz := (shL a1 t1, I1, J1, Q1)) (rz := some (.int x)) (fun n => rfl) h1 ?_
  show mxOk L xs 463 [(0, .retAddr 2), (1, .ref 0), (2, .ref 9), (3, .int i)] [.int x] (shL a1 t1, I1, J1, Q1)
  refine mxOk.it2 7 0 (bb := mxin (i + Int32.ofInt 1) L) (pc' := 470) (lv' := [(0, .retAddr 2), (1, .ref 0), (2, .ref 9), (3, .int i)]) (st' := [.int (xs (i + Int32.ofInt 1).toNatClampNeg), .ref 9]) (w' := (shL a1 t1, I1, J1, Q1)) (X := fun _ => none) (fun n => rfl) (hi 1 (by decide) (by decide)) ?_
  refine mxOk.it2 5 0 (bb := mxin (i + Int32.ofInt 2) L) (pc' := 475) (lv' := [(0, .retAddr 2), (1, .ref 0), (2, .ref 9), (3, .int i)]) (st' := [.int (xs (i + Int32.ofInt 2).toNatClampNeg), .int (xs (i + Int32.ofInt 1).toNatClampNeg), .ref 9]) (w' := (shL a1 t1, I1, J1, Q1)) (X := fun _ => none) (fun n => rfl) (hi 2 (by decide) (by decide)) ?_
  refine mxOk.c2 1 0 (z := 110) (pc' := 478) (lz := [(0, .ref 9), (1, .int (xs (i + Int32.ofInt 1).toNatClampNeg)), (2, .int (xs (i + Int32.ofInt 2).toNatClampNeg))]) (lv' := [(0, .retAddr 2), (1, .ref 0), (2, .ref 9), (3, .int i)]) (r := []) (w1 := (shL a1 t1, I1, J1, Q1)) (wz := w2) (rz := some (.int y)) (fun n => rfl) h2 ?_
  show mxOk L xs 478 [(0, .retAddr 2), (1, .ref 0), (2, .ref 9), (3, .int i)] [.int y] w2
  exact mxOk.g2 2 0 (fun n => rfl) H
set_option maxRecDepth 100000 in
theorem lr_walk {L : Nat} {xs : Nat → Int32} {i : Int32} {w w1 w2 : mxW} {x y : Int32} (hd : HD w) (hd1 : HD w1) (hi : ∀ c : Int, 1 ≤ c → c ≤ 5 → mxin (i + Int32.ofInt c) L = true) (h1 : mxRn 69 0 [(0, .ref 0), (1, .int (xs (i + Int32.ofInt 1).toNatClampNeg)), (2, .int (xs (i + Int32.ofInt 2).toNatClampNeg)), (3, .int (xs (i + Int32.ofInt 3).toNatClampNeg))] [] w (some (.int x), w1)) (h2 : mxRn 119 0 [(0, .ref 9), (1, .int (xs (i + Int32.ofInt 1).toNatClampNeg)), (2, .int (xs (i + Int32.ofInt 2).toNatClampNeg)), (3, .int (xs (i + Int32.ofInt 3).toNatClampNeg))] [] w1 (some (.int y), w2)) (H : mxOk L xs 627 (LV i) [] w2) : mxOk L xs 482 (LV i) [] w := by
  obtain ⟨s0, I, J, Q⟩ := w
  obtain ⟨s1, I1, J1, Q1⟩ := w1
  obtain ⟨a, t, e⟩ := hd
  obtain ⟨a1, t1, e1⟩ := hd1
  replace e : s0 = shL a t := e
  replace e1 : s1 = shL a1 t1 := e1
  subst e
  subst e1
  refine mxOk.it2 6 0 (bb := mxin (i + Int32.ofInt 1) L) (pc' := 488) (lv' := [(0, .retAddr 2), (1, .ref 0), (2, .ref 9), (3, .int i)]) (st' := [.int (xs (i + Int32.ofInt 1).toNatClampNeg), .ref 0]) (w' := (shL a t, I, J, Q)) (X := fun _ => none) (fun n => rfl) (hi 1 (by decide) (by decide)) ?_
  refine mxOk.it2 5 0 (bb := mxin (i + Int32.ofInt 2) L) (pc' := 493) (lv' := [(0, .retAddr 2), (1, .ref 0), (2, .ref 9), (3, .int i)]) (st' := [.int (xs (i + Int32.ofInt 2).toNatClampNeg), .int (xs (i + Int32.ofInt 1).toNatClampNeg), .ref 0]) (w' := (shL a t, I, J, Q)) (X := fun _ => none) (fun n => rfl) (hi 2 (by decide) (by decide)) ?_
  refine mxOk.it2 5 0 (bb := mxin (i + Int32.ofInt 3) L) (pc' := 498) (lv' := [(0, .retAddr 2), (1, .ref 0), (2, .ref 9), (3, .int i)]) (st' := [.int (xs (i + Int32.ofInt 3).toNatClampNeg), .int (xs (i + Int32.ofInt 2).toNatClampNeg), .int (xs (i + Int32.ofInt 1).toNatClampNeg), .ref 0]) (w' := (shL a t, I, J, Q)) (X := fun _ => none) (fun n => rfl) (hi 3 (by decide) (by decide)) ?_
  refine mxOk.c2 1 0 (z := 69) (pc' := 501) (lz := [(0, .ref 0), (1, .int (xs (i + Int32.ofInt 1).toNatClampNeg)), (2, .int (xs (i + Int32.ofInt 2).toNatClampNeg)), (3, .int (xs (i + Int32.ofInt 3).toNatClampNeg))]) (lv' := [(0, .retAddr 2), (1, .ref 0), (2, .ref 9), (3, .int i)]) (r := []) (w1 := (shL a t, I, J, Q)) (wz := (shL a1 t1, I1, J1, Q1)) (rz := some (.int x)) (fun n => rfl) h1 ?_
  show mxOk L xs 501 [(0, .retAddr 2), (1, .ref 0), (2, .ref 9), (3, .int i)] [.int x] (shL a1 t1, I1, J1, Q1)
  refine mxOk.it2 7 0 (bb := mxin (i + Int32.ofInt 1) L) (pc' := 508) (lv' := [(0, .retAddr 2), (1, .ref 0), (2, .ref 9), (3, .int i)]) (st' := [.int (xs (i + Int32.ofInt 1).toNatClampNeg), .ref 9]) (w' := (shL a1 t1, I1, J1, Q1)) (X := fun _ => none) (fun n => rfl) (hi 1 (by decide) (by decide)) ?_
  refine mxOk.it2 5 0 (bb := mxin (i + Int32.ofInt 2) L) (pc' := 513) (lv' := [(0, .retAddr 2), (1, .ref 0), (2, .ref 9), (3, .int i)]) (st' := [.int (xs (i + Int32.ofInt 2).toNatClampNeg), .int (xs (i + Int32.ofInt 1).toNatClampNeg), .ref 9]) (w' := (shL a1 t1, I1, J1, Q1)) (X := fun _ => none) (fun n => rfl) (hi 2 (by decide) (by decide)) ?_
  refine mxOk.it2 5 0 (bb := mxin (i + Int32.ofInt 3) L) (pc' := 518) (lv' := [(0, .retAddr 2), (1, .ref 0), (2, .ref 9), (3, .int i)]) (st' := [.int (xs (i + Int32.ofInt 3).toNatClampNeg), .int (xs (i + Int32.ofInt 2).toNatClampNeg), .int (xs (i + Int32.ofInt 1).toNatClampNeg), .ref 9]) (w' := (shL a1 t1, I1, J1, Q1)) (X := fun _ => none) (fun n => rfl) (hi 3 (by decide) (by decide)) ?_
  refine mxOk.c2 1 0 (z := 119) (pc' := 521) (lz := [(0, .ref 9), (1, .int (xs (i + Int32.ofInt 1).toNatClampNeg)), (2, .int (xs (i + Int32.ofInt 2).toNatClampNeg)), (3, .int (xs (i + Int32.ofInt 3).toNatClampNeg))]) (lv' := [(0, .retAddr 2), (1, .ref 0), (2, .ref 9), (3, .int i)]) (r := []) (w1 := (shL a1 t1, I1, J1, Q1)) (wz := w2) (rz := some (.int y)) (fun n => rfl) h2 ?_
  show mxOk L xs 521 [(0, .retAddr 2), (1, .ref 0), (2, .ref 9), (3, .int i)] [.int y] w2
  exact mxOk.g2 2 0 (fun n => rfl) H
set_option maxRecDepth 100000 in
theorem lr_least {L : Nat} {xs : Nat → Int32} {i : Int32} {w w1 w2 : mxW} {x y : Int32} (hd : HD w) (hd1 : HD w1) (hi : ∀ c : Int, 1 ≤ c → c ≤ 5 → mxin (i + Int32.ofInt c) L = true) (h1 : mxRn 73 0 [(0, .ref 0), (1, .int (xs (i + Int32.ofInt 1).toNatClampNeg))] [] w (some (.int x), w1)) (h2 : mxRn 120 0 [(0, .ref 9), (1, .int (xs (i + Int32.ofInt 1).toNatClampNeg))] [] w1 (some (.int y), w2)) (H : mxOk L xs 627 (LV i) [] w2) : mxOk L xs 525 (LV i) [] w := by
  obtain ⟨s0, I, J, Q⟩ := w
  obtain ⟨s1, I1, J1, Q1⟩ := w1
  obtain ⟨a, t, e⟩ := hd
  obtain ⟨a1, t1, e1⟩ := hd1
  replace e : s0 = shL a t := e
  replace e1 : s1 = shL a1 t1 := e1
  subst e
  subst e1
  refine mxOk.it2 6 0 (bb := mxin (i + Int32.ofInt 1) L) (pc' := 531) (lv' := [(0, .retAddr 2), (1, .ref 0), (2, .ref 9), (3, .int i)]) (st' := [.int (xs (i + Int32.ofInt 1).toNatClampNeg), .ref 0]) (w' := (shL a t, I, J, Q)) (X := fun _ => none) (fun n => rfl) (hi 1 (by decide) (by decide)) ?_
  refine mxOk.c2 1 0 (z := 73) (pc' := 534) (lz := [(0, .ref 0), (1, .int (xs (i + Int32.ofInt 1).toNatClampNeg))]) (lv' := [(0, .retAddr 2), (1, .ref 0), (2, .ref 9), (3, .int i)]) (r := []) (w1 := (shL a t, I, J, Q)) (wz := (shL a1 t1, I1, J1, Q1)) (rz := some (.int x)) (fun n => rfl) h1 ?_
  show mxOk L xs 534 [(0, .retAddr 2), (1, .ref 0), (2, .ref 9), (3, .int i)] [.int x] (shL a1 t1, I1, J1, Q1)
  refine mxOk.it2 7 0 (bb := mxin (i + Int32.ofInt 1) L) (pc' := 541) (lv' := [(0, .retAddr 2), (1, .ref 0), (2, .ref 9), (3, .int i)]) (st' := [.int (xs (i + Int32.ofInt 1).toNatClampNeg), .ref 9]) (w' := (shL a1 t1, I1, J1, Q1)) (X := fun _ => none) (fun n => rfl) (hi 1 (by decide) (by decide)) ?_
  refine mxOk.c2 1 0 (z := 120) (pc' := 544) (lz := [(0, .ref 9), (1, .int (xs (i + Int32.ofInt 1).toNatClampNeg))]) (lv' := [(0, .retAddr 2), (1, .ref 0), (2, .ref 9), (3, .int i)]) (r := []) (w1 := (shL a1 t1, I1, J1, Q1)) (wz := w2) (rz := some (.int y)) (fun n => rfl) h2 ?_
  show mxOk L xs 544 [(0, .retAddr 2), (1, .ref 0), (2, .ref 9), (3, .int i)] [.int y] w2
  exact mxOk.g2 2 0 (fun n => rfl) H
set_option maxRecDepth 100000 in
theorem lr_walked {L : Nat} {xs : Nat → Int32} {i : Int32} {w w1 w2 : mxW} {x y : Int32} (hd : HD w) (hd1 : HD w1) (hi : ∀ c : Int, 1 ≤ c → c ≤ 5 → mxin (i + Int32.ofInt c) L = true) (h1 : mxRn 74 0 [(0, .ref 0), (1, .int (xs (i + Int32.ofInt 1).toNatClampNeg))] [] w (some (.int x), w1)) (h2 : mxRn 121 0 [(0, .ref 9), (1, .int (xs (i + Int32.ofInt 1).toNatClampNeg))] [] w1 (some (.int y), w2)) (H : mxOk L xs 627 (LV i) [] w2) : mxOk L xs 548 (LV i) [] w := by
  obtain ⟨s0, I, J, Q⟩ := w
  obtain ⟨s1, I1, J1, Q1⟩ := w1
  obtain ⟨a, t, e⟩ := hd
  obtain ⟨a1, t1, e1⟩ := hd1
  replace e : s0 = shL a t := e
  replace e1 : s1 = shL a1 t1 := e1
  subst e
  subst e1
  refine mxOk.it2 6 0 (bb := mxin (i + Int32.ofInt 1) L) (pc' := 554) (lv' := [(0, .retAddr 2), (1, .ref 0), (2, .ref 9), (3, .int i)]) (st' := [.int (xs (i + Int32.ofInt 1).toNatClampNeg), .ref 0]) (w' := (shL a t, I, J, Q)) (X := fun _ => none) (fun n => rfl) (hi 1 (by decide) (by decide)) ?_
  refine mxOk.c2 1 0 (z := 74) (pc' := 557) (lz := [(0, .ref 0), (1, .int (xs (i + Int32.ofInt 1).toNatClampNeg))]) (lv' := [(0, .retAddr 2), (1, .ref 0), (2, .ref 9), (3, .int i)]) (r := []) (w1 := (shL a t, I, J, Q)) (wz := (shL a1 t1, I1, J1, Q1)) (rz := some (.int x)) (fun n => rfl) h1 ?_
  show mxOk L xs 557 [(0, .retAddr 2), (1, .ref 0), (2, .ref 9), (3, .int i)] [.int x] (shL a1 t1, I1, J1, Q1)
  refine mxOk.it2 7 0 (bb := mxin (i + Int32.ofInt 1) L) (pc' := 564) (lv' := [(0, .retAddr 2), (1, .ref 0), (2, .ref 9), (3, .int i)]) (st' := [.int (xs (i + Int32.ofInt 1).toNatClampNeg), .ref 9]) (w' := (shL a1 t1, I1, J1, Q1)) (X := fun _ => none) (fun n => rfl) (hi 1 (by decide) (by decide)) ?_
  refine mxOk.c2 1 0 (z := 121) (pc' := 567) (lz := [(0, .ref 9), (1, .int (xs (i + Int32.ofInt 1).toNatClampNeg))]) (lv' := [(0, .retAddr 2), (1, .ref 0), (2, .ref 9), (3, .int i)]) (r := []) (w1 := (shL a1 t1, I1, J1, Q1)) (wz := w2) (rz := some (.int y)) (fun n => rfl) h2 ?_
  show mxOk L xs 567 [(0, .retAddr 2), (1, .ref 0), (2, .ref 9), (3, .int i)] [.int y] w2
  exact mxOk.g2 2 0 (fun n => rfl) H
set_option maxRecDepth 100000 in
theorem lr_mend {L : Nat} {xs : Nat → Int32} {i : Int32} {w w1 w2 : mxW} {x y : Int32} (hd : HD w) (hd1 : HD w1) (hi : ∀ c : Int, 1 ≤ c → c ≤ 5 → mxin (i + Int32.ofInt c) L = true) (h1 : mxRn 75 0 [(0, .ref 0), (1, .int (xs (i + Int32.ofInt 1).toNatClampNeg)), (2, .int (xs (i + Int32.ofInt 2).toNatClampNeg))] [] w (some (.int x), w1)) (h2 : mxRn 123 0 [(0, .ref 9), (1, .int (xs (i + Int32.ofInt 1).toNatClampNeg)), (2, .int (xs (i + Int32.ofInt 2).toNatClampNeg))] [] w1 (some (.int y), w2)) (H : mxOk L xs 627 (LV i) [] w2) : mxOk L xs 571 (LV i) [] w := by
  obtain ⟨s0, I, J, Q⟩ := w
  obtain ⟨s1, I1, J1, Q1⟩ := w1
  obtain ⟨a, t, e⟩ := hd
  obtain ⟨a1, t1, e1⟩ := hd1
  replace e : s0 = shL a t := e
  replace e1 : s1 = shL a1 t1 := e1
  subst e
  subst e1
  refine mxOk.it2 6 0 (bb := mxin (i + Int32.ofInt 1) L) (pc' := 577) (lv' := [(0, .retAddr 2), (1, .ref 0), (2, .ref 9), (3, .int i)]) (st' := [.int (xs (i + Int32.ofInt 1).toNatClampNeg), .ref 0]) (w' := (shL a t, I, J, Q)) (X := fun _ => none) (fun n => rfl) (hi 1 (by decide) (by decide)) ?_
  refine mxOk.it2 5 0 (bb := mxin (i + Int32.ofInt 2) L) (pc' := 582) (lv' := [(0, .retAddr 2), (1, .ref 0), (2, .ref 9), (3, .int i)]) (st' := [.int (xs (i + Int32.ofInt 2).toNatClampNeg), .int (xs (i + Int32.ofInt 1).toNatClampNeg), .ref 0]) (w' := (shL a t, I, J, Q)) (X := fun _ => none) (fun n => rfl) (hi 2 (by decide) (by decide)) ?_
  refine mxOk.c2 1 0 (z := 75) (pc' := 585) (lz := [(0, .ref 0), (1, .int (xs (i + Int32.ofInt 1).toNatClampNeg)), (2, .int (xs (i + Int32.ofInt 2).toNatClampNeg))]) (lv' := [(0, .retAddr 2), (1, .ref 0), (2, .ref 9), (3, .int i)]) (r := []) (w1 := (shL a t, I, J, Q)) (wz := (shL a1 t1, I1, J1, Q1)) (rz := some (.int x)) (fun n => rfl) h1 ?_
  show mxOk L xs 585 [(0, .retAddr 2), (1, .ref 0), (2, .ref 9), (3, .int i)] [.int x] (shL a1 t1, I1, J1, Q1)
  refine mxOk.it2 7 0 (bb := mxin (i + Int32.ofInt 1) L) (pc' := 592) (lv' := [(0, .retAddr 2), (1, .ref 0), (2, .ref 9), (3, .int i)]) (st' := [.int (xs (i + Int32.ofInt 1).toNatClampNeg), .ref 9]) (w' := (shL a1 t1, I1, J1, Q1)) (X := fun _ => none) (fun n => rfl) (hi 1 (by decide) (by decide)) ?_
  refine mxOk.it2 5 0 (bb := mxin (i + Int32.ofInt 2) L) (pc' := 597) (lv' := [(0, .retAddr 2), (1, .ref 0), (2, .ref 9), (3, .int i)]) (st' := [.int (xs (i + Int32.ofInt 2).toNatClampNeg), .int (xs (i + Int32.ofInt 1).toNatClampNeg), .ref 9]) (w' := (shL a1 t1, I1, J1, Q1)) (X := fun _ => none) (fun n => rfl) (hi 2 (by decide) (by decide)) ?_
  refine mxOk.c2 1 0 (z := 123) (pc' := 600) (lz := [(0, .ref 9), (1, .int (xs (i + Int32.ofInt 1).toNatClampNeg)), (2, .int (xs (i + Int32.ofInt 2).toNatClampNeg))]) (lv' := [(0, .retAddr 2), (1, .ref 0), (2, .ref 9), (3, .int i)]) (r := []) (w1 := (shL a1 t1, I1, J1, Q1)) (wz := w2) (rz := some (.int y)) (fun n => rfl) h2 ?_
  show mxOk L xs 600 [(0, .retAddr 2), (1, .ref 0), (2, .ref 9), (3, .int i)] [.int y] w2
  exact mxOk.g2 2 0 (fun n => rfl) H
theorem lr_cmp_count {L : Nat} {xs : Nat → Int32} {i : Int32} {w2 : mxW} {x : Int32} (H : mxOk L xs 627 [(0, .retAddr 2), (1, .ref 0), (2, .ref 9), (3, .int i)] [] w2) : mxOk L xs 622 [(0, .retAddr 2), (1, .ref 0), (2, .ref 9), (3, .int i)] [.int x, .int x] w2 := by
  obtain ⟨v, ⟨N, H⟩, h1⟩ := H
  refine ⟨v, ⟨N + 1, fun n => ?_⟩, h1⟩
  have e : mxevL L xs (n + (N + 1)) 622 [(0, .retAddr 2), (1, .ref 0), (2, .ref 9), (3, .int i)] [.int x, .int x] w2 = cond (Op.if_icmp.holds .eq x x) (mxevL L xs (n + N) 627 [(0, .retAddr 2), (1, .ref 0), (2, .ref 9), (3, .int i)] [] w2) (mxevL L xs (n + N) 625 [(0, .retAddr 2), (1, .ref 0), (2, .ref 9), (3, .int i)] [] w2) := rfl
  rw [e, he_eq]
  exact H n
set_option maxRecDepth 100000 in
theorem lr_count {L : Nat} {xs : Nat → Int32} {i : Int32} {w w1 w2 : mxW} {x y : Int32} (hd : HD w) (hd1 : HD w1) (hi : ∀ c : Int, 1 ≤ c → c ≤ 5 → mxin (i + Int32.ofInt c) L = true) (h1 : mxRn 79 0 [(0, .ref 0), (1, .int (xs (i + Int32.ofInt 1).toNatClampNeg))] [] w (some (.int x), w1)) (h2 : mxRn 124 0 [(0, .ref 9), (1, .int (xs (i + Int32.ofInt 1).toNatClampNeg))] [] w1 (some (.int y), w2)) (hxy : x = y) (H : mxOk L xs 627 (LV i) [] w2) : mxOk L xs 604 (LV i) [] w := by
  obtain ⟨s0, I, J, Q⟩ := w
  obtain ⟨s1, I1, J1, Q1⟩ := w1
  obtain ⟨a, t, e⟩ := hd
  obtain ⟨a1, t1, e1⟩ := hd1
  replace e : s0 = shL a t := e
  replace e1 : s1 = shL a1 t1 := e1
  subst e
  subst e1
  refine mxOk.it2 6 0 (bb := mxin (i + Int32.ofInt 1) L) (pc' := 610) (lv' := [(0, .retAddr 2), (1, .ref 0), (2, .ref 9), (3, .int i)]) (st' := [.int (xs (i + Int32.ofInt 1).toNatClampNeg), .ref 0]) (w' := (shL a t, I, J, Q)) (X := fun _ => none) (fun n => rfl) (hi 1 (by decide) (by decide)) ?_
  refine mxOk.c2 1 0 (z := 79) (pc' := 613) (lz := [(0, .ref 0), (1, .int (xs (i + Int32.ofInt 1).toNatClampNeg))]) (lv' := [(0, .retAddr 2), (1, .ref 0), (2, .ref 9), (3, .int i)]) (r := []) (w1 := (shL a t, I, J, Q)) (wz := (shL a1 t1, I1, J1, Q1)) (rz := some (.int x)) (fun n => rfl) h1 ?_
  show mxOk L xs 613 [(0, .retAddr 2), (1, .ref 0), (2, .ref 9), (3, .int i)] [.int x] (shL a1 t1, I1, J1, Q1)
  refine mxOk.it2 6 0 (bb := mxin (i + Int32.ofInt 1) L) (pc' := 619) (lv' := [(0, .retAddr 2), (1, .ref 0), (2, .ref 9), (3, .int i)]) (st' := [.int (xs (i + Int32.ofInt 1).toNatClampNeg), .ref 9, .int x]) (w' := (shL a1 t1, I1, J1, Q1)) (X := fun _ => none) (fun n => rfl) (hi 1 (by decide) (by decide)) ?_
  refine mxOk.c2 1 0 (z := 124) (pc' := 622) (lz := [(0, .ref 9), (1, .int (xs (i + Int32.ofInt 1).toNatClampNeg))]) (lv' := [(0, .retAddr 2), (1, .ref 0), (2, .ref 9), (3, .int i)]) (r := [.int x]) (w1 := (shL a1 t1, I1, J1, Q1)) (wz := w2) (rz := some (.int y)) (fun n => rfl) h2 ?_
  show mxOk L xs 622 [(0, .retAddr 2), (1, .ref 0), (2, .ref 9), (3, .int i)] [.int y, .int x] w2
  subst hxy
  exact lr_cmp_count H
