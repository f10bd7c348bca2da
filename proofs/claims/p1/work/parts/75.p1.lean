theorem sp_of {x : Int32} {n : Int} {v : Int32} (hv : v.toInt = n) (h : x.toInt = n) : x = v := Int32.toInt_inj.mp (h.trans hv.symm)
theorem p1_o1 (xs : Nat → Int32) : mxOk 6 xs 33 [(0, .retAddr 2), (1, .ref 0), (2, .ref 9), (3, .int 0)] [.int 1] (shA, IA, JA, QA) := by
  rcases Int.lt_or_le (xs 1).toInt 0 with hb | hb
  · exact p1_c1b xs hb
  · rcases Int.lt_or_le 0 (xs 1).toInt with ha | ha
    · exact p1_c1a xs ha
    · exact p1_c1v0 xs (sp_of (v := 0) (n := 0) rfl (by omega))

theorem p1_o3 (xs : Nat → Int32) : mxOk 6 xs 33 [(0, .retAddr 2), (1, .ref 0), (2, .ref 9), (3, .int 0)] [.int 3] (shA, IA, JA, QA) := by
  rcases Int.lt_or_le (xs 1).toInt 0 with hb | hb
  · exact p1_c3b xs hb
  · rcases Int.lt_or_le 6 (xs 1).toInt with ha | ha
    · exact p1_c3a xs ha
    · have hd : (xs 1).toInt = 0 ∨ (xs 1).toInt = 1 ∨ (xs 1).toInt = 2 ∨ (xs 1).toInt = 3 ∨ (xs 1).toInt = 4 ∨ (xs 1).toInt = 5 ∨ (xs 1).toInt = 6 := by omega
      rcases hd with hd | hd | hd | hd | hd | hd | hd
      · exact p1_c3v0 xs (sp_of (v := 0) rfl hd)
      · exact p1_c3v1 xs (sp_of (v := 1) rfl hd)
      · exact p1_c3v2 xs (sp_of (v := 2) rfl hd)
      · exact p1_c3v3 xs (sp_of (v := 3) rfl hd)
      · exact p1_c3v4 xs (sp_of (v := 4) rfl hd)
      · exact p1_c3v5 xs (sp_of (v := 5) rfl hd)
      · exact p1_c3v6 xs (sp_of (v := 6) rfl hd)

theorem p1_o8 (xs : Nat → Int32) : mxOk 6 xs 33 [(0, .retAddr 2), (1, .ref 0), (2, .ref 9), (3, .int 0)] [.int 8] (shA, IA, JA, QA) := by
  rcases Int.lt_or_le (xs 1).toInt 0 with hb | hb
  · exact p1_c8b xs hb
  · rcases Int.lt_or_le 127 (xs 1).toInt with ha | ha
    · exact p1_c8a xs ha
    · exact p1_c8s xs ⟨hb, ha⟩

theorem p1_o9 (xs : Nat → Int32) : mxOk 6 xs 33 [(0, .retAddr 2), (1, .ref 0), (2, .ref 9), (3, .int 0)] [.int 9] (shA, IA, JA, QA) := by
  rcases Int.lt_or_le (xs 1).toInt 0 with hb | hb
  · exact p1_c9b xs hb
  · rcases Int.lt_or_le 10 (xs 1).toInt with ha | ha
    · exact p1_c9a xs ha
    · have hd : (xs 1).toInt = 0 ∨ (xs 1).toInt = 1 ∨ (xs 1).toInt = 2 ∨ (xs 1).toInt = 3 ∨ (xs 1).toInt = 4 ∨ (xs 1).toInt = 5 ∨ (xs 1).toInt = 6 ∨ (xs 1).toInt = 7 ∨ (xs 1).toInt = 8 ∨ (xs 1).toInt = 9 ∨ (xs 1).toInt = 10 := by omega
      rcases hd with hd | hd | hd | hd | hd | hd | hd | hd | hd | hd | hd
      · exact p1_c9v0 xs (sp_of (v := 0) rfl hd)
      · exact p1_c9v1 xs (sp_of (v := 1) rfl hd)
      · exact p1_c9v2 xs (sp_of (v := 2) rfl hd)
      · exact p1_c9v3 xs (sp_of (v := 3) rfl hd)
      · exact p1_c9v4 xs (sp_of (v := 4) rfl hd)
      · exact p1_c9v5 xs (sp_of (v := 5) rfl hd)
      · exact p1_c9v6 xs (sp_of (v := 6) rfl hd)
      · exact p1_c9v7 xs (sp_of (v := 7) rfl hd)
      · exact p1_c9v8 xs (sp_of (v := 8) rfl hd)
      · exact p1_c9v9 xs (sp_of (v := 9) rfl hd)
      · exact p1_c9v10 xs (sp_of (v := 10) rfl hd)

theorem p1_o10 (xs : Nat → Int32) : mxOk 6 xs 33 [(0, .retAddr 2), (1, .ref 0), (2, .ref 9), (3, .int 0)] [.int 10] (shA, IA, JA, QA) := by
  rcases Int.lt_or_le (xs 1).toInt 0 with hb | hb
  · exact p1_c10b xs hb
  · rcases Int.lt_or_le 5 (xs 1).toInt with ha | ha
    · exact p1_c10a xs ha
    · have hd : (xs 1).toInt = 0 ∨ (xs 1).toInt = 1 ∨ (xs 1).toInt = 2 ∨ (xs 1).toInt = 3 ∨ (xs 1).toInt = 4 ∨ (xs 1).toInt = 5 := by omega
      rcases hd with hd | hd | hd | hd | hd | hd
      · exact p1_c10v0 xs (sp_of (v := 0) rfl hd)
      · exact p1_c10v1 xs (sp_of (v := 1) rfl hd)
      · exact p1_c10v2 xs (sp_of (v := 2) rfl hd)
      · exact p1_c10v3 xs (sp_of (v := 3) rfl hd)
      · exact p1_c10v4 xs (sp_of (v := 4) rfl hd)
      · exact p1_c10v5 xs (sp_of (v := 5) rfl hd)

theorem p1_o6 (xs : Nat → Int32) : mxOk 6 xs 33 [(0, .retAddr 2), (1, .ref 0), (2, .ref 9), (3, .int 0)] [.int 6] (shA, IA, JA, QA) := by
  rcases Int.lt_or_le (xs 1).toInt 0 with hb | hb
  · exact p1_c6b xs hb
  · exact p1_c6a xs hb

theorem p1_o11 (xs : Nat → Int32) : mxOk 6 xs 33 [(0, .retAddr 2), (1, .ref 0), (2, .ref 9), (3, .int 0)] [.int 11] (shA, IA, JA, QA) := by
  rcases Int.lt_or_le (xs 1).toInt 0 with hb | hb
  · exact p1_c11b xs hb
  · exact p1_c11a xs hb

theorem p1_o13 (xs : Nat → Int32) : mxOk 6 xs 33 [(0, .retAddr 2), (1, .ref 0), (2, .ref 9), (3, .int 0)] [.int 13] (shA, IA, JA, QA) := by
  rcases Int.lt_or_le (xs 1).toInt 0 with hb | hb
  · exact p1_c13b xs hb
  · exact p1_c13a xs hb

theorem p1_o5 (xs : Nat → Int32) : mxOk 6 xs 33 [(0, .retAddr 2), (1, .ref 0), (2, .ref 9), (3, .int 0)] [.int 5] (shA, IA, JA, QA) := by
  rcases Int.lt_or_le (xs 1).toInt 1 with hb | hb
  · exact p1_c5b xs hb
  · rcases Int.lt_or_le 8 (xs 1).toInt with ha | ha
    · exact p1_c5a xs ha
    · exact p1_c5s xs ⟨hb, ha⟩

theorem p1_o4v0 (xs : Nat → Int32) (h : xs 1 = 0) : mxOk 6 xs 33 [(0, .retAddr 2), (1, .ref 0), (2, .ref 9), (3, .int 0)] [.int 4] (shA, IA, JA, QA) := by
  rcases Int.lt_or_le (xs 2).toInt 0 with hb | hb
  · exact p1_c4v0b xs h hb
  · rcases Int.lt_or_le 99 (xs 2).toInt with ha | ha
    · exact p1_c4v0a xs h ha
    · exact p1_c4v0s xs h ⟨hb, ha⟩
theorem p1_o4v1 (xs : Nat → Int32) (h : xs 1 = 1) : mxOk 6 xs 33 [(0, .retAddr 2), (1, .ref 0), (2, .ref 9), (3, .int 0)] [.int 4] (shA, IA, JA, QA) := by
  rcases Int.lt_or_le (xs 2).toInt 0 with hb | hb
  · exact p1_c4v1b xs h hb
  · rcases Int.lt_or_le 99 (xs 2).toInt with ha | ha
    · exact p1_c4v1a xs h ha
    · exact p1_c4v1s xs h ⟨hb, ha⟩
theorem p1_o4v2 (xs : Nat → Int32) (h : xs 1 = 2) : mxOk 6 xs 33 [(0, .retAddr 2), (1, .ref 0), (2, .ref 9), (3, .int 0)] [.int 4] (shA, IA, JA, QA) := by
  rcases Int.lt_or_le (xs 2).toInt 0 with hb | hb
  · exact p1_c4v2b xs h hb
  · rcases Int.lt_or_le 99 (xs 2).toInt with ha | ha
    · exact p1_c4v2a xs h ha
    · exact p1_c4v2s xs h ⟨hb, ha⟩
theorem p1_o4v3 (xs : Nat → Int32) (h : xs 1 = 3) : mxOk 6 xs 33 [(0, .retAddr 2), (1, .ref 0), (2, .ref 9), (3, .int 0)] [.int 4] (shA, IA, JA, QA) := by
  rcases Int.lt_or_le (xs 2).toInt 0 with hb | hb
  · exact p1_c4v3b xs h hb
  · rcases Int.lt_or_le 99 (xs 2).toInt with ha | ha
    · exact p1_c4v3a xs h ha
    · exact p1_c4v3s xs h ⟨hb, ha⟩
theorem p1_o4v4 (xs : Nat → Int32) (h : xs 1 = 4) : mxOk 6 xs 33 [(0, .retAddr 2), (1, .ref 0), (2, .ref 9), (3, .int 0)] [.int 4] (shA, IA, JA, QA) := by
  rcases Int.lt_or_le (xs 2).toInt 0 with hb | hb
  · exact p1_c4v4b xs h hb
  · rcases Int.lt_or_le 99 (xs 2).toInt with ha | ha
    · exact p1_c4v4a xs h ha
    · exact p1_c4v4s xs h ⟨hb, ha⟩
theorem p1_o4v5 (xs : Nat → Int32) (h : xs 1 = 5) : mxOk 6 xs 33 [(0, .retAddr 2), (1, .ref 0), (2, .ref 9), (3, .int 0)] [.int 4] (shA, IA, JA, QA) := by
  rcases Int.lt_or_le (xs 2).toInt 0 with hb | hb
  · exact p1_c4v5b xs h hb
  · rcases Int.lt_or_le 99 (xs 2).toInt with ha | ha
    · exact p1_c4v5a xs h ha
    · exact p1_c4v5s xs h ⟨hb, ha⟩
theorem p1_o4v6 (xs : Nat → Int32) (h : xs 1 = 6) : mxOk 6 xs 33 [(0, .retAddr 2), (1, .ref 0), (2, .ref 9), (3, .int 0)] [.int 4] (shA, IA, JA, QA) := by
  rcases Int.lt_or_le (xs 2).toInt 0 with hb | hb
  · exact p1_c4v6b xs h hb
  · rcases Int.lt_or_le 99 (xs 2).toInt with ha | ha
    · exact p1_c4v6a xs h ha
    · exact p1_c4v6s xs h ⟨hb, ha⟩
theorem p1_o4 (xs : Nat → Int32) : mxOk 6 xs 33 [(0, .retAddr 2), (1, .ref 0), (2, .ref 9), (3, .int 0)] [.int 4] (shA, IA, JA, QA) := by
  rcases Int.lt_or_le (xs 1).toInt 0 with hb | hb
  · exact p1_c4b xs hb
  · rcases Int.lt_or_le 6 (xs 1).toInt with ha | ha
    · exact p1_c4a xs ha
    · have hd : (xs 1).toInt = 0 ∨ (xs 1).toInt = 1 ∨ (xs 1).toInt = 2 ∨ (xs 1).toInt = 3 ∨ (xs 1).toInt = 4 ∨ (xs 1).toInt = 5 ∨ (xs 1).toInt = 6 := by omega
      rcases hd with hd | hd | hd | hd | hd | hd | hd
      · exact p1_o4v0 xs (sp_of (v := 0) rfl hd)
      · exact p1_o4v1 xs (sp_of (v := 1) rfl hd)
      · exact p1_o4v2 xs (sp_of (v := 2) rfl hd)
      · exact p1_o4v3 xs (sp_of (v := 3) rfl hd)
      · exact p1_o4v4 xs (sp_of (v := 4) rfl hd)
      · exact p1_o4v5 xs (sp_of (v := 5) rfl hd)
      · exact p1_o4v6 xs (sp_of (v := 6) rfl hd)

theorem p1_o16 (xs : Nat → Int32) : mxOk 6 xs 33 [(0, .retAddr 2), (1, .ref 0), (2, .ref 9), (3, .int 0)] [.int 16] (shA, IA, JA, QA) := by
  rcases Int.lt_or_le (xs 1).toInt 0 with hb | hb
  · exact p1_c16b xs hb
  · rcases Int.lt_or_le 16 (xs 1).toInt with ha | ha
    · exact p1_c16a xs ha
    · rcases Int.lt_or_le 2 (xs 1).toInt with h2 | h2
      · rcases Int.lt_or_le (xs 1).toInt 10 with h9 | h9
        · exact p1_c16m xs ⟨by omega, by omega⟩
        · have hd : (xs 1).toInt = 10 ∨ (xs 1).toInt = 11 ∨ (xs 1).toInt = 12 ∨ (xs 1).toInt = 13 ∨ (xs 1).toInt = 14 ∨ (xs 1).toInt = 15 ∨ (xs 1).toInt = 16 := by omega
          rcases hd with hd | hd | hd | hd | hd | hd | hd
          · exact p1_c16v10 xs (sp_of (v := 10) rfl hd)
          · exact p1_c16v11 xs (sp_of (v := 11) rfl hd)
          · exact p1_c16v12 xs (sp_of (v := 12) rfl hd)
          · exact p1_c16v13 xs (sp_of (v := 13) rfl hd)
          · exact p1_c16v14 xs (sp_of (v := 14) rfl hd)
          · exact p1_c16v15 xs (sp_of (v := 15) rfl hd)
          · exact p1_c16v16 xs (sp_of (v := 16) rfl hd)
      · have hd : (xs 1).toInt = 0 ∨ (xs 1).toInt = 1 ∨ (xs 1).toInt = 2 := by omega
        rcases hd with hd | hd | hd
        · exact p1_c16v0 xs (sp_of (v := 0) rfl hd)
        · exact p1_c16v1 xs (sp_of (v := 1) rfl hd)
        · exact p1_c16v2 xs (sp_of (v := 2) rfl hd)

theorem p1_o12_open (hW : ∀ xs : Nat → Int32, (0 ≤ (xs 1).toInt ∧ (xs 1).toInt ≤ 127) → (1 ≤ (xs 2).toInt ∧ (xs 2).toInt ≤ 10) → (1 ≤ (xs 3).toInt ∧ (xs 3).toInt ≤ 7) → mxOk 6 xs 33 [(0, .retAddr 2), (1, .ref 0), (2, .ref 9), (3, .int 0)] [.int 12] (shA, IA, JA, QA)) (xs : Nat → Int32) : mxOk 6 xs 33 [(0, .retAddr 2), (1, .ref 0), (2, .ref 9), (3, .int 0)] [.int 12] (shA, IA, JA, QA) := by
  rcases Int.lt_or_le (xs 1).toInt 0 with hb | hb
  · exact p1_c12rb xs hb
  rcases Int.lt_or_le 127 (xs 1).toInt with ha | ha
  · exact p1_c12ra xs ha
  rcases Int.lt_or_le (xs 2).toInt 1 with hb2 | hb2
  · exact p1_c12lb xs ⟨hb, ha⟩ hb2
  rcases Int.lt_or_le 10 (xs 2).toInt with ha2 | ha2
  · exact p1_c12la xs ⟨hb, ha⟩ ha2
  rcases Int.lt_or_le (xs 3).toInt 1 with hb3 | hb3
  · exact p1_c12kb xs ⟨hb, ha⟩ ⟨hb2, ha2⟩ hb3
  rcases Int.lt_or_le 7 (xs 3).toInt with ha3 | ha3
  · exact p1_c12ka xs ⟨hb, ha⟩ ⟨hb2, ha2⟩ ha3
  exact hW xs ⟨hb, ha⟩ ⟨hb2, ha2⟩ ⟨hb3, ha3⟩
theorem p1_o15_open (hM : ∀ xs : Nat → Int32, (1 ≤ (xs 1).toInt ∧ (xs 1).toInt ≤ 10) → (1 ≤ (xs 2).toInt ∧ (xs 2).toInt ≤ 7) → mxOk 6 xs 33 [(0, .retAddr 2), (1, .ref 0), (2, .ref 9), (3, .int 0)] [.int 15] (shA, IA, JA, QA)) (xs : Nat → Int32) : mxOk 6 xs 33 [(0, .retAddr 2), (1, .ref 0), (2, .ref 9), (3, .int 0)] [.int 15] (shA, IA, JA, QA) := by
  rcases Int.lt_or_le (xs 1).toInt 1 with hb2 | hb2
  · exact p1_c15lb xs hb2
  rcases Int.lt_or_le 10 (xs 1).toInt with ha2 | ha2
  · exact p1_c15la xs ha2
  rcases Int.lt_or_le (xs 2).toInt 1 with hb3 | hb3
  · exact p1_c15kb xs ⟨hb2, ha2⟩ hb3
  rcases Int.lt_or_le 7 (xs 2).toInt with ha3 | ha3
  · exact p1_c15ka xs ⟨hb2, ha2⟩ ha3
  exact hM xs ⟨hb2, ha2⟩ ⟨hb3, ha3⟩
set_option maxRecDepth 1000000 in
theorem p1_six_open (hW : ∀ xs : Nat → Int32, (0 ≤ (xs 1).toInt ∧ (xs 1).toInt ≤ 127) → (1 ≤ (xs 2).toInt ∧ (xs 2).toInt ≤ 10) → (1 ≤ (xs 3).toInt ∧ (xs 3).toInt ≤ 7) → mxOk 6 xs 33 [(0, .retAddr 2), (1, .ref 0), (2, .ref 9), (3, .int 0)] [.int 12] (shA, IA, JA, QA)) (hM : ∀ xs : Nat → Int32, (1 ≤ (xs 1).toInt ∧ (xs 1).toInt ≤ 10) → (1 ≤ (xs 2).toInt ∧ (xs 2).toInt ≤ 7) → mxOk 6 xs 33 [(0, .retAddr 2), (1, .ref 0), (2, .ref 9), (3, .int 0)] [.int 15] (shA, IA, JA, QA)) (xs : Nat → Int32) : mxOk 6 xs 18 [(0, .retAddr 2), (1, .ref 0), (2, .ref 9), (3, .int 0)] [] (shA, IA, JA, QA) := by
  refine mxOk.g2 8 0 (pc' := 29) (lv' := [(0, .retAddr 2), (1, .ref 0), (2, .ref 9), (3, .int 0)]) (st' := [.int 0, .retAddr 2]) (w' := (shA, IA, JA, QA)) (fun n => rfl) ?_
  refine mxOk.g2 3 0 (pc' := 33) (lv' := [(0, .retAddr 2), (1, .ref 0), (2, .ref 9), (3, .int 0)]) (st' := [.int ((xs 0) &&& (31 : Int32))]) (w' := (shA, IA, JA, QA)) (fun n => rfl) ?_
  obtain ⟨j, hj, hx⟩ := pk_andE (xs 0) (m := 31) 5 rfl
  rw [show (xs 0) &&& (31 : Int32) = nI j from hx]
  match j, hj with
  | 0, _ => exact p1_c0 xs
  | 1, _ => exact p1_o1 xs
  | 2, _ => exact p1_c2 xs
  | 3, _ => exact p1_o3 xs
  | 4, _ => exact p1_o4 xs
  | 5, _ => exact p1_o5 xs
  | 6, _ => exact p1_o6 xs
  | 7, _ => exact p1_c7 xs
  | 8, _ => exact p1_o8 xs
  | 9, _ => exact p1_o9 xs
  | 10, _ => exact p1_o10 xs
  | 11, _ => exact p1_o11 xs
  | 12, _ => exact p1_o12_open hW xs
  | 13, _ => exact p1_o13 xs
  | 14, _ => exact p1_c14 xs
  | 15, _ => exact p1_o15_open hM xs
  | 16, _ => exact p1_o16 xs
  | 17, _ => exact p1_c17 xs
  | 18, _ => exact p1_c18 xs
  | 19, _ => exact p1_c19 xs
  | 20, _ => exact p1_c20 xs
  | 21, _ => exact p1_c21 xs
  | 22, _ => exact p1_c22 xs
  | 23, _ => exact p1_c23 xs
  | 24, _ => exact p1_c24 xs
  | 25, _ => exact p1_c25 xs
  | 26, _ => exact p1_c26 xs
  | 27, _ => exact p1_c27 xs
  | 28, _ => exact p1_c28 xs
  | 29, _ => exact p1_c29 xs
  | 30, _ => exact p1_c30 xs
  | 31, _ => exact p1_c31 xs
  | j + 32, hj => omega
theorem p1_run_open (hW : ∀ xs : Nat → Int32, (0 ≤ (xs 1).toInt ∧ (xs 1).toInt ≤ 127) → (1 ≤ (xs 2).toInt ∧ (xs 2).toInt ≤ 10) → (1 ≤ (xs 3).toInt ∧ (xs 3).toInt ≤ 7) → mxOk 6 xs 33 [(0, .retAddr 2), (1, .ref 0), (2, .ref 9), (3, .int 0)] [.int 12] (shA, IA, JA, QA)) (hM : ∀ xs : Nat → Int32, (1 ≤ (xs 1).toInt ∧ (xs 1).toInt ≤ 10) → (1 ≤ (xs 2).toInt ∧ (xs 2).toInt ≤ 7) → mxOk 6 xs 33 [(0, .retAddr 2), (1, .ref 0), (2, .ref 9), (3, .int 0)] [.int 15] (shA, IA, JA, QA)) {L : Nat} (hL : L ≤ 6) (xs : Nat → Int32) : ∃ (n : Nat) (w : mxW), mxevL L xs n 0 [(0, .retAddr 2)] [] mxw0 = some (some (.int 1), w) ∧ w.1.length ≤ 600000 ∧ mxsl w ≤ 7302250 := by
  have h : mxOk L xs 18 [(0, .retAddr 2), (1, .ref 0), (2, .ref 9), (3, .int 0)] [] (shA, IA, JA, QA) := by
    match L, hL with
    | 0, _ => exact p1_L0 xs
    | 1, _ => exact p1_L1 xs
    | 2, _ => exact p1_L2 xs
    | 3, _ => exact p1_L3 xs
    | 4, _ => exact p1_L4 xs
    | 5, _ => exact p1_L5 xs
    | 6, _ => exact p1_six_open hW hM xs
    | L + 7, hL => omega
  obtain ⟨w, ⟨N, hN⟩, h1⟩ := p1_init L xs h
  exact ⟨0 + N, w, hN 0, h1⟩
