theorem mxA_tbl : ∀ x ∈ mxA, x ∈ lw_tbl := fun _ h => (List.mem_filter.mp h).1
theorem ms_n1 : Cond.methodLinkNest RX4 19 yX0_init RX4 ∈ lw_tbl := (mxsec_in (n := 1) (List.mem_of_getElem? (i := 24) (by decide +kernel)))
theorem ms_n2 : Cond.methodLinkNest RX4 26 yX3_init RX4 ∈ lw_tbl := (mxsec_in (n := 1) (List.mem_of_getElem? (i := 50) (by decide +kernel)))
theorem ms_n3 : Cond.methodLinkNest RX4 173 yX1_init RX4 ∈ lw_tbl := (mxsec_in (n := 2) (List.mem_of_getElem? (i := 192) (by decide +kernel)))
theorem ms_l1 : Cond.laysStatic RX1 "MOVES" "[I" ∈ lw_tbl := (mxsec_in (n := 3) (List.mem_of_getElem? (i := 18) (by decide +kernel)))
theorem ms_l2 : Cond.laysStatic RX1 "FLAW_LETTERS" "[I" ∈ lw_tbl := (mxsec_in (n := 3) (List.mem_of_getElem? (i := 11) (by decide +kernel)))
theorem ms_l3 : Cond.laysStatic RJ0 "COMPACT_STRINGS" "Z" ∈ lw_tbl := (mxsec_in (n := 1) (List.mem_of_getElem? (i := 190) (by decide +kernel)))
theorem ms_l4 : Cond.laysStatic RJ3 "SIOOBE_FORMATTER" "Ljava/util/function/BiFunction;" ∈ lw_tbl := (mxsec_in (n := 1) (List.mem_of_getElem? (i := 206) (by decide +kernel)))
def mxt0 (j : Nat) : Nat := match j with
  | 0 => 81
  | 1 => 83
  | 2 => 85
  | 3 => 87
  | 4 => 89
  | 5 => 91
  | 6 => 93
  | _ => 0
def mxt5 (j : Nat) : Nat := match j with
  | 0 => 109
  | 1 => 111
  | 2 => 113
  | 3 => 115
  | 4 => 117
  | 5 => 118
  | 6 => 120
  | _ => 0
def mxtm (j : Nat) : Term := Term.string RX0 (mxt0 j)
def mxtn5 (j : Nat) : Term := Term.string RX5 (mxt5 j)
theorem mxss_spec {o n j : Nat} (h : (mxss o).lookup n = some j) : j < 7 ∧ ((o = 0 ∧ n = mxt0 j) ∨ (o = 5 ∧ n = mxt5 j)) := by
  have hm := mx_look h
  have k0 : ∀ e ∈ mxss 0, e.2 < 7 ∧ e.1 = mxt0 e.2 := by decide
  have k5 : ∀ e ∈ mxss 5, e.2 < 7 ∧ e.1 = mxt5 e.2 := by decide
  have ho : o = 0 ∨ o = 5 := by
    unfold mxss at hm
    split at hm
    · exact Or.inl rfl
    · exact Or.inr rfl
    · exact absurd hm List.not_mem_nil
  rcases ho with rfl | rfl
  · exact ⟨(k0 _ hm).1, Or.inl ⟨rfl, (k0 _ hm).2⟩⟩
  · exact ⟨(k5 _ hm).1, Or.inr ⟨rfl, (k5 _ hm).2⟩⟩
theorem ms_arr {s : State} {args : Array Value} {ty : FieldType} (hty : ∀ C, ty ≠ .object C) (h : (Cond.arrayClass ty).before args s = true) : ∃ cA : ClassId, ArrOfT s cA ty ∧ va_RA s cA ty := by
  obtain ⟨cA, kA, comp, h1, h2, h3⟩ := Cond.arrayClass_spec h
  refine ⟨cA, fun n z => ⟨fun k h => (by cases h), kA, h2, comp, h3⟩, ?_⟩
  cases ty with
  | object C => exact absurd rfl (hty C)
  | _ => exact h1
set_option maxRecDepth 100000 in
/-- the state's own facts, at the law's entry -/
theorem ms_G {s : State} {b0 : Nat} (hts : ∀ w ∈ lw_tbl, w.before #[Value.ref b0] s = true) (hgv : (Jvm.Cond.and given_1 narrow_1).before #[Value.ref b0] s = true) : ∃ (sa : Nat → Nat) (cA dC : Nat → ClassId) (dI : Nat → Nat → Nat), sa 2 = b0 ∧ mxG s.heap.size sa cA dC dI s := by
  have hA : ∀ a : Nat, a < s.heap.size → ¬ (fun q : Nat => s.heap.size ≤ q) a := fun a h => Nat.not_le.mpr h
  have htA : ∀ x ∈ mxA, x.before #[Value.ref b0] s = true := fun x h => hts x (mxA_tbl x h)
  have hs := flat_of_before _ hgv
  obtain ⟨c0, iS0, hKn0⟩ := u_known (C := RX0) (T := TX0) (N := 6) (n := 6) htA mk_lay_0 (htA _ mk_ins_0)
  obtain ⟨c1, iS1, hKn1⟩ := u_known (C := RX1) (T := TX1) (N := 9) (n := 9) htA mk_lay_1 (htA _ mk_ins_1)
  obtain ⟨c2, iS2, hKn2⟩ := u_known (C := RX3) (T := TX3) (N := 9) (n := 9) htA mk_lay_2 (htA _ mk_ins_2)
  obtain ⟨c3, iS3, hKn3⟩ := u_known (C := RX4) (T := TX4) (N := 18) (n := 18) htA mk_lay_3 (htA _ mk_ins_3)
  obtain ⟨c4, iS4, hKn4⟩ := u_known (C := RX5) (T := TX5) (N := 37) (n := 37) htA mk_lay_4 (htA _ mk_ins_4)
  obtain ⟨dC, dI, hKc⟩ : ∃ (dC : Nat → ClassId) (dI : Nat → Nat → Nat), ∀ (k : Nat) (q : vw_C), vwCl[k]? = some q → u_Kn s q.1 q.2.1 q.2.2 (dC k) (dI k) := by
    refine ⟨fun k => if k = 0 then c0 else if k = 1 then c1 else if k = 2 then c2 else if k = 3 then c3 else c4, fun k => if k = 0 then iS0 else if k = 1 then iS1 else if k = 2 then iS2 else if k = 3 then iS3 else iS4, ?_⟩
    intro k q hq
    match k, hq with
    | 0, hq => cases hq; exact hKn0
    | 1, hq => cases hq; exact hKn1
    | 2, hq => cases hq; exact hKn2
    | 3, hq => cases hq; exact hKn3
    | 4, hq => cases hq; exact hKn4
    | k + 5, hq => simp [vwCl] at hq
  obtain ⟨a0, hr0⟩ := ms_arr (fun C h => by cases h) (htA _ mk_ar_int)
  obtain ⟨a1, hr1⟩ := ms_arr (fun C h => by cases h) (htA _ mk_ar_long)
  obtain ⟨a2, hr2⟩ := ms_arr (fun C h => by cases h) (htA _ mk_ar_byte)
  obtain ⟨a3, hr3⟩ := ms_arr (fun C h => by cases h) (htA _ mk_ar_boolean)
  have em : ∀ j : Nat, j < 8 → (Term.elem (.static RX1 "MOVES" "[I") (.int (Int32.ofNat j))).eval #[Value.ref b0] s none [] s = some (.int (mxmv j)) := by
    intro j hj
    match j, hj with
    | 0, _ => exact va_eqt (hs (Cond.eq (.elem (.static RX1 "MOVES" "[I") (.int 0)) (.int 0)) (by decide +kernel))
    | 1, _ => exact va_eqt (hs (Cond.eq (.elem (.static RX1 "MOVES" "[I") (.int 1)) (.int 1)) (by decide +kernel))
    | 2, _ => exact va_eqt (hs (Cond.eq (.elem (.static RX1 "MOVES" "[I") (.int 2)) (.int 2)) (by decide +kernel))
    | 3, _ => exact va_eqt (hs (Cond.eq (.elem (.static RX1 "MOVES" "[I") (.int 3)) (.int 4)) (by decide +kernel))
    | 4, _ => exact va_eqt (hs (Cond.eq (.elem (.static RX1 "MOVES" "[I") (.int 4)) (.int 6)) (by decide +kernel))
    | 5, _ => exact va_eqt (hs (Cond.eq (.elem (.static RX1 "MOVES" "[I") (.int 5)) (.int 7)) (by decide +kernel))
    | 6, _ => exact va_eqt (hs (Cond.eq (.elem (.static RX1 "MOVES" "[I") (.int 6)) (.int 8)) (by decide +kernel))
    | 7, _ => exact va_eqt (hs (Cond.eq (.elem (.static RX1 "MOVES" "[I") (.int 7)) (.int 10)) (by decide +kernel))
  have ef : ∀ j : Nat, j < 3 → (Term.elem (.static RX1 "FLAW_LETTERS" "[I") (.int (Int32.ofNat j))).eval #[Value.ref b0] s none [] s = some (.int (mxfw j)) := by
    intro j hj
    match j, hj with
    | 0, _ => exact va_eqt (hs (Cond.eq (.elem (.static RX1 "FLAW_LETTERS" "[I") (.int 0)) (.int 3)) (by decide +kernel))
    | 1, _ => exact va_eqt (hs (Cond.eq (.elem (.static RX1 "FLAW_LETTERS" "[I") (.int 1)) (.int 5)) (by decide +kernel))
    | 2, _ => exact va_eqt (hs (Cond.eq (.elem (.static RX1 "FLAW_LETTERS" "[I") (.int 2)) (.int 9)) (by decide +kernel))
  obtain ⟨t0, e0, T0⟩ := va_Tof (N := 8) (f := fun j => .int (mxmv j)) (A := fun q : Nat => s.heap.size ≤ q) (by decide) (hs (Cond.arrayOf (.static RX1 "MOVES" "[I") .int) (by decide +kernel)) (va_eqt (hs (Cond.eq (.length (.static RX1 "MOVES" "[I")) (.int 8)) (by decide +kernel))) em hA
  obtain ⟨t1, e1, T1⟩ := va_Tof (N := 3) (f := fun j => .int (mxfw j)) (A := fun q : Nat => s.heap.size ≤ q) (by decide) (hs (Cond.arrayOf (.static RX1 "FLAW_LETTERS" "[I") .int) (by decide +kernel)) (va_eqt (hs (Cond.eq (.length (.static RX1 "FLAW_LETTERS" "[I")) (.int 3)) (by decide +kernel))) ef hA
  have kN : ∀ j : Nat, j < 7 → mxsL.getD j 0 < 2 ^ 31 := by decide
  have kex : ∀ j : Nat, j < 7 → Cond.exactly (mxtm j) "java/lang/String" ∈ flatC (Jvm.Cond.and given_1 narrow_1) := by decide +kernel
  have kco : ∀ j : Nat, j < 7 → Cond.eq (.field (mxtm j) "java/lang/String" "coder" "B") (.int 0) ∈ flatC (Jvm.Cond.and given_1 narrow_1) := by decide +kernel
  have kar : ∀ j : Nat, j < 7 → Cond.arrayOf (.field (mxtm j) "java/lang/String" "value" "[B") .byte ∈ flatC (Jvm.Cond.and given_1 narrow_1) := by decide +kernel
  have kle : ∀ j : Nat, j < 7 → Cond.eq (.length (.field (mxtm j) "java/lang/String" "value" "[B")) (.int (Int32.ofNat (mxsL.getD j 0))) ∈ flatC (Jvm.Cond.and given_1 narrow_1) := by decide +kernel
  have kel : ∀ j : Nat, j < 7 → ∀ q : Nat, q < mxsL.getD j 0 → Cond.eq (.elem (.field (mxtm j) "java/lang/String" "value" "[B") (.int (Int32.ofNat q))) (.int ((mxsB.getD j []).getD q 0)) ∈ flatC (Jvm.Cond.and given_1 narrow_1) := by decide +kernel
  have kne : ∀ j : Nat, j < 7 → ∀ q : Nat, q < 7 → j < q → Cond.not (Cond.eq (mxtm j) (mxtm q)) ∈ flatC (Jvm.Cond.and given_1 narrow_1) := by decide +kernel
  have keq : ∀ j : Nat, j < 7 → Cond.eq (mxtm j) (mxtn5 j) ∈ flatC (Jvm.Cond.and given_1 narrow_1) := by decide +kernel
  have kr0 : ∀ j : Nat, j < 7 → Cond.stringRef RX0 (mxt0 j) (mxtx j) ∈ lw_tbl := fun j hj => by
    match j, hj with
    | 0, _ => exact (mxsec_in (n := 1) (List.mem_of_getElem? (i := 171) (by decide +kernel)))
    | 1, _ => exact (mxsec_in (n := 1) (List.mem_of_getElem? (i := 172) (by decide +kernel)))
    | 2, _ => exact (mxsec_in (n := 1) (List.mem_of_getElem? (i := 173) (by decide +kernel)))
    | 3, _ => exact (mxsec_in (n := 1) (List.mem_of_getElem? (i := 174) (by decide +kernel)))
    | 4, _ => exact (mxsec_in (n := 1) (List.mem_of_getElem? (i := 175) (by decide +kernel)))
    | 5, _ => exact (mxsec_in (n := 1) (List.mem_of_getElem? (i := 176) (by decide +kernel)))
    | 6, _ => exact (mxsec_in (n := 1) (List.mem_of_getElem? (i := 177) (by decide +kernel)))
  have kr5 : ∀ j : Nat, j < 7 → Cond.stringRef RX5 (mxt5 j) (mxtx j) ∈ lw_tbl := fun j hj => by
    match j, hj with
    | 0, _ => exact (mxsec_in (n := 3) (List.mem_of_getElem? (i := 231) (by decide +kernel)))
    | 1, _ => exact (mxsec_in (n := 3) (List.mem_of_getElem? (i := 232) (by decide +kernel)))
    | 2, _ => exact (mxsec_in (n := 3) (List.mem_of_getElem? (i := 233) (by decide +kernel)))
    | 3, _ => exact (mxsec_in (n := 3) (List.mem_of_getElem? (i := 234) (by decide +kernel)))
    | 4, _ => exact (mxsec_in (n := 3) (List.mem_of_getElem? (i := 235) (by decide +kernel)))
    | 5, _ => exact (mxsec_in (n := 3) (List.mem_of_getElem? (i := 236) (by decide +kernel)))
    | 6, _ => exact (mxsec_in (n := 3) (List.mem_of_getElem? (i := 237) (by decide +kernel)))
  obtain ⟨aK, aV, hVS, hVt⟩ := vk_Sof (args := #[Value.ref b0]) (s := s) (N := 7) (tm := mxtm) (len := mxsL) (byt := mxsB) (A := fun q : Nat => s.heap.size ≤ q) kN (fun j hj => hs _ (kex j hj)) (fun j hj => hs _ (kco j hj)) (fun j hj => hs _ (kar j hj)) (fun j hj => hs _ (kle j hj)) (fun j hj q hq => hs _ (kel j hj q hq)) (fun j q hj hq hne => by
    rcases Nat.lt_or_gt_of_ne hne with h | h
    · exact Or.inl (hs _ (kne j hj q hq h))
    · exact Or.inr (hs _ (kne q hq j hj h))) hA
  have hq0 := va_Zqof (A := fun q : Nat => s.heap.size ≤ q) (hts _ ms_l4) (htA _ (mk_ini miJ3_checkIndex_8e157 (List.mem_of_getElem? (i := mxck + 2) rfl))) (hs (Cond.isRef (.static RJ3 "SIOOBE_FORMATTER" "Ljava/util/function/BiFunction;")) (by decide +kernel)) hA
  have hz0 := va_Zof (A := fun q : Nat => s.heap.size ≤ q) (hts _ ms_l3) (htA _ (mk_ini miJ0_checkIndex_df160 (List.mem_of_getElem? (i := mxck) rfl))) (va_eqt (hs (Cond.eq (.static RJ0 "COMPACT_STRINGS" "Z") (.int 1)) (by decide +kernel))) hA
  obtain ⟨fq, hfq⟩ : ∃ fq : Nat, va_Z RJ3 "SIOOBE_FORMATTER" "Ljava/util/function/BiFunction;" .null (fun q : Nat => s.heap.size ≤ q) s s.heap ∨ va_Z RJ3 "SIOOBE_FORMATTER" "Ljava/util/function/BiFunction;" (.ref fq) (fun q : Nat => s.heap.size ≤ q) s s.heap := by
    rcases hq0 with h | ⟨t, h⟩
    · exact ⟨0, Or.inl h⟩
    · exact ⟨t, Or.inr h⟩
  obtain ⟨SA, g0, g1, g2, g3, g10, g20⟩ : ∃ SA : Nat → Nat, SA 0 = t0 ∧ SA 1 = t1 ∧ SA 2 = b0 ∧ (∀ j, j < 7 → SA (3 + j) = aK j) ∧ (∀ j, j < 7 → SA (10 + j) = aV j) ∧ SA 20 = fq := by
    refine ⟨fun j => if j = 0 then t0 else if j = 1 then t1 else if j = 2 then b0 else if j < 10 then aK (j - 3) else if j < 17 then aV (j - 10) else fq, rfl, rfl, rfl, fun j hj => ?_, fun j hj => ?_, rfl⟩
    · dsimp only
      rw [if_neg (by omega), if_neg (by omega), if_neg (by omega), if_pos (by omega), Nat.add_sub_cancel_left]
    · dsimp only
      rw [if_neg (by omega), if_neg (by omega), if_neg (by omega), if_neg (by omega), if_pos (by omega), Nat.add_sub_cancel_left]
  refine ⟨SA, fun j => if j = 0 then a0 else if j = 1 then a1 else if j = 2 then a2 else a3, dC, dI, g2, ⟨hKc, fun k q hq => ?_⟩, ⟨va_Nw.of rfl (hts _ ms_n1), va_Nw.of rfl (hts _ ms_n2), va_Nw.of rfl (hts _ ms_n3)⟩, ⟨by rw [g0]; exact va_Zref (hts _ ms_l1) (htA _ mk_inc_1) e0 hA, by rw [g1]; exact va_Zref (hts _ ms_l2) (htA _ mk_inc_1) e1 hA, by rw [g0]; exact T0, by rw [g1]; exact T1⟩, fun o n j hj => ?_, ⟨fun j hj => ?_, fun j q hj hq he => ?_⟩, hz0, by rw [g20]; exact hfq⟩
  rotate_left
  · obtain ⟨hj7, ⟨rfl, rfl⟩ | ⟨rfl, rfl⟩⟩ := mxss_spec hj
    · rw [g3 j hj7]
      exact vk_R.of (hts _ (kr0 j hj7)) (hVt j hj7)
    · rw [g3 j hj7]
      exact vk_R.of (hts _ (kr5 j hj7)) (va_eqR (hs _ (keq j hj7)) (hVt j hj7))
  · show va_O _ (SA (3 + j)) _ _ _ ∧ va_OF _ _ _ _ (SA (3 + j)) _ _ _ ∧ va_OF _ _ _ (.ref (SA (10 + j))) (SA (3 + j)) _ _ _ ∧ va_T _ (SA (10 + j)) _ _ _ _ _
    rw [g3 j hj, g10 j hj]
    exact hVS.1 j hj
  · replace he : SA (3 + j) = SA (3 + q) := he
    rw [g3 j hj, g3 q hq] at he
    exact hVS.2 j q hj hq he
  match k, hq with
  | 0, hq => cases hq; exact hr0
  | 1, hq => cases hq; exact hr1
  | 2, hq => cases hq; exact hr2
  | 3, hq => cases hq; exact hr3
  | k + 4, hq => simp at hq
/-- the empty world -/
def mxw0 : mxW := ([], fun _ _ => 0, fun _ _ => 0, fun _ _ => .null)
/-- THE LAW out of a run of the abstract machine, from its entry -/
theorem ms_start {p : Program} {e : Env} {s : State} {m : MethodId} {below : List Frame} {meth : Method} {c : Code} (l : Launch) {b L : Nat} {xs : Nat → Int32} (C0 : lw_At p s m meth c b L xs) (hrun : ∃ (n : Nat) (w : mxW), mxevL L xs n 0 [(0, .retAddr 2)] [] mxw0 = some (some (.int 1), w) ∧ w.1.length ≤ 600000 ∧ mxsl w ≤ 7302250) : W p l e room_1 s m #[Value.ref b] below meth c s.heap [] 0 0 (lw_Z below #[Value.ref b] s) (entryFrame m ([Value.ref b] : List Value).toArray 4) := by
  obtain ⟨hx, hb, hr, hml, hown, hts, hX, hbl, hlocks, hgv⟩ := C0
  obtain ⟨n, w, hn, hw1, hw2⟩ := hrun
  obtain ⟨sa, cA, dC, dI, hsa, hG⟩ := ms_G hts hgv
  have C : mxF p room_1 s m #[Value.ref b] meth c s.heap.size sa cA dC dI miL_law := ⟨hx, hb, hr, hml, hown, fun x h => hts x (mxA_tbl x h), hlocks, (fun h => by cases h), hG, Nat.le_refl _, rfl, rfl⟩
  have hl := lv_entry ([.ref b]) (n := 4) (Nat.le_of_ble_eq_true rfl)
  rw [lg_entry_eq]
  refine (mx_DL C hX hbl hsa n 0 [(0, .retAddr 2)] [] mxw0 _ hn rfl hw1 hw2).1 s.heap [] 0 0 _ rfl (fun k q h => ?_) va_S.rf ?_ rfl rfl
  · cases h
  · show lv_has _ 4 [(0, .ref (sa 2))]
    rw [hsa]
    exact hl
