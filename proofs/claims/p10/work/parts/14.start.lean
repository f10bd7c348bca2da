theorem mxA_tbl : ∀ x ∈ mxA, x ∈ lw_tbl := fun _ h => (List.mem_filter.mp h).1
theorem ms_n1 : Cond.methodLinkNest RX4 19 yX0_init RX4 ∈ lw_tbl := (mxsec_in (n := 1) (List.mem_of_getElem? (i := 24) (by decide +kernel)))
theorem ms_n2 : Cond.methodLinkNest RX4 26 yX3_init RX4 ∈ lw_tbl := (mxsec_in (n := 1) (List.mem_of_getElem? (i := 50) (by decide +kernel)))
theorem ms_n3 : Cond.methodLinkNest RX4 173 yX1_init RX4 ∈ lw_tbl := (mxsec_in (n := 2) (List.mem_of_getElem? (i := 192) (by decide +kernel)))
theorem ms_l1 : Cond.laysStatic RX1 "MOVES" "[I" ∈ lw_tbl := (mxsec_in (n := 3) (List.mem_of_getElem? (i := 18) (by decide +kernel)))
theorem ms_l2 : Cond.laysStatic RX1 "FLAW_LETTERS" "[I" ∈ lw_tbl := (mxsec_in (n := 3) (List.mem_of_getElem? (i := 11) (by decide +kernel)))
theorem ms_arr {s : State} {args : Array Value} {ty : FieldType} (hty : ∀ C, ty ≠ .object C) (h : (Cond.arrayClass ty).before args s = true) : ∃ cA : ClassId, ArrOfT s cA ty ∧ va_RA s cA ty := by
  obtain ⟨cA, kA, comp, h1, h2, h3⟩ := Cond.arrayClass_spec h
  refine ⟨cA, fun n z => ⟨fun k h => (by cases h), kA, h2, comp, h3⟩, ?_⟩
  cases ty with
  | object C => exact absurd rfl (hty C)
  | _ => exact h1
set_option maxRecDepth 100000 in
/-- the state's own facts, at the law's entry -/
theorem ms_G {s : State} {b0 : Nat} (hts : ∀ w ∈ lw_tbl, w.before #[Value.ref b0] s = true) (hgv : (Jvm.Cond.and given_1 narrow_1).before #[Value.ref b0] s = true) : ∃ (sa : Nat → Nat) (cA dC : Nat → ClassId) (dI : Nat → Nat → Nat), sa 2 = b0 ∧ mxG s.heap.size sa cA dC dI s := by
  have hA : ∀ a : Nat, a < s.heap.size → ¬ (fun q : Nat => s.heap.size ≤ q) a := fun a h => Nat.not_le.mpr h
  have htA : ∀ x ∈ mxA, x.before #[Value.ref b0] s = true := fun x h => hts x (mxA_tbl x h)
  have hs := flat_of_before _ hgv
  obtain ⟨c0, iS0, hKn0⟩ := u_known (C := RX0) (T := TX0) (N := 6) (n := 6) htA mk_lay_0 (htA _ mk_ins_0)
  obtain ⟨c1, iS1, hKn1⟩ := u_known (C := RX1) (T := TX1) (N := 9) (n := 9) htA mk_lay_1 (htA _ mk_ins_1)
  obtain ⟨c2, iS2, hKn2⟩ := u_known (C := RX3) (T := TX3) (N := 9) (n := 9) htA mk_lay_2 (htA _ mk_ins_2)
  obtain ⟨c3, iS3, hKn3⟩ := u_known (C := RX4) (T := TX4) (N := 18) (n := 18) htA mk_lay_3 (htA _ mk_ins_3)
  obtain ⟨c4, iS4, hKn4⟩ := u_known (C := RX5) (T := TX5) (N := 37) (n := 37) htA mk_lay_4 (htA _ mk_ins_4)
  obtain ⟨dC, dI, hKc⟩ : ∃ (dC : Nat → ClassId) (dI : Nat → Nat → Nat), ∀ (k : Nat) (q : vw_C), vwCl[k]? = some q → u_Kn s q.1 q.2.1 q.2.2 (dC k) (dI k) := by
    refine ⟨fun k => if k = 0 then c0 else if k = 1 then c1 else if k = 2 then c2 else if k = 3 then c3 else c4, fun k => if k = 0 then iS0 else if k = 1 then iS1 else if k = 2 then iS2 else if k = 3 then iS3 else iS4, ?_⟩
    intro k q hq
    match k, hq with
    | 0, hq => cases hq; exact hKn0
    | 1, hq => cases hq; exact hKn1
    | 2, hq => cases hq; exact hKn2
    | 3, hq => cases hq; exact hKn3
    | 4, hq => cases hq; exact hKn4
    | k + 5, hq => simp [vwCl] at hq
  obtain ⟨a0, hr0⟩ := ms_arr (fun C h => by cases h) (htA _ mk_ar_int)
  obtain ⟨a1, hr1⟩ := ms_arr (fun C h => by cases h) (htA _ mk_ar_long)
  obtain ⟨a2, hr2⟩ := ms_arr (fun C h => by cases h) (htA _ mk_ar_byte)
  obtain ⟨a3, hr3⟩ := ms_arr (fun C h => by cases h) (htA _ mk_ar_boolean)
  have em : ∀ j : Nat, j < 8 → (Term.elem (.static RX1 "MOVES" "[I") (.int (Int32.ofNat j))).eval #[Value.ref b0] s none [] s = some (.int (mxmv j)) := by
    intro j hj
    match j, hj with
    | 0, _ => exact va_eqt (hs (Cond.eq (.elem (.static RX1 "MOVES" "[I") (.int 0)) (.int 0)) (by decide +kernel))
    | 1, _ => exact va_eqt (hs (Cond.eq (.elem (.static RX1 "MOVES" "[I") (.int 1)) (.int 1)) (by decide +kernel))
    | 2, _ => exact va_eqt (hs (Cond.eq (.elem (.static RX1 "MOVES" "[I") (.int 2)) (.int 2)) (by decide +kernel))
    | 3, _ => exact va_eqt (hs (Cond.eq (.elem (.static RX1 "MOVES" "[I") (.int 3)) (.int 4)) (by decide +kernel))
    | 4, _ => exact va_eqt (hs (Cond.eq (.elem (.static RX1 "MOVES" "[I") (.int 4)) (.int 6)) (by decide +kernel))
    | 5, _ => exact va_eqt (hs (Cond.eq (.elem (.static RX1 "MOVES" "[I") (.int 5)) (.int 7)) (by decide +kernel))
    | 6, _ => exact va_eqt (hs (Cond.eq (.elem (.static RX1 "MOVES" "[I") (.int 6)) (.int 8)) (by decide +kernel))
    | 7, _ => exact va_eqt (hs (Cond.eq (.elem (.static RX1 "MOVES" "[I") (.int 7)) (.int 10)) (by decide +kernel))
  have ef : ∀ j : Nat, j < 3 → (Term.elem (.static RX1 "FLAW_LETTERS" "[I") (.int (Int32.ofNat j))).eval #[Value.ref b0] s none [] s = some (.int (mxfw j)) := by
    intro j hj
    match j, hj with
    | 0, _ => exact va_eqt (hs (Cond.eq (.elem (.static RX1 "FLAW_LETTERS" "[I") (.int 0)) (.int 3)) (by decide +kernel))
    | 1, _ => exact va_eqt (hs (Cond.eq (.elem (.static RX1 "FLAW_LETTERS" "[I") (.int 1)) (.int 5)) (by decide +kernel))
    | 2, _ => exact va_eqt (hs (Cond.eq (.elem (.static RX1 "FLAW_LETTERS" "[I") (.int 2)) (.int 9)) (by decide +kernel))
  obtain ⟨t0, e0, T0⟩ := va_Tof (N := 8) (f := fun j => .int (mxmv j)) (A := fun q : Nat => s.heap.size ≤ q) (by decide) (hs (Cond.arrayOf (.static RX1 "MOVES" "[I") .int) (by decide +kernel)) (va_eqt (hs (Cond.eq (.length (.static RX1 "MOVES" "[I")) (.int 8)) (by decide +kernel))) em hA
  obtain ⟨t1, e1, T1⟩ := va_Tof (N := 3) (f := fun j => .int (mxfw j)) (A := fun q : Nat => s.heap.size ≤ q) (by decide) (hs (Cond.arrayOf (.static RX1 "FLAW_LETTERS" "[I") .int) (by decide +kernel)) (va_eqt (hs (Cond.eq (.length (.static RX1 "FLAW_LETTERS" "[I")) (.int 3)) (by decide +kernel))) ef hA
  refine ⟨fun j => if j = 0 then t0 else if j = 1 then t1 else b0, fun j => if j = 0 then a0 else if j = 1 then a1 else if j = 2 then a2 else a3, dC, dI, rfl, ⟨hKc, fun k q hq => ?_⟩, ⟨va_Nw.of rfl (hts _ ms_n1), va_Nw.of rfl (hts _ ms_n2), va_Nw.of rfl (hts _ ms_n3)⟩, va_Zref (hts _ ms_l1) (htA _ mk_inc_1) e0 hA, va_Zref (hts _ ms_l2) (htA _ mk_inc_1) e1 hA, T0, T1⟩
  match k, hq with
  | 0, hq => cases hq; exact hr0
  | 1, hq => cases hq; exact hr1
  | 2, hq => cases hq; exact hr2
  | 3, hq => cases hq; exact hr3
  | k + 4, hq => simp at hq
/-- the empty world -/
def mxw0 : mxW := ([], fun _ _ => 0, fun _ _ => 0, fun _ _ => .null)
/-- THE LAW out of a run of the abstract machine, from its entry -/
theorem ms_start {p : Program} {e : Env} {s : State} {m : MethodId} {below : List Frame} {meth : Method} {c : Code} (l : Launch) {b L : Nat} {xs : Nat → Int32} (C0 : lw_At p s m meth c b L xs) (hrun : ∃ (n : Nat) (w : mxW), mxevL L xs n 0 [(0, .retAddr 2)] [] mxw0 = some (some (.int 1), w) ∧ w.1.length ≤ 600000 ∧ mxsl w ≤ 7302250) : W p l e room_1 s m #[Value.ref b] below meth c s.heap [] 0 0 (lw_Z below #[Value.ref b] s) (entryFrame m ([Value.ref b] : List Value).toArray 4) := by
  obtain ⟨hx, hb, hr, hml, hown, hts, hX, hbl, hlocks, hgv⟩ := C0
  obtain ⟨n, w, hn, hw1, hw2⟩ := hrun
  obtain ⟨sa, cA, dC, dI, hsa, hG⟩ := ms_G hts hgv
  have C : mxF p room_1 s m #[Value.ref b] meth c s.heap.size sa cA dC dI miL_law := ⟨hx, hb, hr, hml, hown, fun x h => hts x (mxA_tbl x h), hlocks, (fun h => by cases h), hG, Nat.le_refl _, rfl, rfl⟩
  have hl := lv_entry ([.ref b]) (n := 4) (Nat.le_of_ble_eq_true rfl)
  rw [lg_entry_eq]
  refine (mx_DL C hX hbl hsa n 0 [(0, .retAddr 2)] [] mxw0 _ hn rfl hw1 hw2).1 s.heap [] 0 0 _ rfl (fun k q h => ?_) va_S.rf ?_ rfl rfl
  · cases h
  · show lv_has _ 4 [(0, .ref (sa 2))]
    rw [hsa]
    exact hl
