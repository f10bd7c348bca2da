theorem mxg_at {b : Nat} {sa : Nat → Nat} {lv : mxV} {j : Nat} {v : Value} (hg : mxg lv j = some v) : ∃ k : Nat, (lv.map (mxc b sa))[k]? = some (j, mxv b sa v) := by
  induction lv with
  | nil => cases hg
  | cons q t ih =>
    obtain ⟨a, u⟩ := q
    unfold mxg at hg ih
    by_cases h : j = a
    · subst h
      rw [List.lookup_cons_self] at hg
      cases hg
      exact ⟨0, rfl⟩
    · rw [List.lookup_cons, show (j == a) = false from by simp [h]] at hg
      obtain ⟨k, hk⟩ := ih hg
      exact ⟨k + 1, hk⟩
theorem mxg_has {b : Nat} {sa : Nat → Nat} {ls : Array Slot} {n : Nat} {lv : mxV} {j : Nat} {v : Value} (h : lv_has ls n (lv.map (mxc b sa))) (hg : mxg lv j = some v) : ls[j]? = some (.val (mxv b sa v)) := by
  obtain ⟨k, hk⟩ := mxg_at (b := b) (sa := sa) hg
  exact lv_at h k hk
theorem mxs1_has {b : Nat} {sa : Nat → Nat} {ls : Array Slot} {n : Nat} {lv : mxV} {j : Nat} {v : Value} (h : lv_has ls n ((j, mxv b sa v) :: (lv.map (mxc b sa)).filter (fun q => !(q.1 == j) && !(q.1 + 1 == j && q.2.category == 2)))) : lv_has ls n ((mxs1 lv j v).map (mxc b sa)) := by
  refine ⟨h.1, h.2.1, fun q hq => ?_⟩
  obtain ⟨q0, hq0, rfl⟩ := List.mem_map.mp hq
  apply h.2.2
  unfold mxs1 at hq0
  rcases List.mem_append.mp hq0 with h1 | h1
  · obtain ⟨hm, hc⟩ := List.mem_filter.mp h1
    refine List.mem_cons_of_mem _ (List.mem_filter.mpr ⟨List.mem_map.mpr ⟨q0, hm, rfl⟩, ?_⟩)
    simp only [mxc, mxv_cat]
    simp only [Bool.or_eq_true, Nat.blt_eq, Bool.and_eq_true, beq_iff_eq] at hc
    simp only [Bool.and_eq_true, Bool.not_eq_true', beq_eq_false_iff_ne, ne_eq, Bool.and_eq_false_iff]
    omega
  · rcases List.mem_cons.mp h1 with h2 | h2
    · subst h2
      exact List.mem_cons_self
    · obtain ⟨hm, hc⟩ := List.mem_filter.mp h2
      refine List.mem_cons_of_mem _ (List.mem_filter.mpr ⟨List.mem_map.mpr ⟨q0, hm, rfl⟩, ?_⟩)
      simp only [mxc, mxv_cat]
      simp only [Nat.blt_eq] at hc
      simp only [Bool.and_eq_true, Bool.not_eq_true', beq_eq_false_iff_ne, ne_eq, Bool.and_eq_false_iff]
      omega
theorem mxs2_has {b : Nat} {sa : Nat → Nat} {ls : Array Slot} {n : Nat} {lv : mxV} {j : Nat} {v : Value} (h : lv_has ls n ((j, mxv b sa v) :: (lv.map (mxc b sa)).filter (fun q => !(q.1 == j) && (!(q.1 == j + 1) && !(q.1 + 1 == j && q.2.category == 2))))) : lv_has ls n ((mxs2 lv j v).map (mxc b sa)) := by
  refine ⟨h.1, h.2.1, fun q hq => ?_⟩
  obtain ⟨q0, hq0, rfl⟩ := List.mem_map.mp hq
  apply h.2.2
  unfold mxs2 at hq0
  rcases List.mem_append.mp hq0 with h1 | h1
  · obtain ⟨hm, hc⟩ := List.mem_filter.mp h1
    refine List.mem_cons_of_mem _ (List.mem_filter.mpr ⟨List.mem_map.mpr ⟨q0, hm, rfl⟩, ?_⟩)
    simp only [mxc, mxv_cat]
    simp only [Bool.or_eq_true, Nat.blt_eq, Bool.and_eq_true, beq_iff_eq] at hc
    simp only [Bool.and_eq_true, Bool.not_eq_true', beq_eq_false_iff_ne, ne_eq, Bool.and_eq_false_iff]
    omega
  · rcases List.mem_cons.mp h1 with h2 | h2
    · subst h2
      exact List.mem_cons_self
    · obtain ⟨hm, hc⟩ := List.mem_filter.mp h2
      refine List.mem_cons_of_mem _ (List.mem_filter.mpr ⟨List.mem_map.mpr ⟨q0, hm, rfl⟩, ?_⟩)
      simp only [mxc, mxv_cat]
      simp only [Nat.blt_eq] at hc
      simp only [Bool.and_eq_true, Bool.not_eq_true', beq_eq_false_iff_ne, ne_eq, Bool.and_eq_false_iff]
      omega
section MD
variable {p : Program} {l : Launch} {e : Env} {R : Room} {s : State} {m : MethodId} {args : Array Value} {below : List Frame} {meth : Method} {c : Code} {b : Nat} {sa : Nat → Nat} {cA : Nat → ClassId} {dC : Nat → ClassId} {dI : Nat → Nat → Nat} {i : mxi} {Qf : State → Prop} {c0 s0 : Nat} {pc : Nat} {lv : mxV} {r : List Value} {w : mxW}

theorem md_iconst (C : mxF p R s m args meth c b sa cA dC dI i) {n : Int} (hd : decode (mxi_c i) pc = .ok (.iconst n, 1))  (K : mxD p l e R s m args below meth c b sa cA dC dI i Qf c0 s0 (pc + 1) lv (.int (Int32.ofInt n) :: r) w) : mxD p l e R s m args below meth c b sa cA dC dI i Qf c0 s0 pc lv (r) w :=
  fun H locs cells slots ls h1 h2 h3 h4 h5 h6 => lv_iconst C.1 C.2.1 hd rfl (K H locs cells slots ls h1 h2 h3 h4 h5 h6)
theorem md_bipush (C : mxF p R s m args meth c b sa cA dC dI i) {n : Int} (hd : decode (mxi_c i) pc = .ok (.bipush n, 2))  (K : mxD p l e R s m args below meth c b sa cA dC dI i Qf c0 s0 (pc + 2) lv (.int (Int8.ofInt n).toInt32 :: r) w) : mxD p l e R s m args below meth c b sa cA dC dI i Qf c0 s0 pc lv (r) w :=
  fun H locs cells slots ls h1 h2 h3 h4 h5 h6 => lv_bipush C.1 C.2.1 hd rfl (K H locs cells slots ls h1 h2 h3 h4 h5 h6)
theorem md_sipush (C : mxF p R s m args meth c b sa cA dC dI i) {n : Int} (hd : decode (mxi_c i) pc = .ok (.sipush n, 3))  (K : mxD p l e R s m args below meth c b sa cA dC dI i Qf c0 s0 (pc + 3) lv (.int (Int16.ofInt n).toInt32 :: r) w) : mxD p l e R s m args below meth c b sa cA dC dI i Qf c0 s0 pc lv (r) w :=
  fun H locs cells slots ls h1 h2 h3 h4 h5 h6 => lv_sipush C.1 C.2.1 hd rfl (K H locs cells slots ls h1 h2 h3 h4 h5 h6)
theorem md_lconst (C : mxF p R s m args meth c b sa cA dC dI i) {n : Fin 2} (hd : decode (mxi_c i) pc = .ok (.lconst n, 1))  (K : mxD p l e R s m args below meth c b sa cA dC dI i Qf c0 s0 (pc + 1) lv (.long (Int64.ofNat n.val) :: r) w) : mxD p l e R s m args below meth c b sa cA dC dI i Qf c0 s0 pc lv (r) w :=
  fun H locs cells slots ls h1 h2 h3 h4 h5 h6 => lv_lconst C.1 C.2.1 hd rfl (K H locs cells slots ls h1 h2 h3 h4 h5 h6)
theorem md_null (C : mxF p R s m args meth c b sa cA dC dI i)  (hd : decode (mxi_c i) pc = .ok (.aconst_null, 1))  (K : mxD p l e R s m args below meth c b sa cA dC dI i Qf c0 s0 (pc + 1) lv (.null :: r) w) : mxD p l e R s m args below meth c b sa cA dC dI i Qf c0 s0 pc lv (r) w :=
  fun H locs cells slots ls h1 h2 h3 h4 h5 h6 => lv_null C.1 C.2.1 hd (K H locs cells slots ls h1 h2 h3 h4 h5 h6)
theorem md_iadd (C : mxF p R s m args meth c b sa cA dC dI i) {x y : Int32} (hd : decode (mxi_c i) pc = .ok (.iadd, 1))  (K : mxD p l e R s m args below meth c b sa cA dC dI i Qf c0 s0 (pc + 1) lv (.int (x + y) :: r) w) : mxD p l e R s m args below meth c b sa cA dC dI i Qf c0 s0 pc lv (.int y :: .int x :: r) w :=
  fun H locs cells slots ls h1 h2 h3 h4 h5 h6 => lv_iadd C.1 C.2.1 hd (K H locs cells slots ls h1 h2 h3 h4 h5 h6)
theorem md_isub (C : mxF p R s m args meth c b sa cA dC dI i) {x y : Int32} (hd : decode (mxi_c i) pc = .ok (.isub, 1))  (K : mxD p l e R s m args below meth c b sa cA dC dI i Qf c0 s0 (pc + 1) lv (.int (x - y) :: r) w) : mxD p l e R s m args below meth c b sa cA dC dI i Qf c0 s0 pc lv (.int y :: .int x :: r) w :=
  fun H locs cells slots ls h1 h2 h3 h4 h5 h6 => lv_isub C.1 C.2.1 hd (K H locs cells slots ls h1 h2 h3 h4 h5 h6)
theorem md_imul (C : mxF p R s m args meth c b sa cA dC dI i) {x y : Int32} (hd : decode (mxi_c i) pc = .ok (.imul, 1))  (K : mxD p l e R s m args below meth c b sa cA dC dI i Qf c0 s0 (pc + 1) lv (.int (x * y) :: r) w) : mxD p l e R s m args below meth c b sa cA dC dI i Qf c0 s0 pc lv (.int y :: .int x :: r) w :=
  fun H locs cells slots ls h1 h2 h3 h4 h5 h6 => lv_imul C.1 C.2.1 hd (K H locs cells slots ls h1 h2 h3 h4 h5 h6)
theorem md_iand (C : mxF p R s m args meth c b sa cA dC dI i) {x y : Int32} (hd : decode (mxi_c i) pc = .ok (.iand, 1))  (K : mxD p l e R s m args below meth c b sa cA dC dI i Qf c0 s0 (pc + 1) lv (.int (x &&& y) :: r) w) : mxD p l e R s m args below meth c b sa cA dC dI i Qf c0 s0 pc lv (.int y :: .int x :: r) w :=
  fun H locs cells slots ls h1 h2 h3 h4 h5 h6 => lv_iand C.1 C.2.1 hd (K H locs cells slots ls h1 h2 h3 h4 h5 h6)
theorem md_ior (C : mxF p R s m args meth c b sa cA dC dI i) {x y : Int32} (hd : decode (mxi_c i) pc = .ok (.ior, 1))  (K : mxD p l e R s m args below meth c b sa cA dC dI i Qf c0 s0 (pc + 1) lv (.int (x ||| y) :: r) w) : mxD p l e R s m args below meth c b sa cA dC dI i Qf c0 s0 pc lv (.int y :: .int x :: r) w :=
  fun H locs cells slots ls h1 h2 h3 h4 h5 h6 => lv_ior C.1 C.2.1 hd (K H locs cells slots ls h1 h2 h3 h4 h5 h6)
theorem md_ishl (C : mxF p R s m args meth c b sa cA dC dI i) {x y : Int32} (hd : decode (mxi_c i) pc = .ok (.ishl, 1))  (K : mxD p l e R s m args below meth c b sa cA dC dI i Qf c0 s0 (pc + 1) lv (.int (x <<< (y &&& 31)) :: r) w) : mxD p l e R s m args below meth c b sa cA dC dI i Qf c0 s0 pc lv (.int y :: .int x :: r) w :=
  fun H locs cells slots ls h1 h2 h3 h4 h5 h6 => lv_ishl C.1 C.2.1 hd (K H locs cells slots ls h1 h2 h3 h4 h5 h6)
theorem md_ishr (C : mxF p R s m args meth c b sa cA dC dI i) {x y : Int32} (hd : decode (mxi_c i) pc = .ok (.ishr, 1))  (K : mxD p l e R s m args below meth c b sa cA dC dI i Qf c0 s0 (pc + 1) lv (.int (x >>> (y &&& 31)) :: r) w) : mxD p l e R s m args below meth c b sa cA dC dI i Qf c0 s0 pc lv (.int y :: .int x :: r) w :=
  fun H locs cells slots ls h1 h2 h3 h4 h5 h6 => lv_ishr C.1 C.2.1 hd (K H locs cells slots ls h1 h2 h3 h4 h5 h6)
theorem md_iushr (C : mxF p R s m args meth c b sa cA dC dI i) {x y : Int32} (hd : decode (mxi_c i) pc = .ok (.iushr, 1))  (K : mxD p l e R s m args below meth c b sa cA dC dI i Qf c0 s0 (pc + 1) lv (.int (x.toUInt32 >>> (y.toUInt32 &&& Int32.toUInt32 31)).toInt32 :: r) w) : mxD p l e R s m args below meth c b sa cA dC dI i Qf c0 s0 pc lv (.int y :: .int x :: r) w :=
  fun H locs cells slots ls h1 h2 h3 h4 h5 h6 => lv_iushr C.1 C.2.1 hd rfl (K H locs cells slots ls h1 h2 h3 h4 h5 h6)
theorem md_ladd (C : mxF p R s m args meth c b sa cA dC dI i) {x y : Int64} (hd : decode (mxi_c i) pc = .ok (.ladd, 1))  (K : mxD p l e R s m args below meth c b sa cA dC dI i Qf c0 s0 (pc + 1) lv (.long (x + y) :: r) w) : mxD p l e R s m args below meth c b sa cA dC dI i Qf c0 s0 pc lv (.long y :: .long x :: r) w :=
  fun H locs cells slots ls h1 h2 h3 h4 h5 h6 => lv_ladd C.1 C.2.1 hd (K H locs cells slots ls h1 h2 h3 h4 h5 h6)
theorem md_lmul (C : mxF p R s m args meth c b sa cA dC dI i) {x y : Int64} (hd : decode (mxi_c i) pc = .ok (.lmul, 1))  (K : mxD p l e R s m args below meth c b sa cA dC dI i Qf c0 s0 (pc + 1) lv (.long (x * y) :: r) w) : mxD p l e R s m args below meth c b sa cA dC dI i Qf c0 s0 pc lv (.long y :: .long x :: r) w :=
  fun H locs cells slots ls h1 h2 h3 h4 h5 h6 => lv_lmul C.1 C.2.1 hd (K H locs cells slots ls h1 h2 h3 h4 h5 h6)
theorem md_land (C : mxF p R s m args meth c b sa cA dC dI i) {x y : Int64} (hd : decode (mxi_c i) pc = .ok (.land, 1))  (K : mxD p l e R s m args below meth c b sa cA dC dI i Qf c0 s0 (pc + 1) lv (.long (x &&& y) :: r) w) : mxD p l e R s m args below meth c b sa cA dC dI i Qf c0 s0 pc lv (.long y :: .long x :: r) w :=
  fun H locs cells slots ls h1 h2 h3 h4 h5 h6 => lv_land C.1 C.2.1 hd (K H locs cells slots ls h1 h2 h3 h4 h5 h6)
theorem md_lor (C : mxF p R s m args meth c b sa cA dC dI i) {x y : Int64} (hd : decode (mxi_c i) pc = .ok (.lor, 1))  (K : mxD p l e R s m args below meth c b sa cA dC dI i Qf c0 s0 (pc + 1) lv (.long (x ||| y) :: r) w) : mxD p l e R s m args below meth c b sa cA dC dI i Qf c0 s0 pc lv (.long y :: .long x :: r) w :=
  fun H locs cells slots ls h1 h2 h3 h4 h5 h6 => lv_lor C.1 C.2.1 hd (K H locs cells slots ls h1 h2 h3 h4 h5 h6)
theorem md_lxor (C : mxF p R s m args meth c b sa cA dC dI i) {x y : Int64} (hd : decode (mxi_c i) pc = .ok (.lxor, 1))  (K : mxD p l e R s m args below meth c b sa cA dC dI i Qf c0 s0 (pc + 1) lv (.long (x ^^^ y) :: r) w) : mxD p l e R s m args below meth c b sa cA dC dI i Qf c0 s0 pc lv (.long y :: .long x :: r) w :=
  fun H locs cells slots ls h1 h2 h3 h4 h5 h6 => lv_lxor C.1 C.2.1 hd (K H locs cells slots ls h1 h2 h3 h4 h5 h6)
theorem md_idiv (C : mxF p R s m args meth c b sa cA dC dI i) {x y : Int32} (hd : decode (mxi_c i) pc = .ok (.idiv, 1)) (hne : ¬ y = 0) (K : mxD p l e R s m args below meth c b sa cA dC dI i Qf c0 s0 (pc + 1) lv (.int (x / y) :: r) w) : mxD p l e R s m args below meth c b sa cA dC dI i Qf c0 s0 pc lv (.int y :: .int x :: r) w :=
  fun H locs cells slots ls h1 h2 h3 h4 h5 h6 => lv_idiv C.1 C.2.1 hd hne (K H locs cells slots ls h1 h2 h3 h4 h5 h6)
theorem md_irem (C : mxF p R s m args meth c b sa cA dC dI i) {x y : Int32} (hd : decode (mxi_c i) pc = .ok (.irem, 1)) (hne : ¬ y = 0) (K : mxD p l e R s m args below meth c b sa cA dC dI i Qf c0 s0 (pc + 1) lv (.int (x - x / y * y) :: r) w) : mxD p l e R s m args below meth c b sa cA dC dI i Qf c0 s0 pc lv (.int y :: .int x :: r) w :=
  fun H locs cells slots ls h1 h2 h3 h4 h5 h6 => lv_irem C.1 C.2.1 hd hne (K H locs cells slots ls h1 h2 h3 h4 h5 h6)
theorem md_ldiv (C : mxF p R s m args meth c b sa cA dC dI i) {x y : Int64} (hd : decode (mxi_c i) pc = .ok (.ldiv, 1)) (hne : ¬ y = 0) (K : mxD p l e R s m args below meth c b sa cA dC dI i Qf c0 s0 (pc + 1) lv (.long (x / y) :: r) w) : mxD p l e R s m args below meth c b sa cA dC dI i Qf c0 s0 pc lv (.long y :: .long x :: r) w :=
  fun H locs cells slots ls h1 h2 h3 h4 h5 h6 => lv_ldiv C.1 C.2.1 hd hne (K H locs cells slots ls h1 h2 h3 h4 h5 h6)
theorem md_lrem (C : mxF p R s m args meth c b sa cA dC dI i) {x y : Int64} (hd : decode (mxi_c i) pc = .ok (.lrem, 1)) (hne : ¬ y = 0) (K : mxD p l e R s m args below meth c b sa cA dC dI i Qf c0 s0 (pc + 1) lv (.long (x - x / y * y) :: r) w) : mxD p l e R s m args below meth c b sa cA dC dI i Qf c0 s0 pc lv (.long y :: .long x :: r) w :=
  fun H locs cells slots ls h1 h2 h3 h4 h5 h6 => lv_lrem C.1 C.2.1 hd hne (K H locs cells slots ls h1 h2 h3 h4 h5 h6)
theorem md_lshl (C : mxF p R s m args meth c b sa cA dC dI i) {x : Int64} {y : Int32} (hd : decode (mxi_c i) pc = .ok (.lshl, 1))  (K : mxD p l e R s m args below meth c b sa cA dC dI i Qf c0 s0 (pc + 1) lv (.long (x <<< (y.toInt64 &&& 63)) :: r) w) : mxD p l e R s m args below meth c b sa cA dC dI i Qf c0 s0 pc lv (.int y :: .long x :: r) w :=
  fun H locs cells slots ls h1 h2 h3 h4 h5 h6 => lv_lshl C.1 C.2.1 hd rfl (K H locs cells slots ls h1 h2 h3 h4 h5 h6)
theorem md_lshr (C : mxF p R s m args meth c b sa cA dC dI i) {x : Int64} {y : Int32} (hd : decode (mxi_c i) pc = .ok (.lshr, 1))  (K : mxD p l e R s m args below meth c b sa cA dC dI i Qf c0 s0 (pc + 1) lv (.long (x >>> (y.toInt64 &&& 63)) :: r) w) : mxD p l e R s m args below meth c b sa cA dC dI i Qf c0 s0 pc lv (.int y :: .long x :: r) w :=
  fun H locs cells slots ls h1 h2 h3 h4 h5 h6 => lv_lshr C.1 C.2.1 hd rfl (K H locs cells slots ls h1 h2 h3 h4 h5 h6)
theorem md_lushr (C : mxF p R s m args meth c b sa cA dC dI i) {x : Int64} {y : Int32} (hd : decode (mxi_c i) pc = .ok (.lushr, 1))  (K : mxD p l e R s m args below meth c b sa cA dC dI i Qf c0 s0 (pc + 1) lv (.long (x.toUInt64 >>> (y.toInt64.toUInt64 &&& Int64.toUInt64 63)).toInt64 :: r) w) : mxD p l e R s m args below meth c b sa cA dC dI i Qf c0 s0 pc lv (.int y :: .long x :: r) w :=
  fun H locs cells slots ls h1 h2 h3 h4 h5 h6 => lv_lushr C.1 C.2.1 hd rfl (K H locs cells slots ls h1 h2 h3 h4 h5 h6)
theorem md_lcmp (C : mxF p R s m args meth c b sa cA dC dI i) {x y : Int64} (hd : decode (mxi_c i) pc = .ok (.lcmp, 1))  (K : mxD p l e R s m args below meth c b sa cA dC dI i Qf c0 s0 (pc + 1) lv (.int (lg_cmp x y) :: r) w) : mxD p l e R s m args below meth c b sa cA dC dI i Qf c0 s0 pc lv (.long y :: .long x :: r) w :=
  fun H locs cells slots ls h1 h2 h3 h4 h5 h6 => W.lcmp C.1 C.2.1 hd (K H locs cells slots ls h1 h2 h3 h4 h5 h6)
theorem md_i2l (C : mxF p R s m args meth c b sa cA dC dI i) {x : Int32} (hd : decode (mxi_c i) pc = .ok (.i2l, 1))  (K : mxD p l e R s m args below meth c b sa cA dC dI i Qf c0 s0 (pc + 1) lv (.long x.toInt64 :: r) w) : mxD p l e R s m args below meth c b sa cA dC dI i Qf c0 s0 pc lv (.int x :: r) w :=
  fun H locs cells slots ls h1 h2 h3 h4 h5 h6 => lv_i2l C.1 C.2.1 hd rfl (K H locs cells slots ls h1 h2 h3 h4 h5 h6)
theorem md_l2i (C : mxF p R s m args meth c b sa cA dC dI i) {x : Int64} (hd : decode (mxi_c i) pc = .ok (.l2i, 1))  (K : mxD p l e R s m args below meth c b sa cA dC dI i Qf c0 s0 (pc + 1) lv (.int x.toInt32 :: r) w) : mxD p l e R s m args below meth c b sa cA dC dI i Qf c0 s0 pc lv (.long x :: r) w :=
  fun H locs cells slots ls h1 h2 h3 h4 h5 h6 => lv_l2i C.1 C.2.1 hd rfl (K H locs cells slots ls h1 h2 h3 h4 h5 h6)
theorem md_i2b (C : mxF p R s m args meth c b sa cA dC dI i) {x : Int32} (hd : decode (mxi_c i) pc = .ok (.i2b, 1))  (K : mxD p l e R s m args below meth c b sa cA dC dI i Qf c0 s0 (pc + 1) lv (.int x.toInt8.toInt32 :: r) w) : mxD p l e R s m args below meth c b sa cA dC dI i Qf c0 s0 pc lv (.int x :: r) w :=
  fun H locs cells slots ls h1 h2 h3 h4 h5 h6 => lv_i2b C.1 C.2.1 hd rfl (K H locs cells slots ls h1 h2 h3 h4 h5 h6)
theorem md_dupI (C : mxF p R s m args meth c b sa cA dC dI i) {x : Int32} (hd : decode (mxi_c i) pc = .ok (.dup, 1))  (K : mxD p l e R s m args below meth c b sa cA dC dI i Qf c0 s0 (pc + 1) lv (.int x :: .int x :: r) w) : mxD p l e R s m args below meth c b sa cA dC dI i Qf c0 s0 pc lv (.int x :: r) w :=
  fun H locs cells slots ls h1 h2 h3 h4 h5 h6 => lv_dup C.1 C.2.1 hd rfl (K H locs cells slots ls h1 h2 h3 h4 h5 h6)
theorem md_dupR (C : mxF p R s m args meth c b sa cA dC dI i) {x : Nat} (hd : decode (mxi_c i) pc = .ok (.dup, 1))  (K : mxD p l e R s m args below meth c b sa cA dC dI i Qf c0 s0 (pc + 1) lv (.ref x :: .ref x :: r) w) : mxD p l e R s m args below meth c b sa cA dC dI i Qf c0 s0 pc lv (.ref x :: r) w :=
  fun H locs cells slots ls h1 h2 h3 h4 h5 h6 => lv_dup C.1 C.2.1 hd rfl (K H locs cells slots ls h1 h2 h3 h4 h5 h6)
theorem md_pop (C : mxF p R s m args meth c b sa cA dC dI i) {x : Int32} (hd : decode (mxi_c i) pc = .ok (.pop, 1))  (K : mxD p l e R s m args below meth c b sa cA dC dI i Qf c0 s0 (pc + 1) lv (r) w) : mxD p l e R s m args below meth c b sa cA dC dI i Qf c0 s0 pc lv (.int x :: r) w :=
  fun H locs cells slots ls h1 h2 h3 h4 h5 h6 => lv_pop C.1 C.2.1 hd rfl (K H locs cells slots ls h1 h2 h3 h4 h5 h6)
theorem md_dup2 (C : mxF p R s m args meth c b sa cA dC dI i) {x : Int32} {y : Nat} (hd : decode (mxi_c i) pc = .ok (.dup2, 1))  (K : mxD p l e R s m args below meth c b sa cA dC dI i Qf c0 s0 (pc + 1) lv (.int x :: .ref y :: .int x :: .ref y :: r) w) : mxD p l e R s m args below meth c b sa cA dC dI i Qf c0 s0 pc lv (.int x :: .ref y :: r) w :=
  fun H locs cells slots ls h1 h2 h3 h4 h5 h6 => lv_dup2_11 C.1 C.2.1 hd rfl rfl (K H locs cells slots ls h1 h2 h3 h4 h5 h6)
theorem md_iload_n (C : mxF p R s m args meth c b sa cA dC dI i) {j : Fin 4} {x : Int32} (hd : decode (mxi_c i) pc = .ok (.iload_n j, 1)) (hg : mxg lv j.val = some (.int x)) (K : mxD p l e R s m args below meth c b sa cA dC dI i Qf c0 s0 (pc + 1) lv (.int x :: r) w) : mxD p l e R s m args below meth c b sa cA dC dI i Qf c0 s0 pc lv r w :=
  fun H locs cells slots ls h1 h2 h3 h4 h5 h6 => lv_iload_n C.1 C.2.1 hd rfl (mxg_has (v := .int x) h4 hg) (K H locs cells slots ls h1 h2 h3 h4 h5 h6)
theorem md_iload (C : mxF p R s m args meth c b sa cA dC dI i) {j : Nat} {x : Int32} (hd : decode (mxi_c i) pc = .ok (.iload j, 2)) (hg : mxg lv j = some (.int x)) (K : mxD p l e R s m args below meth c b sa cA dC dI i Qf c0 s0 (pc + 2) lv (.int x :: r) w) : mxD p l e R s m args below meth c b sa cA dC dI i Qf c0 s0 pc lv r w :=
  fun H locs cells slots ls h1 h2 h3 h4 h5 h6 => lv_iload C.1 C.2.1 hd (mxg_has (v := .int x) h4 hg) (K H locs cells slots ls h1 h2 h3 h4 h5 h6)
theorem md_lload_n (C : mxF p R s m args meth c b sa cA dC dI i) {j : Fin 4} {x : Int64} (hd : decode (mxi_c i) pc = .ok (.lload_n j, 1)) (hg : mxg lv j.val = some (.long x)) (K : mxD p l e R s m args below meth c b sa cA dC dI i Qf c0 s0 (pc + 1) lv (.long x :: r) w) : mxD p l e R s m args below meth c b sa cA dC dI i Qf c0 s0 pc lv r w :=
  fun H locs cells slots ls h1 h2 h3 h4 h5 h6 => lv_lload_n C.1 C.2.1 hd rfl (mxg_has (v := .long x) h4 hg) (K H locs cells slots ls h1 h2 h3 h4 h5 h6)
theorem md_lload (C : mxF p R s m args meth c b sa cA dC dI i) {j : Nat} {x : Int64} (hd : decode (mxi_c i) pc = .ok (.lload j, 2)) (hg : mxg lv j = some (.long x)) (K : mxD p l e R s m args below meth c b sa cA dC dI i Qf c0 s0 (pc + 2) lv (.long x :: r) w) : mxD p l e R s m args below meth c b sa cA dC dI i Qf c0 s0 pc lv r w :=
  fun H locs cells slots ls h1 h2 h3 h4 h5 h6 => lv_lload C.1 C.2.1 hd (mxg_has (v := .long x) h4 hg) (K H locs cells slots ls h1 h2 h3 h4 h5 h6)
theorem md_aload_n (C : mxF p R s m args meth c b sa cA dC dI i) {j : Fin 4} {x : Nat} (hd : decode (mxi_c i) pc = .ok (.aload_n j, 1)) (hg : mxg lv j.val = some (.ref x)) (K : mxD p l e R s m args below meth c b sa cA dC dI i Qf c0 s0 (pc + 1) lv (.ref x :: r) w) : mxD p l e R s m args below meth c b sa cA dC dI i Qf c0 s0 pc lv r w :=
  fun H locs cells slots ls h1 h2 h3 h4 h5 h6 => lv_aload_n C.1 C.2.1 hd rfl (mxg_has (v := .ref x) h4 hg) (K H locs cells slots ls h1 h2 h3 h4 h5 h6)
theorem md_aload_nS (C : mxF p R s m args meth c b sa cA dC dI i) {j : Fin 4} {x : Nat} (hd : decode (mxi_c i) pc = .ok (.aload_n j, 1)) (hg : mxg lv j.val = some (.retAddr x)) (K : mxD p l e R s m args below meth c b sa cA dC dI i Qf c0 s0 (pc + 1) lv (.retAddr x :: r) w) : mxD p l e R s m args below meth c b sa cA dC dI i Qf c0 s0 pc lv r w :=
  fun H locs cells slots ls h1 h2 h3 h4 h5 h6 => lv_aload_n C.1 C.2.1 hd rfl (mxg_has (v := .retAddr x) h4 hg) (K H locs cells slots ls h1 h2 h3 h4 h5 h6)
theorem md_aload (C : mxF p R s m args meth c b sa cA dC dI i) {j : Nat} {x : Nat} (hd : decode (mxi_c i) pc = .ok (.aload j, 2)) (hg : mxg lv j = some (.ref x)) (K : mxD p l e R s m args below meth c b sa cA dC dI i Qf c0 s0 (pc + 2) lv (.ref x :: r) w) : mxD p l e R s m args below meth c b sa cA dC dI i Qf c0 s0 pc lv r w :=
  fun H locs cells slots ls h1 h2 h3 h4 h5 h6 => lv_aload C.1 C.2.1 hd (mxg_has (v := .ref x) h4 hg) (K H locs cells slots ls h1 h2 h3 h4 h5 h6)
theorem md_aloadS (C : mxF p R s m args meth c b sa cA dC dI i) {j : Nat} {x : Nat} (hd : decode (mxi_c i) pc = .ok (.aload j, 2)) (hg : mxg lv j = some (.retAddr x)) (K : mxD p l e R s m args below meth c b sa cA dC dI i Qf c0 s0 (pc + 2) lv (.retAddr x :: r) w) : mxD p l e R s m args below meth c b sa cA dC dI i Qf c0 s0 pc lv r w :=
  fun H locs cells slots ls h1 h2 h3 h4 h5 h6 => lv_aload C.1 C.2.1 hd (mxg_has (v := .retAddr x) h4 hg) (K H locs cells slots ls h1 h2 h3 h4 h5 h6)
theorem md_istore_n (C : mxF p R s m args meth c b sa cA dC dI i) {j : Fin 4} {x : Int32} (hd : decode (mxi_c i) pc = .ok (.istore_n j, 1)) (hn : j.val < mxi_L i) (K : mxD p l e R s m args below meth c b sa cA dC dI i Qf c0 s0 (pc + 1) (mxs1 lv j.val (.int x)) r w) : mxD p l e R s m args below meth c b sa cA dC dI i Qf c0 s0 pc lv (.int x :: r) w :=
  fun H locs cells slots ls h1 h2 h3 h4 h5 h6 => lv_istore_n C.1 C.2.1 hd rfl h4 hn rfl (fun ls' h4' => K H locs cells slots ls' h1 h2 h3 (mxs1_has (v := .int x) h4') h5 h6)
theorem md_istore (C : mxF p R s m args meth c b sa cA dC dI i) {j : Nat} {x : Int32} (hd : decode (mxi_c i) pc = .ok (.istore j, 2)) (hn : j < mxi_L i) (K : mxD p l e R s m args below meth c b sa cA dC dI i Qf c0 s0 (pc + 2) (mxs1 lv j (.int x)) r w) : mxD p l e R s m args below meth c b sa cA dC dI i Qf c0 s0 pc lv (.int x :: r) w :=
  fun H locs cells slots ls h1 h2 h3 h4 h5 h6 => lv_istore C.1 C.2.1 hd h4 hn rfl (fun ls' h4' => K H locs cells slots ls' h1 h2 h3 (mxs1_has (v := .int x) h4') h5 h6)
theorem md_lstore_n (C : mxF p R s m args meth c b sa cA dC dI i) {j : Fin 4} {x : Int64} (hd : decode (mxi_c i) pc = .ok (.lstore_n j, 1)) (hn : j.val + 1 < mxi_L i) (K : mxD p l e R s m args below meth c b sa cA dC dI i Qf c0 s0 (pc + 1) (mxs2 lv j.val (.long x)) r w) : mxD p l e R s m args below meth c b sa cA dC dI i Qf c0 s0 pc lv (.long x :: r) w :=
  fun H locs cells slots ls h1 h2 h3 h4 h5 h6 => lv_lstore_n C.1 C.2.1 hd rfl h4 hn rfl (fun ls' h4' => K H locs cells slots ls' h1 h2 h3 (mxs2_has (v := .long x) h4') h5 h6)
theorem md_lstore (C : mxF p R s m args meth c b sa cA dC dI i) {j : Nat} {x : Int64} (hd : decode (mxi_c i) pc = .ok (.lstore j, 2)) (hn : j + 1 < mxi_L i) (K : mxD p l e R s m args below meth c b sa cA dC dI i Qf c0 s0 (pc + 2) (mxs2 lv j (.long x)) r w) : mxD p l e R s m args below meth c b sa cA dC dI i Qf c0 s0 pc lv (.long x :: r) w :=
  fun H locs cells slots ls h1 h2 h3 h4 h5 h6 => lv_lstore C.1 C.2.1 hd h4 hn rfl (fun ls' h4' => K H locs cells slots ls' h1 h2 h3 (mxs2_has (v := .long x) h4') h5 h6)
theorem md_astore_n (C : mxF p R s m args meth c b sa cA dC dI i) {j : Fin 4} {x : Nat} (hd : decode (mxi_c i) pc = .ok (.astore_n j, 1)) (hn : j.val < mxi_L i) (K : mxD p l e R s m args below meth c b sa cA dC dI i Qf c0 s0 (pc + 1) (mxs1 lv j.val (.ref x)) r w) : mxD p l e R s m args below meth c b sa cA dC dI i Qf c0 s0 pc lv (.ref x :: r) w :=
  fun H locs cells slots ls h1 h2 h3 h4 h5 h6 => lv_astore_n C.1 C.2.1 hd rfl h4 hn rfl (fun ls' h4' => K H locs cells slots ls' h1 h2 h3 (mxs1_has (v := .ref x) h4') h5 h6)
theorem md_astore_nS (C : mxF p R s m args meth c b sa cA dC dI i) {j : Fin 4} {x : Nat} (hd : decode (mxi_c i) pc = .ok (.astore_n j, 1)) (hn : j.val < mxi_L i) (K : mxD p l e R s m args below meth c b sa cA dC dI i Qf c0 s0 (pc + 1) (mxs1 lv j.val (.retAddr x)) r w) : mxD p l e R s m args below meth c b sa cA dC dI i Qf c0 s0 pc lv (.retAddr x :: r) w :=
  fun H locs cells slots ls h1 h2 h3 h4 h5 h6 => lv_astore_n C.1 C.2.1 hd rfl h4 hn rfl (fun ls' h4' => K H locs cells slots ls' h1 h2 h3 (mxs1_has (v := .retAddr x) h4') h5 h6)
theorem md_astore (C : mxF p R s m args meth c b sa cA dC dI i) {j : Nat} {x : Nat} (hd : decode (mxi_c i) pc = .ok (.astore j, 2)) (hn : j < mxi_L i) (K : mxD p l e R s m args below meth c b sa cA dC dI i Qf c0 s0 (pc + 2) (mxs1 lv j (.ref x)) r w) : mxD p l e R s m args below meth c b sa cA dC dI i Qf c0 s0 pc lv (.ref x :: r) w :=
  fun H locs cells slots ls h1 h2 h3 h4 h5 h6 => lv_astore C.1 C.2.1 hd h4 hn rfl (fun ls' h4' => K H locs cells slots ls' h1 h2 h3 (mxs1_has (v := .ref x) h4') h5 h6)
theorem md_astoreS (C : mxF p R s m args meth c b sa cA dC dI i) {j : Nat} {x : Nat} (hd : decode (mxi_c i) pc = .ok (.astore j, 2)) (hn : j < mxi_L i) (K : mxD p l e R s m args below meth c b sa cA dC dI i Qf c0 s0 (pc + 2) (mxs1 lv j (.retAddr x)) r w) : mxD p l e R s m args below meth c b sa cA dC dI i Qf c0 s0 pc lv (.retAddr x :: r) w :=
  fun H locs cells slots ls h1 h2 h3 h4 h5 h6 => lv_astore C.1 C.2.1 hd h4 hn rfl (fun ls' h4' => K H locs cells slots ls' h1 h2 h3 (mxs1_has (v := .retAddr x) h4') h5 h6)
theorem md_iinc (C : mxF p R s m args meth c b sa cA dC dI i) {j : Nat} {n : Int} {x : Int32} (hd : decode (mxi_c i) pc = .ok (.iinc j n, 3)) (hg : mxg lv j = some (.int x)) (hn : j < mxi_L i) (K : mxD p l e R s m args below meth c b sa cA dC dI i Qf c0 s0 (pc + 3) (mxs1 lv j (.int (x + Int32.ofInt n))) r w) : mxD p l e R s m args below meth c b sa cA dC dI i Qf c0 s0 pc lv r w := by
  intro H locs cells slots ls h1 h2 h3 h4 h5 h6
  obtain ⟨k, hk⟩ := mxg_at (b := b) (sa := sa) (v := .int x) hg
  exact lv_iinc C.1 C.2.1 hd h4 (k := k) hk rfl hn rfl (fun ls' h4' => K H locs cells slots ls' h1 h2 h3 (mxs1_has (v := .int (x + Int32.ofInt n)) h4') h5 h6)
theorem md_ifCond (C : mxF p R s m args meth c b sa cA dC dI i) {cd : ClassFile.Cond} {off : Int} {t : Nat} {x : Int32} (hd : decode (mxi_c i) pc = .ok (.ifCond cd off, 3)) (ht : (pc : Int) + off = (t : Int)) (K1 : Op.ifCond.holds cd x = true → mxD p l e R s m args below meth c b sa cA dC dI i Qf c0 s0 t lv r w) (K2 : Op.ifCond.holds cd x = false → mxD p l e R s m args below meth c b sa cA dC dI i Qf c0 s0 (pc + 3) lv r w) : mxD p l e R s m args below meth c b sa cA dC dI i Qf c0 s0 pc lv (.int x :: r) w := by
  intro H locs cells slots ls h1 h2 h3 h4 h5 h6
  cases cd
  · exact lv_if_eq (tgt := t) C.1 C.2.1 hd ht (fun q => K1 (by simpa [Op.ifCond.holds] using q) H locs cells slots ls h1 h2 h3 h4 h5 h6) (fun q => K2 (by simpa [Op.ifCond.holds] using q) H locs cells slots ls h1 h2 h3 h4 h5 h6)
  · exact lv_if_ne (tgt := t) C.1 C.2.1 hd ht (fun q => K1 (by simpa [Op.ifCond.holds] using q) H locs cells slots ls h1 h2 h3 h4 h5 h6) (fun q => K2 (by simpa [Op.ifCond.holds] using q) H locs cells slots ls h1 h2 h3 h4 h5 h6)
  · exact lv_if_lt (tgt := t) C.1 C.2.1 hd ht (fun q => K1 (by simpa [Op.ifCond.holds] using q) H locs cells slots ls h1 h2 h3 h4 h5 h6) (fun q => K2 (by simpa [Op.ifCond.holds] using q) H locs cells slots ls h1 h2 h3 h4 h5 h6)
  · exact lv_if_ge (tgt := t) C.1 C.2.1 hd ht (fun q => K1 (by simpa [Op.ifCond.holds] using q) H locs cells slots ls h1 h2 h3 h4 h5 h6) (fun q => K2 (by simpa [Op.ifCond.holds] using q) H locs cells slots ls h1 h2 h3 h4 h5 h6)
  · exact lv_if_gt (tgt := t) C.1 C.2.1 hd ht (fun q => K1 (by simpa [Op.ifCond.holds] using q) H locs cells slots ls h1 h2 h3 h4 h5 h6) (fun q => K2 (by simpa [Op.ifCond.holds] using q) H locs cells slots ls h1 h2 h3 h4 h5 h6)
  · exact lv_if_le (tgt := t) C.1 C.2.1 hd ht (fun q => K1 (by simpa [Op.ifCond.holds] using q) H locs cells slots ls h1 h2 h3 h4 h5 h6) (fun q => K2 (by simpa [Op.ifCond.holds] using q) H locs cells slots ls h1 h2 h3 h4 h5 h6)
theorem md_icmp (C : mxF p R s m args meth c b sa cA dC dI i) {cd : ClassFile.Cond} {off : Int} {t : Nat} {x y : Int32} (hd : decode (mxi_c i) pc = .ok (.if_icmp cd off, 3)) (ht : (pc : Int) + off = (t : Int)) (K1 : Op.if_icmp.holds cd x y = true → mxD p l e R s m args below meth c b sa cA dC dI i Qf c0 s0 t lv r w) (K2 : Op.if_icmp.holds cd x y = false → mxD p l e R s m args below meth c b sa cA dC dI i Qf c0 s0 (pc + 3) lv r w) : mxD p l e R s m args below meth c b sa cA dC dI i Qf c0 s0 pc lv (.int y :: .int x :: r) w := by
  intro H locs cells slots ls h1 h2 h3 h4 h5 h6
  cases cd
  · exact lv_icmp_eq (tgt := t) C.1 C.2.1 hd ht (fun q => K1 (by simpa [Op.if_icmp.holds] using q) H locs cells slots ls h1 h2 h3 h4 h5 h6) (fun q => K2 (by simpa [Op.if_icmp.holds] using q) H locs cells slots ls h1 h2 h3 h4 h5 h6)
  · exact lv_icmp_ne (tgt := t) C.1 C.2.1 hd ht (fun q => K1 (by simpa [Op.if_icmp.holds] using q) H locs cells slots ls h1 h2 h3 h4 h5 h6) (fun q => K2 (by simpa [Op.if_icmp.holds] using q) H locs cells slots ls h1 h2 h3 h4 h5 h6)
  · exact lv_icmp_lt (tgt := t) C.1 C.2.1 hd ht (fun q => K1 (by simpa [Op.if_icmp.holds] using q) H locs cells slots ls h1 h2 h3 h4 h5 h6) (fun q => K2 (by simpa [Op.if_icmp.holds] using q) H locs cells slots ls h1 h2 h3 h4 h5 h6)
  · exact lv_icmp_ge (tgt := t) C.1 C.2.1 hd ht (fun q => K1 (by simpa [Op.if_icmp.holds] using q) H locs cells slots ls h1 h2 h3 h4 h5 h6) (fun q => K2 (by simpa [Op.if_icmp.holds] using q) H locs cells slots ls h1 h2 h3 h4 h5 h6)
  · exact lv_icmp_gt (tgt := t) C.1 C.2.1 hd ht (fun q => K1 (by simpa [Op.if_icmp.holds] using q) H locs cells slots ls h1 h2 h3 h4 h5 h6) (fun q => K2 (by simpa [Op.if_icmp.holds] using q) H locs cells slots ls h1 h2 h3 h4 h5 h6)
  · exact lv_icmp_le (tgt := t) C.1 C.2.1 hd ht (fun q => K1 (by simpa [Op.if_icmp.holds] using q) H locs cells slots ls h1 h2 h3 h4 h5 h6) (fun q => K2 (by simpa [Op.if_icmp.holds] using q) H locs cells slots ls h1 h2 h3 h4 h5 h6)
theorem md_nonnull (C : mxF p R s m args meth c b sa cA dC dI i) {off : Int} {t x : Nat} (hd : decode (mxi_c i) pc = .ok (.ifnonnull off, 3)) (ht : (pc : Int) + off = (t : Int)) (K : mxD p l e R s m args below meth c b sa cA dC dI i Qf c0 s0 t lv r w) : mxD p l e R s m args below meth c b sa cA dC dI i Qf c0 s0 pc lv (.ref x :: r) w :=
  fun H locs cells slots ls h1 h2 h3 h4 h5 h6 => lv_ifnonnull C.1 C.2.1 hd ht (K H locs cells slots ls h1 h2 h3 h4 h5 h6)
theorem md_nonnullN (C : mxF p R s m args meth c b sa cA dC dI i) {off : Int} (hd : decode (mxi_c i) pc = .ok (.ifnonnull off, 3)) (K : mxD p l e R s m args below meth c b sa cA dC dI i Qf c0 s0 (pc + 3) lv r w) : mxD p l e R s m args below meth c b sa cA dC dI i Qf c0 s0 pc lv (.null :: r) w :=
  fun H locs cells slots ls h1 h2 h3 h4 h5 h6 => lv_ifnonnullN C.1 C.2.1 hd (K H locs cells slots ls h1 h2 h3 h4 h5 h6)
theorem md_goto (C : mxF p R s m args meth c b sa cA dC dI i) {off : Int} {t : Nat} (hd : decode (mxi_c i) pc = .ok (.goto off, 3)) (ht : (pc : Int) + off = (t : Int)) (K : mxD p l e R s m args below meth c b sa cA dC dI i Qf c0 s0 t lv r w) : mxD p l e R s m args below meth c b sa cA dC dI i Qf c0 s0 pc lv r w :=
  fun H locs cells slots ls h1 h2 h3 h4 h5 h6 => lv_goto C.1 C.2.1 hd ht (K H locs cells slots ls h1 h2 h3 h4 h5 h6)
theorem md_tabOut (C : mxF p R s m args meth c b sa cA dC dI i) {dflt lo hi : Int} {offs : Array Int} {len t : Nat} {x : Int32} (hd : decode (mxi_c i) pc = .ok (.tableswitch dflt lo hi offs, len)) (h : x.toInt < lo ∨ hi < x.toInt) (ht : (pc : Int) + dflt = (t : Int)) (K : mxD p l e R s m args below meth c b sa cA dC dI i Qf c0 s0 t lv r w) : mxD p l e R s m args below meth c b sa cA dC dI i Qf c0 s0 pc lv (.int x :: r) w :=
  fun H locs cells slots ls h1 h2 h3 h4 h5 h6 => lv_tableOut C.1 C.2.1 hd h ht (K H locs cells slots ls h1 h2 h3 h4 h5 h6)
theorem md_tabIn (C : mxF p R s m args meth c b sa cA dC dI i) {dflt lo hi off : Int} {offs : Array Int} {len t : Nat} {x : Int32} (hd : decode (mxi_c i) pc = .ok (.tableswitch dflt lo hi offs, len)) (ha : ¬ x.toInt < lo) (hb : ¬ hi < x.toInt) (ho : offs[(x.toInt - lo).toNat]? = some off) (ht : (pc : Int) + off = (t : Int)) (K : mxD p l e R s m args below meth c b sa cA dC dI i Qf c0 s0 t lv r w) : mxD p l e R s m args below meth c b sa cA dC dI i Qf c0 s0 pc lv (.int x :: r) w :=
  fun H locs cells slots ls h1 h2 h3 h4 h5 h6 => lv_tableIn C.1 C.2.1 hd ha hb ho ht (K H locs cells slots ls h1 h2 h3 h4 h5 h6)
theorem md_lookup (C : mxF p R s m args meth c b sa cA dC dI i) {dflt : Int} {ps : Array (Int × Int)} {len t : Nat} {x : Int32} (hd : decode (mxi_c i) pc = .ok (.lookupswitch dflt ps, len)) (hp : (ps.toList.zip (ps.toList.drop 1)).all (fun (a, next) => a.1 < next.1) = true) (ht : (pc : Int) + Op.lookupswitch.offset ps.toList dflt x.toInt = (t : Int)) (K : mxD p l e R s m args below meth c b sa cA dC dI i Qf c0 s0 t lv r w) : mxD p l e R s m args below meth c b sa cA dC dI i Qf c0 s0 pc lv (.int x :: r) w :=
  fun H locs cells slots ls h1 h2 h3 h4 h5 h6 => lv_lookup C.1 C.2.1 hd hp rfl ht (K H locs cells slots ls h1 h2 h3 h4 h5 h6)
end MD
