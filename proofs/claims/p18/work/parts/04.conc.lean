/-! what an abstract world is on the heap: cell k lies at b + k; static array j lies at sa j -/
def mxv (b : Nat) (sa : Nat → Nat) (v : Value) : Value := match v with
  | .ref k => .ref (b + k)
  | .retAddr j => .ref (sa j)
  | v => v
theorem mxv_cat (b : Nat) (sa : Nat → Nat) (v : Value) : (mxv b sa v).category = v.category := by cases v <;> rfl
def mxc (b : Nat) (sa : Nat → Nat) (q : Nat × Value) : Nat × Value := (q.1, mxv b sa q.2)
def mxE (b : Nat) (sa : Nat → Nat) (cA : Nat → ClassId) (w : mxW) (k : Nat) (sh : Nat × Nat) : va_E := match sh.1 with
  | 0 => .inl (cA 0, sh.2, .inl (w.2.1 k))
  | 1 => .inl (cA 1, sh.2, .inr (.inl (w.2.2.1 k)))
  | 2 => .inl (cA 2, sh.2, .inl (w.2.1 k))
  | 3 => .inl (cA 3, sh.2, .inl (w.2.1 k))
  | c + 4 => .inr (c, (List.range (mxnf c)).map (fun j => mxv b sa (mxgf w k c j)))
def mxP (b : Nat) (sa : Nat → Nat) (cA : Nat → ClassId) (w : mxW) : va_W := w.1.mapIdx (fun k sh => (b + k, mxE b sa cA w k sh))
theorem mxP_at {b : Nat} {sa : Nat → Nat} {cA : Nat → ClassId} {w : mxW} {k : Nat} : (mxP b sa cA w)[k]? = (w.1[k]?).map (fun sh => (b + k, mxE b sa cA w k sh)) := by
  unfold mxP
  rw [List.getElem?_mapIdx]
theorem mxP_some {b : Nat} {sa : Nat → Nat} {cA : Nat → ClassId} {w : mxW} {k : Nat} {sh : Nat × Nat} (h : w.1[k]? = some sh) : (mxP b sa cA w)[k]? = some (b + k, mxE b sa cA w k sh) := by
  rw [mxP_at, h]
  rfl
theorem mxP_len {b : Nat} {sa : Nat → Nat} {cA : Nat → ClassId} {w : mxW} : (mxP b sa cA w).length = w.1.length := by
  unfold mxP
  exact List.length_mapIdx
theorem mxP_D {b : Nat} {sa : Nat → Nat} {cA : Nat → ClassId} {w : mxW} : va_D (fun q => b ≤ q) (mxP b sa cA w) := by
  refine ⟨fun i j p q hi hj e => ?_, fun k q hk => ?_⟩
  · rw [mxP_at] at hi hj
    obtain ⟨x, -, rfl⟩ := Option.map_eq_some_iff.mp hi
    obtain ⟨y, -, rfl⟩ := Option.map_eq_some_iff.mp hj
    have e : b + i = b + j := e
    omega
  · rw [mxP_at] at hk
    obtain ⟨x, -, rfl⟩ := Option.map_eq_some_iff.mp hk
    exact Nat.le_add_right b k
theorem mxgf_congr {w w' : mxW} {a : Nat} (h1 : w'.2.1 a = w.2.1 a) (h2 : w'.2.2.1 a = w.2.2.1 a) (h3 : w'.2.2.2 a = w.2.2.2 a) (c j : Nat) : mxgf w' a c j = mxgf w a c j := by
  unfold mxgf
  rw [h1, h2, h3]
theorem mxE_congr {b : Nat} {sa : Nat → Nat} {cA : Nat → ClassId} {w w' : mxW} {a : Nat} (h1 : w'.2.1 a = w.2.1 a) (h2 : w'.2.2.1 a = w.2.2.1 a) (h3 : w'.2.2.2 a = w.2.2.2 a) (sh : Nat × Nat) : mxE b sa cA w' a sh = mxE b sa cA w a sh := by
  unfold mxE
  rw [h1, h2]
  split <;> first | rfl | (congr 3; funext j; rw [mxgf_congr h1 h2 h3])
theorem mxP_set {b : Nat} {sa : Nat → Nat} {cA : Nat → ClassId} {w w' : mxW} {k : Nat} {sh : Nat × Nat} (h : w.1[k]? = some sh) (h0 : w'.1 = w.1) (ho : ∀ a, a ≠ k → w'.2.1 a = w.2.1 a ∧ w'.2.2.1 a = w.2.2.1 a ∧ w'.2.2.2 a = w.2.2.2 a) : (mxP b sa cA w).set k (b + k, mxE b sa cA w' k sh) = mxP b sa cA w' := by
  have hl : k < (mxP b sa cA w).length := by rw [mxP_len]; exact (List.getElem?_eq_some_iff.mp h).1
  apply List.ext_getElem?
  intro a
  by_cases ha : a = k
  · subst ha
    rw [List.getElem?_set_self hl, mxP_at, h0, h]
    rfl
  · rw [List.getElem?_set_ne (Ne.symm ha), mxP_at, mxP_at, h0]
    obtain ⟨h1, h2, h3⟩ := ho a ha
    cases w.1[a]? with
    | none => rfl
    | some x => show some (b + a, mxE b sa cA w a x) = some (b + a, mxE b sa cA w' a x); rw [mxE_congr h1 h2 h3]
theorem mxP_push {b : Nat} {sa : Nat → Nat} {cA : Nat → ClassId} {w w' : mxW} {sh : Nat × Nat} (h0 : w'.1 = w.1 ++ [sh]) (ho : ∀ a, a ≠ w.1.length → w'.2.1 a = w.2.1 a ∧ w'.2.2.1 a = w.2.2.1 a ∧ w'.2.2.2 a = w.2.2.2 a) : mxP b sa cA w ++ [(b + w.1.length, mxE b sa cA w' w.1.length sh)] = mxP b sa cA w' := by
  apply List.ext_getElem?
  intro a
  rw [mxP_at, h0]
  rcases Nat.lt_trichotomy a w.1.length with ha | ha | ha
  · rw [List.getElem?_append_left (by rw [mxP_len]; exact ha), List.getElem?_append_left ha, mxP_at]
    obtain ⟨h1, h2, h3⟩ := ho a (by omega)
    cases w.1[a]? with
    | none => rfl
    | some x => show some (b + a, mxE b sa cA w a x) = some (b + a, mxE b sa cA w' a x); rw [mxE_congr h1 h2 h3]
  · subst ha
    rw [List.getElem?_append_right (by rw [mxP_len]; omega), List.getElem?_append_right (by omega), mxP_len]
    simp
  · rw [List.getElem?_append_right (by rw [mxP_len]; omega), List.getElem?_append_right (by omega), mxP_len]
    obtain ⟨d, hd⟩ : ∃ d, a - w.1.length = d + 1 := ⟨a - w.1.length - 1, by omega⟩
    rw [hd]
    rfl
theorem mxfs_set {f g : Nat → Value} {N j : Nat} {v : Value} (hj : g j = v) (ho : ∀ i, i ≠ j → g i = f i) : ((List.range N).map f).set j v = (List.range N).map g := by
  apply List.ext_getElem?
  intro a
  by_cases ha : a = j
  · subst ha
    by_cases hN : a < N
    · rw [List.getElem?_set_self (by rw [List.length_map, List.length_range]; exact hN), List.getElem?_map, List.getElem?_range hN]
      exact congrArg some hj.symm
    · rw [List.getElem?_eq_none (by rw [List.length_set, List.length_map, List.length_range]; omega), List.getElem?_eq_none (by rw [List.length_map, List.length_range]; omega)]
  · rw [List.getElem?_set_ne (Ne.symm ha), List.getElem?_map, List.getElem?_map]
    by_cases hN : a < N
    · rw [List.getElem?_range hN]
      show some _ = some _
      rw [ho a ha]
    · rw [List.getElem?_eq_none (by rw [List.length_range]; omega)]
      rfl
def mxsl (w : mxW) : Nat := (w.1.map (fun q => q.2)).sum
/-- the state's own facts: classes, private makers, static arrays -/
def mxG (b : Nat) (sa : Nat → Nat) (cA : Nat → ClassId) (dC : Nat → ClassId) (dI : Nat → Nat → Nat) (U : State) : Prop :=
  va_K (dC, dI) vwCl [(cA 0, .int), (cA 1, .long), (cA 2, .byte), (cA 3, .boolean)] U ∧
  (va_Nw (.methodLinkNest RX4 19 yX0_init RX4) U ∧ va_Nw (.methodLinkNest RX4 26 yX3_init RX4) U ∧ va_Nw (.methodLinkNest RX4 173 yX1_init RX4) U) ∧
  (va_Z RX1 "MOVES" "[I" (.ref (sa 0)) (fun q => b ≤ q) U U.heap ∧ va_Z RX1 "FLAW_LETTERS" "[I" (.ref (sa 1)) (fun q => b ≤ q) U U.heap ∧ va_T .int (sa 0) 8 (fun j => .int (mxmv j)) (fun q => b ≤ q) U U.heap ∧ va_T .int (sa 1) 3 (fun j => .int (mxfw j)) (fun q => b ≤ q) U U.heap) ∧
  (∀ o n j, (mxss o).lookup n = some j → vk_R (mxo o) n (mxtx j) (sa (3 + j)) U) ∧ vk_S 7 mxsL mxsB (fun j => sa (3 + j)) (fun j => sa (10 + j)) (fun q => b ≤ q) U U.heap ∧ va_Z RJ0 "COMPACT_STRINGS" "Z" (.int 1) (fun q => b ≤ q) U U.heap ∧
  (va_Z RJ3 "SIOOBE_FORMATTER" "Ljava/util/function/BiFunction;" .null (fun q => b ≤ q) U U.heap ∨ va_Z RJ3 "SIOOBE_FORMATTER" "Ljava/util/function/BiFunction;" (.ref (sa 20)) (fun q => b ≤ q) U U.heap)
theorem mxG.moved {b : Nat} {sa : Nat → Nat} {cA : Nat → ClassId} {dC : Nat → ClassId} {dI : Nat → Nat → Nat} {u U : State} (h : mxG b sa cA dC dI u) (hW : u.WarmedH U.vm) (hh : ∀ q, q < u.heap.size → ¬ b ≤ q → U.heap[q]? = u.heap[q]?) : mxG b sa cA dC dI U := by
  obtain ⟨h1, ⟨n1, n2, n3⟩, ⟨z1, z2, t1, t2⟩, r1, s1, z3, q1⟩ := h
  refine ⟨va_K.moved hW.alike h1, ⟨n1.warmM hW, n2.warmM hW, n3.warmM hW⟩, ⟨(z1.moved hW.alike).kept hh, (z2.moved hW.alike).kept hh, (t1.moved hW.alike).kept hh, (t2.moved hW.alike).kept hh⟩, fun o n j h => (r1 o n j h).warm hW, (s1.moved hW.alike).kept hh, (z3.moved hW.alike).kept hh, ?_⟩
  rcases q1 with q1 | q1
  · exact Or.inl ((q1.moved hW.alike).kept hh)
  · exact Or.inr ((q1.moved hW.alike).kept hh)
/-- what holds of the state where the world is w -/
def mxH (b : Nat) (sa : Nat → Nat) (cA : Nat → ClassId) (dC : Nat → ClassId) (dI : Nat → Nat → Nat) (w : mxW) (U : State) : Prop :=
  U.heap.size = b + w.1.length ∧ va_P (dC, dI) vwCl (mxP b sa cA w) U.heap ∧ mxG b sa cA dC dI U
/-- a method's end: the answer r, the world w' -/
def mxQc (b : Nat) (sa : Nat → Nat) (cA : Nat → ClassId) (dC : Nat → ClassId) (dI : Nat → Nat → Nat) (r : Option Value) (w' : mxW) : Array Value → State → Outcome → State → Prop := fun _ st oc t =>
  oc = .returned (r.map (mxv b sa)) ∧ mxH b sa cA dC dI w' t ∧ ∀ q, q < b → t.heap[q]? = st.heap[q]?
abbrev mxws (i : mxi) : List Cond := .code (mxi_n i) (mxi_c i) (mxi_L i) (mxi_r i) :: mxA
/-- a method's contract at arguments vs and a world w: it answers r, the world is w' then -/
def mxM (l : Launch) (b : Nat) (sa : Nat → Nat) (cA : Nat → ClassId) (dC : Nat → ClassId) (dI : Nat → Nat → Nat) (i : mxi) (vs : List Value) (w : mxW) (r : Option Value) (w' : mxW) : Prop :=
  Met l (mxi_n i) (mxws i) { frames := mxi_f i, cells := w'.1.length - w.1.length, slots := mxsl w' - mxsl w, locals := mxi_l i } (va_Pc (vs.map (mxv b sa)) (mxH b sa cA dC dI w)) (mxQc b sa cA dC dI r w') (w'.1.length - w.1.length) (mxsl w' - mxsl w) (fun q => b ≤ q)
/-- what holds in a method's frame -/
def mxF (p : Program) (R : Room) (s : State) (m : MethodId) (args : Array Value) (meth : Method) (c : Code) (b : Nat) (sa : Nat → Nat) (cA : Nat → ClassId) (dC : Nat → ClassId) (dI : Nat → Nat → Nat) (i : mxi) : Prop :=
  p.tables.exec = Jvm.exec ∧ c.code = mxi_c i ∧ meth.sig.returnType = mxi_r i ∧ c.maxLocals = mxi_L i ∧ s.vm.findClass (mxo (mxi_o i)) = some m.cls ∧ (∀ x ∈ mxA, x.before args s = true) ∧ meth.locks = false ∧ (mxi_I i = true → meth.name = "<init>") ∧ mxG b sa cA dC dI s ∧ b ≤ s.heap.size ∧ R.frames = mxi_f i ∧ R.locals = mxi_l i
/-- the walk from a place of the abstract machine -/
def mxD (p : Program) (l : Launch) (e : Env) (R : Room) (s : State) (m : MethodId) (args : Array Value) (below : List Frame) (meth : Method) (c : Code) (b : Nat) (sa : Nat → Nat) (cA : Nat → ClassId) (dC : Nat → ClassId) (dI : Nat → Nat → Nat) (i : mxi) (Qf : State → Prop) (c0 s0 : Nat) (pc : Nat) (lv : mxV) (st : List Value) (w : mxW) : Prop :=
  ∀ (H : Heap) (locs : List Loc) (cells slots : Nat) (ls : Array Slot), H.size = b + w.1.length → va_P (dC, dI) vwCl (mxP b sa cA w) H → va_S (fun q => b ≤ q) s.heap H locs → lv_has ls (mxi_L i) (lv.map (mxc b sa)) → cells + c0 = w.1.length → slots + s0 = mxsl w → W p l e R s m args below meth c H locs cells slots Qf (F0 m pc ls (st.map (mxv b sa)))
