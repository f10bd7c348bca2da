theorem mx_args (b : Nat) (sa : Nat → Nat) : ∀ (vs : List Value) (k : Nat), lv_args k (vs.map (mxv b sa)) = (lv_args k vs).map (mxc b sa)
  | [], _ => rfl
  | v :: t, k => by
    show (k, mxv b sa v) :: lv_args (if (mxv b sa v).category = 2 then k + 2 else k + 1) (t.map (mxv b sa)) = (k, mxv b sa v) :: (lv_args (if v.category = 2 then k + 2 else k + 1) t).map (mxc b sa)
    rw [mxv_cat, mx_args b sa t]
theorem mx_sl (b : Nat) (sa : Nat → Nat) : ∀ (vs : List Value), (lg_sl (vs.map (mxv b sa))).length = mxsum vs
  | [] => rfl
  | v :: t => by
    have ih := mx_sl b sa t
    unfold lg_sl at ih ⊢
    unfold mxsum at ih ⊢
    rw [List.map_cons, List.flatMap_cons, List.length_append, ih, List.map_cons, List.sum_cons, mxv_cat]
    congr 1
    rcases lv_cat v with h | h <;> rw [h] <;> rfl
/-- what a run of the abstract machine says of the walk -/
def mxDn (n : Nat) : Prop := ∀ (p : Program) (l : Launch) (e : Env) (R : Room) (s : State) (m : MethodId) (args : Array Value) (below : List Frame) (meth : Method) (c : Code) (b : Nat) (sa : Nat → Nat) (cA : Nat → ClassId) (dC : Nat → ClassId) (dI : Nat → Nat → Nat) (i : mxi) (c0 s0 y pc : Nat) (lv : mxV) (st : List Value) (w : mxW) (res : mxR), mxms[y]? = some i → mxF p R s m args meth c b sa cA dC dI i → mxev n y pc lv st w = some res → R.cells + c0 = res.2.1.length → R.slots + s0 = mxsl res.2 → mxD p l e R s m args below meth c b sa cA dC dI i (MQ below (mxQc b sa cA dC dI res.1 res.2) args s R.cells R.slots (fun q => b ≤ q)) c0 s0 pc lv st w
set_option maxRecDepth 100000 in
theorem mx_met_by (l : Launch) {z : Nat} {zi : mxi} {vs : List Value} {w : mxW} {q : mxR} (hz : mxms[z]? = some zi) (hL : mxsum vs ≤ mxi_L zi) (hgr : mxgr w q.2) (b : Nat) (sa : Nat → Nat) (cA : Nat → ClassId) (dC : Nat → ClassId) (dI : Nat → Nat → Nat) (D : ∀ (p : Program) (e : Env) (R : Room) (s : State) (m : MethodId) (args : Array Value) (below : List Frame) (meth : Method) (c : Code) (c0 s0 : Nat), mxF p R s m args meth c b sa cA dC dI zi → R.cells + c0 = q.2.1.length → R.slots + s0 = mxsl q.2 → mxD p l e R s m args below meth c b sa cA dC dI zi (MQ below (mxQc b sa cA dC dI q.1 q.2) args s R.cells R.slots (fun q => b ≤ q)) c0 s0 0 (lv_args 0 vs) [] w) : mxM l b sa cA dC dI zi vs w q.1 q.2 := by
  have hm := List.mem_of_getElem? hz
  obtain ⟨q1, q2, q3, q4, q5, q6⟩ := mx_nam hm
  unfold mxM
  refine Met.ofW (cc := mxi_c zi) (maxL := mxi_L zi) (ret := mxi_r zi) q2 rfl ?_
  intro p e s m args below meth c s₁ B hml hv
  obtain ⟨rfl, hsz, hP, hG⟩ := hv
  have hown : s.vm.findClass (mxi_n zi).cls = some m.cls := findClass_of_methodNamed B.named
  rw [q1] at hown
  have hF : mxF p (headSpec (mxws zi) { frames := mxi_f zi, cells := q.2.1.length - w.1.length, slots := mxsl q.2 - mxsl w, locals := mxi_l zi }).room s m (vs.map (mxv b sa)).toArray meth c b sa cA dC dI zi :=
    ⟨B.exec, B.bytes, B.returns, hml, hown, fun x hx => atoms_spec (ws := mxws zi) B.pre x (List.mem_cons_of_mem _ hx), B.notSynchronized, fun hI => (name_of_methodNamed B.named B.method).1.trans (q6 hI), hG, by omega, rfl, rfl⟩
  have hl := lv_entry (vs.map (mxv b sa)) (n := mxi_L zi) (by rw [mx_sl]; exact hL)
  rw [mx_args] at hl
  rw [lg_entry_eq]
  exact D p e _ s m _ below meth c w.1.length (mxsl w) hF (by show q.2.1.length - w.1.length + w.1.length = _; have := hgr.1; omega) (by show mxsl q.2 - mxsl w + mxsl w = _; have := hgr.2; omega) s.heap [] 0 0 _ hsz hP va_S.rf hl (by omega) (by omega)
theorem mx_met_of {n : Nat} (D : mxDn n) (l : Launch) {z : Nat} {zi : mxi} {vs : List Value} {w : mxW} {q : mxR} (hz : mxms[z]? = some zi) (hL : mxsum vs ≤ mxi_L zi) (h : mxev n z 0 (lv_args 0 vs) [] w = some q) (b : Nat) (sa : Nat → Nat) (cA : Nat → ClassId) (dC : Nat → ClassId) (dI : Nat → Nat → Nat) : mxM l b sa cA dC dI zi vs w q.1 q.2 :=
  mx_met_by l hz hL (mxev_grow h) b sa cA dC dI (fun p e R s m args below meth c c0 s0 hF h1 h2 => D p l e R s m args below meth c b sa cA dC dI zi c0 s0 z 0 (lv_args 0 vs) [] w q hz hF h h1 h2)
/-- Preconditions.checkIndex within its bounds -/
theorem mx_pci (l : Launch) {x z : Int32} {F : Value} {w : mxW} (hF : F = .null ∨ F = .retAddr 20) (h0 : ¬ x < 0) (h1 : x < z) (b : Nat) (sa : Nat → Nat) (cA : Nat → ClassId) (dC : Nat → ClassId) (dI : Nat → Nat → Nat) : mxM l b sa cA dC dI miJ3_checkIndex_8e157 [.int x, .int z, F] w (some (.int x)) w := by
  refine mx_met_by l (z := mxck + 2) (q := (some (.int x), w)) rfl (by rcases hF with rfl | rfl <;> exact Nat.le_of_ble_eq_true rfl) ⟨Nat.le_refl _, Nat.le_refl _⟩ b sa cA dC dI (fun p e R s m args below meth c c0 s0 C g1 g2 => ?_)
  have e : lv_args 0 [.int x, .int z, F] = [(0, .int x), (1, .int z), (2, F)] := rfl
  rw [e]
  have a0 : Op.ifCond.holds .lt x = false := by simp [Op.ifCond.holds]; exact Int32.not_lt.mp h0
  have a1 : Op.if_icmp.holds .lt x z = true := by simp [Op.if_icmp.holds]; exact h1
  refine md_iload_n (j := 0) C (by decide +kernel) rfl (md_ifCond (cd := .lt) (off := 8) (t := 9) C (by decide +kernel) rfl (fun q => by rw [a0] at q; cases q) (fun _ => ?_))
  refine md_iload_n (j := 0) C (by decide +kernel) rfl (md_iload_n (j := 1) C (by decide +kernel) rfl (md_icmp (cd := .lt) (off := 10) (t := 16) C (by decide +kernel) rfl (fun _ => ?_) (fun q => by rw [a1] at q; cases q)))
  exact md_iload_n (j := 0) C (by decide +kernel) rfl (md_iret C (by decide +kernel) rfl rfl g1 g2)
/-- String.checkIndex within its bounds -/
theorem mx_cki {p : Program} {l : Launch} {e : Env} {R : Room} {s : State} {m : MethodId} {args : Array Value} {below : List Frame} {meth : Method} {c : Code} {b : Nat} {sa : Nat → Nat} {cA : Nat → ClassId} {dC : Nat → ClassId} {dI : Nat → Nat → Nat} {c0 s0 : Nat} {w : mxW} {x z : Int32} (C : mxF p R s m args meth c b sa cA dC dI miJ0_checkIndex_df160) (h0 : ¬ x < 0) (h1 : x < z) (g1 : R.cells + c0 = w.1.length) (g2 : R.slots + s0 = mxsl w) : mxD p l e R s m args below meth c b sa cA dC dI miJ0_checkIndex_df160 (MQ below (mxQc b sa cA dC dI none w) args s R.cells R.slots (fun q => b ≤ q)) c0 s0 0 [(0, .int x), (1, .int z)] [] w := by
  have K : ∀ F : Value, (F = .null ∨ F = .retAddr 20) → mxD p l e R s m args below meth c b sa cA dC dI miJ0_checkIndex_df160 (MQ below (mxQc b sa cA dC dI none w) args s R.cells R.slots (fun q => b ≤ q)) c0 s0 5 [(0, .int x), (1, .int z)] [F, .int z, .int x] w := by
    intro F hF
    refine md_static (vs := [.int x, .int z, F]) (r := []) (z := mxck + 2) (zi := miJ3_checkIndex_8e157) (n := 1059) C (by decide +kernel) (by decide +kernel) rfl rfl rfl (by decide +kernel) (by decide) (mx_pci l hF h0 h1 b sa cA dC dI) ⟨Nat.le_refl _, Nat.le_refl _⟩ (by omega) (by omega) ?_
    exact md_pop (r := []) C (by decide +kernel) (md_vret C (by decide +kernel) rfl g1 g2)
  refine md_iload_n (j := 0) C (by decide +kernel) rfl (md_iload_n (j := 1) C (by decide +kernel) rfl ?_)
  intro H locs cells slots ls h1 h2 h3 h4 h5 h6
  rcases C.G.2.2.2.2.2.2 with q | q
  · exact va_gets C.x C.bb q h3 C.own (C.ts _ mk_fjq) (fun _ h => h) (by decide +kernel) (K .null (Or.inl rfl) H locs cells slots ls h1 h2 h3 h4 h5 h6)
  · exact va_gets C.x C.bb q h3 C.own (C.ts _ mk_fjq) (fun _ h => h) (by decide +kernel) (K (.retAddr 20) (Or.inr rfl) H locs cells slots ls h1 h2 h3 h4 h5 h6)
theorem mx_D : ∀ n, mxDn n := by
  intro n
  induction n with
  | zero =>
    intro p l e R s m args below meth c b sa cA dC dI i c0 s0 y pc lv st w res hy C h
    cases h
  | succ n ih =>
    intro p l e R s m args below meth c b sa cA dC dI i c0 s0 y pc lv st w res hy C h hRc hRs
    simp only [mxev] at h
    obtain ⟨hb, h⟩ | ⟨-, h⟩ := mx_c2 h
    · have hb := Nat.eq_of_beq_eq_true hb
      subst hb
      have hi : i = miJ0_checkIndex_df160 := Option.some.inj (hy.symm.trans rfl)
      subst hi
      obtain ⟨x, z, rfl, rfl, rfl, q0, q1, rfl⟩ := mxcki_sp h
      exact mx_cki C q0 q1 hRc hRs
    simp only [hy] at h
    split at h
    · cases h
    · rename_i op len hop
      have hm := List.mem_of_getElem? hy
      have hmt := mx_look hop
      have hdk := List.all_eq_true.mp (List.all_eq_true.mp mk_dec i hm) _ hmt
      have hro := List.all_eq_true.mp (List.all_eq_true.mp mk_room i hm) _ hmt
      simp only [Bool.and_eq_true, decide_eq_true_eq] at hdk
      refine mx_S C hdk.1 hdk.2 hro h (fun pc' lv' st' w' hk => mxev_grow hk) (fun z vs w' q hq => mxev_grow (mx_cn hq).2) (fun pc' lv' st' w' hk => ih p l e R s m args below meth c b sa cA dC dI i c0 s0 y pc' lv' st' w' res hy C hk hRc hRs) (fun z zi vs w' q hz hq => ?_) (Nat.le_of_eq hRc.symm) (Nat.le_of_eq hRs.symm) (mx_ret C hdk.1 hdk.2 h hRc hRs)
      obtain ⟨hb, hq⟩ := mx_cn hq
      rw [show mxlL z = mxi_L zi by unfold mxlL; rw [hz]] at hb
      exact mx_met_of ih l hz (Nat.ble_eq.mp hb) hq b sa cA dC dI
/-- THE CONTRACT of a method out of a run of the abstract machine -/
theorem mx_met (l : Launch) {n z : Nat} {zi : mxi} {vs : List Value} {w : mxW} {q : mxR} (hz : mxms[z]? = some zi) (hL : mxsum vs ≤ mxi_L zi) (h : mxev n z 0 (lv_args 0 vs) [] w = some q) (b : Nat) (sa : Nat → Nat) (cA : Nat → ClassId) (dC : Nat → ClassId) (dI : Nat → Nat → Nat) : mxM l b sa cA dC dI zi vs w q.1 q.2 := mx_met_of (mx_D n) l hz hL h b sa cA dC dI
