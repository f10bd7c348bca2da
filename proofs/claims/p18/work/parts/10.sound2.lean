section MS
variable {p : Program} {l : Launch} {e : Env} {R : Room} {s : State} {m : MethodId} {args : Array Value} {below : List Frame} {meth : Method} {c : Code} {b : Nat} {sa : Nat → Nat} {cA : Nat → ClassId} {dC : Nat → ClassId} {dI : Nat → Nat → Nat} {i : mxi} {Qf : State → Prop} {c0 s0 : Nat} {pc : Nat} {lv : mxV} {st : List Value} {w : mxW}
def mxrt (op : Instr) : Bool := match op with
  | .ireturn => true
  | .lreturn => true
  | .areturn => true
  | .return_ => true
  | _ => false
set_option maxHeartbeats 1000000 in
set_option maxRecDepth 100000 in
theorem mx_S (C : mxF p R s m args meth c b sa cA dC dI i) {op : Instr} {len : Nat} {k : Nat → mxV → List Value → mxW → Option mxR} {call : Nat → List Value → mxW → Option mxR} {res : mxR} (hd : decode (mxi_c i) pc = .ok (op, len)) (hln : mxln op len = true) (hro : mxro i op = true) (h : mxS i pc op lv st w k call = some res) (hg : ∀ pc' lv' st' w', k pc' lv' st' w' = some res → mxgr w' res.2) (hcg : ∀ z vs w' q, call z vs w' = some q → mxgr w' q.2)
    (hk : ∀ pc' lv' st' w', k pc' lv' st' w' = some res → mxD p l e R s m args below meth c b sa cA dC dI i Qf c0 s0 pc' lv' st' w') (hcall : ∀ z zi vs w' q, mxms[z]? = some zi → call z vs w' = some q → mxM l b sa cA dC dI zi vs w' q.1 q.2) (hRc : res.2.1.length ≤ R.cells + c0) (hRs : mxsl res.2 ≤ R.slots + s0) (hret : mxrt op = true → mxD p l e R s m args below meth c b sa cA dC dI i Qf c0 s0 pc lv st w) :
    mxD p l e R s m args below meth c b sa cA dC dI i Qf c0 s0 pc lv st w := by
  cases op <;> simp only [mxS] at h <;> first
    | (cases h; done)
    | skip
  case iconst n =>
    simp only [mxln, beq_iff_eq] at hln
    subst hln
    exact md_iconst C hd (hk _ _ _ _ h)
  case bipush n =>
    simp only [mxln, beq_iff_eq] at hln
    subst hln
    exact md_bipush C hd (hk _ _ _ _ h)
  case sipush n =>
    simp only [mxln, beq_iff_eq] at hln
    subst hln
    exact md_sipush C hd (hk _ _ _ _ h)
  case lconst n =>
    simp only [mxln, beq_iff_eq] at hln
    subst hln
    exact md_lconst C hd (hk _ _ _ _ h)
  case aconst_null =>
    simp only [mxln, beq_iff_eq] at hln
    subst hln
    exact md_null C hd (hk _ _ _ _ h)
  case iadd =>
    simp only [mxln, beq_iff_eq] at hln
    subst hln
    split at h
    · exact md_iadd C hd (hk _ _ _ _ h)
    · cases h
  case isub =>
    simp only [mxln, beq_iff_eq] at hln
    subst hln
    split at h
    · exact md_isub C hd (hk _ _ _ _ h)
    · cases h
  case imul =>
    simp only [mxln, beq_iff_eq] at hln
    subst hln
    split at h
    · exact md_imul C hd (hk _ _ _ _ h)
    · cases h
  case iand =>
    simp only [mxln, beq_iff_eq] at hln
    subst hln
    split at h
    · exact md_iand C hd (hk _ _ _ _ h)
    · cases h
  case ior =>
    simp only [mxln, beq_iff_eq] at hln
    subst hln
    split at h
    · exact md_ior C hd (hk _ _ _ _ h)
    · cases h
  case ishl =>
    simp only [mxln, beq_iff_eq] at hln
    subst hln
    split at h
    · exact md_ishl C hd (hk _ _ _ _ h)
    · cases h
  case ishr =>
    simp only [mxln, beq_iff_eq] at hln
    subst hln
    split at h
    · exact md_ishr C hd (hk _ _ _ _ h)
    · cases h
  case iushr =>
    simp only [mxln, beq_iff_eq] at hln
    subst hln
    split at h
    · exact md_iushr C hd (hk _ _ _ _ h)
    · cases h
  case ladd =>
    simp only [mxln, beq_iff_eq] at hln
    subst hln
    split at h
    · exact md_ladd C hd (hk _ _ _ _ h)
    · cases h
  case lmul =>
    simp only [mxln, beq_iff_eq] at hln
    subst hln
    split at h
    · exact md_lmul C hd (hk _ _ _ _ h)
    · cases h
  case land =>
    simp only [mxln, beq_iff_eq] at hln
    subst hln
    split at h
    · exact md_land C hd (hk _ _ _ _ h)
    · cases h
  case lor =>
    simp only [mxln, beq_iff_eq] at hln
    subst hln
    split at h
    · exact md_lor C hd (hk _ _ _ _ h)
    · cases h
  case lxor =>
    simp only [mxln, beq_iff_eq] at hln
    subst hln
    split at h
    · exact md_lxor C hd (hk _ _ _ _ h)
    · cases h
  case lshl =>
    simp only [mxln, beq_iff_eq] at hln
    subst hln
    split at h
    · exact md_lshl C hd (hk _ _ _ _ h)
    · cases h
  case lshr =>
    simp only [mxln, beq_iff_eq] at hln
    subst hln
    split at h
    · exact md_lshr C hd (hk _ _ _ _ h)
    · cases h
  case lushr =>
    simp only [mxln, beq_iff_eq] at hln
    subst hln
    split at h
    · exact md_lushr C hd (hk _ _ _ _ h)
    · cases h
  case lcmp =>
    simp only [mxln, beq_iff_eq] at hln
    subst hln
    split at h
    · exact md_lcmp C hd (hk _ _ _ _ h)
    · cases h
  case i2l =>
    simp only [mxln, beq_iff_eq] at hln
    subst hln
    split at h
    · exact md_i2l C hd (hk _ _ _ _ h)
    · cases h
  case l2i =>
    simp only [mxln, beq_iff_eq] at hln
    subst hln
    split at h
    · exact md_l2i C hd (hk _ _ _ _ h)
    · cases h
  case i2c =>
    simp only [mxln, beq_iff_eq] at hln
    subst hln
    split at h
    · exact md_i2c C hd (hk _ _ _ _ h)
    · cases h
  case i2b =>
    simp only [mxln, beq_iff_eq] at hln
    subst hln
    split at h
    · exact md_i2b C hd (hk _ _ _ _ h)
    · cases h
  case pop =>
    simp only [mxln, beq_iff_eq] at hln
    subst hln
    split at h
    · exact md_pop C hd (hk _ _ _ _ h)
    · cases h
  case dup2 =>
    simp only [mxln, beq_iff_eq] at hln
    subst hln
    split at h
    · exact md_dup2 C hd (hk _ _ _ _ h)
    · cases h
  case idiv =>
    simp only [mxln, beq_iff_eq] at hln
    subst hln
    split at h
    · obtain ⟨hb, h⟩ := mx_nc h
      exact md_idiv C hd (by simpa using hb) (hk _ _ _ _ h)
    · cases h
  case irem =>
    simp only [mxln, beq_iff_eq] at hln
    subst hln
    split at h
    · obtain ⟨hb, h⟩ := mx_nc h
      exact md_irem C hd (by simpa using hb) (hk _ _ _ _ h)
    · cases h
  case ldiv =>
    simp only [mxln, beq_iff_eq] at hln
    subst hln
    split at h
    · obtain ⟨hb, h⟩ := mx_nc h
      exact md_ldiv C hd (by simpa using hb) (hk _ _ _ _ h)
    · cases h
  case lrem =>
    simp only [mxln, beq_iff_eq] at hln
    subst hln
    split at h
    · obtain ⟨hb, h⟩ := mx_nc h
      exact md_lrem C hd (by simpa using hb) (hk _ _ _ _ h)
    · cases h
  case dup =>
    simp only [mxln, beq_iff_eq] at hln
    subst hln
    split at h
    · exact md_dupR C hd (hk _ _ _ _ h)
    · exact md_dupI C hd (hk _ _ _ _ h)
    · cases h
  case iload_n j =>
    simp only [mxln, beq_iff_eq] at hln
    subst hln
    split at h
    · rename_i x hg
      exact md_iload_n C hd hg (hk _ _ _ _ h)
    · cases h
  case iload j =>
    simp only [mxln, beq_iff_eq] at hln
    subst hln
    split at h
    · rename_i x hg
      exact md_iload C hd hg (hk _ _ _ _ h)
    · cases h
  case lload_n j =>
    simp only [mxln, beq_iff_eq] at hln
    subst hln
    split at h
    · rename_i x hg
      exact md_lload_n C hd hg (hk _ _ _ _ h)
    · cases h
  case lload j =>
    simp only [mxln, beq_iff_eq] at hln
    subst hln
    split at h
    · rename_i x hg
      exact md_lload C hd hg (hk _ _ _ _ h)
    · cases h
  case aload_n j =>
    simp only [mxln, beq_iff_eq] at hln
    subst hln
    split at h
    · rename_i x hg
      exact md_aload_n C hd hg (hk _ _ _ _ h)
    · rename_i x hg
      exact md_aload_nS C hd hg (hk _ _ _ _ h)
    · cases h
  case aload j =>
    simp only [mxln, beq_iff_eq] at hln
    subst hln
    split at h
    · rename_i x hg
      exact md_aload C hd hg (hk _ _ _ _ h)
    · rename_i x hg
      exact md_aloadS C hd hg (hk _ _ _ _ h)
    · cases h
  case istore_n j =>
    simp only [mxln, beq_iff_eq] at hln
    subst hln
    split at h
    · obtain ⟨hb, h⟩ := mx_cn h
      exact md_istore_n C hd (Nat.blt_eq.mp hb) (hk _ _ _ _ h)
    · cases h
  case istore j =>
    simp only [mxln, beq_iff_eq] at hln
    subst hln
    split at h
    · obtain ⟨hb, h⟩ := mx_cn h
      exact md_istore C hd (Nat.blt_eq.mp hb) (hk _ _ _ _ h)
    · cases h
  case lstore_n j =>
    simp only [mxln, beq_iff_eq] at hln
    subst hln
    split at h
    · obtain ⟨hb, h⟩ := mx_cn h
      exact md_lstore_n C hd (Nat.blt_eq.mp hb) (hk _ _ _ _ h)
    · cases h
  case lstore j =>
    simp only [mxln, beq_iff_eq] at hln
    subst hln
    split at h
    · obtain ⟨hb, h⟩ := mx_cn h
      exact md_lstore C hd (Nat.blt_eq.mp hb) (hk _ _ _ _ h)
    · cases h
  case astore_n j =>
    simp only [mxln, beq_iff_eq] at hln
    subst hln
    split at h
    · obtain ⟨hb, h⟩ := mx_cn h
      exact md_astore_n C hd (Nat.blt_eq.mp hb) (hk _ _ _ _ h)
    · obtain ⟨hb, h⟩ := mx_cn h
      exact md_astore_nS C hd (Nat.blt_eq.mp hb) (hk _ _ _ _ h)
    · cases h
  case astore j =>
    simp only [mxln, beq_iff_eq] at hln
    subst hln
    split at h
    · obtain ⟨hb, h⟩ := mx_cn h
      exact md_astore C hd (Nat.blt_eq.mp hb) (hk _ _ _ _ h)
    · obtain ⟨hb, h⟩ := mx_cn h
      exact md_astoreS C hd (Nat.blt_eq.mp hb) (hk _ _ _ _ h)
    · cases h
  case iinc j n =>
    simp only [mxln, beq_iff_eq] at hln
    subst hln
    split at h
    · rename_i x hg
      obtain ⟨hb, h⟩ := mx_cn h
      exact md_iinc C hd hg (Nat.blt_eq.mp hb) (hk _ _ _ _ h)
    · cases h
  case ifCond cd off =>
    simp only [mxln, beq_iff_eq] at hln
    subst hln
    split at h
    · obtain ⟨t, ht, h⟩ := mx_jn h
      exact md_ifCond C hd ht (fun q => hk _ _ _ _ (by rw [q] at h; exact h)) (fun q => hk _ _ _ _ (by rw [q] at h; exact h))
    · cases h
  case if_icmp cd off =>
    simp only [mxln, beq_iff_eq] at hln
    subst hln
    split at h
    · obtain ⟨t, ht, h⟩ := mx_jn h
      exact md_icmp C hd ht (fun q => hk _ _ _ _ (by rw [q] at h; exact h)) (fun q => hk _ _ _ _ (by rw [q] at h; exact h))
    · cases h
  case ifnonnull off =>
    simp only [mxln, beq_iff_eq] at hln
    subst hln
    split at h
    · obtain ⟨t, ht, h⟩ := mx_jn h
      exact md_nonnull C hd ht (hk _ _ _ _ h)
    · exact md_nonnullN C hd (hk _ _ _ _ h)
    · cases h
  case goto off =>
    simp only [mxln, beq_iff_eq] at hln
    subst hln
    obtain ⟨t, ht, h⟩ := mx_jn h
    exact md_goto C hd ht (hk _ _ _ _ h)
  case tableswitch dflt lo hi offs =>
    split at h
    · rcases mx_c2 h with ⟨hb, h⟩ | ⟨hb, h⟩
      · obtain ⟨t, ht, h⟩ := mx_jn h
        exact md_tabOut C hd (by simpa using hb) ht (hk _ _ _ _ h)
      · simp only [Bool.or_eq_false_iff, decide_eq_false_iff_not] at hb
        split at h
        · rename_i off ho
          obtain ⟨t, ht, h⟩ := mx_jn h
          exact md_tabIn C hd hb.1 hb.2 ho ht (hk _ _ _ _ h)
        · cases h
    · cases h
  case lookupswitch dflt ps =>
    split at h
    · obtain ⟨hb, h⟩ := mx_cn h
      obtain ⟨t, ht, h⟩ := mx_jn h
      exact md_lookup C hd hb ht (hk _ _ _ _ h)
    · cases h
  case ldc n =>
    simp only [mxln, beq_iff_eq] at hln
    subst hln
    split at h
    · rename_i v hv
      exact md_ldc C hd hv (hk _ _ _ _ h)
    · split at h
      · rename_i j hj
        exact md_ldcS C hd hj (hk _ _ _ _ h)
      · cases h
  case ldc_w n =>
    simp only [mxln, beq_iff_eq] at hln
    subst hln
    split at h
    · rename_i v hv
      exact md_ldcw C hd hv (hk _ _ _ _ h)
    · cases h
  case ldc2_w n =>
    simp only [mxln, beq_iff_eq] at hln
    subst hln
    split at h
    · rename_i v hv
      exact md_ldc2 C hd hv (hk _ _ _ _ h)
    · cases h
  case getstatic n =>
    simp only [mxln, beq_iff_eq] at hln
    subst hln
    split at h
    · rename_i j hj
      exact md_getstatic C hd hj (hk _ _ _ _ h)
    · split at h
      · rename_i v hv
        exact md_getsI C hd hv (hk _ _ _ _ h)
      · cases h
  case getfield n =>
    simp only [mxln, beq_iff_eq] at hln
    subst hln
    split at h
    · split at h
      · rename_i ci j hl
        split at h
        · rename_i t n0 hs
          obtain ⟨hb, h'⟩ := mx_cn h
          clear h
          obtain rfl : t = ci + 4 := by simpa using hb
          exact md_getfield C hd hl hs (hk _ _ _ _ h')
        · cases h
      · cases h
    · split at h
      · rename_i hq
        obtain ⟨hb, h⟩ := mx_cn h
        exact md_getS0 C hd hq hb (hk _ _ _ _ h)
      · rename_i hq
        obtain ⟨hb, h⟩ := mx_cn h
        exact md_getS1 C hd hq hb (hk _ _ _ _ h)
      · cases h
    · cases h
  case putfield n =>
    simp only [mxln, beq_iff_eq] at hln
    subst hln
    split at h
    · split at h
      · rename_i ci j hl
        split at h
        · rename_i t n0 hs
          obtain ⟨hb, h'⟩ := mx_cn h
          clear h
          simp only [Bool.and_eq_true, beq_iff_eq, Bool.or_eq_true, Bool.not_eq_true'] at hb
          obtain ⟨rfl, hfin⟩ := hb
          split at h'
          · rename_i ht
            exact md_putJ C hd hl hs hfin ht (hk _ _ _ _ h')
          · rename_i o x ht
            exact md_putR C hd hl hs hfin (Or.inl ⟨_, ht⟩) (Or.inl ⟨_, rfl⟩) (hk _ _ _ _ h')
          · rename_i o ht
            exact md_putR C hd hl hs hfin (Or.inl ⟨_, ht⟩) (Or.inr rfl) (hk _ _ _ _ h')
          · rename_i o x ht
            exact md_putR C hd hl hs hfin (Or.inr ⟨_, ht⟩) (Or.inl ⟨_, rfl⟩) (hk _ _ _ _ h')
          · rename_i x ht
            exact md_putI C hd hl hs hfin (Or.inl ht) (hk _ _ _ _ h')
          · rename_i x ht
            obtain ⟨hx, h'⟩ := mx_cn h'
            exact md_putI C hd hl hs hfin (Or.inr ⟨ht, hx⟩) (hk _ _ _ _ h')
          · cases h'
        · cases h
      · cases h
    · cases h
  case new n =>
    simp only [mxln, beq_iff_eq] at hln
    subst hln
    split at h
    · rename_i ci hl
      have q := hg _ _ _ _ h
      have q1 := q.1
      have q2 := q.2
      rw [mxlen_new] at q1
      rw [mxsl_new] at q2
      exact md_new C hd hl (by omega) (by omega) (hk _ _ _ _ h)
    · cases h
  case newarray t =>
    simp only [mxln, beq_iff_eq] at hln
    subst hln
    split at h
    · split at h
      · rename_i qq hq
        obtain ⟨hb, h⟩ := mx_cn h
        simp only [Bool.and_eq_true, Bool.not_eq_true', decide_eq_false_iff_not, Nat.ble_eq] at hb
        have q := hg _ _ _ _ h
        have q1 := q.1
        have q2 := q.2
        rw [mxlen_new] at q1
        rw [mxsl_new] at q2
        exact md_newarray C hd hq hb.1 hb.2 (by omega) (by omega) (hk _ _ _ _ h)
      · cases h
    · cases h
  case arraylength =>
    simp only [mxln, beq_iff_eq] at hln
    subst hln
    split at h
    · split at h
      · rename_i t n0 hs
        obtain ⟨hb, h⟩ := mx_cn h
        exact md_alen C hd hs (Nat.blt_eq.mp hb) (hk _ _ _ _ h)
      · cases h
    · split at h
      · rename_i n0 f hs
        exact md_alenS C hd hs (hk _ _ _ _ h)
      · split at h
        · rename_i t hs
          exact md_alenB C hd hs (hk _ _ _ _ h)
        · cases h
    · cases h
  case iaload =>
    simp only [mxln, beq_iff_eq] at hln
    subst hln
    split at h
    · split at h
      · rename_i n0 hs
        obtain ⟨hb, h⟩ := mx_cn h
        exact md_iald C hd hs (mxin_of hb) (hk _ _ _ _ h)
      · cases h
    · split at h
      · rename_i n0 f hs
        obtain ⟨hb, h⟩ := mx_cn h
        exact md_ialdS C hd hs (mxin_of hb) (hk _ _ _ _ h)
      · cases h
    · cases h
  case laload =>
    simp only [mxln, beq_iff_eq] at hln
    subst hln
    split at h
    · split at h
      · rename_i n0 hs
        obtain ⟨hb, h⟩ := mx_cn h
        exact md_lald C hd hs (mxin_of hb) (hk _ _ _ _ h)
      · cases h
    · cases h
  case iastore =>
    simp only [mxln, beq_iff_eq] at hln
    subst hln
    split at h
    · split at h
      · rename_i n0 hs
        obtain ⟨hb, h⟩ := mx_cn h
        exact md_iast C hd hs (mxin_of hb) (hk _ _ _ _ h)
      · cases h
    · cases h
  case lastore =>
    simp only [mxln, beq_iff_eq] at hln
    subst hln
    split at h
    · split at h
      · rename_i n0 hs
        obtain ⟨hb, h⟩ := mx_cn h
        exact md_last C hd hs (mxin_of hb) (hk _ _ _ _ h)
      · cases h
    · cases h
  case baload =>
    simp only [mxln, beq_iff_eq] at hln
    subst hln
    split at h
    · split at h
      · rename_i n0 hs
        obtain ⟨hb, h⟩ := mx_cn h
        exact md_bald C hd hs (mxin_of hb) (hk _ _ _ _ h)
      · rename_i n0 hs
        obtain ⟨hb, h⟩ := mx_cn h
        exact md_zald C hd hs (mxin_of hb) (hk _ _ _ _ h)
      · cases h
    · split at h
      · rename_i t hs
        obtain ⟨hb, h⟩ := mx_cn h
        exact md_baldS C hd hs (mxin_of hb) (hk _ _ _ _ h)
      · cases h
    · cases h
  case bastore =>
    simp only [mxln, beq_iff_eq] at hln
    subst hln
    split at h
    · split at h
      · rename_i n0 hs
        obtain ⟨hb, h⟩ := mx_cn h
        exact md_bast C hd hs (mxin_of hb) (hk _ _ _ _ h)
      · rename_i n0 hs
        obtain ⟨hb, h⟩ := mx_cn h
        exact md_zast C hd hs (mxin_of hb) (hk _ _ _ _ h)
      · cases h
    · cases h
  case invokestatic n =>
    simp only [mxln, beq_iff_eq] at hln
    subst hln
    split at h
    · rename_i z hl
      split at h
      · rename_i zi hz
        simp only [mxro, hl, hz, Bool.and_eq_true, Nat.ble_eq] at hro
        obtain ⟨hb, h⟩ := mx_cn h
        simp only [Bool.and_eq_true, Nat.ble_eq] at hb
        obtain ⟨q, hq, h⟩ := mx_bn h
        have g1 := hcg _ _ _ _ hq
        have g2 := hg _ _ _ _ h
        have hst : st = (st.take (mxi_a zi)).reverse.reverse ++ st.drop (mxi_a zi) := by rw [List.reverse_reverse, List.take_append_drop]
        rw [hst]
        refine md_static C hd hl hz hb.1.1 (by rw [List.length_reverse, List.length_take]; omega) hro hb.2 (hcall z zi _ _ _ hz hq) g1 (by have := g2.1; omega) (by have := g2.2; omega) ?_
        exact hk _ _ _ _ h
      · cases h
    · rename_i hl
      split at h
      · rename_i hm
        simp only [mxro, hl, hm, Bool.and_eq_true, Nat.ble_eq] at hro
        obtain ⟨hb, h⟩ := mx_cn h
        have g2 := hg _ _ _ _ h
        exact md_max C hd hm hro (Nat.ble_eq.mp hb) (by have := g2.1; omega) (by have := g2.2; omega) (hk _ _ _ _ h)
      · rename_i hm
        simp only [mxro, hl, hm, Bool.and_eq_true, Nat.ble_eq] at hro
        obtain ⟨hb, h⟩ := mx_cn h
        have g2 := hg _ _ _ _ h
        exact md_min C hd hm hro (Nat.ble_eq.mp hb) (by have := g2.1; omega) (by have := g2.2; omega) (hk _ _ _ _ h)
      · cases h
  case invokevirtual n =>
    simp only [mxln, beq_iff_eq] at hln
    subst hln
    split at h
    · rename_i z hl
      split at h
      · rename_i zi hz
        simp only [mxro, hl, hz, Bool.and_eq_true, Nat.ble_eq] at hro
        split at h
        · rename_i a r hdr
          split at h
          · rename_i t n0 hs
            obtain ⟨hb, h⟩ := mx_cn h
            simp only [Bool.and_eq_true, Nat.ble_eq, Nat.blt_eq, Bool.not_eq_true', beq_iff_eq] at hb
            obtain ⟨⟨⟨⟨b1, b2⟩, b3⟩, b4⟩, b5⟩ := hb
            obtain ⟨q, hq, h⟩ := mx_bn h
            have g1 := hcg _ _ _ _ hq
            have g2 := hg _ _ _ _ h
            have hst : st = (st.take (mxi_a zi)).reverse.reverse ++ .ref a :: r := by rw [List.reverse_reverse, ← hdr, List.take_append_drop]
            have hlen : (st.take (mxi_a zi)).reverse.length = mxi_a zi := by
              have := congrArg List.length hdr
              simp only [List.length_drop, List.length_cons] at this
              rw [List.length_reverse, List.length_take]
              omega
            rw [hst]
            refine md_virtual C hd hl hz b1 b2 hs b3 b5 hlen hro b4 (hcall z zi _ _ _ hz hq) g1 (by have := g2.1; omega) (by have := g2.2; omega) ?_
            exact hk _ _ _ _ h
          · cases h
        · rename_i j r hdr
          obtain ⟨hb, h⟩ := mx_cn h
          simp only [Bool.and_eq_true, Bool.not_eq_true'] at hb
          obtain ⟨⟨⟨⟨⟨b1, b2⟩, b3⟩, b4⟩, b5⟩, b6⟩ := hb
          obtain ⟨q, hq, h⟩ := mx_bn h
          have g1 := hcg _ _ _ _ hq
          have g2 := hg _ _ _ _ h
          have hst : st = (st.take (mxi_a zi)).reverse.reverse ++ .retAddr j :: r := by rw [List.reverse_reverse, ← hdr, List.take_append_drop]
          have hlen : (st.take (mxi_a zi)).reverse.length = mxi_a zi := by
            have := congrArg List.length hdr
            simp only [List.length_drop, List.length_cons] at this
            rw [List.length_reverse, List.length_take]
            omega
          rw [hst]
          refine md_virtS C hd hl hz b1 b2 (Nat.eq_of_beq_eq_true b3) (by rw [b4, b5]; rfl) hlen hro (Nat.ble_eq.mp b6) (hcall z zi _ _ _ hz hq) g1 (by have := g2.1; omega) (by have := g2.2; omega) ?_
          exact hk _ _ _ _ h
        · cases h
      · cases h
    · cases h
  case invokespecial n =>
    simp only [mxln, beq_iff_eq] at hln
    subst hln
    rcases mx_c2 h with ⟨hb, h⟩ | ⟨hb, h⟩
    · simp only [mxro, hb, if_true, Bool.and_eq_true, Nat.ble_eq] at hro
      split at h
      · exact md_objInit C hd (by simpa using hb) hro (hk _ _ _ _ h)
      · cases h
    · split at h
      · rename_i z hl
        split at h
        · obtain ⟨hb8, h⟩ := mx_cn h
          obtain ⟨q, hq, h⟩ := mx_bn h
          obtain ⟨zi, hz⟩ : ∃ zi, mxms[z]? = some zi := by
            rcases (mxne_spec hl).2 with ⟨-, hh⟩ | ⟨-, hh⟩ | ⟨-, hh⟩ <;> exact ⟨_, hh⟩
          simp only [mxro, hb, hl, hz, Bool.and_eq_true, Nat.ble_eq, Bool.false_eq_true, if_false] at hro
          have g1 := hcg _ _ _ _ hq
          have g2 := hg _ _ _ _ h
          exact md_nest C hd hl hz hro (Nat.ble_eq.mp hb8) (hcall z zi _ _ _ hz hq) g1 (by have := g2.1; omega) (by have := g2.2; omega) (hk _ _ _ _ h)
        · cases h
      · rename_i hl
        split at h
        · rename_i z hc
          split at h
          · rename_i zi hz
            split at h
            · obtain ⟨hb8, h⟩ := mx_cn h
              simp only [Bool.and_eq_true, Nat.beq_eq, Bool.not_eq_true', Option.isNone_iff_eq_none, Nat.ble_eq] at hb8
              obtain ⟨⟨⟨⟨x1, x2⟩, x3⟩, x4⟩, x5⟩ := hb8
              obtain ⟨q, hq, h⟩ := mx_bn h
              simp only [mxro, hb, hl, hc, hz, Bool.and_eq_true, Nat.ble_eq, Bool.false_eq_true, if_false] at hro
              have g1 := hcg _ _ _ _ hq
              have g2 := hg _ _ _ _ h
              exact md_init C hd hc hz x1 x2 x3 x4 hro x5 (hcall z zi _ _ _ hz hq) g1 (by have := g2.1; omega) (by have := g2.2; omega) (hk _ _ _ _ h)
            · cases h
          · cases h
        · cases h
  case ireturn => exact hret rfl
  case lreturn => exact hret rfl
  case areturn => exact hret rfl
  case return_ => exact hret rfl
theorem mx_ret (C : mxF p R s m args meth c b sa cA dC dI i) {op : Instr} {len : Nat} {k : Nat → mxV → List Value → mxW → Option mxR} {call : Nat → List Value → mxW → Option mxR} {res : mxR} (hd : decode (mxi_c i) pc = .ok (op, len)) (hln : mxln op len = true) (h : mxS i pc op lv st w k call = some res) (hRc : R.cells + c0 = res.2.1.length) (hRs : R.slots + s0 = mxsl res.2) (hop : mxrt op = true) : mxD p l e R s m args below meth c b sa cA dC dI i (MQ below (mxQc b sa cA dC dI res.1 res.2) args s R.cells R.slots (fun q => b ≤ q)) c0 s0 pc lv st w := by
  cases op <;> first
    | (cases hop; done)
    | simp only [mxS] at h
  case ireturn =>
    simp only [mxln, beq_iff_eq] at hln
    subst hln
    split at h
    · rename_i v ty hr
      obtain ⟨hb, h⟩ := mx_cn h
      cases h
      exact md_iret C hd hr hb hRc hRs
    · cases h
  case lreturn =>
    simp only [mxln, beq_iff_eq] at hln
    subst hln
    split at h
    · rename_i v hr
      cases h
      exact md_lret C hd hr hRc hRs
    · cases h
  case areturn =>
    simp only [mxln, beq_iff_eq] at hln
    subst hln
    split at h
    · rename_i v t hr
      cases h
      exact md_aret C hd hr hRc hRs
    · rename_i v t hr
      cases h
      exact md_aretS C hd hr hRc hRs
    · cases h
  case return_ =>
    simp only [mxln, beq_iff_eq] at hln
    subst hln
    split at h
    · rename_i hr
      cases h
      exact md_vret C hd hr hRc hRs
    · cases h
end MS
