/-! task: the letters are read in a loop; both sides read the same -/
def nibC (lg : Int64) (k : Int32) : Int32 := (lg.toUInt64 >>> ((Int32.ofInt 4 * k).toInt64.toUInt64 &&& Int64.toUInt64 63)).toInt64.toInt32 &&& (Int8.ofInt 15).toInt32
def nibM (lg : Int64) (k : Int32) : Int32 := (lg >>> ((Int32.ofInt 4 * k).toInt64 &&& 63) &&& 15).toInt32
theorem b15a : ∀ i : Fin 32, (15#32).getLsbD i.val = decide (i.val < 4) := by decide
theorem b15b : ∀ i : Fin 64, (15#64).getLsbD i.val = decide (i.val < 4) := by decide
theorem nib_bv (x : BitVec 64) (s : Nat) (hs : s ≤ 28) : (x >>> s).setWidth 32 &&& 15#32 = (x.sshiftRight s &&& 15#64).setWidth 32 := by
  refine BitVec.eq_of_getLsbD_eq (fun i hi => ?_)
  rw [BitVec.getLsbD_and, BitVec.getLsbD_setWidth, BitVec.getLsbD_setWidth, BitVec.getLsbD_and, BitVec.getLsbD_ushiftRight, b15a ⟨i, hi⟩, b15b ⟨i, by omega⟩]
  by_cases h4 : i < 4
  · rw [BitVec.getLsbD_sshiftRight]
    have h1 : s + i < 64 := by omega
    have h2 : ¬ 64 ≤ i := by omega
    simp [h1, h2, hi, h4]
  · simp [h4]
theorem nib_eq (lg : Int64) : ∀ k : Nat, k < 8 → nibM lg (Int32.ofInt k) = nibC lg (Int32.ofInt k) := by
  have c15 : (Int8.ofInt 15).toInt32 = 15 := by decide
  intro k hk
  match k, hk with
  | 0, _ =>
    have cs : ((Int32.ofInt 4 * Int32.ofInt ((0 : Nat) : Int)).toInt64.toUInt64 &&& Int64.toUInt64 63) = 0 := by decide
    have ct : ((Int32.ofInt 4 * Int32.ofInt ((0 : Nat) : Int)).toInt64 &&& 63) = (0 : Int64) := by decide
    unfold nibC nibM
    rw [c15, cs, ct]
    have e1 : ((lg.toUInt64 >>> (0 : UInt64)).toInt64.toInt32 &&& 15).toBitVec = (lg.toBitVec >>> 0).signExtend 32 &&& 15#32 := rfl
    have e2 : (lg >>> (0 : Int64) &&& 15).toInt32.toBitVec = (lg.toBitVec.sshiftRight 0 &&& 15#64).signExtend 32 := rfl
    refine Int32.toBitVec.inj ?_
    rw [e1, e2, BitVec.signExtend_eq_setWidth_of_le _ (by decide), BitVec.signExtend_eq_setWidth_of_le _ (by decide)]
    exact (nib_bv lg.toBitVec 0 (by decide)).symm
  | 1, _ =>
    have cs : ((Int32.ofInt 4 * Int32.ofInt ((1 : Nat) : Int)).toInt64.toUInt64 &&& Int64.toUInt64 63) = 4 := by decide
    have ct : ((Int32.ofInt 4 * Int32.ofInt ((1 : Nat) : Int)).toInt64 &&& 63) = (4 : Int64) := by decide
    unfold nibC nibM
    rw [c15, cs, ct]
    have e1 : ((lg.toUInt64 >>> (4 : UInt64)).toInt64.toInt32 &&& 15).toBitVec = (lg.toBitVec >>> 4).signExtend 32 &&& 15#32 := rfl
    have e2 : (lg >>> (4 : Int64) &&& 15).toInt32.toBitVec = (lg.toBitVec.sshiftRight 4 &&& 15#64).signExtend 32 := rfl
    refine Int32.toBitVec.inj ?_
    rw [e1, e2, BitVec.signExtend_eq_setWidth_of_le _ (by decide), BitVec.signExtend_eq_setWidth_of_le _ (by decide)]
    exact (nib_bv lg.toBitVec 4 (by decide)).symm
  | 2, _ =>
    have cs : ((Int32.ofInt 4 * Int32.ofInt ((2 : Nat) : Int)).toInt64.toUInt64 &&& Int64.toUInt64 63) = 8 := by decide
    have ct : ((Int32.ofInt 4 * Int32.ofInt ((2 : Nat) : Int)).toInt64 &&& 63) = (8 : Int64) := by decide
    unfold nibC nibM
    rw [c15, cs, ct]
    have e1 : ((lg.toUInt64 >>> (8 : UInt64)).toInt64.toInt32 &&& 15).toBitVec = (lg.toBitVec >>> 8).signExtend 32 &&& 15#32 := rfl
    have e2 : (lg >>> (8 : Int64) &&& 15).toInt32.toBitVec = (lg.toBitVec.sshiftRight 8 &&& 15#64).signExtend 32 := rfl
    refine Int32.toBitVec.inj ?_
    rw [e1, e2, BitVec.signExtend_eq_setWidth_of_le _ (by decide), BitVec.signExtend_eq_setWidth_of_le _ (by decide)]
    exact (nib_bv lg.toBitVec 8 (by decide)).symm
  | 3, _ =>
    have cs : ((Int32.ofInt 4 * Int32.ofInt ((3 : Nat) : Int)).toInt64.toUInt64 &&& Int64.toUInt64 63) = 12 := by decide
    have ct : ((Int32.ofInt 4 * Int32.ofInt ((3 : Nat) : Int)).toInt64 &&& 63) = (12 : Int64) := by decide
    unfold nibC nibM
    rw [c15, cs, ct]
    have e1 : ((lg.toUInt64 >>> (12 : UInt64)).toInt64.toInt32 &&& 15).toBitVec = (lg.toBitVec >>> 12).signExtend 32 &&& 15#32 := rfl
    have e2 : (lg >>> (12 : Int64) &&& 15).toInt32.toBitVec = (lg.toBitVec.sshiftRight 12 &&& 15#64).signExtend 32 := rfl
    refine Int32.toBitVec.inj ?_
    rw [e1, e2, BitVec.signExtend_eq_setWidth_of_le _ (by decide), BitVec.signExtend_eq_setWidth_of_le _ (by decide)]
    exact (nib_bv lg.toBitVec 12 (by decide)).symm
  | 4, _ =>
    have cs : ((Int32.ofInt 4 * Int32.ofInt ((4 : Nat) : Int)).toInt64.toUInt64 &&& Int64.toUInt64 63) = 16 := by decide
    have ct : ((Int32.ofInt 4 * Int32.ofInt ((4 : Nat) : Int)).toInt64 &&& 63) = (16 : Int64) := by decide
    unfold nibC nibM
    rw [c15, cs, ct]
    have e1 : ((lg.toUInt64 >>> (16 : UInt64)).toInt64.toInt32 &&& 15).toBitVec = (lg.toBitVec >>> 16).signExtend 32 &&& 15#32 := rfl
    have e2 : (lg >>> (16 : Int64) &&& 15).toInt32.toBitVec = (lg.toBitVec.sshiftRight 16 &&& 15#64).signExtend 32 := rfl
    refine Int32.toBitVec.inj ?_
    rw [e1, e2, BitVec.signExtend_eq_setWidth_of_le _ (by decide), BitVec.signExtend_eq_setWidth_of_le _ (by decide)]
    exact (nib_bv lg.toBitVec 16 (by decide)).symm
  | 5, _ =>
    have cs : ((Int32.ofInt 4 * Int32.ofInt ((5 : Nat) : Int)).toInt64.toUInt64 &&& Int64.toUInt64 63) = 20 := by decide
    have ct : ((Int32.ofInt 4 * Int32.ofInt ((5 : Nat) : Int)).toInt64 &&& 63) = (20 : Int64) := by decide
    unfold nibC nibM
    rw [c15, cs, ct]
    have e1 : ((lg.toUInt64 >>> (20 : UInt64)).toInt64.toInt32 &&& 15).toBitVec = (lg.toBitVec >>> 20).signExtend 32 &&& 15#32 := rfl
    have e2 : (lg >>> (20 : Int64) &&& 15).toInt32.toBitVec = (lg.toBitVec.sshiftRight 20 &&& 15#64).signExtend 32 := rfl
    refine Int32.toBitVec.inj ?_
    rw [e1, e2, BitVec.signExtend_eq_setWidth_of_le _ (by decide), BitVec.signExtend_eq_setWidth_of_le _ (by decide)]
    exact (nib_bv lg.toBitVec 20 (by decide)).symm
  | 6, _ =>
    have cs : ((Int32.ofInt 4 * Int32.ofInt ((6 : Nat) : Int)).toInt64.toUInt64 &&& Int64.toUInt64 63) = 24 := by decide
    have ct : ((Int32.ofInt 4 * Int32.ofInt ((6 : Nat) : Int)).toInt64 &&& 63) = (24 : Int64) := by decide
    unfold nibC nibM
    rw [c15, cs, ct]
    have e1 : ((lg.toUInt64 >>> (24 : UInt64)).toInt64.toInt32 &&& 15).toBitVec = (lg.toBitVec >>> 24).signExtend 32 &&& 15#32 := rfl
    have e2 : (lg >>> (24 : Int64) &&& 15).toInt32.toBitVec = (lg.toBitVec.sshiftRight 24 &&& 15#64).signExtend 32 := rfl
    refine Int32.toBitVec.inj ?_
    rw [e1, e2, BitVec.signExtend_eq_setWidth_of_le _ (by decide), BitVec.signExtend_eq_setWidth_of_le _ (by decide)]
    exact (nib_bv lg.toBitVec 24 (by decide)).symm
  | 7, _ =>
    have cs : ((Int32.ofInt 4 * Int32.ofInt ((7 : Nat) : Int)).toInt64.toUInt64 &&& Int64.toUInt64 63) = 28 := by decide
    have ct : ((Int32.ofInt 4 * Int32.ofInt ((7 : Nat) : Int)).toInt64 &&& 63) = (28 : Int64) := by decide
    unfold nibC nibM
    rw [c15, cs, ct]
    have e1 : ((lg.toUInt64 >>> (28 : UInt64)).toInt64.toInt32 &&& 15).toBitVec = (lg.toBitVec >>> 28).signExtend 32 &&& 15#32 := rfl
    have e2 : (lg >>> (28 : Int64) &&& 15).toInt32.toBitVec = (lg.toBitVec.sshiftRight 28 &&& 15#64).signExtend 32 := rfl
    refine Int32.toBitVec.inj ?_
    rw [e1, e2, BitVec.signExtend_eq_setWidth_of_le _ (by decide), BitVec.signExtend_eq_setWidth_of_le _ (by decide)]
    exact (nib_bv lg.toBitVec 28 (by decide)).symm
def okL (v : Int32) : Bool := Op.if_icmp.holds .le v (Int32.ofInt 3) || Op.if_icmp.holds .eq v (Int8.ofInt 10).toInt32
def tscan (lg : Int64) : Nat → Nat → Bool
  | 0, _ => true
  | d + 1, k => okL (nibC lg (Int32.ofInt k)) && tscan lg d (k + 1)
theorem tl_run {lg : Int64} {k : Int32} {w : mxW} : mxRn 61 0 [(0, .long lg), (2, .int k)] [] w (some (.int (nibC lg k)), w) := mxRn.ret 9 (fun n => rfl)
theorem k_toInt {k : Nat} (h : k ≤ 8) : (Int32.ofInt (k : Int)).toInt = (k : Int) := Int32.toInt_ofInt_of_le (by omega) (by omega)
theorem ge_f {k N : Nat} (h : k < N) (hN : N ≤ 8) : Op.if_icmp.holds .ge (Int32.ofInt (k : Int)) (Int32.ofInt (N : Int)) = false := Bool.eq_false_iff.mpr (fun q => by
  have q := (hk_ge _ _).mp q
  rw [k_toInt (by omega), k_toInt (by omega)] at q
  omega)
theorem ge_t {N : Nat} : Op.if_icmp.holds .ge (Int32.ofInt (N : Int)) (Int32.ofInt (N : Int)) = true := he_ge _
def lvC (N : Nat) (lg : Int64) (k : Int32) (tl : mxV) : mxV := (0, .ref 0) :: (1, .int (Int32.ofInt (N : Int))) :: (2, .long lg) :: (4, .int k) :: tl
set_option maxRecDepth 100000 in
theorem itC0 {N k : Nat} {lg : Int64} {w : mxW} {res : mxR} (hN : N ≤ 8) (hk : k < N) : (okL (nibC lg (Int32.ofInt (k : Int))) = false → res = (some (.int (-1)), w) → mxRn 60 25 (lvC N lg (Int32.ofInt (k : Int)) []) [] w res) ∧ (okL (nibC lg (Int32.ofInt (k : Int))) = true → mxRn 60 25 (lvC N lg (Int32.ofInt ((k + 1 : Nat) : Int)) [(5, .int (nibC lg (Int32.ofInt (k : Int))))]) [] w res → mxRn 60 25 (lvC N lg (Int32.ofInt (k : Int)) []) [] w res) := by
  have ek : Int32.ofInt ((k + 1 : Nat) : Int) = Int32.ofInt (k : Int) + Int32.ofInt 1 := by
    rw [← Int32.ofInt_add]
    rfl
  have hv : mxRn 60 41 (lvC N lg (Int32.ofInt (k : Int)) [(5, .int (nibC lg (Int32.ofInt (k : Int))))]) [.int (nibC lg (Int32.ofInt (k : Int)))] w res → mxRn 60 25 (lvC N lg (Int32.ofInt (k : Int)) []) [] w res := fun Hr => by
    refine mxRn.if2 3 0 (bb := Op.if_icmp.holds .ge (Int32.ofInt (k : Int)) (Int32.ofInt (N : Int))) (pc' := 31) (lv' := lvC N lg (Int32.ofInt (k : Int)) []) (st' := []) (w' := w) (fun n => rfl) (ge_f hk hN) ?_
    refine mxRn.c2 3 0 (z := 61) (pc' := 37) (lz := [(0, .long lg), (2, .int (Int32.ofInt (k : Int)))]) (lv' := lvC N lg (Int32.ofInt (k : Int)) []) (r := []) (w1 := w) (wz := w) (rz := some (.int (nibC lg (Int32.ofInt (k : Int))))) (fun n => rfl) tl_run ?_
    exact mxRn.g2 2 0 (pc' := 41) (lv' := lvC N lg (Int32.ofInt (k : Int)) [(5, .int (nibC lg (Int32.ofInt (k : Int))))]) (st' := [.int (nibC lg (Int32.ofInt (k : Int)))]) (w' := w) (fun n => rfl) Hr
  generalize (nibC lg (Int32.ofInt (k : Int))) = v at hv ⊢
  have le_t : Op.if_icmp.holds .le v (Int32.ofInt 3) = true → mxRn 60 54 (lvC N lg (Int32.ofInt (k : Int)) [(5, .int v)]) [] w res → mxRn 60 41 (lvC N lg (Int32.ofInt (k : Int)) [(5, .int v)]) [.int v] w res := fun hb Hr => mxRn.it2 2 0 (bb := Op.if_icmp.holds .le v (Int32.ofInt 3)) (fun n => rfl) hb Hr
  have le_f : Op.if_icmp.holds .le v (Int32.ofInt 3) = false → mxRn 60 45 (lvC N lg (Int32.ofInt (k : Int)) [(5, .int v)]) [] w res → mxRn 60 41 (lvC N lg (Int32.ofInt (k : Int)) [(5, .int v)]) [.int v] w res := fun hb Hr => mxRn.if2 2 0 (bb := Op.if_icmp.holds .le v (Int32.ofInt 3)) (fun n => rfl) hb Hr
  have eq_t : Op.if_icmp.holds .eq v (Int8.ofInt 10).toInt32 = true → mxRn 60 54 (lvC N lg (Int32.ofInt (k : Int)) [(5, .int v)]) [] w res → mxRn 60 45 (lvC N lg (Int32.ofInt (k : Int)) [(5, .int v)]) [] w res := fun hb Hr => mxRn.it2 3 0 (bb := Op.if_icmp.holds .eq v (Int8.ofInt 10).toInt32) (fun n => rfl) hb Hr
  have eq_f : Op.if_icmp.holds .eq v (Int8.ofInt 10).toInt32 = false → mxRn 60 52 (lvC N lg (Int32.ofInt (k : Int)) [(5, .int v)]) [] w res → mxRn 60 45 (lvC N lg (Int32.ofInt (k : Int)) [(5, .int v)]) [] w res := fun hb Hr => mxRn.if2 3 0 (bb := Op.if_icmp.holds .eq v (Int8.ofInt 10).toInt32) (fun n => rfl) hb Hr
  have nx : mxRn 60 25 (lvC N lg (Int32.ofInt ((k + 1 : Nat) : Int)) [(5, .int v)]) [] w res → mxRn 60 54 (lvC N lg (Int32.ofInt (k : Int)) [(5, .int v)]) [] w res := fun Hr => by
    rw [ek] at Hr
    exact mxRn.g2 2 0 (fun n => rfl) Hr
  constructor
  · intro hf hr
    unfold okL at hf
    rw [Bool.or_eq_false_iff] at hf
    refine hv (le_f hf.1 (eq_f hf.2 ?_))
    rw [hr]
    exact mxRn.ret 2 (fun n => rfl)
  · intro ht Hr
    unfold okL at ht
    rw [Bool.or_eq_true] at ht
    cases hb : Op.if_icmp.holds .le v (Int32.ofInt 3) with
    | true => exact hv (le_t hb (nx Hr))
    | false =>
      rcases ht with q | q
      · rw [hb] at q; cases q
      · exact hv (le_f hb (eq_t q (nx Hr)))
set_option maxRecDepth 100000 in
theorem itC1 {N k : Nat} {lg : Int64} {w : mxW} {res : mxR} {l : Int32} (hN : N ≤ 8) (hk : k < N) : (okL (nibC lg (Int32.ofInt (k : Int))) = false → res = (some (.int (-1)), w) → mxRn 60 25 (lvC N lg (Int32.ofInt (k : Int)) [(5, .int l)]) [] w res) ∧ (okL (nibC lg (Int32.ofInt (k : Int))) = true → mxRn 60 25 (lvC N lg (Int32.ofInt ((k + 1 : Nat) : Int)) [(5, .int (nibC lg (Int32.ofInt (k : Int))))]) [] w res → mxRn 60 25 (lvC N lg (Int32.ofInt (k : Int)) [(5, .int l)]) [] w res) := by
  have ek : Int32.ofInt ((k + 1 : Nat) : Int) = Int32.ofInt (k : Int) + Int32.ofInt 1 := by
    rw [← Int32.ofInt_add]
    rfl
  have hv : mxRn 60 41 (lvC N lg (Int32.ofInt (k : Int)) [(5, .int (nibC lg (Int32.ofInt (k : Int))))]) [.int (nibC lg (Int32.ofInt (k : Int)))] w res → mxRn 60 25 (lvC N lg (Int32.ofInt (k : Int)) [(5, .int l)]) [] w res := fun Hr => by
    refine mxRn.if2 3 0 (bb := Op.if_icmp.holds .ge (Int32.ofInt (k : Int)) (Int32.ofInt (N : Int))) (pc' := 31) (lv' := lvC N lg (Int32.ofInt (k : Int)) [(5, .int l)]) (st' := []) (w' := w) (fun n => rfl) (ge_f hk hN) ?_
    refine mxRn.c2 3 0 (z := 61) (pc' := 37) (lz := [(0, .long lg), (2, .int (Int32.ofInt (k : Int)))]) (lv' := lvC N lg (Int32.ofInt (k : Int)) [(5, .int l)]) (r := []) (w1 := w) (wz := w) (rz := some (.int (nibC lg (Int32.ofInt (k : Int))))) (fun n => rfl) tl_run ?_
    exact mxRn.g2 2 0 (pc' := 41) (lv' := lvC N lg (Int32.ofInt (k : Int)) [(5, .int (nibC lg (Int32.ofInt (k : Int))))]) (st' := [.int (nibC lg (Int32.ofInt (k : Int)))]) (w' := w) (fun n => rfl) Hr
  generalize (nibC lg (Int32.ofInt (k : Int))) = v at hv ⊢
  have le_t : Op.if_icmp.holds .le v (Int32.ofInt 3) = true → mxRn 60 54 (lvC N lg (Int32.ofInt (k : Int)) [(5, .int v)]) [] w res → mxRn 60 41 (lvC N lg (Int32.ofInt (k : Int)) [(5, .int v)]) [.int v] w res := fun hb Hr => mxRn.it2 2 0 (bb := Op.if_icmp.holds .le v (Int32.ofInt 3)) (fun n => rfl) hb Hr
  have le_f : Op.if_icmp.holds .le v (Int32.ofInt 3) = false → mxRn 60 45 (lvC N lg (Int32.ofInt (k : Int)) [(5, .int v)]) [] w res → mxRn 60 41 (lvC N lg (Int32.ofInt (k : Int)) [(5, .int v)]) [.int v] w res := fun hb Hr => mxRn.if2 2 0 (bb := Op.if_icmp.holds .le v (Int32.ofInt 3)) (fun n => rfl) hb Hr
  have eq_t : Op.if_icmp.holds .eq v (Int8.ofInt 10).toInt32 = true → mxRn 60 54 (lvC N lg (Int32.ofInt (k : Int)) [(5, .int v)]) [] w res → mxRn 60 45 (lvC N lg (Int32.ofInt (k : Int)) [(5, .int v)]) [] w res := fun hb Hr => mxRn.it2 3 0 (bb := Op.if_icmp.holds .eq v (Int8.ofInt 10).toInt32) (fun n => rfl) hb Hr
  have eq_f : Op.if_icmp.holds .eq v (Int8.ofInt 10).toInt32 = false → mxRn 60 52 (lvC N lg (Int32.ofInt (k : Int)) [(5, .int v)]) [] w res → mxRn 60 45 (lvC N lg (Int32.ofInt (k : Int)) [(5, .int v)]) [] w res := fun hb Hr => mxRn.if2 3 0 (bb := Op.if_icmp.holds .eq v (Int8.ofInt 10).toInt32) (fun n => rfl) hb Hr
  have nx : mxRn 60 25 (lvC N lg (Int32.ofInt ((k + 1 : Nat) : Int)) [(5, .int v)]) [] w res → mxRn 60 54 (lvC N lg (Int32.ofInt (k : Int)) [(5, .int v)]) [] w res := fun Hr => by
    rw [ek] at Hr
    exact mxRn.g2 2 0 (fun n => rfl) Hr
  constructor
  · intro hf hr
    unfold okL at hf
    rw [Bool.or_eq_false_iff] at hf
    refine hv (le_f hf.1 (eq_f hf.2 ?_))
    rw [hr]
    exact mxRn.ret 2 (fun n => rfl)
  · intro ht Hr
    unfold okL at ht
    rw [Bool.or_eq_true] at ht
    cases hb : Op.if_icmp.holds .le v (Int32.ofInt 3) with
    | true => exact hv (le_t hb (nx Hr))
    | false =>
      rcases ht with q | q
      · rw [hb] at q; cases q
      · exact hv (le_f hb (eq_t q (nx Hr)))
theorem lpC {N : Nat} {lg : Int64} {w : mxW} (hN : N ≤ 8) : ∀ (d k : Nat) (l : Int32), k + d = N → (tscan lg d k = false → mxRn 60 25 (lvC N lg (Int32.ofInt (k : Int)) [(5, .int l)]) [] w (some (.int (-1)), w)) ∧ (tscan lg d k = true → ∃ l' : Int32, ∀ res, mxRn 60 60 (lvC N lg (Int32.ofInt (N : Int)) [(5, .int l')]) [] w res → mxRn 60 25 (lvC N lg (Int32.ofInt (k : Int)) [(5, .int l)]) [] w res)
  | 0, k, l, hk => by
    have e : k = N := by omega
    subst e
    refine ⟨(fun h => by cases h), fun _ => ⟨l, fun res Hr => mxRn.it2 3 0 (bb := Op.if_icmp.holds .ge (Int32.ofInt (k : Int)) (Int32.ofInt (k : Int))) (fun n => rfl) ge_t Hr⟩⟩
  | d + 1, k, l, hk => by
    obtain ⟨i1, i2⟩ := lpC hN d (k + 1) (nibC lg (Int32.ofInt (k : Int))) (by omega)
    unfold tscan
    cases ho : okL (nibC lg (Int32.ofInt (k : Int))) with
    | false => exact ⟨fun _ => (itC1 hN (by omega)).1 ho rfl, (fun h => by cases h)⟩
    | true =>
      refine ⟨fun h => (itC1 hN (by omega)).2 ho (i1 h), fun h => ?_⟩
      obtain ⟨l', Hl⟩ := i2 h
      exact ⟨l', fun res Hr => (itC1 hN (by omega)).2 ho (Hl res Hr)⟩
theorem lsC {N : Nat} {lg : Int64} {w : mxW} (hN : N ≤ 8) (h1 : 1 ≤ N) : (tscan lg N 0 = false → mxRn 60 25 (lvC N lg (Int32.ofInt ((0 : Nat) : Int)) []) [] w (some (.int (-1)), w)) ∧ (tscan lg N 0 = true → ∃ l' : Int32, ∀ res, mxRn 60 60 (lvC N lg (Int32.ofInt (N : Int)) [(5, .int l')]) [] w res → mxRn 60 25 (lvC N lg (Int32.ofInt ((0 : Nat) : Int)) []) [] w res) := by
  obtain ⟨d, rfl⟩ : ∃ d, N = d + 1 := ⟨N - 1, by omega⟩
  obtain ⟨i1, i2⟩ := lpC (w := w) (lg := lg) hN d 1 (nibC lg (Int32.ofInt ((0 : Nat) : Int))) (by omega)
  unfold tscan
  cases ho : okL (nibC lg (Int32.ofInt ((0 : Nat) : Int))) with
  | false => exact ⟨fun _ => (itC0 hN (by omega)).1 ho rfl, (fun h => by cases h)⟩
  | true =>
    refine ⟨fun h => (itC0 hN (by omega)).2 ho (i1 h), fun h => ?_⟩
    obtain ⟨l', Hl⟩ := i2 h
    exact ⟨l', fun res Hr => (itC0 hN (by omega)).2 ho (Hl res Hr)⟩
def lvM (N : Nat) (lg : Int64) (k : Int32) (tl : mxV) : mxV := (0, .ref 9) :: (1, .int (Int32.ofInt (N : Int))) :: (2, .long lg) :: (4, .int k) :: tl
set_option maxRecDepth 100000 in
theorem itM0 {N k : Nat} {lg : Int64} {w : mxW} {res : mxR} (hN : N ≤ 8) (hk : k < N) : (okL (nibC lg (Int32.ofInt (k : Int))) = false → res = (some (.int (-1)), w) → mxRn 111 24 (lvM N lg (Int32.ofInt (k : Int)) []) [] w res) ∧ (okL (nibC lg (Int32.ofInt (k : Int))) = true → mxRn 111 24 (lvM N lg (Int32.ofInt ((k + 1 : Nat) : Int)) [(5, .int (nibC lg (Int32.ofInt (k : Int))))]) [] w res → mxRn 111 24 (lvM N lg (Int32.ofInt (k : Int)) []) [] w res) := by
  have ek : Int32.ofInt ((k + 1 : Nat) : Int) = Int32.ofInt (k : Int) + Int32.ofInt 1 := by
    rw [← Int32.ofInt_add]
    rfl
  have hv : mxRn 111 45 (lvM N lg (Int32.ofInt (k : Int)) [(5, .int (nibC lg (Int32.ofInt (k : Int))))]) [.int (nibC lg (Int32.ofInt (k : Int)))] w res → mxRn 111 24 (lvM N lg (Int32.ofInt (k : Int)) []) [] w res := fun Hr => by
    refine mxRn.if2 3 0 (bb := Op.if_icmp.holds .ge (Int32.ofInt (k : Int)) (Int32.ofInt (N : Int))) (pc' := 30) (lv' := lvM N lg (Int32.ofInt (k : Int)) []) (st' := []) (w' := w) (fun n => rfl) (ge_f hk hN) ?_
    rw [← nib_eq lg k (by omega)] at Hr
    refine mxRn.g2 8 0 (pc' := 41) (lv' := lvM N lg (Int32.ofInt (k : Int)) []) (st' := [.int (nibM lg (Int32.ofInt (k : Int)))]) (w' := w) (fun n => rfl) ?_
    exact mxRn.g2 2 0 (pc' := 45) (lv' := lvM N lg (Int32.ofInt (k : Int)) [(5, .int (nibM lg (Int32.ofInt (k : Int))))]) (st' := [.int (nibM lg (Int32.ofInt (k : Int)))]) (w' := w) (fun n => rfl) Hr
  generalize (nibC lg (Int32.ofInt (k : Int))) = v at hv ⊢
  have le_t : Op.if_icmp.holds .le v (Int32.ofInt 3) = true → mxRn 111 58 (lvM N lg (Int32.ofInt (k : Int)) [(5, .int v)]) [] w res → mxRn 111 45 (lvM N lg (Int32.ofInt (k : Int)) [(5, .int v)]) [.int v] w res := fun hb Hr => mxRn.it2 2 0 (bb := Op.if_icmp.holds .le v (Int32.ofInt 3)) (fun n => rfl) hb Hr
  have le_f : Op.if_icmp.holds .le v (Int32.ofInt 3) = false → mxRn 111 49 (lvM N lg (Int32.ofInt (k : Int)) [(5, .int v)]) [] w res → mxRn 111 45 (lvM N lg (Int32.ofInt (k : Int)) [(5, .int v)]) [.int v] w res := fun hb Hr => mxRn.if2 2 0 (bb := Op.if_icmp.holds .le v (Int32.ofInt 3)) (fun n => rfl) hb Hr
  have eq_t : Op.if_icmp.holds .eq v (Int8.ofInt 10).toInt32 = true → mxRn 111 58 (lvM N lg (Int32.ofInt (k : Int)) [(5, .int v)]) [] w res → mxRn 111 49 (lvM N lg (Int32.ofInt (k : Int)) [(5, .int v)]) [] w res := fun hb Hr => mxRn.it2 3 0 (bb := Op.if_icmp.holds .eq v (Int8.ofInt 10).toInt32) (fun n => rfl) hb Hr
  have eq_f : Op.if_icmp.holds .eq v (Int8.ofInt 10).toInt32 = false → mxRn 111 56 (lvM N lg (Int32.ofInt (k : Int)) [(5, .int v)]) [] w res → mxRn 111 49 (lvM N lg (Int32.ofInt (k : Int)) [(5, .int v)]) [] w res := fun hb Hr => mxRn.if2 3 0 (bb := Op.if_icmp.holds .eq v (Int8.ofInt 10).toInt32) (fun n => rfl) hb Hr
  have nx : mxRn 111 24 (lvM N lg (Int32.ofInt ((k + 1 : Nat) : Int)) [(5, .int v)]) [] w res → mxRn 111 58 (lvM N lg (Int32.ofInt (k : Int)) [(5, .int v)]) [] w res := fun Hr => by
    rw [ek] at Hr
    exact mxRn.g2 2 0 (fun n => rfl) Hr
  constructor
  · intro hf hr
    unfold okL at hf
    rw [Bool.or_eq_false_iff] at hf
    refine hv (le_f hf.1 (eq_f hf.2 ?_))
    rw [hr]
    exact mxRn.ret 2 (fun n => rfl)
  · intro ht Hr
    unfold okL at ht
    rw [Bool.or_eq_true] at ht
    cases hb : Op.if_icmp.holds .le v (Int32.ofInt 3) with
    | true => exact hv (le_t hb (nx Hr))
    | false =>
      rcases ht with q | q
      · rw [hb] at q; cases q
      · exact hv (le_f hb (eq_t q (nx Hr)))
set_option maxRecDepth 100000 in
theorem itM1 {N k : Nat} {lg : Int64} {w : mxW} {res : mxR} {l : Int32} (hN : N ≤ 8) (hk : k < N) : (okL (nibC lg (Int32.ofInt (k : Int))) = false → res = (some (.int (-1)), w) → mxRn 111 24 (lvM N lg (Int32.ofInt (k : Int)) [(5, .int l)]) [] w res) ∧ (okL (nibC lg (Int32.ofInt (k : Int))) = true → mxRn 111 24 (lvM N lg (Int32.ofInt ((k + 1 : Nat) : Int)) [(5, .int (nibC lg (Int32.ofInt (k : Int))))]) [] w res → mxRn 111 24 (lvM N lg (Int32.ofInt (k : Int)) [(5, .int l)]) [] w res) := by
  have ek : Int32.ofInt ((k + 1 : Nat) : Int) = Int32.ofInt (k : Int) + Int32.ofInt 1 := by
    rw [← Int32.ofInt_add]
    rfl
  have hv : mxRn 111 45 (lvM N lg (Int32.ofInt (k : Int)) [(5, .int (nibC lg (Int32.ofInt (k : Int))))]) [.int (nibC lg (Int32.ofInt (k : Int)))] w res → mxRn 111 24 (lvM N lg (Int32.ofInt (k : Int)) [(5, .int l)]) [] w res := fun Hr => by
    refine mxRn.if2 3 0 (bb := Op.if_icmp.holds .ge (Int32.ofInt (k : Int)) (Int32.ofInt (N : Int))) (pc' := 30) (lv' := lvM N lg (Int32.ofInt (k : Int)) [(5, .int l)]) (st' := []) (w' := w) (fun n => rfl) (ge_f hk hN) ?_
    rw [← nib_eq lg k (by omega)] at Hr
    refine mxRn.g2 8 0 (pc' := 41) (lv' := lvM N lg (Int32.ofInt (k : Int)) [(5, .int l)]) (st' := [.int (nibM lg (Int32.ofInt (k : Int)))]) (w' := w) (fun n => rfl) ?_
    exact mxRn.g2 2 0 (pc' := 45) (lv' := lvM N lg (Int32.ofInt (k : Int)) [(5, .int (nibM lg (Int32.ofInt (k : Int))))]) (st' := [.int (nibM lg (Int32.ofInt (k : Int)))]) (w' := w) (fun n => rfl) Hr
  generalize (nibC lg (Int32.ofInt (k : Int))) = v at hv ⊢
  have le_t : Op.if_icmp.holds .le v (Int32.ofInt 3) = true → mxRn 111 58 (lvM N lg (Int32.ofInt (k : Int)) [(5, .int v)]) [] w res → mxRn 111 45 (lvM N lg (Int32.ofInt (k : Int)) [(5, .int v)]) [.int v] w res := fun hb Hr => mxRn.it2 2 0 (bb := Op.if_icmp.holds .le v (Int32.ofInt 3)) (fun n => rfl) hb Hr
  have le_f : Op.if_icmp.holds .le v (Int32.ofInt 3) = false → mxRn 111 49 (lvM N lg (Int32.ofInt (k : Int)) [(5, .int v)]) [] w res → mxRn 111 45 (lvM N lg (Int32.ofInt (k : Int)) [(5, .int v)]) [.int v] w res := fun hb Hr => mxRn.if2 2 0 (bb := Op.if_icmp.holds .le v (Int32.ofInt 3)) (fun n => rfl) hb Hr
  have eq_t : Op.if_icmp.holds .eq v (Int8.ofInt 10).toInt32 = true → mxRn 111 58 (lvM N lg (Int32.ofInt (k : Int)) [(5, .int v)]) [] w res → mxRn 111 49 (lvM N lg (Int32.ofInt (k : Int)) [(5, .int v)]) [] w res := fun hb Hr => mxRn.it2 3 0 (bb := Op.if_icmp.holds .eq v (Int8.ofInt 10).toInt32) (fun n => rfl) hb Hr
  have eq_f : Op.if_icmp.holds .eq v (Int8.ofInt 10).toInt32 = false → mxRn 111 56 (lvM N lg (Int32.ofInt (k : Int)) [(5, .int v)]) [] w res → mxRn 111 49 (lvM N lg (Int32.ofInt (k : Int)) [(5, .int v)]) [] w res := fun hb Hr => mxRn.if2 3 0 (bb := Op.if_icmp.holds .eq v (Int8.ofInt 10).toInt32) (fun n => rfl) hb Hr
  have nx : mxRn 111 24 (lvM N lg (Int32.ofInt ((k + 1 : Nat) : Int)) [(5, .int v)]) [] w res → mxRn 111 58 (lvM N lg (Int32.ofInt (k : Int)) [(5, .int v)]) [] w res := fun Hr => by
    rw [ek] at Hr
    exact mxRn.g2 2 0 (fun n => rfl) Hr
  constructor
  · intro hf hr
    unfold okL at hf
    rw [Bool.or_eq_false_iff] at hf
    refine hv (le_f hf.1 (eq_f hf.2 ?_))
    rw [hr]
    exact mxRn.ret 2 (fun n => rfl)
  · intro ht Hr
    unfold okL at ht
    rw [Bool.or_eq_true] at ht
    cases hb : Op.if_icmp.holds .le v (Int32.ofInt 3) with
    | true => exact hv (le_t hb (nx Hr))
    | false =>
      rcases ht with q | q
      · rw [hb] at q; cases q
      · exact hv (le_f hb (eq_t q (nx Hr)))
theorem lpM {N : Nat} {lg : Int64} {w : mxW} (hN : N ≤ 8) : ∀ (d k : Nat) (l : Int32), k + d = N → (tscan lg d k = false → mxRn 111 24 (lvM N lg (Int32.ofInt (k : Int)) [(5, .int l)]) [] w (some (.int (-1)), w)) ∧ (tscan lg d k = true → ∃ l' : Int32, ∀ res, mxRn 111 64 (lvM N lg (Int32.ofInt (N : Int)) [(5, .int l')]) [] w res → mxRn 111 24 (lvM N lg (Int32.ofInt (k : Int)) [(5, .int l)]) [] w res)
  | 0, k, l, hk => by
    have e : k = N := by omega
    subst e
    refine ⟨(fun h => by cases h), fun _ => ⟨l, fun res Hr => mxRn.it2 3 0 (bb := Op.if_icmp.holds .ge (Int32.ofInt (k : Int)) (Int32.ofInt (k : Int))) (fun n => rfl) ge_t Hr⟩⟩
  | d + 1, k, l, hk => by
    obtain ⟨i1, i2⟩ := lpM hN d (k + 1) (nibC lg (Int32.ofInt (k : Int))) (by omega)
    unfold tscan
    cases ho : okL (nibC lg (Int32.ofInt (k : Int))) with
    | false => exact ⟨fun _ => (itM1 hN (by omega)).1 ho rfl, (fun h => by cases h)⟩
    | true =>
      refine ⟨fun h => (itM1 hN (by omega)).2 ho (i1 h), fun h => ?_⟩
      obtain ⟨l', Hl⟩ := i2 h
      exact ⟨l', fun res Hr => (itM1 hN (by omega)).2 ho (Hl res Hr)⟩
theorem lsM {N : Nat} {lg : Int64} {w : mxW} (hN : N ≤ 8) (h1 : 1 ≤ N) : (tscan lg N 0 = false → mxRn 111 24 (lvM N lg (Int32.ofInt ((0 : Nat) : Int)) []) [] w (some (.int (-1)), w)) ∧ (tscan lg N 0 = true → ∃ l' : Int32, ∀ res, mxRn 111 64 (lvM N lg (Int32.ofInt (N : Int)) [(5, .int l')]) [] w res → mxRn 111 24 (lvM N lg (Int32.ofInt ((0 : Nat) : Int)) []) [] w res) := by
  obtain ⟨d, rfl⟩ : ∃ d, N = d + 1 := ⟨N - 1, by omega⟩
  obtain ⟨i1, i2⟩ := lpM (w := w) (lg := lg) hN d 1 (nibC lg (Int32.ofInt ((0 : Nat) : Int))) (by omega)
  unfold tscan
  cases ho : okL (nibC lg (Int32.ofInt ((0 : Nat) : Int))) with
  | false => exact ⟨fun _ => (itM0 hN (by omega)).1 ho rfl, (fun h => by cases h)⟩
  | true =>
    refine ⟨fun h => (itM0 hN (by omega)).2 ho (i1 h), fun h => ?_⟩
    obtain ⟨l', Hl⟩ := i2 h
    exact ⟨l', fun res Hr => (itM0 hN (by omega)).2 ho (Hl res Hr)⟩
