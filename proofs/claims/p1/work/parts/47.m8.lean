/-! walks, from its beginning to its end -/
theorem gt_tt {a b : Nat} (ha : a < 2147483648) (hb : b < 2147483648) (h : b < a) : Op.if_icmp.holds .gt (Int32.ofInt (a : Int)) (Int32.ofInt (b : Int)) = true := (hk_gt _ _).mpr (by rw [t32 ha, t32 hb]; omega)
theorem gt_ff {a b : Nat} (ha : a < 2147483648) (hb : b < 2147483648) (h : a ≤ b) : Op.if_icmp.holds .gt (Int32.ofInt (a : Int)) (Int32.ofInt (b : Int)) = false := Bool.eq_false_iff.mpr (fun q => by
  have q := (hk_gt _ _).mp q
  rw [t32 ha, t32 hb] at q
  omega)
theorem wd_in (ex : List (Nat × Nat)) {τ sh : Bool} {X : mX} {lnn : Nat} {rr ki : Int32} (hl : lnn ≤ 10) (hC : CM τ sh X) (hV : VC (VX X)) (hτ : Op.if_icmp.holds .ne (((rr) >>> ((0 : Int32) &&& 31)) &&& (1 : Int32)) (1 : Int32) = !τ) (hs : Op.if_icmp.holds .ne (((rr) >>> ((6 : Int32) &&& 31)) &&& (1 : Int32)) (1 : Int32) = !sh) : ∀ (d dn fi m : Nat) (I : Nat → Nat → Int32) (J : Nat → Nat → Int64) (la kk ll it : Int32), dn + d = lnn + 1 → fi ≤ m → SM (VX X) I J m → EW rr I → ∃ I' J', MA (VX X) I I' J J' m ∧ mxRn 117 59 [(0, .ref 9), (1, .int rr), (2, .int (Int32.ofInt (lnn : Int))), (3, .int ki), (4, .int (Int32.ofInt (fi : Int))), (5, .int (Int32.ofInt (dn : Int))), (6, .int la), (7, .int kk), (8, .int ll), (9, .int it)] [] (shS ex, I, J, QS) (some (.int 0), (shS ex, I', J', QS))
  | 0, dn, fi, m, I, J, la, kk, ll, it, h1, h2, h, hW => ⟨I, J, ⟨m, h, Nat.le_refl _, fun _ _ => rfl, FrA.rf⟩, wk_de1 ex I J rr _ ki _ _ la kk ll it (gt_tt (by omega) (by omega) (by omega))⟩
  | d + 1, dn, fi, m, I, J, la, kk, ll, it, h1, h2, h, hW => by
    have hm : m ≤ 19000 := hV (J 21) m h.2.2.2.1 h.2.2.2.2.1
    obtain ⟨I1, J1, ⟨m1, s1, q1, p1, f1⟩, k1, l1, i1, r1⟩ := wk_in ex (la := m) (ln := Int32.ofInt (lnn : Int)) (ki := ki) (fi := Int32.ofInt (fi : Int)) (dp := Int32.ofInt (dn : Int)) hC hV hτ hs (m - fi) fi m I J ll it (by omega) (Nat.le_refl m) h hW
    obtain ⟨I2, J2, a2, c2⟩ := wd_in ex (ki := ki) hl hC hV hτ hs d (dn + 1) m m1 I1 J1 (Int32.ofInt (m : Int)) k1 l1 i1 (by omega) q1 s1 (hW.a f1)
    refine ⟨I2, J2, MA.tr q1 p1 f1 a2, wk_di1 ex I J rr _ ki _ _ la kk ll it (gt_ff (by omega) (by omega) (by omega)) ?_⟩
    rw [h.1]
    refine r1 _ ?_
    rw [show (1 : Int32) = Int32.ofInt ((1 : Nat) : Int) from rfl, a32]
    exact c2
theorem cl_loop (ex : List (Nat × Nat)) {J : Nat → Nat → Int64} {rr ln ki : Int32} : ∀ (d c : Nat) (I : Nat → Nat → Int32), c + d = 65536 → (∀ j, j < c → I 24 j = 0) → ∃ I' : Nat → Nat → Int32, (∀ z, z ≠ 24 → I' z = I z) ∧ (∀ j, j < 65536 → I' 24 j = 0) ∧ ∀ res, mxRn 117 29 [(0, .ref 9), (1, .int rr), (2, .int ln), (3, .int ki), (4, .int (Int32.ofInt ((65536 : Nat) : Int)))] [] (shS ex, I', J, QS) res → mxRn 117 8 [(0, .ref 9), (1, .int rr), (2, .int ln), (3, .int ki), (4, .int (Int32.ofInt (c : Int)))] [] (shS ex, I, J, QS) res
  | 0, c, I, hc, h0 => by
    have e : c = 65536 := by omega
    subst e
    exact ⟨I, fun _ _ => rfl, h0, fun res Hr => wk_ce ex I J rr ln ki _ (ge_tt (b := 65536) (by decide) (by decide) (by decide)) Hr⟩
  | d + 1, c, I, hc, h0 => by
    obtain ⟨I', a1, a2, a3⟩ := cl_loop ex (J := J) (rr := rr) (ln := ln) (ki := ki) d (c + 1) (mxI I 24 c 0) (by omega) (fun j hj => by
      by_cases e : j = c
      · simp [mxI, upd, e]
      · have := h0 j (by omega)
        simpa [mxI, upd, e] using this)
    refine ⟨I', fun z hz => (a1 z hz).trans (by simp [mxI, hz]), a2, fun res Hr => wk_cl ex I J rr ln ki _ (ge_ff (b := 65536) (by omega) (by decide) (by omega)) (in32 (by omega) (by decide)) ?_⟩
    rw [c32 (by omega), show (1 : Int32) = Int32.ofInt ((1 : Nat) : Int) from rfl, a32]
    exact a3 _ Hr
/-- walks answers 0 -/
theorem walks_ok (ex : List (Nat × Nat)) {τ sh : Bool} {X : mX} {lnn : Nat} {rr ki : Int32} {I : Nat → Nat → Int32} {J : Nat → Nat → Int64} (h1 : 1 ≤ lnn) (hl : lnn ≤ 10) (hC : CM τ sh X) (hV : VC (VX X)) (hτ : Op.if_icmp.holds .ne (((rr) >>> ((0 : Int32) &&& 31)) &&& (1 : Int32)) (1 : Int32) = !τ) (hs : Op.if_icmp.holds .ne (((rr) >>> ((6 : Int32) &&& 31)) &&& (1 : Int32)) (1 : Int32) = !sh) (hX : X 0 0 4 4 (fun _ => 0) (fun _ => 0) (fun _ => 0) (fun _ => 0)) (hE : ∀ j, j < 7 → I 11 j = 0) : ∃ I' J', mxRn 117 0 [(0, .ref 9), (1, .int rr), (2, .int (Int32.ofInt (lnn : Int))), (3, .int ki)] [] (shS ex, I, J, QS) (some (.int 0), (shS ex, I', J', QS)) ∧ (∀ c, c ≠ 9 → c ≠ 14 → c ≠ 15 → c ≠ 16 → c ≠ 17 → c ≠ 18 → c ≠ 22 → c ≠ 23 → c ≠ 24 → I' c = I c) ∧ (∀ j, j ≠ 14 → j ≠ 15 → j ≠ 16 → j ≠ 28 → j ≠ 29 → I' 9 j = I 9 j) ∧ (∀ c, c ≠ 21 → J' c = J c) := by
  obtain ⟨I1, a1, a2, a3⟩ := cl_loop ex (J := J) (rr := rr) (ln := Int32.ofInt (lnn : Int)) (ki := ki) 65536 0 (mxI I 9 16 rr) (by decide) (fun j hj => absurd hj (Nat.not_lt_zero j))
  have e2 := em_run ex (mxI (mxI I1 9 28 0) 9 29 0) J
  generalize hI2 : (mxI (mxI (mxI (mxI (mxI (mxI (mxI (mxI (mxI (mxI (mxI (mxI (mxI (mxI (mxI (mxI (mxI (mxI (mxI (mxI (mxI (mxI I1 9 28 0) 9 29 0) 14 0 0) 15 0 0) 16 0 0) 17 0 0) 14 1 0) 15 1 0) 16 1 0) 17 1 0) 14 2 0) 15 2 0) 16 2 0) 17 2 0) 14 3 0) 15 3 0) 16 3 0) 17 3 0) 18 0 4) 18 1 4) 9 14 0) 9 15 0) = I2 at e2
  have fr2 : FrM (mxI (mxI I1 9 28 0) 9 29 0) I2 := by
    rw [← hI2]
    exact (FrM.u9 (FrM.u9 (FrM.up (FrM.up (FrM.up (FrM.up (FrM.up (FrM.up (FrM.up (FrM.up (FrM.up (FrM.up (FrM.up (FrM.up (FrM.up (FrM.up (FrM.up (FrM.up (FrM.up (FrM.up FrM.rf (by decide)) (by decide)) (by decide)) (by decide)) (by decide)) (by decide)) (by decide)) (by decide)) (by decide)) (by decide)) (by decide)) (by decide)) (by decide)) (by decide)) (by decide)) (by decide)) (by decide)) (by decide)) (by decide)) (by decide))
  have F2 : FI I2 0 0 4 4 (fun _ => 0) (fun _ => 0) (fun _ => 0) (fun _ => 0) := by
    rw [← hI2]
    refine ⟨⟨?_, ?_, ?_, ?_⟩, fun t ht => ?_⟩
    · simp [mxI, upd]
    · simp [mxI, upd]
    · simp [mxI, upd]
    · simp [mxI, upd]
    · match t, ht with
      | 0, _ => simp [mxI, upd]
      | 1, _ => simp [mxI, upd]
      | 2, _ => simp [mxI, upd]
      | 3, _ => simp [mxI, upd]
  obtain ⟨hr, -⟩ := hC _ _ _ _ _ _ _ _ hX
  obtain ⟨v, p1, p2⟩ := pk_ok ex J F2 hr
  have e24 : ∀ j, j < 65536 → I2 24 j = 0 := fun j hj => by
    rw [fr2.1 24 (by decide) (by decide) (by decide) (by decide) (by decide) (by decide)]
    have := a2 j hj
    simpa [mxI] using this
  have hS : SM (VX X) I2 J 0 := by
    refine ⟨?_, ?_, fun j hj => ⟨0, Nat.le_refl _, e24 j hj⟩, fun p hp => absurd hp (Nat.not_lt_zero p), fun p q _ hq => absurd hq (Nat.not_lt_zero q), fun p hp => absurd hp (Nat.not_lt_zero p)⟩
    · rw [fr2.2 28 (by decide) (by decide)]
      simp [mxI, upd]
    · rw [cz_zero e24]
      exact Nat.le_refl 0
  have hW : EW rr I2 := by
    refine ⟨fun j hj => ?_, ?_⟩
    · rw [fr2.1 11 (by decide) (by decide) (by decide) (by decide) (by decide) (by decide)]
      have e : I1 11 = I 11 := (a1 11 (by decide)).trans (by simp [mxI])
      have := hE j hj
      simpa [mxI, e] using this
    · rw [fr2.2 16 (by decide) (by decide)]
      have e : I1 9 = (mxI I 9 16 rr) 9 := a1 9 (by decide)
      simp [mxI, upd, e]
  obtain ⟨I3, J3, ⟨m3, s1, s2, s3, s4, s5⟩, w1⟩ := mq_ok ex (-1) (-1) hS hV ⟨_, _, _, _, _, _, _, _, hX, p2⟩
  have hW3 : EW rr I3 := hW.a (FrA.w s4)
  obtain ⟨I4, J4, ⟨m4, t1, t2, t3, t4⟩, k4, l4, i4, r4⟩ := wd_body ex (fi := 0) (dn := 1) (lnn := lnn) (ki := ki) hC hV hτ hs s5 s1 hW3
  obtain ⟨I5, J5, ⟨m5, v1, v2, v3, v4⟩, c5⟩ := wd_in ex (ki := ki) hl hC hV hτ hs (lnn - 1) 2 m3 m4 I4 J4 (Int32.ofInt (m3 : Int)) k4 l4 i4 (by omega) t2 t1 (hW3.a t4)
  have hall := ((FrA.w s4).tr t4).tr v4
  refine ⟨I5, J5, ?_, fun c c1 c2 c3 c4 c5 c6 c7 c8 c9 => ?_, fun j j1 j2 j3 j4 j5 => ?_, fun c c1 => hall.2.2 c c1⟩
  · refine wk_start ex I J rr _ ki ?_
    refine a3 _ ?_
    refine wk_init ex I1 J rr _ ki _ I2 e2 v p1 I3 J3 w1 ?_
    refine wk_di0 ex I3 J3 rr _ ki (Int32.ofInt ((0 : Nat) : Int)) (Int32.ofInt ((1 : Nat) : Int)) (gt_ff (by decide) (by omega) (by omega)) ?_
    rw [s1.1]
    exact r4 _ c5
  · rw [hall.1 c c1 c2 c3 c4 c5 c6 c7 c8 c9, fr2.1 c c1 c2 c3 c4 c5 c6]
    have e : I1 c = I c := (a1 c c9).trans (by simp [mxI, c1])
    simp [mxI, c1, e]
  · rw [hall.2.1 j j1 j2 j4, fr2.2 j j1 j2]
    have e : I1 9 = (mxI I 9 16 rr) 9 := a1 9 (by decide)
    simp [mxI, upd, e, j3, j4, j5]
