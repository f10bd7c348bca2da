/-! the model's walks, where no state has a FLAW and the states are few -/
abbrev mX : Type := Nat → Nat → Nat → Nat → (Nat → Nat) → (Nat → Nat) → (Nat → Nat) → (Nat → Nat) → Prop
/-- a set of states that the LETTERS do not leave, without FLAWS -/
def CM (τ sh : Bool) (X : mX) : Prop := ∀ (g k a b : Nat) (L F B T : Nat → Nat), X g k a b L F B T → RG g k a b L F B T ∧ (a < 4 → F a ≠ 2) ∧ (∀ j, j < g → (k >>> j) % 2 = 1 → F j ≠ 1) ∧ X g (kt k b) a b L F B T ∧ (g < 4 → (τ = false ∨ a = 4) → X (g + 1) (kt k b) g b (fu L g 1) (fu F g 1) (fu B g 0) (fu T g 0)) ∧ (g < 4 → τ = true → a < 4 → X (g + 1) (kt k b) g b (fu (fu L g 1) a 0) (fu F g 1) (fu B g 0) (fu T g 0)) ∧ (g < 4 → (τ = false ∨ b = 4) → X (g + 1) (kt k g) a g (fu L g 1) (fu F g 2) (fu B g 1) (fu T g 0)) ∧ (g < 4 → τ = true → b < 4 → X (g + 1) (kt k g) a g (fu (fu L g 1) b 0) (fu F g 2) (fu B g 1) (fu T g 0)) ∧ (a < 4 → L a ≠ 0 → F a ≠ 0 → X g (kt k b) 4 b (fu L a 0) F B T) ∧ X g (kt k b) a b (cond sh (tL g L T) L) F B (cond sh (tT g L T) T)
def VX (X : mX) (v : Int64) : Prop := ∃ (g k a b : Nat) (L F B T : Nat → Nat), X g k a b L F B T ∧ v.toInt = pci g k a b L F B T
theorem nx_X {τ sh : Bool} {X : mX} (hC : CM τ sh X) {g k a b : Nat} {L F B T : Nat → Nat} {I' : Nat → Nat → Int32} (hX : X g k a b L F B T) (h : NX τ g k a b L F B T I') : ∃ (g' k' a' b' : Nat) (L' F' B' T' : Nat → Nat), X g' k' a' b' L' F' B' T' ∧ FI I' g' k' a' b' L' F' B' T' := by
  obtain ⟨-, -, -, c1, c2, c3, c4, c5, c6, -⟩ := hC g k a b L F B T hX
  rcases h with h | ⟨h1, h2, h⟩ | ⟨h1, h2, h3, h⟩ | ⟨h1, h2, h⟩ | ⟨h1, h2, h3, h⟩ | ⟨h1, h2, h3, h⟩
  · exact ⟨_, _, _, _, _, _, _, _, c1, h⟩
  · exact ⟨_, _, _, _, _, _, _, _, c2 h1 h2, h⟩
  · exact ⟨_, _, _, _, _, _, _, _, c3 h1 h2 h3, h⟩
  · exact ⟨_, _, _, _, _, _, _, _, c4 h1 h2, h⟩
  · exact ⟨_, _, _, _, _, _, _, _, c5 h1 h2 h3, h⟩
  · exact ⟨_, _, _, _, _, _, _, _, c6 h1 h2 h3, h⟩
def FrA (I I' : Nat → Nat → Int32) (J J' : Nat → Nat → Int64) : Prop := (∀ c, c ≠ 9 → c ≠ 14 → c ≠ 15 → c ≠ 16 → c ≠ 17 → c ≠ 18 → c ≠ 22 → c ≠ 23 → c ≠ 24 → I' c = I c) ∧ (∀ j, j ≠ 14 → j ≠ 15 → j ≠ 28 → I' 9 j = I 9 j) ∧ (∀ c, c ≠ 21 → J' c = J c)
theorem FrA.rf {I : Nat → Nat → Int32} {J : Nat → Nat → Int64} : FrA I I J J := ⟨fun _ _ _ _ _ _ _ _ _ _ => rfl, fun _ _ _ _ => rfl, fun _ _ => rfl⟩
theorem FrA.tr {I I1 I2 : Nat → Nat → Int32} {J J1 J2 : Nat → Nat → Int64} (h : FrA I I1 J J1) (q : FrA I1 I2 J1 J2) : FrA I I2 J J2 := ⟨fun c a1 a2 a3 a4 a5 a6 a7 a8 a9 => (q.1 c a1 a2 a3 a4 a5 a6 a7 a8 a9).trans (h.1 c a1 a2 a3 a4 a5 a6 a7 a8 a9), fun j a1 a2 a3 => (q.2.1 j a1 a2 a3).trans (h.2.1 j a1 a2 a3), fun c a1 => (q.2.2 c a1).trans (h.2.2 c a1)⟩
theorem FrA.m {I I1 : Nat → Nat → Int32} {J : Nat → Nat → Int64} (h : FrM I I1) : FrA I I1 J J := ⟨fun c a1 a2 a3 a4 a5 a6 _ _ _ => h.1 c a1 a2 a3 a4 a5 a6, fun j a1 a2 _ => h.2 j a1 a2, fun _ _ => rfl⟩
theorem FrA.w {I I1 : Nat → Nat → Int32} {J J1 : Nat → Nat → Int64} (h : FrW I I1 J J1) : FrA I I1 J J1 := ⟨fun c a1 _ _ _ _ _ a7 a8 a9 => h.1 c a1 a7 a8 a9, fun j _ _ a3 => h.2.1 j a3, h.2.2⟩
theorem SM.m {V : Int64 → Prop} {I I1 : Nat → Nat → Int32} {J : Nat → Nat → Int64} {m : Nat} (h : SM V I J m) (q : FrM I I1) : SM V I1 J m := by
  have e24 : I1 24 = I 24 := q.1 24 (by decide) (by decide) (by decide) (by decide) (by decide) (by decide)
  have e28 : I1 9 28 = I 9 28 := q.2 28 (by decide) (by decide)
  unfold SM
  rw [e24, e28]
  exact h
/-- what holds of the world all along: the house is empty, the RULES are rr -/
def EW (rr : Int32) (I : Nat → Nat → Int32) : Prop := (∀ j, j < 7 → I 11 j = 0) ∧ I 9 16 = rr
theorem EW.a {rr : Int32} {I I1 : Nat → Nat → Int32} {J J1 : Nat → Nat → Int64} (h : EW rr I) (q : FrA I I1 J J1) : EW rr I1 := by
  have e11 : I1 11 = I 11 := q.1 11 (by decide) (by decide) (by decide) (by decide) (by decide) (by decide) (by decide) (by decide) (by decide)
  have e16 : I1 9 16 = I 9 16 := q.2.1 16 (by decide) (by decide) (by decide)
  unfold EW
  rw [e11, e16]
  exact h
def MA (V : Int64 → Prop) (I I' : Nat → Nat → Int32) (J J' : Nat → Nat → Int64) (m : Nat) : Prop := ∃ m', SM V I' J' m' ∧ m ≤ m' ∧ (∀ p, p < m → J' 21 p = J 21 p) ∧ FrA I I' J J'
theorem MA.tr {V : Int64 → Prop} {I I1 I2 : Nat → Nat → Int32} {J J1 J2 : Nat → Nat → Int64} {m m1 : Nat} (h1 : m ≤ m1) (hp : ∀ p, p < m → J1 21 p = J 21 p) (f : FrA I I1 J J1) (q : MA V I1 I2 J1 J2 m1) : MA V I I2 J J2 m := by
  obtain ⟨b, b1, b2, b3, b4⟩ := q
  exact ⟨b, b1, Nat.le_trans h1 b2, fun p z => (b3 p (by omega)).trans (hp p z), f.tr b4⟩
theorem wl_00 (ex : List (Nat × Nat)) {τ sh : Bool} {X : mX} {I : Nat → Nat → Int32} {J : Nat → Nat → Int64} {m kn : Nat} {rr ln ki fi dp la : Int32} (hC : CM τ sh X) (hV : VC (VX X)) (h : SM (VX X) I J m) (hk : kn < m) (hW : EW rr I) (hτ : Op.if_icmp.holds .ne (((rr) >>> ((0 : Int32) &&& 31)) &&& (1 : Int32)) (1 : Int32) = !τ) (hs : Op.if_icmp.holds .ne (((rr) >>> ((6 : Int32) &&& 31)) &&& (1 : Int32)) (1 : Int32) = !sh) : ∃ I' J', MA (VX X) I I' J J' m ∧ ∃ it' : Int32, ∀ res, mxRn 117 85 [(0, .ref 9), (1, .int rr), (2, .int ln), (3, .int ki), (4, .int fi), (5, .int dp), (6, .int la), (7, .int (Int32.ofInt (kn : Int))), (8, .int 1), (9, .int it')] [] (shS ex, I', J', QS) res → mxRn 117 85 [(0, .ref 9), (1, .int rr), (2, .int ln), (3, .int ki), (4, .int fi), (5, .int dp), (6, .int la), (7, .int (Int32.ofInt (kn : Int))), (8, .int 0)] [] (shS ex, I, J, QS) res := by
  have hm : m ≤ 19000 := hV (J 21) m h.2.2.2.1 h.2.2.2.2.1
  obtain ⟨g, k, a, b, L, F, B, T, hX, hp⟩ := h.2.2.2.1 kn hk
  obtain ⟨hr, n1, n2, -, -, -, -, -, -, ct⟩ := hC g k a b L F B T hX
  obtain ⟨I1, u1, u2, u3⟩ := up_ok ex (I := I) J hp hr
  have hW1 : EW rr I1 := hW.a (J := J) (FrA.m u2)
  have g1 : mxin (Int32.ofInt (kn : Int)) 20001 = true := in32 (by omega) (by decide)
  have ec : (Int32.ofInt (kn : Int)).toNatClampNeg = kn := c32 (by omega)
  have Hz : mxRn 95 0 [(0, .ref 9), (1, .long (J 21 (Int32.ofInt (kn : Int)).toNatClampNeg))] [] (shS ex, I, J, QS) (none, (shS ex, I1, J, QS)) := by rw [ec]; exact u1
  have ht1 : Op.if_icmp.holds .ne (((I1 9 16) >>> ((0 : Int32) &&& 31)) &&& (1 : Int32)) (1 : Int32) = !τ := by rw [hW1.2]; exact hτ
  obtain ⟨v, I2, d1, d2, d3⟩ := dz_0 ex J u3 hr hW1.1 ht1 n1
  rcases d3 with rfl | ⟨rfl, d3⟩
  · exact ⟨I2, J, ⟨m, (h.m u2).m d2, Nat.le_refl _, fun _ _ => rfl, FrA.tr (FrA.m u2) (FrA.m d2)⟩, 0, fun res Hr => wk_l00 ex I J rr ln ki fi dp la _ 0 I1 Hz I2 d1 (by decide) g1 Hr⟩
  · obtain ⟨g', k', a', b', L', F', B', T', x1, x2⟩ := nx_X hC hX d3
    obtain ⟨hr', -⟩ := hC _ _ _ _ _ _ _ _ x1
    obtain ⟨pv, p1, p2⟩ := pk_ok ex J x2 hr'
    have hv : VX X pv := ⟨_, _, _, _, _, _, _, _, x1, p2⟩
    obtain ⟨I3, J3, ⟨m3, s1, s2, s3, s4, -⟩, w1⟩ := mq_ok ex (Int32.ofInt (kn : Int)) 0 ((h.m u2).m d2) hV hv
    exact ⟨I3, J3, ⟨m3, s1, s2, s3, FrA.tr (FrA.tr (FrA.m u2) (FrA.m d2)) (FrA.w s4)⟩, 1, fun res Hr => wk_l10 ex I J rr ln ki fi dp la _ 0 I1 Hz I2 d1 pv p1 I3 J3 w1 (by decide) g1 Hr⟩
theorem wl_01 (ex : List (Nat × Nat)) {τ sh : Bool} {X : mX} {I : Nat → Nat → Int32} {J : Nat → Nat → Int64} {m kn : Nat} {rr ln ki fi dp la : Int32} {it : Int32} (hC : CM τ sh X) (hV : VC (VX X)) (h : SM (VX X) I J m) (hk : kn < m) (hW : EW rr I) (hτ : Op.if_icmp.holds .ne (((rr) >>> ((0 : Int32) &&& 31)) &&& (1 : Int32)) (1 : Int32) = !τ) (hs : Op.if_icmp.holds .ne (((rr) >>> ((6 : Int32) &&& 31)) &&& (1 : Int32)) (1 : Int32) = !sh) : ∃ I' J', MA (VX X) I I' J J' m ∧ ∃ it' : Int32, ∀ res, mxRn 117 85 [(0, .ref 9), (1, .int rr), (2, .int ln), (3, .int ki), (4, .int fi), (5, .int dp), (6, .int la), (7, .int (Int32.ofInt (kn : Int))), (8, .int 1), (9, .int it')] [] (shS ex, I', J', QS) res → mxRn 117 85 [(0, .ref 9), (1, .int rr), (2, .int ln), (3, .int ki), (4, .int fi), (5, .int dp), (6, .int la), (7, .int (Int32.ofInt (kn : Int))), (8, .int 0), (9, .int it)] [] (shS ex, I, J, QS) res := by
  have hm : m ≤ 19000 := hV (J 21) m h.2.2.2.1 h.2.2.2.2.1
  obtain ⟨g, k, a, b, L, F, B, T, hX, hp⟩ := h.2.2.2.1 kn hk
  obtain ⟨hr, n1, n2, -, -, -, -, -, -, ct⟩ := hC g k a b L F B T hX
  obtain ⟨I1, u1, u2, u3⟩ := up_ok ex (I := I) J hp hr
  have hW1 : EW rr I1 := hW.a (J := J) (FrA.m u2)
  have g1 : mxin (Int32.ofInt (kn : Int)) 20001 = true := in32 (by omega) (by decide)
  have ec : (Int32.ofInt (kn : Int)).toNatClampNeg = kn := c32 (by omega)
  have Hz : mxRn 95 0 [(0, .ref 9), (1, .long (J 21 (Int32.ofInt (kn : Int)).toNatClampNeg))] [] (shS ex, I, J, QS) (none, (shS ex, I1, J, QS)) := by rw [ec]; exact u1
  have ht1 : Op.if_icmp.holds .ne (((I1 9 16) >>> ((0 : Int32) &&& 31)) &&& (1 : Int32)) (1 : Int32) = !τ := by rw [hW1.2]; exact hτ
  obtain ⟨v, I2, d1, d2, d3⟩ := dz_0 ex J u3 hr hW1.1 ht1 n1
  rcases d3 with rfl | ⟨rfl, d3⟩
  · exact ⟨I2, J, ⟨m, (h.m u2).m d2, Nat.le_refl _, fun _ _ => rfl, FrA.tr (FrA.m u2) (FrA.m d2)⟩, 0, fun res Hr => wk_l01 ex I J rr ln ki fi dp la _ 0 it I1 Hz I2 d1 (by decide) g1 Hr⟩
  · obtain ⟨g', k', a', b', L', F', B', T', x1, x2⟩ := nx_X hC hX d3
    obtain ⟨hr', -⟩ := hC _ _ _ _ _ _ _ _ x1
    obtain ⟨pv, p1, p2⟩ := pk_ok ex J x2 hr'
    have hv : VX X pv := ⟨_, _, _, _, _, _, _, _, x1, p2⟩
    obtain ⟨I3, J3, ⟨m3, s1, s2, s3, s4, -⟩, w1⟩ := mq_ok ex (Int32.ofInt (kn : Int)) 0 ((h.m u2).m d2) hV hv
    exact ⟨I3, J3, ⟨m3, s1, s2, s3, FrA.tr (FrA.tr (FrA.m u2) (FrA.m d2)) (FrA.w s4)⟩, 1, fun res Hr => wk_l11 ex I J rr ln ki fi dp la _ 0 it I1 Hz I2 d1 pv p1 I3 J3 w1 (by decide) g1 Hr⟩
theorem wl_11 (ex : List (Nat × Nat)) {τ sh : Bool} {X : mX} {I : Nat → Nat → Int32} {J : Nat → Nat → Int64} {m kn : Nat} {rr ln ki fi dp la : Int32} {it : Int32} (hC : CM τ sh X) (hV : VC (VX X)) (h : SM (VX X) I J m) (hk : kn < m) (hW : EW rr I) (hτ : Op.if_icmp.holds .ne (((rr) >>> ((0 : Int32) &&& 31)) &&& (1 : Int32)) (1 : Int32) = !τ) (hs : Op.if_icmp.holds .ne (((rr) >>> ((6 : Int32) &&& 31)) &&& (1 : Int32)) (1 : Int32) = !sh) : ∃ I' J', MA (VX X) I I' J J' m ∧ ∃ it' : Int32, ∀ res, mxRn 117 85 [(0, .ref 9), (1, .int rr), (2, .int ln), (3, .int ki), (4, .int fi), (5, .int dp), (6, .int la), (7, .int (Int32.ofInt (kn : Int))), (8, .int 2), (9, .int it')] [] (shS ex, I', J', QS) res → mxRn 117 85 [(0, .ref 9), (1, .int rr), (2, .int ln), (3, .int ki), (4, .int fi), (5, .int dp), (6, .int la), (7, .int (Int32.ofInt (kn : Int))), (8, .int 1), (9, .int it)] [] (shS ex, I, J, QS) res := by
  have hm : m ≤ 19000 := hV (J 21) m h.2.2.2.1 h.2.2.2.2.1
  obtain ⟨g, k, a, b, L, F, B, T, hX, hp⟩ := h.2.2.2.1 kn hk
  obtain ⟨hr, n1, n2, -, -, -, -, -, -, ct⟩ := hC g k a b L F B T hX
  obtain ⟨I1, u1, u2, u3⟩ := up_ok ex (I := I) J hp hr
  have hW1 : EW rr I1 := hW.a (J := J) (FrA.m u2)
  have g1 : mxin (Int32.ofInt (kn : Int)) 20001 = true := in32 (by omega) (by decide)
  have ec : (Int32.ofInt (kn : Int)).toNatClampNeg = kn := c32 (by omega)
  have Hz : mxRn 95 0 [(0, .ref 9), (1, .long (J 21 (Int32.ofInt (kn : Int)).toNatClampNeg))] [] (shS ex, I, J, QS) (none, (shS ex, I1, J, QS)) := by rw [ec]; exact u1
  have ht1 : Op.if_icmp.holds .ne (((I1 9 16) >>> ((0 : Int32) &&& 31)) &&& (1 : Int32)) (1 : Int32) = !τ := by rw [hW1.2]; exact hτ
  obtain ⟨v, I2, d1, d2, d3⟩ := dz_1 ex J u3 hr hW1.1 ht1 n1
  rcases d3 with rfl | ⟨rfl, d3⟩
  · exact ⟨I2, J, ⟨m, (h.m u2).m d2, Nat.le_refl _, fun _ _ => rfl, FrA.tr (FrA.m u2) (FrA.m d2)⟩, 0, fun res Hr => wk_l01 ex I J rr ln ki fi dp la _ 1 it I1 Hz I2 d1 (by decide) g1 Hr⟩
  · obtain ⟨g', k', a', b', L', F', B', T', x1, x2⟩ := nx_X hC hX d3
    obtain ⟨hr', -⟩ := hC _ _ _ _ _ _ _ _ x1
    obtain ⟨pv, p1, p2⟩ := pk_ok ex J x2 hr'
    have hv : VX X pv := ⟨_, _, _, _, _, _, _, _, x1, p2⟩
    obtain ⟨I3, J3, ⟨m3, s1, s2, s3, s4, -⟩, w1⟩ := mq_ok ex (Int32.ofInt (kn : Int)) 1 ((h.m u2).m d2) hV hv
    exact ⟨I3, J3, ⟨m3, s1, s2, s3, FrA.tr (FrA.tr (FrA.m u2) (FrA.m d2)) (FrA.w s4)⟩, 1, fun res Hr => wk_l11 ex I J rr ln ki fi dp la _ 1 it I1 Hz I2 d1 pv p1 I3 J3 w1 (by decide) g1 Hr⟩
theorem wl_21 (ex : List (Nat × Nat)) {τ sh : Bool} {X : mX} {I : Nat → Nat → Int32} {J : Nat → Nat → Int64} {m kn : Nat} {rr ln ki fi dp la : Int32} {it : Int32} (hC : CM τ sh X) (hV : VC (VX X)) (h : SM (VX X) I J m) (hk : kn < m) (hW : EW rr I) (hτ : Op.if_icmp.holds .ne (((rr) >>> ((0 : Int32) &&& 31)) &&& (1 : Int32)) (1 : Int32) = !τ) (hs : Op.if_icmp.holds .ne (((rr) >>> ((6 : Int32) &&& 31)) &&& (1 : Int32)) (1 : Int32) = !sh) : ∃ I' J', MA (VX X) I I' J J' m ∧ ∃ it' : Int32, ∀ res, mxRn 117 85 [(0, .ref 9), (1, .int rr), (2, .int ln), (3, .int ki), (4, .int fi), (5, .int dp), (6, .int la), (7, .int (Int32.ofInt (kn : Int))), (8, .int 3), (9, .int it')] [] (shS ex, I', J', QS) res → mxRn 117 85 [(0, .ref 9), (1, .int rr), (2, .int ln), (3, .int ki), (4, .int fi), (5, .int dp), (6, .int la), (7, .int (Int32.ofInt (kn : Int))), (8, .int 2), (9, .int it)] [] (shS ex, I, J, QS) res := by
  have hm : m ≤ 19000 := hV (J 21) m h.2.2.2.1 h.2.2.2.2.1
  obtain ⟨g, k, a, b, L, F, B, T, hX, hp⟩ := h.2.2.2.1 kn hk
  obtain ⟨hr, n1, n2, -, -, -, -, -, -, ct⟩ := hC g k a b L F B T hX
  obtain ⟨I1, u1, u2, u3⟩ := up_ok ex (I := I) J hp hr
  have hW1 : EW rr I1 := hW.a (J := J) (FrA.m u2)
  have g1 : mxin (Int32.ofInt (kn : Int)) 20001 = true := in32 (by omega) (by decide)
  have ec : (Int32.ofInt (kn : Int)).toNatClampNeg = kn := c32 (by omega)
  have Hz : mxRn 95 0 [(0, .ref 9), (1, .long (J 21 (Int32.ofInt (kn : Int)).toNatClampNeg))] [] (shS ex, I, J, QS) (none, (shS ex, I1, J, QS)) := by rw [ec]; exact u1
  have ht1 : Op.if_icmp.holds .ne (((I1 9 16) >>> ((0 : Int32) &&& 31)) &&& (1 : Int32)) (1 : Int32) = !τ := by rw [hW1.2]; exact hτ
  obtain ⟨v, I2, d1, d2, d3⟩ := dz_2 ex J u3 hr hW1.1 ht1 n1
  rcases d3 with rfl | ⟨rfl, d3⟩
  · exact ⟨I2, J, ⟨m, (h.m u2).m d2, Nat.le_refl _, fun _ _ => rfl, FrA.tr (FrA.m u2) (FrA.m d2)⟩, 0, fun res Hr => wk_l01 ex I J rr ln ki fi dp la _ 2 it I1 Hz I2 d1 (by decide) g1 Hr⟩
  · obtain ⟨g', k', a', b', L', F', B', T', x1, x2⟩ := nx_X hC hX d3
    obtain ⟨hr', -⟩ := hC _ _ _ _ _ _ _ _ x1
    obtain ⟨pv, p1, p2⟩ := pk_ok ex J x2 hr'
    have hv : VX X pv := ⟨_, _, _, _, _, _, _, _, x1, p2⟩
    obtain ⟨I3, J3, ⟨m3, s1, s2, s3, s4, -⟩, w1⟩ := mq_ok ex (Int32.ofInt (kn : Int)) 2 ((h.m u2).m d2) hV hv
    exact ⟨I3, J3, ⟨m3, s1, s2, s3, FrA.tr (FrA.tr (FrA.m u2) (FrA.m d2)) (FrA.w s4)⟩, 1, fun res Hr => wk_l11 ex I J rr ln ki fi dp la _ 2 it I1 Hz I2 d1 pv p1 I3 J3 w1 (by decide) g1 Hr⟩
theorem wl_31 (ex : List (Nat × Nat)) {τ sh : Bool} {X : mX} {I : Nat → Nat → Int32} {J : Nat → Nat → Int64} {m kn : Nat} {rr ln ki fi dp la : Int32} {it : Int32} (hC : CM τ sh X) (hV : VC (VX X)) (h : SM (VX X) I J m) (hk : kn < m) (hW : EW rr I) (hτ : Op.if_icmp.holds .ne (((rr) >>> ((0 : Int32) &&& 31)) &&& (1 : Int32)) (1 : Int32) = !τ) (hs : Op.if_icmp.holds .ne (((rr) >>> ((6 : Int32) &&& 31)) &&& (1 : Int32)) (1 : Int32) = !sh) : ∃ I' J', MA (VX X) I I' J J' m ∧ ∃ it' : Int32, ∀ res, mxRn 117 85 [(0, .ref 9), (1, .int rr), (2, .int ln), (3, .int ki), (4, .int fi), (5, .int dp), (6, .int la), (7, .int (Int32.ofInt (kn : Int))), (8, .int 4), (9, .int it')] [] (shS ex, I', J', QS) res → mxRn 117 85 [(0, .ref 9), (1, .int rr), (2, .int ln), (3, .int ki), (4, .int fi), (5, .int dp), (6, .int la), (7, .int (Int32.ofInt (kn : Int))), (8, .int 3), (9, .int it)] [] (shS ex, I, J, QS) res := by
  have hm : m ≤ 19000 := hV (J 21) m h.2.2.2.1 h.2.2.2.2.1
  obtain ⟨g, k, a, b, L, F, B, T, hX, hp⟩ := h.2.2.2.1 kn hk
  obtain ⟨hr, n1, n2, -, -, -, -, -, -, ct⟩ := hC g k a b L F B T hX
  obtain ⟨I1, u1, u2, u3⟩ := up_ok ex (I := I) J hp hr
  have hW1 : EW rr I1 := hW.a (J := J) (FrA.m u2)
  have g1 : mxin (Int32.ofInt (kn : Int)) 20001 = true := in32 (by omega) (by decide)
  have ec : (Int32.ofInt (kn : Int)).toNatClampNeg = kn := c32 (by omega)
  have Hz : mxRn 95 0 [(0, .ref 9), (1, .long (J 21 (Int32.ofInt (kn : Int)).toNatClampNeg))] [] (shS ex, I, J, QS) (none, (shS ex, I1, J, QS)) := by rw [ec]; exact u1
  have ht1 : Op.if_icmp.holds .ne (((I1 9 16) >>> ((0 : Int32) &&& 31)) &&& (1 : Int32)) (1 : Int32) = !τ := by rw [hW1.2]; exact hτ
  obtain ⟨v, I2, d1, d2, d3⟩ := dz_3 ex J u3 hr hW1.1 ht1 n1
  rcases d3 with rfl | ⟨rfl, d3⟩
  · exact ⟨I2, J, ⟨m, (h.m u2).m d2, Nat.le_refl _, fun _ _ => rfl, FrA.tr (FrA.m u2) (FrA.m d2)⟩, 0, fun res Hr => wk_l01 ex I J rr ln ki fi dp la _ 3 it I1 Hz I2 d1 (by decide) g1 Hr⟩
  · obtain ⟨g', k', a', b', L', F', B', T', x1, x2⟩ := nx_X hC hX d3
    obtain ⟨hr', -⟩ := hC _ _ _ _ _ _ _ _ x1
    obtain ⟨pv, p1, p2⟩ := pk_ok ex J x2 hr'
    have hv : VX X pv := ⟨_, _, _, _, _, _, _, _, x1, p2⟩
    obtain ⟨I3, J3, ⟨m3, s1, s2, s3, s4, -⟩, w1⟩ := mq_ok ex (Int32.ofInt (kn : Int)) 3 ((h.m u2).m d2) hV hv
    exact ⟨I3, J3, ⟨m3, s1, s2, s3, FrA.tr (FrA.tr (FrA.m u2) (FrA.m d2)) (FrA.w s4)⟩, 1, fun res Hr => wk_l11 ex I J rr ln ki fi dp la _ 3 it I1 Hz I2 d1 pv p1 I3 J3 w1 (by decide) g1 Hr⟩
theorem wl_41 (ex : List (Nat × Nat)) {τ sh : Bool} {X : mX} {I : Nat → Nat → Int32} {J : Nat → Nat → Int64} {m kn : Nat} {rr ln ki fi dp la : Int32} {it : Int32} (hC : CM τ sh X) (hV : VC (VX X)) (h : SM (VX X) I J m) (hk : kn < m) (hW : EW rr I) (hτ : Op.if_icmp.holds .ne (((rr) >>> ((0 : Int32) &&& 31)) &&& (1 : Int32)) (1 : Int32) = !τ) (hs : Op.if_icmp.holds .ne (((rr) >>> ((6 : Int32) &&& 31)) &&& (1 : Int32)) (1 : Int32) = !sh) : ∃ I' J', MA (VX X) I I' J J' m ∧ ∃ it' : Int32, ∀ res, mxRn 117 85 [(0, .ref 9), (1, .int rr), (2, .int ln), (3, .int ki), (4, .int fi), (5, .int dp), (6, .int la), (7, .int (Int32.ofInt (kn : Int))), (8, .int 5), (9, .int it')] [] (shS ex, I', J', QS) res → mxRn 117 85 [(0, .ref 9), (1, .int rr), (2, .int ln), (3, .int ki), (4, .int fi), (5, .int dp), (6, .int la), (7, .int (Int32.ofInt (kn : Int))), (8, .int 4), (9, .int it)] [] (shS ex, I, J, QS) res := by
  have hm : m ≤ 19000 := hV (J 21) m h.2.2.2.1 h.2.2.2.2.1
  obtain ⟨g, k, a, b, L, F, B, T, hX, hp⟩ := h.2.2.2.1 kn hk
  obtain ⟨hr, n1, n2, -, -, -, -, -, -, ct⟩ := hC g k a b L F B T hX
  obtain ⟨I1, u1, u2, u3⟩ := up_ok ex (I := I) J hp hr
  have hW1 : EW rr I1 := hW.a (J := J) (FrA.m u2)
  have g1 : mxin (Int32.ofInt (kn : Int)) 20001 = true := in32 (by omega) (by decide)
  have ec : (Int32.ofInt (kn : Int)).toNatClampNeg = kn := c32 (by omega)
  have Hz : mxRn 95 0 [(0, .ref 9), (1, .long (J 21 (Int32.ofInt (kn : Int)).toNatClampNeg))] [] (shS ex, I, J, QS) (none, (shS ex, I1, J, QS)) := by rw [ec]; exact u1
  have ht1 : Op.if_icmp.holds .ne (((I1 9 16) >>> ((0 : Int32) &&& 31)) &&& (1 : Int32)) (1 : Int32) = !τ := by rw [hW1.2]; exact hτ
  obtain ⟨v, I2, d1, d2, d3⟩ := dz_4 ex J u3 hr hW1.1 ht1 n1
  rcases d3 with rfl | ⟨rfl, d3⟩
  · exact ⟨I2, J, ⟨m, (h.m u2).m d2, Nat.le_refl _, fun _ _ => rfl, FrA.tr (FrA.m u2) (FrA.m d2)⟩, 0, fun res Hr => wk_l01 ex I J rr ln ki fi dp la _ 4 it I1 Hz I2 d1 (by decide) g1 Hr⟩
  · obtain ⟨g', k', a', b', L', F', B', T', x1, x2⟩ := nx_X hC hX d3
    obtain ⟨hr', -⟩ := hC _ _ _ _ _ _ _ _ x1
    obtain ⟨pv, p1, p2⟩ := pk_ok ex J x2 hr'
    have hv : VX X pv := ⟨_, _, _, _, _, _, _, _, x1, p2⟩
    obtain ⟨I3, J3, ⟨m3, s1, s2, s3, s4, -⟩, w1⟩ := mq_ok ex (Int32.ofInt (kn : Int)) 4 ((h.m u2).m d2) hV hv
    exact ⟨I3, J3, ⟨m3, s1, s2, s3, FrA.tr (FrA.tr (FrA.m u2) (FrA.m d2)) (FrA.w s4)⟩, 1, fun res Hr => wk_l11 ex I J rr ln ki fi dp la _ 4 it I1 Hz I2 d1 pv p1 I3 J3 w1 (by decide) g1 Hr⟩
theorem wl_51 (ex : List (Nat × Nat)) {τ sh : Bool} {X : mX} {I : Nat → Nat → Int32} {J : Nat → Nat → Int64} {m kn : Nat} {rr ln ki fi dp la : Int32} {it : Int32} (hC : CM τ sh X) (hV : VC (VX X)) (h : SM (VX X) I J m) (hk : kn < m) (hW : EW rr I) (hτ : Op.if_icmp.holds .ne (((rr) >>> ((0 : Int32) &&& 31)) &&& (1 : Int32)) (1 : Int32) = !τ) (hs : Op.if_icmp.holds .ne (((rr) >>> ((6 : Int32) &&& 31)) &&& (1 : Int32)) (1 : Int32) = !sh) : ∃ I' J', MA (VX X) I I' J J' m ∧ ∃ it' : Int32, ∀ res, mxRn 117 85 [(0, .ref 9), (1, .int rr), (2, .int ln), (3, .int ki), (4, .int fi), (5, .int dp), (6, .int la), (7, .int (Int32.ofInt (kn : Int))), (8, .int 6), (9, .int it')] [] (shS ex, I', J', QS) res → mxRn 117 85 [(0, .ref 9), (1, .int rr), (2, .int ln), (3, .int ki), (4, .int fi), (5, .int dp), (6, .int la), (7, .int (Int32.ofInt (kn : Int))), (8, .int 5), (9, .int it)] [] (shS ex, I, J, QS) res := by
  have hm : m ≤ 19000 := hV (J 21) m h.2.2.2.1 h.2.2.2.2.1
  obtain ⟨g, k, a, b, L, F, B, T, hX, hp⟩ := h.2.2.2.1 kn hk
  obtain ⟨hr, n1, n2, -, -, -, -, -, -, ct⟩ := hC g k a b L F B T hX
  obtain ⟨I1, u1, u2, u3⟩ := up_ok ex (I := I) J hp hr
  have hW1 : EW rr I1 := hW.a (J := J) (FrA.m u2)
  have g1 : mxin (Int32.ofInt (kn : Int)) 20001 = true := in32 (by omega) (by decide)
  have ec : (Int32.ofInt (kn : Int)).toNatClampNeg = kn := c32 (by omega)
  have Hz : mxRn 95 0 [(0, .ref 9), (1, .long (J 21 (Int32.ofInt (kn : Int)).toNatClampNeg))] [] (shS ex, I, J, QS) (none, (shS ex, I1, J, QS)) := by rw [ec]; exact u1
  have ht1 : Op.if_icmp.holds .ne (((I1 9 16) >>> ((0 : Int32) &&& 31)) &&& (1 : Int32)) (1 : Int32) = !τ := by rw [hW1.2]; exact hτ
  obtain ⟨v, I2, d1, d2, d3⟩ := dz_5 ex J u3 hr hW1.1 ht1 n1
  rcases d3 with rfl | ⟨rfl, d3⟩
  · exact ⟨I2, J, ⟨m, (h.m u2).m d2, Nat.le_refl _, fun _ _ => rfl, FrA.tr (FrA.m u2) (FrA.m d2)⟩, 0, fun res Hr => wk_l01 ex I J rr ln ki fi dp la _ 5 it I1 Hz I2 d1 (by decide) g1 Hr⟩
  · obtain ⟨g', k', a', b', L', F', B', T', x1, x2⟩ := nx_X hC hX d3
    obtain ⟨hr', -⟩ := hC _ _ _ _ _ _ _ _ x1
    obtain ⟨pv, p1, p2⟩ := pk_ok ex J x2 hr'
    have hv : VX X pv := ⟨_, _, _, _, _, _, _, _, x1, p2⟩
    obtain ⟨I3, J3, ⟨m3, s1, s2, s3, s4, -⟩, w1⟩ := mq_ok ex (Int32.ofInt (kn : Int)) 5 ((h.m u2).m d2) hV hv
    exact ⟨I3, J3, ⟨m3, s1, s2, s3, FrA.tr (FrA.tr (FrA.m u2) (FrA.m d2)) (FrA.w s4)⟩, 1, fun res Hr => wk_l11 ex I J rr ln ki fi dp la _ 5 it I1 Hz I2 d1 pv p1 I3 J3 w1 (by decide) g1 Hr⟩
theorem wl_61 (ex : List (Nat × Nat)) {τ sh : Bool} {X : mX} {I : Nat → Nat → Int32} {J : Nat → Nat → Int64} {m kn : Nat} {rr ln ki fi dp la : Int32} {it : Int32} (hC : CM τ sh X) (hV : VC (VX X)) (h : SM (VX X) I J m) (hk : kn < m) (hW : EW rr I) (hτ : Op.if_icmp.holds .ne (((rr) >>> ((0 : Int32) &&& 31)) &&& (1 : Int32)) (1 : Int32) = !τ) (hs : Op.if_icmp.holds .ne (((rr) >>> ((6 : Int32) &&& 31)) &&& (1 : Int32)) (1 : Int32) = !sh) : ∃ I' J', MA (VX X) I I' J J' m ∧ ∃ it' : Int32, ∀ res, mxRn 117 85 [(0, .ref 9), (1, .int rr), (2, .int ln), (3, .int ki), (4, .int fi), (5, .int dp), (6, .int la), (7, .int (Int32.ofInt (kn : Int))), (8, .int 7), (9, .int it')] [] (shS ex, I', J', QS) res → mxRn 117 85 [(0, .ref 9), (1, .int rr), (2, .int ln), (3, .int ki), (4, .int fi), (5, .int dp), (6, .int la), (7, .int (Int32.ofInt (kn : Int))), (8, .int 6), (9, .int it)] [] (shS ex, I, J, QS) res := by
  have hm : m ≤ 19000 := hV (J 21) m h.2.2.2.1 h.2.2.2.2.1
  obtain ⟨g, k, a, b, L, F, B, T, hX, hp⟩ := h.2.2.2.1 kn hk
  obtain ⟨hr, n1, n2, -, -, -, -, -, -, ct⟩ := hC g k a b L F B T hX
  obtain ⟨I1, u1, u2, u3⟩ := up_ok ex (I := I) J hp hr
  have hW1 : EW rr I1 := hW.a (J := J) (FrA.m u2)
  have g1 : mxin (Int32.ofInt (kn : Int)) 20001 = true := in32 (by omega) (by decide)
  have ec : (Int32.ofInt (kn : Int)).toNatClampNeg = kn := c32 (by omega)
  have Hz : mxRn 95 0 [(0, .ref 9), (1, .long (J 21 (Int32.ofInt (kn : Int)).toNatClampNeg))] [] (shS ex, I, J, QS) (none, (shS ex, I1, J, QS)) := by rw [ec]; exact u1
  have ht1 : Op.if_icmp.holds .ne (((I1 9 16) >>> ((0 : Int32) &&& 31)) &&& (1 : Int32)) (1 : Int32) = !τ := by rw [hW1.2]; exact hτ
  obtain ⟨v, I2, d1, d2, d3⟩ := dz_6 ex J u3 hr hW1.1 ht1 n1
  rcases d3 with rfl | ⟨rfl, d3⟩
  · exact ⟨I2, J, ⟨m, (h.m u2).m d2, Nat.le_refl _, fun _ _ => rfl, FrA.tr (FrA.m u2) (FrA.m d2)⟩, 0, fun res Hr => wk_l01 ex I J rr ln ki fi dp la _ 6 it I1 Hz I2 d1 (by decide) g1 Hr⟩
  · obtain ⟨g', k', a', b', L', F', B', T', x1, x2⟩ := nx_X hC hX d3
    obtain ⟨hr', -⟩ := hC _ _ _ _ _ _ _ _ x1
    obtain ⟨pv, p1, p2⟩ := pk_ok ex J x2 hr'
    have hv : VX X pv := ⟨_, _, _, _, _, _, _, _, x1, p2⟩
    obtain ⟨I3, J3, ⟨m3, s1, s2, s3, s4, -⟩, w1⟩ := mq_ok ex (Int32.ofInt (kn : Int)) 6 ((h.m u2).m d2) hV hv
    exact ⟨I3, J3, ⟨m3, s1, s2, s3, FrA.tr (FrA.tr (FrA.m u2) (FrA.m d2)) (FrA.w s4)⟩, 1, fun res Hr => wk_l11 ex I J rr ln ki fi dp la _ 6 it I1 Hz I2 d1 pv p1 I3 J3 w1 (by decide) g1 Hr⟩
theorem wl_71 (ex : List (Nat × Nat)) {τ sh : Bool} {X : mX} {I : Nat → Nat → Int32} {J : Nat → Nat → Int64} {m kn : Nat} {rr ln ki fi dp la : Int32} {it : Int32} (hC : CM τ sh X) (hV : VC (VX X)) (h : SM (VX X) I J m) (hk : kn < m) (hW : EW rr I) (hτ : Op.if_icmp.holds .ne (((rr) >>> ((0 : Int32) &&& 31)) &&& (1 : Int32)) (1 : Int32) = !τ) (hs : Op.if_icmp.holds .ne (((rr) >>> ((6 : Int32) &&& 31)) &&& (1 : Int32)) (1 : Int32) = !sh) : ∃ I' J', MA (VX X) I I' J J' m ∧ ∃ it' : Int32, ∀ res, mxRn 117 85 [(0, .ref 9), (1, .int rr), (2, .int ln), (3, .int ki), (4, .int fi), (5, .int dp), (6, .int la), (7, .int (Int32.ofInt (kn : Int))), (8, .int 8), (9, .int it')] [] (shS ex, I', J', QS) res → mxRn 117 85 [(0, .ref 9), (1, .int rr), (2, .int ln), (3, .int ki), (4, .int fi), (5, .int dp), (6, .int la), (7, .int (Int32.ofInt (kn : Int))), (8, .int 7), (9, .int it)] [] (shS ex, I, J, QS) res := by
  have hm : m ≤ 19000 := hV (J 21) m h.2.2.2.1 h.2.2.2.2.1
  obtain ⟨g, k, a, b, L, F, B, T, hX, hp⟩ := h.2.2.2.1 kn hk
  obtain ⟨hr, n1, n2, -, -, -, -, -, -, ct⟩ := hC g k a b L F B T hX
  obtain ⟨I1, u1, u2, u3⟩ := up_ok ex (I := I) J hp hr
  have hW1 : EW rr I1 := hW.a (J := J) (FrA.m u2)
  have g1 : mxin (Int32.ofInt (kn : Int)) 20001 = true := in32 (by omega) (by decide)
  have ec : (Int32.ofInt (kn : Int)).toNatClampNeg = kn := c32 (by omega)
  have Hz : mxRn 95 0 [(0, .ref 9), (1, .long (J 21 (Int32.ofInt (kn : Int)).toNatClampNeg))] [] (shS ex, I, J, QS) (none, (shS ex, I1, J, QS)) := by rw [ec]; exact u1
  have ht1 : Op.if_icmp.holds .ne (((I1 9 16) >>> ((0 : Int32) &&& 31)) &&& (1 : Int32)) (1 : Int32) = !τ := by rw [hW1.2]; exact hτ
  obtain ⟨v, I2, d1, d2, d3⟩ := dz_7 ex J u3 hr hW1.1 ht1 n1
  rcases d3 with rfl | ⟨rfl, d3⟩
  · exact ⟨I2, J, ⟨m, (h.m u2).m d2, Nat.le_refl _, fun _ _ => rfl, FrA.tr (FrA.m u2) (FrA.m d2)⟩, 0, fun res Hr => wk_l01 ex I J rr ln ki fi dp la _ 7 it I1 Hz I2 d1 (by decide) g1 Hr⟩
  · obtain ⟨g', k', a', b', L', F', B', T', x1, x2⟩ := nx_X hC hX d3
    obtain ⟨hr', -⟩ := hC _ _ _ _ _ _ _ _ x1
    obtain ⟨pv, p1, p2⟩ := pk_ok ex J x2 hr'
    have hv : VX X pv := ⟨_, _, _, _, _, _, _, _, x1, p2⟩
    obtain ⟨I3, J3, ⟨m3, s1, s2, s3, s4, -⟩, w1⟩ := mq_ok ex (Int32.ofInt (kn : Int)) 7 ((h.m u2).m d2) hV hv
    exact ⟨I3, J3, ⟨m3, s1, s2, s3, FrA.tr (FrA.tr (FrA.m u2) (FrA.m d2)) (FrA.w s4)⟩, 1, fun res Hr => wk_l11 ex I J rr ln ki fi dp la _ 7 it I1 Hz I2 d1 pv p1 I3 J3 w1 (by decide) g1 Hr⟩
theorem wl_81 (ex : List (Nat × Nat)) {τ sh : Bool} {X : mX} {I : Nat → Nat → Int32} {J : Nat → Nat → Int64} {m kn : Nat} {rr ln ki fi dp la : Int32} {it : Int32} (hC : CM τ sh X) (hV : VC (VX X)) (h : SM (VX X) I J m) (hk : kn < m) (hW : EW rr I) (hτ : Op.if_icmp.holds .ne (((rr) >>> ((0 : Int32) &&& 31)) &&& (1 : Int32)) (1 : Int32) = !τ) (hs : Op.if_icmp.holds .ne (((rr) >>> ((6 : Int32) &&& 31)) &&& (1 : Int32)) (1 : Int32) = !sh) : ∃ I' J', MA (VX X) I I' J J' m ∧ ∃ it' : Int32, ∀ res, mxRn 117 85 [(0, .ref 9), (1, .int rr), (2, .int ln), (3, .int ki), (4, .int fi), (5, .int dp), (6, .int la), (7, .int (Int32.ofInt (kn : Int))), (8, .int 9), (9, .int it')] [] (shS ex, I', J', QS) res → mxRn 117 85 [(0, .ref 9), (1, .int rr), (2, .int ln), (3, .int ki), (4, .int fi), (5, .int dp), (6, .int la), (7, .int (Int32.ofInt (kn : Int))), (8, .int 8), (9, .int it)] [] (shS ex, I, J, QS) res := by
  have hm : m ≤ 19000 := hV (J 21) m h.2.2.2.1 h.2.2.2.2.1
  obtain ⟨g, k, a, b, L, F, B, T, hX, hp⟩ := h.2.2.2.1 kn hk
  obtain ⟨hr, n1, n2, -, -, -, -, -, -, ct⟩ := hC g k a b L F B T hX
  obtain ⟨I1, u1, u2, u3⟩ := up_ok ex (I := I) J hp hr
  have hW1 : EW rr I1 := hW.a (J := J) (FrA.m u2)
  have g1 : mxin (Int32.ofInt (kn : Int)) 20001 = true := in32 (by omega) (by decide)
  have ec : (Int32.ofInt (kn : Int)).toNatClampNeg = kn := c32 (by omega)
  have Hz : mxRn 95 0 [(0, .ref 9), (1, .long (J 21 (Int32.ofInt (kn : Int)).toNatClampNeg))] [] (shS ex, I, J, QS) (none, (shS ex, I1, J, QS)) := by rw [ec]; exact u1
  have ht1 : Op.if_icmp.holds .ne (((I1 9 16) >>> ((0 : Int32) &&& 31)) &&& (1 : Int32)) (1 : Int32) = !τ := by rw [hW1.2]; exact hτ
  obtain ⟨v, I2, d1, d2, d3⟩ := dz_8 ex J u3 hr hW1.1 ht1 n1
  rcases d3 with rfl | ⟨rfl, d3⟩
  · exact ⟨I2, J, ⟨m, (h.m u2).m d2, Nat.le_refl _, fun _ _ => rfl, FrA.tr (FrA.m u2) (FrA.m d2)⟩, 0, fun res Hr => wk_l01 ex I J rr ln ki fi dp la _ 8 it I1 Hz I2 d1 (by decide) g1 Hr⟩
  · obtain ⟨g', k', a', b', L', F', B', T', x1, x2⟩ := nx_X hC hX d3
    obtain ⟨hr', -⟩ := hC _ _ _ _ _ _ _ _ x1
    obtain ⟨pv, p1, p2⟩ := pk_ok ex J x2 hr'
    have hv : VX X pv := ⟨_, _, _, _, _, _, _, _, x1, p2⟩
    obtain ⟨I3, J3, ⟨m3, s1, s2, s3, s4, -⟩, w1⟩ := mq_ok ex (Int32.ofInt (kn : Int)) 8 ((h.m u2).m d2) hV hv
    exact ⟨I3, J3, ⟨m3, s1, s2, s3, FrA.tr (FrA.tr (FrA.m u2) (FrA.m d2)) (FrA.w s4)⟩, 1, fun res Hr => wk_l11 ex I J rr ln ki fi dp la _ 8 it I1 Hz I2 d1 pv p1 I3 J3 w1 (by decide) g1 Hr⟩
theorem wl_91 (ex : List (Nat × Nat)) {τ sh : Bool} {X : mX} {I : Nat → Nat → Int32} {J : Nat → Nat → Int64} {m kn : Nat} {rr ln ki fi dp la : Int32} {it : Int32} (hC : CM τ sh X) (hV : VC (VX X)) (h : SM (VX X) I J m) (hk : kn < m) (hW : EW rr I) (hτ : Op.if_icmp.holds .ne (((rr) >>> ((0 : Int32) &&& 31)) &&& (1 : Int32)) (1 : Int32) = !τ) (hs : Op.if_icmp.holds .ne (((rr) >>> ((6 : Int32) &&& 31)) &&& (1 : Int32)) (1 : Int32) = !sh) : ∃ I' J', MA (VX X) I I' J J' m ∧ ∃ it' : Int32, ∀ res, mxRn 117 85 [(0, .ref 9), (1, .int rr), (2, .int ln), (3, .int ki), (4, .int fi), (5, .int dp), (6, .int la), (7, .int (Int32.ofInt (kn : Int))), (8, .int 10), (9, .int it')] [] (shS ex, I', J', QS) res → mxRn 117 85 [(0, .ref 9), (1, .int rr), (2, .int ln), (3, .int ki), (4, .int fi), (5, .int dp), (6, .int la), (7, .int (Int32.ofInt (kn : Int))), (8, .int 9), (9, .int it)] [] (shS ex, I, J, QS) res := by
  have hm : m ≤ 19000 := hV (J 21) m h.2.2.2.1 h.2.2.2.2.1
  obtain ⟨g, k, a, b, L, F, B, T, hX, hp⟩ := h.2.2.2.1 kn hk
  obtain ⟨hr, n1, n2, -, -, -, -, -, -, ct⟩ := hC g k a b L F B T hX
  obtain ⟨I1, u1, u2, u3⟩ := up_ok ex (I := I) J hp hr
  have hW1 : EW rr I1 := hW.a (J := J) (FrA.m u2)
  have g1 : mxin (Int32.ofInt (kn : Int)) 20001 = true := in32 (by omega) (by decide)
  have ec : (Int32.ofInt (kn : Int)).toNatClampNeg = kn := c32 (by omega)
  have Hz : mxRn 95 0 [(0, .ref 9), (1, .long (J 21 (Int32.ofInt (kn : Int)).toNatClampNeg))] [] (shS ex, I, J, QS) (none, (shS ex, I1, J, QS)) := by rw [ec]; exact u1
  have ht1 : Op.if_icmp.holds .ne (((I1 9 16) >>> ((0 : Int32) &&& 31)) &&& (1 : Int32)) (1 : Int32) = !τ := by rw [hW1.2]; exact hτ
  obtain ⟨I2, d1, d2⟩ := dz_9 ex J u3 hr n2
  exact ⟨I2, J, ⟨m, (h.m u2).m d2, Nat.le_refl _, fun _ _ => rfl, FrA.tr (FrA.m u2) (FrA.m d2)⟩, 0, fun res Hr => wk_l01 ex I J rr ln ki fi dp la _ 9 it I1 Hz I2 d1 (by decide) g1 Hr⟩
theorem wl_101 (ex : List (Nat × Nat)) {τ sh : Bool} {X : mX} {I : Nat → Nat → Int32} {J : Nat → Nat → Int64} {m kn : Nat} {rr ln ki fi dp la : Int32} {it : Int32} (hC : CM τ sh X) (hV : VC (VX X)) (h : SM (VX X) I J m) (hk : kn < m) (hW : EW rr I) (hτ : Op.if_icmp.holds .ne (((rr) >>> ((0 : Int32) &&& 31)) &&& (1 : Int32)) (1 : Int32) = !τ) (hs : Op.if_icmp.holds .ne (((rr) >>> ((6 : Int32) &&& 31)) &&& (1 : Int32)) (1 : Int32) = !sh) : ∃ I' J', MA (VX X) I I' J J' m ∧ ∃ it' : Int32, ∀ res, mxRn 117 85 [(0, .ref 9), (1, .int rr), (2, .int ln), (3, .int ki), (4, .int fi), (5, .int dp), (6, .int la), (7, .int (Int32.ofInt (kn : Int))), (8, .int 11), (9, .int it')] [] (shS ex, I', J', QS) res → mxRn 117 85 [(0, .ref 9), (1, .int rr), (2, .int ln), (3, .int ki), (4, .int fi), (5, .int dp), (6, .int la), (7, .int (Int32.ofInt (kn : Int))), (8, .int 10), (9, .int it)] [] (shS ex, I, J, QS) res := by
  have hm : m ≤ 19000 := hV (J 21) m h.2.2.2.1 h.2.2.2.2.1
  obtain ⟨g, k, a, b, L, F, B, T, hX, hp⟩ := h.2.2.2.1 kn hk
  obtain ⟨hr, n1, n2, -, -, -, -, -, -, ct⟩ := hC g k a b L F B T hX
  obtain ⟨I1, u1, u2, u3⟩ := up_ok ex (I := I) J hp hr
  have hW1 : EW rr I1 := hW.a (J := J) (FrA.m u2)
  have g1 : mxin (Int32.ofInt (kn : Int)) 20001 = true := in32 (by omega) (by decide)
  have ec : (Int32.ofInt (kn : Int)).toNatClampNeg = kn := c32 (by omega)
  have Hz : mxRn 95 0 [(0, .ref 9), (1, .long (J 21 (Int32.ofInt (kn : Int)).toNatClampNeg))] [] (shS ex, I, J, QS) (none, (shS ex, I1, J, QS)) := by rw [ec]; exact u1
  have ht1 : Op.if_icmp.holds .ne (((I1 9 16) >>> ((0 : Int32) &&& 31)) &&& (1 : Int32)) (1 : Int32) = !τ := by rw [hW1.2]; exact hτ
  have hr6 : mxRn 96 0 [(0, .ref 9), (1, .int 6)] [] (shS ex, I1, J, QS) (some (.int (cond sh 1 0)), (shS ex, I1, J, QS)) := by
    have hs1 : Op.if_icmp.holds .ne (((I1 9 16) >>> ((6 : Int32) &&& 31)) &&& (1 : Int32)) (1 : Int32) = !sh := by rw [hW1.2]; exact hs
    cases sh with
    | false => exact d_hasRule_6_0 ex I1 J hs1
    | true => exact d_hasRule_6_1 ex I1 J hs1
  obtain ⟨I2, d1, d2, x2⟩ := dz_10 ex J u3 hr (hW1.1 6 (by decide)) hr6
  have x1 := ct
  · skip
    obtain ⟨hr', -⟩ := hC _ _ _ _ _ _ _ _ x1
    obtain ⟨pv, p1, p2⟩ := pk_ok ex J x2 hr'
    have hv : VX X pv := ⟨_, _, _, _, _, _, _, _, x1, p2⟩
    obtain ⟨I3, J3, ⟨m3, s1, s2, s3, s4, -⟩, w1⟩ := mq_ok ex (Int32.ofInt (kn : Int)) 10 ((h.m u2).m d2) hV hv
    exact ⟨I3, J3, ⟨m3, s1, s2, s3, FrA.tr (FrA.tr (FrA.m u2) (FrA.m d2)) (FrA.w s4)⟩, 1, fun res Hr => wk_l11 ex I J rr ln ki fi dp la _ 10 it I1 Hz I2 d1 pv p1 I3 J3 w1 (by decide) g1 Hr⟩
theorem wl_all0 (ex : List (Nat × Nat)) {τ sh : Bool} {X : mX} {I : Nat → Nat → Int32} {J : Nat → Nat → Int64} {m kn : Nat} {rr ln ki fi dp la : Int32} (hC : CM τ sh X) (hV : VC (VX X)) (h : SM (VX X) I J m) (hk : kn < m) (hW : EW rr I) (hτ : Op.if_icmp.holds .ne (((rr) >>> ((0 : Int32) &&& 31)) &&& (1 : Int32)) (1 : Int32) = !τ) (hs : Op.if_icmp.holds .ne (((rr) >>> ((6 : Int32) &&& 31)) &&& (1 : Int32)) (1 : Int32) = !sh) : ∃ I' J', MA (VX X) I I' J J' m ∧ ∃ it' : Int32, ∀ res, mxRn 117 75 [(0, .ref 9), (1, .int rr), (2, .int ln), (3, .int ki), (4, .int fi), (5, .int dp), (6, .int la), (7, .int (Int32.ofInt ((kn + 1 : Nat) : Int))), (8, .int 11), (9, .int it')] [] (shS ex, I', J', QS) res → mxRn 117 85 [(0, .ref 9), (1, .int rr), (2, .int ln), (3, .int ki), (4, .int fi), (5, .int dp), (6, .int la), (7, .int (Int32.ofInt (kn : Int))), (8, .int 0)] [] (shS ex, I, J, QS) res := by
  obtain ⟨I0, J0, ⟨m0, s0, q0, p0, f0⟩, i0, r0⟩ := wl_00 ex (ln := ln) (ki := ki) (fi := fi) (dp := dp) (la := la) hC hV h hk hW hτ hs
  have w0 := hW.a f0
  obtain ⟨I1, J1, ⟨m1, s1, q1, p1, f1⟩, i1, r1⟩ := wl_11 ex (ln := ln) (ki := ki) (fi := fi) (dp := dp) (la := la) (it := i0) hC hV s0 (show kn < m0 by omega) w0 hτ hs
  have w1 := w0.a f1
  obtain ⟨I2, J2, ⟨m2, s2, q2, p2, f2⟩, i2, r2⟩ := wl_21 ex (ln := ln) (ki := ki) (fi := fi) (dp := dp) (la := la) (it := i1) hC hV s1 (show kn < m1 by omega) w1 hτ hs
  have w2 := w1.a f2
  obtain ⟨I3, J3, ⟨m3, s3, q3, p3, f3⟩, i3, r3⟩ := wl_31 ex (ln := ln) (ki := ki) (fi := fi) (dp := dp) (la := la) (it := i2) hC hV s2 (show kn < m2 by omega) w2 hτ hs
  have w3 := w2.a f3
  obtain ⟨I4, J4, ⟨m4, s4, q4, p4, f4⟩, i4, r4⟩ := wl_41 ex (ln := ln) (ki := ki) (fi := fi) (dp := dp) (la := la) (it := i3) hC hV s3 (show kn < m3 by omega) w3 hτ hs
  have w4 := w3.a f4
  obtain ⟨I5, J5, ⟨m5, s5, q5, p5, f5⟩, i5, r5⟩ := wl_51 ex (ln := ln) (ki := ki) (fi := fi) (dp := dp) (la := la) (it := i4) hC hV s4 (show kn < m4 by omega) w4 hτ hs
  have w5 := w4.a f5
  obtain ⟨I6, J6, ⟨m6, s6, q6, p6, f6⟩, i6, r6⟩ := wl_61 ex (ln := ln) (ki := ki) (fi := fi) (dp := dp) (la := la) (it := i5) hC hV s5 (show kn < m5 by omega) w5 hτ hs
  have w6 := w5.a f6
  obtain ⟨I7, J7, ⟨m7, s7, q7, p7, f7⟩, i7, r7⟩ := wl_71 ex (ln := ln) (ki := ki) (fi := fi) (dp := dp) (la := la) (it := i6) hC hV s6 (show kn < m6 by omega) w6 hτ hs
  have w7 := w6.a f7
  obtain ⟨I8, J8, ⟨m8, s8, q8, p8, f8⟩, i8, r8⟩ := wl_81 ex (ln := ln) (ki := ki) (fi := fi) (dp := dp) (la := la) (it := i7) hC hV s7 (show kn < m7 by omega) w7 hτ hs
  have w8 := w7.a f8
  obtain ⟨I9, J9, ⟨m9, s9, q9, p9, f9⟩, i9, r9⟩ := wl_91 ex (ln := ln) (ki := ki) (fi := fi) (dp := dp) (la := la) (it := i8) hC hV s8 (show kn < m8 by omega) w8 hτ hs
  have w9 := w8.a f9
  obtain ⟨I10, J10, ⟨m10, s10, q10, p10, f10⟩, i10, r10⟩ := wl_101 ex (ln := ln) (ki := ki) (fi := fi) (dp := dp) (la := la) (it := i9) hC hV s9 (show kn < m9 by omega) w9 hτ hs
  have w10 := w9.a f10
  refine ⟨I10, J10, ⟨m10, s10, by omega, fun p hp => ?_, ((((((((((f0.tr f1).tr f2).tr f3).tr f4).tr f5).tr f6).tr f7).tr f8).tr f9).tr f10)⟩, i10, fun res Hr => r0 _ (r1 _ (r2 _ (r3 _ (r4 _ (r5 _ (r6 _ (r7 _ (r8 _ (r9 _ (r10 _ (wk_le1 ex I10 J10 rr ln ki fi dp la _ 11 i10 (by decide) (by rw [show (1 : Int32) = Int32.ofInt ((1 : Nat) : Int) from rfl, a32]; exact Hr))))))))))))⟩
  rw [p10 p (by omega), p9 p (by omega), p8 p (by omega), p7 p (by omega), p6 p (by omega), p5 p (by omega), p4 p (by omega), p3 p (by omega), p2 p (by omega), p1 p (by omega), p0 p (by omega)]
theorem wl_all1 (ex : List (Nat × Nat)) {τ sh : Bool} {X : mX} {I : Nat → Nat → Int32} {J : Nat → Nat → Int64} {m kn : Nat} {rr ln ki fi dp la : Int32} {it : Int32} (hC : CM τ sh X) (hV : VC (VX X)) (h : SM (VX X) I J m) (hk : kn < m) (hW : EW rr I) (hτ : Op.if_icmp.holds .ne (((rr) >>> ((0 : Int32) &&& 31)) &&& (1 : Int32)) (1 : Int32) = !τ) (hs : Op.if_icmp.holds .ne (((rr) >>> ((6 : Int32) &&& 31)) &&& (1 : Int32)) (1 : Int32) = !sh) : ∃ I' J', MA (VX X) I I' J J' m ∧ ∃ it' : Int32, ∀ res, mxRn 117 75 [(0, .ref 9), (1, .int rr), (2, .int ln), (3, .int ki), (4, .int fi), (5, .int dp), (6, .int la), (7, .int (Int32.ofInt ((kn + 1 : Nat) : Int))), (8, .int 11), (9, .int it')] [] (shS ex, I', J', QS) res → mxRn 117 85 [(0, .ref 9), (1, .int rr), (2, .int ln), (3, .int ki), (4, .int fi), (5, .int dp), (6, .int la), (7, .int (Int32.ofInt (kn : Int))), (8, .int 0), (9, .int it)] [] (shS ex, I, J, QS) res := by
  obtain ⟨I0, J0, ⟨m0, s0, q0, p0, f0⟩, i0, r0⟩ := wl_01 ex (ln := ln) (ki := ki) (fi := fi) (dp := dp) (la := la) (it := it) hC hV h hk hW hτ hs
  have w0 := hW.a f0
  obtain ⟨I1, J1, ⟨m1, s1, q1, p1, f1⟩, i1, r1⟩ := wl_11 ex (ln := ln) (ki := ki) (fi := fi) (dp := dp) (la := la) (it := i0) hC hV s0 (show kn < m0 by omega) w0 hτ hs
  have w1 := w0.a f1
  obtain ⟨I2, J2, ⟨m2, s2, q2, p2, f2⟩, i2, r2⟩ := wl_21 ex (ln := ln) (ki := ki) (fi := fi) (dp := dp) (la := la) (it := i1) hC hV s1 (show kn < m1 by omega) w1 hτ hs
  have w2 := w1.a f2
  obtain ⟨I3, J3, ⟨m3, s3, q3, p3, f3⟩, i3, r3⟩ := wl_31 ex (ln := ln) (ki := ki) (fi := fi) (dp := dp) (la := la) (it := i2) hC hV s2 (show kn < m2 by omega) w2 hτ hs
  have w3 := w2.a f3
  obtain ⟨I4, J4, ⟨m4, s4, q4, p4, f4⟩, i4, r4⟩ := wl_41 ex (ln := ln) (ki := ki) (fi := fi) (dp := dp) (la := la) (it := i3) hC hV s3 (show kn < m3 by omega) w3 hτ hs
  have w4 := w3.a f4
  obtain ⟨I5, J5, ⟨m5, s5, q5, p5, f5⟩, i5, r5⟩ := wl_51 ex (ln := ln) (ki := ki) (fi := fi) (dp := dp) (la := la) (it := i4) hC hV s4 (show kn < m4 by omega) w4 hτ hs
  have w5 := w4.a f5
  obtain ⟨I6, J6, ⟨m6, s6, q6, p6, f6⟩, i6, r6⟩ := wl_61 ex (ln := ln) (ki := ki) (fi := fi) (dp := dp) (la := la) (it := i5) hC hV s5 (show kn < m5 by omega) w5 hτ hs
  have w6 := w5.a f6
  obtain ⟨I7, J7, ⟨m7, s7, q7, p7, f7⟩, i7, r7⟩ := wl_71 ex (ln := ln) (ki := ki) (fi := fi) (dp := dp) (la := la) (it := i6) hC hV s6 (show kn < m6 by omega) w6 hτ hs
  have w7 := w6.a f7
  obtain ⟨I8, J8, ⟨m8, s8, q8, p8, f8⟩, i8, r8⟩ := wl_81 ex (ln := ln) (ki := ki) (fi := fi) (dp := dp) (la := la) (it := i7) hC hV s7 (show kn < m7 by omega) w7 hτ hs
  have w8 := w7.a f8
  obtain ⟨I9, J9, ⟨m9, s9, q9, p9, f9⟩, i9, r9⟩ := wl_91 ex (ln := ln) (ki := ki) (fi := fi) (dp := dp) (la := la) (it := i8) hC hV s8 (show kn < m8 by omega) w8 hτ hs
  have w9 := w8.a f9
  obtain ⟨I10, J10, ⟨m10, s10, q10, p10, f10⟩, i10, r10⟩ := wl_101 ex (ln := ln) (ki := ki) (fi := fi) (dp := dp) (la := la) (it := i9) hC hV s9 (show kn < m9 by omega) w9 hτ hs
  have w10 := w9.a f10
  refine ⟨I10, J10, ⟨m10, s10, by omega, fun p hp => ?_, ((((((((((f0.tr f1).tr f2).tr f3).tr f4).tr f5).tr f6).tr f7).tr f8).tr f9).tr f10)⟩, i10, fun res Hr => r0 _ (r1 _ (r2 _ (r3 _ (r4 _ (r5 _ (r6 _ (r7 _ (r8 _ (r9 _ (r10 _ (wk_le1 ex I10 J10 rr ln ki fi dp la _ 11 i10 (by decide) (by rw [show (1 : Int32) = Int32.ofInt ((1 : Nat) : Int) from rfl, a32]; exact Hr))))))))))))⟩
  rw [p10 p (by omega), p9 p (by omega), p8 p (by omega), p7 p (by omega), p6 p (by omega), p5 p (by omega), p4 p (by omega), p3 p (by omega), p2 p (by omega), p1 p (by omega), p0 p (by omega)]
theorem wk_in (ex : List (Nat × Nat)) {τ sh : Bool} {X : mX} {la : Nat} {rr ln ki fi dp : Int32} (hC : CM τ sh X) (hV : VC (VX X)) (hτ : Op.if_icmp.holds .ne (((rr) >>> ((0 : Int32) &&& 31)) &&& (1 : Int32)) (1 : Int32) = !τ) (hs : Op.if_icmp.holds .ne (((rr) >>> ((6 : Int32) &&& 31)) &&& (1 : Int32)) (1 : Int32) = !sh) : ∀ (d kn m : Nat) (I : Nat → Nat → Int32) (J : Nat → Nat → Int64) (ll it : Int32), kn + d = la → la ≤ m → SM (VX X) I J m → EW rr I → ∃ I' J', MA (VX X) I I' J J' m ∧ ∃ (kk' ll' it' : Int32), ∀ res, mxRn 117 59 [(0, .ref 9), (1, .int rr), (2, .int ln), (3, .int ki), (4, .int (Int32.ofInt (la : Int))), (5, .int (dp + 1)), (6, .int (Int32.ofInt (la : Int))), (7, .int kk'), (8, .int ll'), (9, .int it')] [] (shS ex, I', J', QS) res → mxRn 117 75 [(0, .ref 9), (1, .int rr), (2, .int ln), (3, .int ki), (4, .int fi), (5, .int dp), (6, .int (Int32.ofInt (la : Int))), (7, .int (Int32.ofInt (kn : Int))), (8, .int ll), (9, .int it)] [] (shS ex, I, J, QS) res
  | 0, kn, m, I, J, ll, it, h1, h2, h, hW => by
    have hm : m ≤ 19000 := hV (J 21) m h.2.2.2.1 h.2.2.2.2.1
    refine ⟨I, J, ⟨m, h, Nat.le_refl _, fun _ _ => rfl, FrA.rf⟩, _, ll, it, fun res Hr => wk_ke1 ex I J rr ln ki fi dp _ _ ll it (ge_tt (by omega) (by omega) (by omega)) ?_ Hr⟩
    rw [h.1]
    refine (hk_le _ _).mpr ?_
    rw [t32 (by omega)]
    show (m : Int) ≤ 20000
    omega
  | d + 1, kn, m, I, J, ll, it, h1, h2, h, hW => by
    have hm : m ≤ 19000 := hV (J 21) m h.2.2.2.1 h.2.2.2.2.1
    obtain ⟨I1, J1, ⟨m1, s1, q1, p1, f1⟩, i1, r1⟩ := wl_all1 ex (ln := ln) (ki := ki) (fi := fi) (dp := dp) (la := Int32.ofInt (la : Int)) (it := it) hC hV h (show kn < m by omega) hW hτ hs
    obtain ⟨I2, J2, a2, k2, l2, i2, r2⟩ := wk_in ex (la := la) hC hV hτ hs d (kn + 1) m1 I1 J1 11 i1 (by omega) (by omega) s1 (hW.a f1)
    refine ⟨I2, J2, MA.tr q1 p1 f1 a2, k2, l2, i2, fun res Hr => wk_ki1 ex I J rr ln ki fi dp _ _ ll it (ge_ff (by omega) (by omega) (by omega)) (r1 _ (r2 _ Hr))⟩
theorem wd_body (ex : List (Nat × Nat)) {τ sh : Bool} {X : mX} {fi m dn lnn : Nat} {rr ki : Int32} {I : Nat → Nat → Int32} {J : Nat → Nat → Int64} (hC : CM τ sh X) (hV : VC (VX X)) (hτ : Op.if_icmp.holds .ne (((rr) >>> ((0 : Int32) &&& 31)) &&& (1 : Int32)) (1 : Int32) = !τ) (hs : Op.if_icmp.holds .ne (((rr) >>> ((6 : Int32) &&& 31)) &&& (1 : Int32)) (1 : Int32) = !sh) (hf : fi < m) (h : SM (VX X) I J m) (hW : EW rr I) : ∃ I' J', MA (VX X) I I' J J' m ∧ ∃ (kk' ll' it' : Int32), ∀ res, mxRn 117 59 [(0, .ref 9), (1, .int rr), (2, .int (Int32.ofInt (lnn : Int))), (3, .int ki), (4, .int (Int32.ofInt (m : Int))), (5, .int (Int32.ofInt ((dn + 1 : Nat) : Int))), (6, .int (Int32.ofInt (m : Int))), (7, .int kk'), (8, .int ll'), (9, .int it')] [] (shS ex, I', J', QS) res → mxRn 117 75 [(0, .ref 9), (1, .int rr), (2, .int (Int32.ofInt (lnn : Int))), (3, .int ki), (4, .int (Int32.ofInt (fi : Int))), (5, .int (Int32.ofInt (dn : Int))), (6, .int (Int32.ofInt (m : Int))), (7, .int (Int32.ofInt (fi : Int)))] [] (shS ex, I, J, QS) res := by
  have hm : m ≤ 19000 := hV (J 21) m h.2.2.2.1 h.2.2.2.2.1
  obtain ⟨I1, J1, ⟨m1, s1, q1, p1, f1⟩, i1, r1⟩ := wl_all0 ex (ln := Int32.ofInt (lnn : Int)) (ki := ki) (fi := Int32.ofInt (fi : Int)) (dp := Int32.ofInt (dn : Int)) (la := Int32.ofInt (m : Int)) hC hV h hf hW hτ hs
  obtain ⟨I2, J2, a2, k2, l2, i2, r2⟩ := wk_in ex (la := m) (ln := Int32.ofInt (lnn : Int)) (ki := ki) (fi := Int32.ofInt (fi : Int)) (dp := Int32.ofInt (dn : Int)) hC hV hτ hs (m - (fi + 1)) (fi + 1) m1 I1 J1 11 i1 (by omega) (by omega) s1 (hW.a f1)
  refine ⟨I2, J2, MA.tr q1 p1 f1 a2, k2, l2, i2, fun res Hr => wk_ki0 ex I J rr _ ki _ _ _ _ (ge_ff (by omega) (by omega) (by omega)) (r1 _ (r2 _ ?_))⟩
  rw [show (1 : Int32) = Int32.ofInt ((1 : Nat) : Int) from rfl, a32]
  exact Hr
