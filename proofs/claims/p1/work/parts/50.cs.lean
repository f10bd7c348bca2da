/-! sets of the class's states -/
def sN (s : Int64) : Nat := s.toBitVec.toNat
theorem sN_of (s : Int64) : Int64.ofNat (sN s) = s := by
  refine Int64.toBitVec.inj ?_
  show BitVec.ofNat 64 s.toBitVec.toNat = s.toBitVec
  rw [BitVec.ofNat_toNat, BitVec.setWidth_eq]
theorem sN_inj {a b : Int64} (h : sN a = sN b) : a = b := by rw [← sN_of a, h, sN_of]
def cV (bk : List (List Nat)) (s : Int64) : Prop := sN s ∈ bk.flatten
theorem VC_c {bk : List (List Nat)} (hl : bk.flatten.length ≤ 19000) : VC (cV bk) := fun f m h1 h2 =>
  Nat.le_trans (pigeon m (fun p => sN (f p)) bk.flatten (fun p hp => h1 p hp) (fun p q hpq hq he => h2 p q hpq hq (sN_inj he))) hl
def e_f (tu li : Int32) : Nat → Int32 := fun j => cond (Nat.beq j 6) tu (cond (Nat.beq j 8) li 0)
def chk (bk : List (List Nat)) (x : Int64) : Bool := Nat.beq (sN x) 18446744073709551615 || mem_ bk (sN x)
theorem chk_ok {bk : List (List Nat)} {x : Int64} (h : chk bk x = true) : x = -1 ∨ cV bk x := by
  unfold chk at h
  rw [Bool.or_eq_true] at h
  rcases h with h | h
  · exact Or.inl (sN_inj (Nat.eq_of_beq_eq_true h))
  · exact Or.inr (mem_ok h)
theorem not_t {b : Bool} (h : (!b) = true) : b = false := by
  cases b with
  | false => rfl
  | true => cases h
def hitf (s : Int64) (t : Int32) : Bool := !(s_knows s t) || Op.if_icmp.holds .ne (s_owner s t) 1
def oks (tu li : Int32) (bk : List (List Nat)) (s : Int64) : Bool := chk bk (w_after1 (fun _ => e_f tu li) s) && chk bk (w_after2 (fun _ => e_f tu li) s) && chk bk (w_after8 (fun _ => e_f tu li) s) && chk bk (w_after10 (fun _ => e_f tu li) s) && !(w_visitorHolds s 2) && hitf s 0 && hitf s 1 && hitf s 2 && hitf s 3
theorem w_given_c (I I' : Nat → Nat → Int32) (s : Int64) (u : Int32) : w_given I s u = w_given I' s u := rfl
theorem w_loggedIn_c {I I' : Nat → Nat → Int32} (s : Int64) (u : Int32) (h2 : I 3 2 = 0) (h2' : I' 3 2 = 0) (h6 : I 3 6 = I' 3 6) : w_loggedIn I s u = w_loggedIn I' s u := by
  unfold w_loggedIn
  have e : Op.ifCond.holds .eq (0 : Int32) = true := by decide
  rw [h2, h2', e, cond_true, cond_true, h6, w_given_c I I']
theorem w_left_c {I I' : Nat → Nat → Int32} (s : Int64) (h3 : I 3 3 = I' 3 3) : w_left I s = w_left I' s := by
  unfold w_left
  rw [h3]
theorem w_tick1_c {I I' : Nat → Nat → Int32} (h8 : I 3 8 = I' 3 8) (x : Int64) (t : Int32) : w_tick1 I x t = w_tick1 I' x t := by
  unfold w_tick1
  rw [h8]
theorem w_ticked_c {I I' : Nat → Nat → Int32} (s : Int64) (h8 : I 3 8 = I' 3 8) : w_ticked I s = w_ticked I' s := by
  unfold w_ticked
  rw [w_tick1_c h8 s 0, w_tick1_c h8 _ 1, w_tick1_c h8 _ 2, w_tick1_c h8 _ 3, h8]
theorem hit_f {s : Int64} {t : Int32} (I : Nat → Nat → Int32) (h : hitf s t = true) : w_hit I s t = false := by
  unfold hitf at h
  unfold w_hit
  cases hk : s_knows s t with
  | false => rfl
  | true =>
    rw [hk] at h
    have h : Op.if_icmp.holds .ne (s_owner s t) 1 = true := h
    rw [h]
    rfl
theorem fl3 {s : Int64} (I : Nat → Nat → Int32) (h : w_visitorHolds s 2 = false) : w_flaw3 I s = 0 := by
  unfold w_flaw3
  rw [h]
  cases Op.ifCond.holds .eq (cond (w_canAct I s) 1 0) <;> rfl
theorem fl5 {I : Nat → Nat → Int32} (s : Int64) (h : I 3 5 = 0) : w_flaw5 I s = 0 := by
  have e : w_canBeSent I s = false := by
    unfold w_canBeSent
    rw [h]
    rfl
  unfold w_flaw5
  rw [e]
  rfl
theorem fl9 {s : Int64} (I : Nat → Nat → Int32) (h0 : w_hit I s 0 = false) (h1 : w_hit I s 1 = false) (h2 : w_hit I s 2 = false) (h3 : w_hit I s 3 = false) : w_flaw9 I s = 0 := by
  have e : w_canRide I s = false := by
    unfold w_canRide
    rw [h0, h1, h2, h3]
    rfl
  unfold w_flaw9
  rw [e]
  rfl
theorem oks_CL {tu li : Int32} {bk : List (List Nat)} (h : ∀ c, c ∈ bk.flatten → oks tu li bk (Int64.ofNat c) = true) {f : Nat → Int32} (f0 : f 0 = 0) (f1 : f 1 = 0) (f2 : f 2 = 0) (f3 : f 3 = 0) (f4 : f 4 = 0) (f5 : f 5 = 0) (f6 : f 6 = tu) (f8 : f 8 = li) : CL (cV bk) f := by
  intro I hI s hs
  have q := h (sN s) hs
  rw [sN_of] at q
  unfold oks at q
  simp only [Bool.and_eq_true] at q
  obtain ⟨⟨⟨⟨⟨⟨⟨⟨q1, q2⟩, q8⟩, q10⟩, qv⟩, k0⟩, k1⟩, k2⟩, k3⟩ := q
  have i0 : I 3 0 = 0 := by rw [hI]; exact f0
  have i1 : I 3 1 = 0 := by rw [hI]; exact f1
  have i2 : I 3 2 = 0 := by rw [hI]; exact f2
  have i3 : I 3 3 = 0 := by rw [hI]; exact f3
  have i4 : I 3 4 = 0 := by rw [hI]; exact f4
  have i5 : I 3 5 = 0 := by rw [hI]; exact f5
  have i6 : I 3 6 = tu := by rw [hI]; exact f6
  have i8 : I 3 8 = li := by rw [hI]; exact f8
  have vis : ∀ u, w_visited I s u = s := fun u => by
    unfold w_visited
    rw [i0]
    rfl
  have log : ∀ u, w_loggedIn I s u = w_loggedIn (fun _ => e_f tu li) s u := fun u => w_loggedIn_c s u i2 rfl i6
  refine ⟨⟨Or.inr ?_, ?_, ?_, Or.inl ?_, Or.inl ?_, Or.inr ?_, ?_, ?_⟩, ?_, ?_, ?_⟩
  · show cV bk (w_visited I s 0)
    rw [vis]
    exact hs
  · have e : w_after1 I s = w_after1 (fun _ => e_f tu li) s := log 0
    rw [e]
    exact chk_ok q1
  · have e : w_after2 I s = w_after2 (fun _ => e_f tu li) s := w_left_c s i3
    rw [e]
    exact chk_ok q2
  · show w_followed I s = -1
    unfold w_followed
    rw [i1]
    rfl
  · show w_shown I s = -1
    unfold w_shown
    rw [i4]
    rfl
  · show cV bk (w_visited I s 1)
    rw [vis]
    exact hs
  · have e : w_after8 I s = w_after8 (fun _ => e_f tu li) s := log 1
    rw [e]
    exact chk_ok q8
  · have e : w_after10 I s = w_after10 (fun _ => e_f tu li) s := w_ticked_c s i8
    rw [e]
    exact chk_ok q10
  · exact fl3 I (not_t qv)
  · exact fl5 s i5
  · exact fl9 I (hit_f I k0) (hit_f I k1) (hit_f I k2) (hit_f I k3)
