/-! sets of states, as numbers -/
def dG (c : Nat) : Nat := c / 4398046511104
def dK (c : Nat) : Nat := c / 274877906944 % 16
def dA (c : Nat) : Nat := c / 34359738368 % 8
def dB (c : Nat) : Nat := c / 4294967296 % 8
def dY (c t : Nat) : Nat := c / 256 ^ (3 - t) % 256
def dL (c t : Nat) : Nat := dY c t / 128
def dF (c t : Nat) : Nat := dY c t / 32 % 4
def dD (c t : Nat) : Nat := dY c t / 16 % 2
def dT (c t : Nat) : Nat := dY c t % 16
def en (g k a b : Nat) (L F B T : Nat → Nat) : Nat := ((((((g * 16 + k) * 8 + a) * 8 + b) * 256 + (L 0 * 128 + F 0 * 32 + B 0 * 16 + T 0)) * 256 + (L 1 * 128 + F 1 * 32 + B 1 * 16 + T 1)) * 256 + (L 2 * 128 + F 2 * 32 + B 2 * 16 + T 2)) * 256 + (L 3 * 128 + F 3 * 32 + B 3 * 16 + T 3)
theorem en_pci (g k a b : Nat) (L F B T : Nat → Nat) : pci g k a b L F B T = (en g k a b L F B T : Int) := by
  unfold pci en
  omega
def XC (bk : List (List Nat)) : mX := fun g k a b L F B T => ∃ c, c ∈ bk.flatten ∧ g = dG c ∧ k = dK c ∧ a = dA c ∧ b = dB c ∧ ∀ t, t < 4 → L t = dL c t ∧ F t = dF c t ∧ B t = dD c t ∧ T t = dT c t
def mem_ (bk : List (List Nat)) (c : Nat) : Bool := (bk.getD (c % 101) []).contains c
theorem mem_ok {bk : List (List Nat)} {c : Nat} (h : mem_ bk c = true) : c ∈ bk.flatten := by
  unfold mem_ at h
  have h := List.contains_iff_mem.mp h
  rw [List.getD_eq_getElem?_getD] at h
  cases hq : bk[c % 101]? with
  | none => rw [hq] at h; cases h
  | some l => rw [hq] at h; exact List.mem_flatten.mpr ⟨l, List.mem_of_getElem? hq, h⟩
/-- the state is a number of the set -/
def isX (bk : List (List Nat)) (g k a b : Nat) (L F B T : Nat → Nat) : Bool := mem_ bk (en g k a b L F B T) && (Nat.beq g (dG (en g k a b L F B T)) && Nat.beq k (dK (en g k a b L F B T)) && Nat.beq a (dA (en g k a b L F B T)) && Nat.beq b (dB (en g k a b L F B T))) && [0, 1, 2, 3].all (fun t => Nat.beq (L t) (dL (en g k a b L F B T) t) && Nat.beq (F t) (dF (en g k a b L F B T) t) && Nat.beq (B t) (dD (en g k a b L F B T) t) && Nat.beq (T t) (dT (en g k a b L F B T) t))
theorem isX_ok {bk : List (List Nat)} {g k a b : Nat} {L F B T L' F' B' T' : Nat → Nat} (h : isX bk g k a b L F B T = true) (hL : ∀ t, t < 4 → L' t = L t) (hF : ∀ t, t < 4 → F' t = F t) (hB : ∀ t, t < 4 → B' t = B t) (hT : ∀ t, t < 4 → T' t = T t) : XC bk g k a b L' F' B' T' := by
  unfold isX at h
  simp only [Bool.and_eq_true] at h
  obtain ⟨⟨h1, ⟨⟨⟨h2, h3⟩, h4⟩, h5⟩⟩, h6⟩ := h
  refine ⟨_, mem_ok h1, Nat.eq_of_beq_eq_true h2, Nat.eq_of_beq_eq_true h3, Nat.eq_of_beq_eq_true h4, Nat.eq_of_beq_eq_true h5, fun t ht => ?_⟩
  have q := List.all_eq_true.mp h6 t (by
    match t, ht with
    | 0, _ => decide
    | 1, _ => decide
    | 2, _ => decide
    | 3, _ => decide)
  simp only [Bool.and_eq_true] at q
  obtain ⟨⟨⟨q1, q2⟩, q3⟩, q4⟩ := q
  exact ⟨(hL t ht).trans (Nat.eq_of_beq_eq_true q1), (hF t ht).trans (Nat.eq_of_beq_eq_true q2), (hB t ht).trans (Nat.eq_of_beq_eq_true q3), (hT t ht).trans (Nat.eq_of_beq_eq_true q4)⟩
def rgb (c : Nat) : Bool := Nat.ble (dG c) 4 && Nat.ble (dA c) 4 && Nat.ble (dB c) 4 && [0, 1, 2, 3].all (fun t => Nat.ble (dL c t) 1 && Nat.ble (dT c t) 9) && Nat.beq (en (dG c) (dK c) (dA c) (dB c) (dL c) (dF c) (dD c) (dT c)) c && (!(Nat.blt (dA c) 4) || !(Nat.beq (dF c (dA c)) 2)) && [0, 1, 2, 3].all (fun j => !(Nat.blt j (dG c)) || !(Nat.beq ((dK c >>> j) % 2) 1) || !(Nat.beq (dF c j) 1))
def okc (τ sh : Bool) (bk : List (List Nat)) (c : Nat) : Bool := rgb c && isX bk (dG c) (kt (dK c) (dB c)) (dA c) (dB c) (dL c) (dF c) (dD c) (dT c) && (!(Nat.blt (dG c) 4) || (cond (!τ || Nat.beq (dA c) 4) (isX bk (dG c + 1) (kt (dK c) (dB c)) (dG c) (dB c) (fu (dL c) (dG c) 1) (fu (dF c) (dG c) 1) (fu (dD c) (dG c) 0) (fu (dT c) (dG c) 0)) (isX bk (dG c + 1) (kt (dK c) (dB c)) (dG c) (dB c) (fu (fu (dL c) (dG c) 1) (dA c) 0) (fu (dF c) (dG c) 1) (fu (dD c) (dG c) 0) (fu (dT c) (dG c) 0)))) && (!(Nat.blt (dG c) 4) || (cond (!τ || Nat.beq (dB c) 4) (isX bk (dG c + 1) (kt (dK c) (dG c)) (dA c) (dG c) (fu (dL c) (dG c) 1) (fu (dF c) (dG c) 2) (fu (dD c) (dG c) 1) (fu (dT c) (dG c) 0)) (isX bk (dG c + 1) (kt (dK c) (dG c)) (dA c) (dG c) (fu (fu (dL c) (dG c) 1) (dB c) 0) (fu (dF c) (dG c) 2) (fu (dD c) (dG c) 1) (fu (dT c) (dG c) 0)))) && (!(Nat.blt (dA c) 4) || Nat.beq (dL c (dA c)) 0 || Nat.beq (dF c (dA c)) 0 || isX bk (dG c) (kt (dK c) (dB c)) 4 (dB c) (fu (dL c) (dA c) 0) (dF c) (dD c) (dT c)) && isX bk (dG c) (kt (dK c) (dB c)) (dA c) (dB c) (cond sh (tL (dG c) (dL c) (dT c)) (dL c)) (dF c) (dD c) (cond sh (tT (dG c) (dL c) (dT c)) (dT c))
theorem or_f {x y : Bool} (h : (!x || y) = true) (hx : x = true) : y = true := by
  rw [hx] at h
  exact h
theorem fu_cg {f f' : Nat → Nat} (h : ∀ t, t < 4 → f' t = f t) (z w : Nat) : ∀ t, t < 4 → fu f' z w t = fu f z w t := fun t ht => by
  unfold fu
  split
  · rfl
  · exact h t ht
theorem okc_CM {τ sh : Bool} {bk : List (List Nat)} (h : ∀ c, c ∈ bk.flatten → okc τ sh bk c = true) : CM τ sh (XC bk) := by
  intro g k a b L F B T hX
  obtain ⟨c, hc, rfl, rfl, rfl, rfl, hd⟩ := hX
  have q := h c hc
  unfold okc at q
  simp only [Bool.and_eq_true] at q
  obtain ⟨⟨⟨⟨⟨q0, q1⟩, q2⟩, q3⟩, q4⟩, q5⟩ := q
  unfold rgb at q0
  simp only [Bool.and_eq_true] at q0
  obtain ⟨⟨⟨⟨⟨⟨r1, r2⟩, r3⟩, r4⟩, r5⟩, r6⟩, r7⟩ := q0
  have cL : ∀ t, t < 4 → L t = dL c t := fun t ht => (hd t ht).1
  have cF : ∀ t, t < 4 → F t = dF c t := fun t ht => (hd t ht).2.1
  have cB : ∀ t, t < 4 → B t = dD c t := fun t ht => (hd t ht).2.2.1
  have cT : ∀ t, t < 4 → T t = dT c t := fun t ht => (hd t ht).2.2.2
  have m4 : ∀ t, t < 4 → t ∈ [0, 1, 2, 3] := fun t ht => by
    match t, ht with
    | 0, _ => decide
    | 1, _ => decide
    | 2, _ => decide
    | 3, _ => decide
  have hG := Nat.le_of_ble_eq_true r1
  refine ⟨⟨⟨hG, ?_, Nat.le_of_ble_eq_true r2, Nat.le_of_ble_eq_true r3⟩, fun t ht => ?_⟩, fun ha => ?_, fun j hj hb => ?_, isX_ok q1 cL cF cB cT, fun hg hτ => ?_, fun hg hτ ha => ?_, fun hg hτ => ?_, fun hg hτ hb => ?_, fun ha hl hf => ?_, ?_⟩
  · unfold dK
    omega
  · have z := List.all_eq_true.mp r4 t (m4 t ht)
    simp only [Bool.and_eq_true] at z
    rw [cL t ht, cF t ht, cB t ht, cT t ht]
    exact ⟨Nat.le_of_ble_eq_true z.1, by unfold dF; omega, by unfold dD; omega, Nat.le_of_ble_eq_true z.2⟩
  · have z := or_f r6 (Nat.blt_eq.mpr ha)
    rw [cF _ ha]
    intro e
    rw [e] at z
    cases z
  · have z := List.all_eq_true.mp r7 j (m4 j (by omega))
    rw [Bool.or_assoc] at z
    have z := or_f z (Nat.blt_eq.mpr hj)
    have z := or_f z (by rw [hb]; rfl)
    rw [cF j (by omega)]
    intro e
    rw [e] at z
    cases z
  · have z := or_f q2 (Nat.blt_eq.mpr hg)
    have e : (!τ || Nat.beq (dA c) 4) = true := by
      rcases hτ with e | e
      · rw [e]; rfl
      · rw [e]
        cases τ <;> rfl
    rw [e] at z
    exact isX_ok z (fu_cg cL _ _) (fu_cg cF _ _) (fu_cg cB _ _) (fu_cg cT _ _)
  · have z := or_f q2 (Nat.blt_eq.mpr hg)
    have e : (!τ || Nat.beq (dA c) 4) = false := by
      rw [hτ]
      show Nat.beq (dA c) 4 = false
      exact Bool.eq_false_iff.mpr (fun w => by have := Nat.eq_of_beq_eq_true w; omega)
    rw [e] at z
    exact isX_ok z (fu_cg (fu_cg cL _ _) _ _) (fu_cg cF _ _) (fu_cg cB _ _) (fu_cg cT _ _)
  · have z := or_f q3 (Nat.blt_eq.mpr hg)
    have e : (!τ || Nat.beq (dB c) 4) = true := by
      rcases hτ with e | e
      · rw [e]; rfl
      · rw [e]
        cases τ <;> rfl
    rw [e] at z
    exact isX_ok z (fu_cg cL _ _) (fu_cg cF _ _) (fu_cg cB _ _) (fu_cg cT _ _)
  · have z := or_f q3 (Nat.blt_eq.mpr hg)
    have e : (!τ || Nat.beq (dB c) 4) = false := by
      rw [hτ]
      show Nat.beq (dB c) 4 = false
      exact Bool.eq_false_iff.mpr (fun w => by have := Nat.eq_of_beq_eq_true w; omega)
    rw [e] at z
    exact isX_ok z (fu_cg (fu_cg cL _ _) _ _) (fu_cg cF _ _) (fu_cg cB _ _) (fu_cg cT _ _)
  · rw [Bool.or_assoc, Bool.or_assoc] at q4
    have z := or_f q4 (Nat.blt_eq.mpr ha)
    rw [cL _ ha] at hl
    rw [cF _ ha] at hf
    rw [Bool.or_eq_true, Bool.or_eq_true] at z
    rcases z with z | z | z
    · exact absurd (Nat.eq_of_beq_eq_true z) hl
    · exact absurd (Nat.eq_of_beq_eq_true z) hf
    · exact isX_ok z (fu_cg cL _ _) cF cB cT
  · cases sh with
    | false => exact isX_ok q5 cL cF cB cT
    | true =>
      refine isX_ok q5 (fun t ht => ?_) cF cB (fun t ht => ?_)
      · show tL (dG c) L T t = tL (dG c) (dL c) (dT c) t
        unfold tL
        rw [cL t ht, cT t ht]
      · show tT (dG c) L T t = tT (dG c) (dL c) (dT c) t
        unfold tT
        rw [cL t ht, cT t ht]
/-- as many as a list has, no more -/
theorem pigeon : ∀ (m : Nat) (f : Nat → Nat) (l : List Nat), (∀ p, p < m → f p ∈ l) → (∀ p q, p < q → q < m → f p ≠ f q) → m ≤ l.length
  | 0, _, _, _, _ => Nat.zero_le _
  | m + 1, f, l, h1, h2 => by
    have hm := h1 m (Nat.lt_succ_self m)
    have ih := pigeon m f (l.erase (f m)) (fun p hp => (List.mem_erase_of_ne (h2 p m hp (Nat.lt_succ_self m))).mpr (h1 p (by omega))) (fun p q hpq hq => h2 p q hpq (by omega))
    rw [List.length_erase_of_mem hm] at ih
    have : 0 < l.length := List.length_pos_of_mem hm
    omega
theorem VC_X {bk : List (List Nat)} (hr : ∀ c, c ∈ bk.flatten → rgb c = true) (hl : bk.flatten.length ≤ 19000) : VC (VX (XC bk)) := by
  intro f m h1 h2
  refine Nat.le_trans (pigeon m (fun p => (f p).toInt.toNat) bk.flatten (fun p hp => ?_) (fun p q hpq hq he => ?_)) hl
  · obtain ⟨g, k, a, b, L, F, B, T, ⟨c, hc, rfl, rfl, rfl, rfl, hd⟩, hv⟩ := h1 p hp
    have q := hr c hc
    unfold rgb at q
    simp only [Bool.and_eq_true] at q
    have e := Nat.eq_of_beq_eq_true q.1.1.2
    have e2 : en (dG c) (dK c) (dA c) (dB c) L F B T = c := by
      refine Eq.trans ?_ e
      unfold en
      simp only [(hd 0 (by decide)).1, (hd 0 (by decide)).2.1, (hd 0 (by decide)).2.2.1, (hd 0 (by decide)).2.2.2, (hd 1 (by decide)).1, (hd 1 (by decide)).2.1, (hd 1 (by decide)).2.2.1, (hd 1 (by decide)).2.2.2, (hd 2 (by decide)).1, (hd 2 (by decide)).2.1, (hd 2 (by decide)).2.2.1, (hd 2 (by decide)).2.2.2, (hd 3 (by decide)).1, (hd 3 (by decide)).2.1, (hd 3 (by decide)).2.2.1, (hd 3 (by decide)).2.2.2]
    rw [en_pci, e2] at hv
    show (f p).toInt.toNat ∈ bk.flatten
    rw [hv]
    exact hc
  · have nn : ∀ p, p < m → 0 ≤ (f p).toInt := fun p hp => by
      obtain ⟨g, k, a, b, L, F, B, T, -, hv⟩ := h1 p hp
      rw [hv, en_pci]
      exact Int.natCast_nonneg _
    have n1 := nn p (by omega)
    have n2 := nn q hq
    replace he : (f p).toInt.toNat = (f q).toInt.toNat := he
    exact h2 p q hpq hq (Int64.toInt_inj.mp (by omega))
