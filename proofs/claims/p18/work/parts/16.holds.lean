theorem hp_eq (x y : Int32) : (x = y) ↔ (x.toInt = y.toInt) := Int32.toInt_inj.symm
theorem hk_eq (x y : Int32) : Op.if_icmp.holds .eq x y = true ↔ (x.toInt = y.toInt) := by
  rw [← hp_eq]
  simp [Op.if_icmp.holds]
theorem hj_eq (x : Int32) : Op.ifCond.holds .eq x = true ↔ (x.toInt = (0 : Int32).toInt) := by
  rw [← hp_eq]
  simp [Op.ifCond.holds]
theorem hc_eq_t {x y : Int32} (n : Int) (hy : y.toInt = n) (h : x.toInt = n) : Op.if_icmp.holds .eq x y = true := (hk_eq x y).mpr (by rw [hy]; exact h)
theorem hc_eq_f {x y : Int32} (n : Int) (hy : y.toInt = n) (h : ¬ x.toInt = n) : Op.if_icmp.holds .eq x y = false := Bool.eq_false_iff.mpr (fun q => by
  have q := (hk_eq x y).mp q
  rw [hy] at q
  exact absurd q (by omega))
theorem hd_eq_t {x : Int32} (h : x.toInt = 0) : Op.ifCond.holds .eq x = true := (hj_eq x).mpr h
theorem hd_eq_f {x : Int32} (h : ¬ x.toInt = 0) : Op.ifCond.holds .eq x = false := Bool.eq_false_iff.mpr (fun q => by
  have q := (hj_eq x).mp q
  have e0 : (0 : Int32).toInt = 0 := rfl
  rw [e0] at q
  exact absurd q (by omega))
theorem he_eq (x : Int32) : Op.if_icmp.holds .eq x x = true := (hk_eq x x).mpr rfl
theorem hp_ne (x y : Int32) : (¬ x = y) ↔ (¬ x.toInt = y.toInt) := not_congr Int32.toInt_inj.symm
theorem hk_ne (x y : Int32) : Op.if_icmp.holds .ne x y = true ↔ (¬ x.toInt = y.toInt) := by
  rw [← hp_ne]
  simp [Op.if_icmp.holds]
theorem hj_ne (x : Int32) : Op.ifCond.holds .ne x = true ↔ (¬ x.toInt = (0 : Int32).toInt) := by
  rw [← hp_ne]
  simp [Op.ifCond.holds]
theorem hc_ne_t {x y : Int32} (n : Int) (hy : y.toInt = n) (h : ¬ x.toInt = n) : Op.if_icmp.holds .ne x y = true := (hk_ne x y).mpr (by rw [hy]; exact h)
theorem hc_ne_f {x y : Int32} (n : Int) (hy : y.toInt = n) (h : x.toInt = n) : Op.if_icmp.holds .ne x y = false := Bool.eq_false_iff.mpr (fun q => by
  have q := (hk_ne x y).mp q
  rw [hy] at q
  exact absurd q (by omega))
theorem hd_ne_t {x : Int32} (h : ¬ x.toInt = 0) : Op.ifCond.holds .ne x = true := (hj_ne x).mpr h
theorem hd_ne_f {x : Int32} (h : x.toInt = 0) : Op.ifCond.holds .ne x = false := Bool.eq_false_iff.mpr (fun q => by
  have q := (hj_ne x).mp q
  have e0 : (0 : Int32).toInt = 0 := rfl
  rw [e0] at q
  exact absurd q (by omega))
theorem he_ne (x : Int32) : Op.if_icmp.holds .ne x x = false := Bool.eq_false_iff.mpr (fun q => absurd ((hk_ne x x).mp q) (fun h => h rfl))
theorem hp_lt (x y : Int32) : (x < y) ↔ (x.toInt < y.toInt) := Int32.lt_iff_toInt_lt
theorem hk_lt (x y : Int32) : Op.if_icmp.holds .lt x y = true ↔ (x.toInt < y.toInt) := by
  rw [← hp_lt]
  simp [Op.if_icmp.holds]
theorem hj_lt (x : Int32) : Op.ifCond.holds .lt x = true ↔ (x.toInt < (0 : Int32).toInt) := by
  rw [← hp_lt]
  simp [Op.ifCond.holds]
theorem hc_lt_t {x y : Int32} (n : Int) (hy : y.toInt = n) (h : x.toInt < n) : Op.if_icmp.holds .lt x y = true := (hk_lt x y).mpr (by rw [hy]; exact h)
theorem hc_lt_f {x y : Int32} (n : Int) (hy : y.toInt = n) (h : ¬ x.toInt < n) : Op.if_icmp.holds .lt x y = false := Bool.eq_false_iff.mpr (fun q => by
  have q := (hk_lt x y).mp q
  rw [hy] at q
  exact absurd q (by omega))
theorem hd_lt_t {x : Int32} (h : x.toInt < 0) : Op.ifCond.holds .lt x = true := (hj_lt x).mpr h
theorem hd_lt_f {x : Int32} (h : ¬ x.toInt < 0) : Op.ifCond.holds .lt x = false := Bool.eq_false_iff.mpr (fun q => by
  have q := (hj_lt x).mp q
  have e0 : (0 : Int32).toInt = 0 := rfl
  rw [e0] at q
  exact absurd q (by omega))
theorem he_lt (x : Int32) : Op.if_icmp.holds .lt x x = false := Bool.eq_false_iff.mpr (fun q => absurd ((hk_lt x x).mp q) (Int.lt_irrefl _))
theorem hp_ge (x y : Int32) : (y ≤ x) ↔ (y.toInt ≤ x.toInt) := Int32.le_iff_toInt_le
theorem hk_ge (x y : Int32) : Op.if_icmp.holds .ge x y = true ↔ (y.toInt ≤ x.toInt) := by
  rw [← hp_ge]
  simp [Op.if_icmp.holds]
theorem hj_ge (x : Int32) : Op.ifCond.holds .ge x = true ↔ ((0 : Int32).toInt ≤ x.toInt) := by
  rw [← hp_ge]
  simp [Op.ifCond.holds]
theorem hc_ge_t {x y : Int32} (n : Int) (hy : y.toInt = n) (h : n ≤ x.toInt) : Op.if_icmp.holds .ge x y = true := (hk_ge x y).mpr (by rw [hy]; exact h)
theorem hc_ge_f {x y : Int32} (n : Int) (hy : y.toInt = n) (h : ¬ n ≤ x.toInt) : Op.if_icmp.holds .ge x y = false := Bool.eq_false_iff.mpr (fun q => by
  have q := (hk_ge x y).mp q
  rw [hy] at q
  exact absurd q (by omega))
theorem hd_ge_t {x : Int32} (h : 0 ≤ x.toInt) : Op.ifCond.holds .ge x = true := (hj_ge x).mpr h
theorem hd_ge_f {x : Int32} (h : ¬ 0 ≤ x.toInt) : Op.ifCond.holds .ge x = false := Bool.eq_false_iff.mpr (fun q => by
  have q := (hj_ge x).mp q
  have e0 : (0 : Int32).toInt = 0 := rfl
  rw [e0] at q
  exact absurd q (by omega))
theorem he_ge (x : Int32) : Op.if_icmp.holds .ge x x = true := (hk_ge x x).mpr (Int.le_refl _)
theorem hp_gt (x y : Int32) : (y < x) ↔ (y.toInt < x.toInt) := Int32.lt_iff_toInt_lt
theorem hk_gt (x y : Int32) : Op.if_icmp.holds .gt x y = true ↔ (y.toInt < x.toInt) := by
  rw [← hp_gt]
  simp [Op.if_icmp.holds]
theorem hj_gt (x : Int32) : Op.ifCond.holds .gt x = true ↔ ((0 : Int32).toInt < x.toInt) := by
  rw [← hp_gt]
  simp [Op.ifCond.holds]
theorem hc_gt_t {x y : Int32} (n : Int) (hy : y.toInt = n) (h : n < x.toInt) : Op.if_icmp.holds .gt x y = true := (hk_gt x y).mpr (by rw [hy]; exact h)
theorem hc_gt_f {x y : Int32} (n : Int) (hy : y.toInt = n) (h : ¬ n < x.toInt) : Op.if_icmp.holds .gt x y = false := Bool.eq_false_iff.mpr (fun q => by
  have q := (hk_gt x y).mp q
  rw [hy] at q
  exact absurd q (by omega))
theorem hd_gt_t {x : Int32} (h : 0 < x.toInt) : Op.ifCond.holds .gt x = true := (hj_gt x).mpr h
theorem hd_gt_f {x : Int32} (h : ¬ 0 < x.toInt) : Op.ifCond.holds .gt x = false := Bool.eq_false_iff.mpr (fun q => by
  have q := (hj_gt x).mp q
  have e0 : (0 : Int32).toInt = 0 := rfl
  rw [e0] at q
  exact absurd q (by omega))
theorem he_gt (x : Int32) : Op.if_icmp.holds .gt x x = false := Bool.eq_false_iff.mpr (fun q => absurd ((hk_gt x x).mp q) (Int.lt_irrefl _))
theorem hp_le (x y : Int32) : (x ≤ y) ↔ (x.toInt ≤ y.toInt) := Int32.le_iff_toInt_le
theorem hk_le (x y : Int32) : Op.if_icmp.holds .le x y = true ↔ (x.toInt ≤ y.toInt) := by
  rw [← hp_le]
  simp [Op.if_icmp.holds]
theorem hj_le (x : Int32) : Op.ifCond.holds .le x = true ↔ (x.toInt ≤ (0 : Int32).toInt) := by
  rw [← hp_le]
  simp [Op.ifCond.holds]
theorem hc_le_t {x y : Int32} (n : Int) (hy : y.toInt = n) (h : x.toInt ≤ n) : Op.if_icmp.holds .le x y = true := (hk_le x y).mpr (by rw [hy]; exact h)
theorem hc_le_f {x y : Int32} (n : Int) (hy : y.toInt = n) (h : ¬ x.toInt ≤ n) : Op.if_icmp.holds .le x y = false := Bool.eq_false_iff.mpr (fun q => by
  have q := (hk_le x y).mp q
  rw [hy] at q
  exact absurd q (by omega))
theorem hd_le_t {x : Int32} (h : x.toInt ≤ 0) : Op.ifCond.holds .le x = true := (hj_le x).mpr h
theorem hd_le_f {x : Int32} (h : ¬ x.toInt ≤ 0) : Op.ifCond.holds .le x = false := Bool.eq_false_iff.mpr (fun q => by
  have q := (hj_le x).mp q
  have e0 : (0 : Int32).toInt = 0 := rfl
  rw [e0] at q
  exact absurd q (by omega))
theorem he_le (x : Int32) : Op.if_icmp.holds .le x x = true := (hk_le x x).mpr (Int.le_refl _)
def mxOk (L : Nat) (xs : Nat → Int32) (pc : Nat) (lv : mxV) (st : List Value) (w : mxW) : Prop := ∃ w', mxRL L xs pc lv st w (some (.int 1), w') ∧ w'.1.length ≤ 600000 ∧ mxsl w' ≤ 7302250
theorem mxRn.g2 {y pc : Nat} {lv : mxV} {st : List Value} {w : mxW} {res : mxR} (k d : Nat) {pc' : Nat} {lv' : mxV} {st' : List Value} {w' : mxW} (h : ∀ n, mxev (n + k) y pc lv st w = mxev (n + d) y pc' lv' st' w') (H : mxRn y pc' lv' st' w' res) : mxRn y pc lv st w res := by
  obtain ⟨N, H⟩ := H
  exact ⟨N + k, fun n => by rw [← Nat.add_assoc, h, show n + N + d = n + d + N by omega]; exact H _⟩
theorem mxRn.it2 {y pc : Nat} {lv : mxV} {st : List Value} {w : mxW} {res : mxR} (k d : Nat) {bb : Bool} {pc' : Nat} {lv' : mxV} {st' : List Value} {w' : mxW} {X : Nat → Option mxR} (h : ∀ n, mxev (n + k) y pc lv st w = cond bb (mxev (n + d) y pc' lv' st' w') (X n)) (hb : bb = true) (H : mxRn y pc' lv' st' w' res) : mxRn y pc lv st w res :=
  H.g2 k d (fun n => by rw [h, hb]; rfl)
theorem mxRn.if2 {y pc : Nat} {lv : mxV} {st : List Value} {w : mxW} {res : mxR} (k d : Nat) {bb : Bool} {pc' : Nat} {lv' : mxV} {st' : List Value} {w' : mxW} {X : Nat → Option mxR} (h : ∀ n, mxev (n + k) y pc lv st w = cond bb (X n) (mxev (n + d) y pc' lv' st' w')) (hb : bb = false) (H : mxRn y pc' lv' st' w' res) : mxRn y pc lv st w res :=
  H.g2 k d (fun n => by rw [h, hb]; rfl)
theorem mxRn.c2 {y pc : Nat} {lv : mxV} {st : List Value} {w : mxW} {res : mxR} (k d : Nat) {z pc' : Nat} {lz lv' : mxV} {r : List Value} {w1 wz : mxW} {rz : Option Value} (h : ∀ n, mxev (n + k) y pc lv st w = (mxev (n + d) z 0 lz [] w1).bind (fun q => mxev (n + d) y pc' lv' (q.1.toList ++ r) q.2)) (Hz : mxRn z 0 lz [] w1 (rz, wz)) (H : mxRn y pc' lv' (rz.toList ++ r) wz res) : mxRn y pc lv st w res := by
  obtain ⟨N, H⟩ := H
  obtain ⟨M, Hz⟩ := Hz
  refine ⟨N + M + k, fun n => ?_⟩
  rw [← Nat.add_assoc, h, show n + (N + M) + d = n + N + d + M by omega, Hz]
  show mxev (n + N + d + M) y pc' lv' (rz.toList ++ r) wz = some res
  rw [show n + N + d + M = n + d + M + N by omega]
  exact H _
theorem mxRL.g2 {L : Nat} {xs : Nat → Int32} {pc : Nat} {lv : mxV} {st : List Value} {w : mxW} {res : mxR} (k d : Nat) {pc' : Nat} {lv' : mxV} {st' : List Value} {w' : mxW} (h : ∀ n, mxevL L xs (n + k) pc lv st w = mxevL L xs (n + d) pc' lv' st' w') (H : mxRL L xs pc' lv' st' w' res) : mxRL L xs pc lv st w res := by
  obtain ⟨N, H⟩ := H
  exact ⟨N + k, fun n => by rw [← Nat.add_assoc, h, show n + N + d = n + d + N by omega]; exact H _⟩
theorem mxOk.g2 {L : Nat} {xs : Nat → Int32} {pc : Nat} {lv : mxV} {st : List Value} {w : mxW} (k d : Nat) {pc' : Nat} {lv' : mxV} {st' : List Value} {w' : mxW} (h : ∀ n, mxevL L xs (n + k) pc lv st w = mxevL L xs (n + d) pc' lv' st' w') (H : mxOk L xs pc' lv' st' w') : mxOk L xs pc lv st w := by
  obtain ⟨v, H, h1⟩ := H
  exact ⟨v, H.g2 k d h, h1⟩
theorem mxOk.it2 {L : Nat} {xs : Nat → Int32} {pc : Nat} {lv : mxV} {st : List Value} {w : mxW} (k d : Nat) {bb : Bool} {pc' : Nat} {lv' : mxV} {st' : List Value} {w' : mxW} {X : Nat → Option mxR} (h : ∀ n, mxevL L xs (n + k) pc lv st w = cond bb (mxevL L xs (n + d) pc' lv' st' w') (X n)) (hb : bb = true) (H : mxOk L xs pc' lv' st' w') : mxOk L xs pc lv st w := H.g2 k d (fun n => by rw [h, hb]; rfl)
theorem mxOk.if2 {L : Nat} {xs : Nat → Int32} {pc : Nat} {lv : mxV} {st : List Value} {w : mxW} (k d : Nat) {bb : Bool} {pc' : Nat} {lv' : mxV} {st' : List Value} {w' : mxW} {X : Nat → Option mxR} (h : ∀ n, mxevL L xs (n + k) pc lv st w = cond bb (X n) (mxevL L xs (n + d) pc' lv' st' w')) (hb : bb = false) (H : mxOk L xs pc' lv' st' w') : mxOk L xs pc lv st w := H.g2 k d (fun n => by rw [h, hb]; rfl)
theorem mxOk.c2 {L : Nat} {xs : Nat → Int32} {pc : Nat} {lv : mxV} {st : List Value} {w : mxW} (k d : Nat) {z pc' : Nat} {lz lv' : mxV} {r : List Value} {w1 wz : mxW} {rz : Option Value} (h : ∀ n, mxevL L xs (n + k) pc lv st w = (mxev (n + d) z 0 lz [] w1).bind (fun q => mxevL L xs (n + d) pc' lv' (q.1.toList ++ r) q.2)) (Hz : mxRn z 0 lz [] w1 (rz, wz)) (H : mxOk L xs pc' lv' (rz.toList ++ r) wz) : mxOk L xs pc lv st w := by
  obtain ⟨v, ⟨N, H⟩, h1⟩ := H
  obtain ⟨M, Hz⟩ := Hz
  refine ⟨v, ⟨N + M + k, fun n => ?_⟩, h1⟩
  rw [← Nat.add_assoc, h, show n + (N + M) + d = n + N + d + M by omega, Hz]
  show mxevL L xs (n + N + d + M) pc' lv' (rz.toList ++ r) wz = some _
  rw [show n + N + d + M = n + d + M + N by omega]
  exact H _
theorem mxOk.ret {L : Nat} {xs : Nat → Int32} {pc : Nat} {lv : mxV} {st : List Value} {w w' : mxW} (k : Nat) (h : ∀ n, mxevL L xs (n + k) pc lv st w = some (some (.int 1), w')) (h1 : w'.1.length ≤ 600000) (h2 : mxsl w' ≤ 7302250) : mxOk L xs pc lv st w := ⟨w', ⟨k, h⟩, h1, h2⟩
