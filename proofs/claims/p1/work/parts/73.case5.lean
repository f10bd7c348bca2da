def lc (x : Int64) (k : Int32) : Int32 := ((((((x)).toUInt64 >>> (((((4 : Int32) * (k))).toInt64).toUInt64 &&& Int64.toUInt64 63)).toInt64)).toInt32) &&& (15 : Int32)
set_option maxRecDepth 1000000 in
set_option maxHeartbeats 4000000 in
theorem tl_lc (x : Int64) (k : Int32) (w : mxW) : mxRn 61 0 [(0, .long (x)), (2, .int (k))] [] w (some (.int (lc x k)), w) := mxRn.ret 9 (fun n => rfl)
set_option maxRecDepth 1000000 in
set_option maxHeartbeats 4000000 in
theorem tc_h0 (x : Int64) (k nq : Int32) (w : mxW) (hk : Op.if_icmp.holds .ge (k) (nq) = false) {res : mxR} (H : mxRn 60 41 [(0, .ref 0), (1, .int (nq)), (2, .long (x)), (4, .int (k)), (5, .int (lc x k))] [.int (lc x k)] w res) : mxRn 60 25 [(0, .ref 0), (1, .int (nq)), (2, .long (x)), (4, .int (k))] [] w res := by
  refine mxRn.if2 3 0 (bb := Op.if_icmp.holds .ge (k) (nq)) (pc' := 31) (lv' := [(0, .ref 0), (1, .int (nq)), (2, .long (x)), (4, .int (k))]) (st' := []) (w' := w) (X := fun n => mxev (n + 0) 60 60 [(0, .ref 0), (1, .int (nq)), (2, .long (x)), (4, .int (k))] [] w) (fun n => rfl) hk ?_
  refine mxRn.c2 3 0 (z := 61) (lz := [(0, .long (x)), (2, .int (k))]) (w1 := w) (pc' := 37) (lv' := [(0, .ref 0), (1, .int (nq)), (2, .long (x)), (4, .int (k))]) (r := []) (fun n => rfl) (tl_lc x k w) ?_
  exact mxRn.g2 2 0 (pc' := 41) (lv' := [(0, .ref 0), (1, .int (nq)), (2, .long (x)), (4, .int (k)), (5, .int (lc x k))]) (st' := [.int (lc x k)]) (w' := w) (fun n => rfl) H
set_option maxRecDepth 1000000 in
set_option maxHeartbeats 4000000 in
theorem tc_h1 (x : Int64) (k nq l : Int32) (w : mxW) (hk : Op.if_icmp.holds .ge (k) (nq) = false) {res : mxR} (H : mxRn 60 41 [(0, .ref 0), (1, .int (nq)), (2, .long (x)), (4, .int (k)), (5, .int (lc x k))] [.int (lc x k)] w res) : mxRn 60 25 [(0, .ref 0), (1, .int (nq)), (2, .long (x)), (4, .int (k)), (5, .int (l))] [] w res := by
  refine mxRn.if2 3 0 (bb := Op.if_icmp.holds .ge (k) (nq)) (pc' := 31) (lv' := [(0, .ref 0), (1, .int (nq)), (2, .long (x)), (4, .int (k)), (5, .int (l))]) (st' := []) (w' := w) (X := fun n => mxev (n + 0) 60 60 [(0, .ref 0), (1, .int (nq)), (2, .long (x)), (4, .int (k)), (5, .int (l))] [] w) (fun n => rfl) hk ?_
  refine mxRn.c2 3 0 (z := 61) (lz := [(0, .long (x)), (2, .int (k))]) (w1 := w) (pc' := 37) (lv' := [(0, .ref 0), (1, .int (nq)), (2, .long (x)), (4, .int (k)), (5, .int (l))]) (r := []) (fun n => rfl) (tl_lc x k w) ?_
  exact mxRn.g2 2 0 (pc' := 41) (lv' := [(0, .ref 0), (1, .int (nq)), (2, .long (x)), (4, .int (k)), (5, .int (lc x k))]) (st' := [.int (lc x k)]) (w' := w) (fun n => rfl) H
set_option maxRecDepth 1000000 in
set_option maxHeartbeats 4000000 in
theorem tc_le (x : Int64) (k nq v : Int32) (w : mxW) (h : Op.if_icmp.holds .le (v) (3 : Int32) = true) {res : mxR} (H : mxRn 60 54 [(0, .ref 0), (1, .int (nq)), (2, .long (x)), (4, .int (k)), (5, .int (v))] [] w res) : mxRn 60 41 [(0, .ref 0), (1, .int (nq)), (2, .long (x)), (4, .int (k)), (5, .int (v))] [.int (v)] w res := by
  refine mxRn.it2 2 0 (bb := Op.if_icmp.holds .le (v) (3 : Int32)) (pc' := 54) (lv' := [(0, .ref 0), (1, .int (nq)), (2, .long (x)), (4, .int (k)), (5, .int (v))]) (st' := []) (w' := w) (X := fun n => mxev (n + 0) 60 45 [(0, .ref 0), (1, .int (nq)), (2, .long (x)), (4, .int (k)), (5, .int (v))] [] w) (fun n => rfl) h ?_
  exact H
set_option maxRecDepth 1000000 in
set_option maxHeartbeats 4000000 in
theorem tc_gt (x : Int64) (k nq v : Int32) (w : mxW) (h : Op.if_icmp.holds .le (v) (3 : Int32) = false) {res : mxR} (H : mxRn 60 45 [(0, .ref 0), (1, .int (nq)), (2, .long (x)), (4, .int (k)), (5, .int (v))] [] w res) : mxRn 60 41 [(0, .ref 0), (1, .int (nq)), (2, .long (x)), (4, .int (k)), (5, .int (v))] [.int (v)] w res := by
  refine mxRn.if2 2 0 (bb := Op.if_icmp.holds .le (v) (3 : Int32)) (pc' := 45) (lv' := [(0, .ref 0), (1, .int (nq)), (2, .long (x)), (4, .int (k)), (5, .int (v))]) (st' := []) (w' := w) (X := fun n => mxev (n + 0) 60 54 [(0, .ref 0), (1, .int (nq)), (2, .long (x)), (4, .int (k)), (5, .int (v))] [] w) (fun n => rfl) h ?_
  exact H
set_option maxRecDepth 1000000 in
set_option maxHeartbeats 4000000 in
theorem tc_eq (x : Int64) (k nq v : Int32) (w : mxW) (h : Op.if_icmp.holds .eq (v) (10 : Int32) = true) {res : mxR} (H : mxRn 60 54 [(0, .ref 0), (1, .int (nq)), (2, .long (x)), (4, .int (k)), (5, .int (v))] [] w res) : mxRn 60 45 [(0, .ref 0), (1, .int (nq)), (2, .long (x)), (4, .int (k)), (5, .int (v))] [] w res := by
  refine mxRn.it2 3 0 (bb := Op.if_icmp.holds .eq (v) (10 : Int32)) (pc' := 54) (lv' := [(0, .ref 0), (1, .int (nq)), (2, .long (x)), (4, .int (k)), (5, .int (v))]) (st' := []) (w' := w) (X := fun n => mxev (n + 0) 60 52 [(0, .ref 0), (1, .int (nq)), (2, .long (x)), (4, .int (k)), (5, .int (v))] [] w) (fun n => rfl) h ?_
  exact H
set_option maxRecDepth 1000000 in
set_option maxHeartbeats 4000000 in
theorem tc_ne (x : Int64) (k nq v : Int32) (w : mxW) (h : Op.if_icmp.holds .eq (v) (10 : Int32) = false) : mxRn 60 45 [(0, .ref 0), (1, .int (nq)), (2, .long (x)), (4, .int (k)), (5, .int (v))] [] w (some (.int (-1)), w) := by
  refine mxRn.if2 3 0 (bb := Op.if_icmp.holds .eq (v) (10 : Int32)) (pc' := 52) (lv' := [(0, .ref 0), (1, .int (nq)), (2, .long (x)), (4, .int (k)), (5, .int (v))]) (st' := []) (w' := w) (X := fun n => mxev (n + 0) 60 54 [(0, .ref 0), (1, .int (nq)), (2, .long (x)), (4, .int (k)), (5, .int (v))] [] w) (fun n => rfl) h ?_
  exact mxRn.ret 2 (fun n => rfl)
set_option maxRecDepth 1000000 in
set_option maxHeartbeats 4000000 in
theorem tc_nx (x : Int64) (k nq v : Int32) (w : mxW) {res : mxR} (H : mxRn 60 25 [(0, .ref 0), (1, .int (nq)), (2, .long (x)), (4, .int ((k) + 1)), (5, .int (v))] [] w res) : mxRn 60 54 [(0, .ref 0), (1, .int (nq)), (2, .long (x)), (4, .int (k)), (5, .int (v))] [] w res := by
  refine mxRn.g2 2 0 (pc' := 25) (lv' := [(0, .ref 0), (1, .int (nq)), (2, .long (x)), (4, .int ((k) + 1)), (5, .int (v))]) (st' := []) (w' := w) (fun n => rfl) ?_
  exact H
theorem tc_a0 (x : Int64) (k nq : Int32) (w : mxW) (hk : Op.if_icmp.holds .ge (k) (nq) = false) (h3 : Op.if_icmp.holds .le (lc x k) (3 : Int32) = true) {res : mxR} (H : mxRn 60 25 [(0, .ref 0), (1, .int nq), (2, .long x), (4, .int (k + 1)), (5, .int (lc x k))] [] w res) : mxRn 60 25 [(0, .ref 0), (1, .int (nq)), (2, .long (x)), (4, .int (k))] [] w res := tc_h0 x k nq w hk (tc_le x k nq (lc x k) w h3 (tc_nx x k nq (lc x k) w H))
set_option maxRecDepth 1000000 in
set_option maxHeartbeats 4000000 in
theorem tc_b0 (x : Int64) (k nq : Int32) (w : mxW) (hk : Op.if_icmp.holds .ge (k) (nq) = false) (h3 : Op.if_icmp.holds .le (lc x k) (3 : Int32) = false) (h10 : Op.if_icmp.holds .eq (lc x k) (10 : Int32) = true) {res : mxR} (H : mxRn 60 25 [(0, .ref 0), (1, .int nq), (2, .long x), (4, .int (k + 1)), (5, .int (lc x k))] [] w res) : mxRn 60 25 [(0, .ref 0), (1, .int (nq)), (2, .long (x)), (4, .int (k))] [] w res := tc_h0 x k nq w hk (tc_gt x k nq (lc x k) w h3 (tc_eq x k nq (lc x k) w h10 (tc_nx x k nq (lc x k) w H)))
set_option maxRecDepth 1000000 in
set_option maxHeartbeats 4000000 in
theorem tc_n0 (x : Int64) (k nq : Int32) (w : mxW) (hk : Op.if_icmp.holds .ge (k) (nq) = false) (h3 : Op.if_icmp.holds .le (lc x k) (3 : Int32) = false) (h10 : Op.if_icmp.holds .eq (lc x k) (10 : Int32) = false) : mxRn 60 25 [(0, .ref 0), (1, .int (nq)), (2, .long (x)), (4, .int (k))] [] w (some (.int (-1)), w) := tc_h0 x k nq w hk (tc_gt x k nq (lc x k) w h3 (tc_ne x k nq (lc x k) w h10))
set_option maxRecDepth 1000000 in
set_option maxHeartbeats 4000000 in
theorem tc_x0 (x : Int64) (k nq : Int32) (w : mxW) (hk : Op.if_icmp.holds .ge (k) (nq) = true) {res : mxR} (H : mxRn 60 60 [(0, .ref 0), (1, .int (nq)), (2, .long (x)), (4, .int (k))] [] w res) : mxRn 60 25 [(0, .ref 0), (1, .int (nq)), (2, .long (x)), (4, .int (k))] [] w res := by
  refine mxRn.it2 3 0 (bb := Op.if_icmp.holds .ge (k) (nq)) (pc' := 60) (lv' := [(0, .ref 0), (1, .int (nq)), (2, .long (x)), (4, .int (k))]) (st' := []) (w' := w) (X := fun n => mxev (n + 0) 60 31 [(0, .ref 0), (1, .int (nq)), (2, .long (x)), (4, .int (k))] [] w) (fun n => rfl) hk ?_
  exact H
set_option maxRecDepth 1000000 in
set_option maxHeartbeats 4000000 in
theorem tc_a1 (x : Int64) (k nq l : Int32) (w : mxW) (hk : Op.if_icmp.holds .ge (k) (nq) = false) (h3 : Op.if_icmp.holds .le (lc x k) (3 : Int32) = true) {res : mxR} (H : mxRn 60 25 [(0, .ref 0), (1, .int nq), (2, .long x), (4, .int (k + 1)), (5, .int (lc x k))] [] w res) : mxRn 60 25 [(0, .ref 0), (1, .int (nq)), (2, .long (x)), (4, .int (k)), (5, .int (l))] [] w res := tc_h1 x k nq l w hk (tc_le x k nq (lc x k) w h3 (tc_nx x k nq (lc x k) w H))
set_option maxRecDepth 1000000 in
set_option maxHeartbeats 4000000 in
theorem tc_b1 (x : Int64) (k nq l : Int32) (w : mxW) (hk : Op.if_icmp.holds .ge (k) (nq) = false) (h3 : Op.if_icmp.holds .le (lc x k) (3 : Int32) = false) (h10 : Op.if_icmp.holds .eq (lc x k) (10 : Int32) = true) {res : mxR} (H : mxRn 60 25 [(0, .ref 0), (1, .int nq), (2, .long x), (4, .int (k + 1)), (5, .int (lc x k))] [] w res) : mxRn 60 25 [(0, .ref 0), (1, .int (nq)), (2, .long (x)), (4, .int (k)), (5, .int (l))] [] w res := tc_h1 x k nq l w hk (tc_gt x k nq (lc x k) w h3 (tc_eq x k nq (lc x k) w h10 (tc_nx x k nq (lc x k) w H)))
set_option maxRecDepth 1000000 in
set_option maxHeartbeats 4000000 in
theorem tc_n1 (x : Int64) (k nq l : Int32) (w : mxW) (hk : Op.if_icmp.holds .ge (k) (nq) = false) (h3 : Op.if_icmp.holds .le (lc x k) (3 : Int32) = false) (h10 : Op.if_icmp.holds .eq (lc x k) (10 : Int32) = false) : mxRn 60 25 [(0, .ref 0), (1, .int (nq)), (2, .long (x)), (4, .int (k)), (5, .int (l))] [] w (some (.int (-1)), w) := tc_h1 x k nq l w hk (tc_gt x k nq (lc x k) w h3 (tc_ne x k nq (lc x k) w h10))
set_option maxRecDepth 1000000 in
set_option maxHeartbeats 4000000 in
theorem tc_x1 (x : Int64) (k nq l : Int32) (w : mxW) (hk : Op.if_icmp.holds .ge (k) (nq) = true) {res : mxR} (H : mxRn 60 60 [(0, .ref 0), (1, .int (nq)), (2, .long (x)), (4, .int (k)), (5, .int (l))] [] w res) : mxRn 60 25 [(0, .ref 0), (1, .int (nq)), (2, .long (x)), (4, .int (k)), (5, .int (l))] [] w res := by
  refine mxRn.it2 3 0 (bb := Op.if_icmp.holds .ge (k) (nq)) (pc' := 60) (lv' := [(0, .ref 0), (1, .int (nq)), (2, .long (x)), (4, .int (k)), (5, .int (l))]) (st' := []) (w' := w) (X := fun n => mxev (n + 0) 60 31 [(0, .ref 0), (1, .int (nq)), (2, .long (x)), (4, .int (k)), (5, .int (l))] [] w) (fun n => rfl) hk ?_
  exact H
def tc_ok (x : Int64) (j : Nat) : Prop := Op.if_icmp.holds .le (lc x (nI j)) 3 = true ∨ Op.if_icmp.holds .eq (lc x (nI j)) 10 = true
theorem tc_it0 (x : Int64) (j nn : Nat) (hn : nn ≤ 8) (hj : j < nn) (w : mxW) (h : tc_ok x j) {res : mxR} (H : mxRn 60 25 [(0, .ref 0), (1, .int (nI nn)), (2, .long x), (4, .int (nI (j + 1))), (5, .int (lc x (nI j)))] [] w res) : mxRn 60 25 [(0, .ref 0), (1, .int (nI nn)), (2, .long x), (4, .int (nI j))] [] w res := by
  have hk : Op.if_icmp.holds .ge (nI j) (nI nn) = false := hc_ge_f (nn : Int) (nI_toInt (by omega)) (by rw [nI_toInt (by omega)]; omega)
  rw [← nI_1] at H
  cases h3 : Op.if_icmp.holds .le (lc x (nI j)) 3 with
  | true => exact tc_a0 x (nI j) (nI nn) w hk h3 H
  | false =>
    rcases h with h | h
    · rw [h3] at h; cases h
    · exact tc_b0 x (nI j) (nI nn) w hk h3 h H
theorem tc_it1 (x : Int64) (j nn : Nat) (l : Int32) (hn : nn ≤ 8) (hj : j < nn) (w : mxW) (h : tc_ok x j) {res : mxR} (H : mxRn 60 25 [(0, .ref 0), (1, .int (nI nn)), (2, .long x), (4, .int (nI (j + 1))), (5, .int (lc x (nI j)))] [] w res) : mxRn 60 25 [(0, .ref 0), (1, .int (nI nn)), (2, .long x), (4, .int (nI j)), (5, .int l)] [] w res := by
  have hk : Op.if_icmp.holds .ge (nI j) (nI nn) = false := hc_ge_f (nn : Int) (nI_toInt (by omega)) (by rw [nI_toInt (by omega)]; omega)
  rw [← nI_1] at H
  cases h3 : Op.if_icmp.holds .le (lc x (nI j)) 3 with
  | true => exact tc_a1 x (nI j) (nI nn) l w hk h3 H
  | false =>
    rcases h with h | h
    · rw [h3] at h; cases h
    · exact tc_b1 x (nI j) (nI nn) l w hk h3 h H
theorem tc_all1 (x : Int64) (nn : Nat) (hn : nn ≤ 8) (w : mxW) {res : mxR} (H : ∀ l, mxRn 60 60 [(0, .ref 0), (1, .int (nI nn)), (2, .long x), (4, .int (nI nn)), (5, .int l)] [] w res) : ∀ (d j : Nat) (l : Int32), j + d = nn → (∀ q, j ≤ q → q < nn → tc_ok x q) → mxRn 60 25 [(0, .ref 0), (1, .int (nI nn)), (2, .long x), (4, .int (nI j)), (5, .int l)] [] w res
  | 0, j, l, hd, _ => by
    obtain rfl : j = nn := by omega
    exact tc_x1 x (nI j) (nI j) l w (he_ge _) (H l)
  | d + 1, j, l, hd, hg => tc_it1 x j nn l hn (by omega) w (hg j (Nat.le_refl j) (by omega)) (tc_all1 x nn hn w H d (j + 1) _ (by omega) (fun q h1 h2 => hg q (by omega) h2))
theorem tc_all (x : Int64) (nn : Nat) (h0 : 1 ≤ nn) (hn : nn ≤ 8) (w : mxW) {res : mxR} (H : ∀ l, mxRn 60 60 [(0, .ref 0), (1, .int (nI nn)), (2, .long x), (4, .int (nI nn)), (5, .int l)] [] w res) (hg : ∀ q, q < nn → tc_ok x q) : mxRn 60 25 [(0, .ref 0), (1, .int (nI nn)), (2, .long x), (4, .int (nI 0))] [] w res :=
  tc_it0 x 0 nn hn (by omega) w (hg 0 (by omega)) (tc_all1 x nn hn w H (nn - 1) 1 _ (by omega) (fun q _ h2 => hg q h2))
theorem tc_bad1 (x : Int64) (nn : Nat) (hn : nn ≤ 8) (w : mxW) : ∀ (d j : Nat) (l : Int32), j + d = nn → (∃ q, j ≤ q ∧ q < nn ∧ ¬ tc_ok x q) → mxRn 60 25 [(0, .ref 0), (1, .int (nI nn)), (2, .long x), (4, .int (nI j)), (5, .int l)] [] w (some (.int (-1)), w)
  | 0, j, l, hd, hb => by
    obtain ⟨q, h1, h2, -⟩ := hb
    omega
  | d + 1, j, l, hd, hb => by
    have hk : Op.if_icmp.holds .ge (nI j) (nI nn) = false := hc_ge_f (nn : Int) (nI_toInt (by omega)) (by rw [nI_toInt (by omega)]; omega)
    rcases Classical.em (tc_ok x j) with h | h
    · refine tc_it1 x j nn l hn (by omega) w h (tc_bad1 x nn hn w d (j + 1) _ (by omega) ?_)
      obtain ⟨q, h1, h2, h3⟩ := hb
      refine ⟨q, ?_, h2, h3⟩
      rcases Nat.lt_or_ge j q with g | g
      · exact g
      · obtain rfl : q = j := by omega
        exact absurd h h3
    · exact tc_n1 x (nI j) (nI nn) l w hk (Bool.eq_false_iff.mpr (fun e => h (Or.inl e))) (Bool.eq_false_iff.mpr (fun e => h (Or.inr e)))
theorem tc_bad (x : Int64) (nn : Nat) (h0 : 1 ≤ nn) (hn : nn ≤ 8) (w : mxW) (hb : ∃ q, q < nn ∧ ¬ tc_ok x q) : mxRn 60 25 [(0, .ref 0), (1, .int (nI nn)), (2, .long x), (4, .int (nI 0))] [] w (some (.int (-1)), w) := by
  have hk : Op.if_icmp.holds .ge (nI 0) (nI nn) = false := hc_ge_f (nn : Int) (nI_toInt (by omega)) (by rw [nI_toInt (by omega)]; omega)
  rcases Classical.em (tc_ok x 0) with h | h
  · refine tc_it0 x 0 nn hn (by omega) w h (tc_bad1 x nn hn w (nn - 1) 1 _ (by omega) ?_)
    obtain ⟨q, h2, h3⟩ := hb
    refine ⟨q, ?_, h2, h3⟩
    rcases Nat.lt_or_ge 0 q with g | g
    · exact g
    · obtain rfl : q = 0 := by omega
      exact absurd h h3
  · exact tc_n0 x (nI 0) (nI nn) w hk (Bool.eq_false_iff.mpr (fun e => h (Or.inl e))) (Bool.eq_false_iff.mpr (fun e => h (Or.inr e)))
def lm (x : Int64) (k : Int32) : Int32 := ((((x) >>> ((((4 : Int32) * (k))).toInt64 &&& 63)) &&& (15 : Int64))).toInt32
set_option maxRecDepth 1000000 in
set_option maxHeartbeats 4000000 in
set_option maxRecDepth 1000000 in
set_option maxHeartbeats 4000000 in
theorem tm_h0 (x : Int64) (k nq : Int32) (w : mxW) (hk : Op.if_icmp.holds .ge (k) (nq) = false) {res : mxR} (H : mxRn 111 45 [(0, .ref 9), (1, .int (nq)), (2, .long (x)), (4, .int (k)), (5, .int (lm x k))] [.int (lm x k)] w res) : mxRn 111 24 [(0, .ref 9), (1, .int (nq)), (2, .long (x)), (4, .int (k))] [] w res := by
  refine mxRn.if2 3 0 (bb := Op.if_icmp.holds .ge (k) (nq)) (pc' := 30) (lv' := [(0, .ref 9), (1, .int (nq)), (2, .long (x)), (4, .int (k))]) (st' := []) (w' := w) (X := fun n => mxev (n + 0) 111 64 [(0, .ref 9), (1, .int (nq)), (2, .long (x)), (4, .int (k))] [] w) (fun n => rfl) hk ?_
  refine mxRn.g2 8 0 (pc' := 41) (lv' := [(0, .ref 9), (1, .int (nq)), (2, .long (x)), (4, .int (k))]) (st' := [.int (lm x k)]) (w' := w) (fun n => rfl) ?_
  exact mxRn.g2 2 0 (pc' := 45) (lv' := [(0, .ref 9), (1, .int (nq)), (2, .long (x)), (4, .int (k)), (5, .int (lm x k))]) (st' := [.int (lm x k)]) (w' := w) (fun n => rfl) H
set_option maxRecDepth 1000000 in
set_option maxHeartbeats 4000000 in
theorem tm_h1 (x : Int64) (k nq l : Int32) (w : mxW) (hk : Op.if_icmp.holds .ge (k) (nq) = false) {res : mxR} (H : mxRn 111 45 [(0, .ref 9), (1, .int (nq)), (2, .long (x)), (4, .int (k)), (5, .int (lm x k))] [.int (lm x k)] w res) : mxRn 111 24 [(0, .ref 9), (1, .int (nq)), (2, .long (x)), (4, .int (k)), (5, .int (l))] [] w res := by
  refine mxRn.if2 3 0 (bb := Op.if_icmp.holds .ge (k) (nq)) (pc' := 30) (lv' := [(0, .ref 9), (1, .int (nq)), (2, .long (x)), (4, .int (k)), (5, .int (l))]) (st' := []) (w' := w) (X := fun n => mxev (n + 0) 111 64 [(0, .ref 9), (1, .int (nq)), (2, .long (x)), (4, .int (k)), (5, .int (l))] [] w) (fun n => rfl) hk ?_
  refine mxRn.g2 8 0 (pc' := 41) (lv' := [(0, .ref 9), (1, .int (nq)), (2, .long (x)), (4, .int (k)), (5, .int (l))]) (st' := [.int (lm x k)]) (w' := w) (fun n => rfl) ?_
  exact mxRn.g2 2 0 (pc' := 45) (lv' := [(0, .ref 9), (1, .int (nq)), (2, .long (x)), (4, .int (k)), (5, .int (lm x k))]) (st' := [.int (lm x k)]) (w' := w) (fun n => rfl) H
set_option maxRecDepth 1000000 in
set_option maxHeartbeats 4000000 in
theorem tm_le (x : Int64) (k nq v : Int32) (w : mxW) (h : Op.if_icmp.holds .le (v) (3 : Int32) = true) {res : mxR} (H : mxRn 111 58 [(0, .ref 9), (1, .int (nq)), (2, .long (x)), (4, .int (k)), (5, .int (v))] [] w res) : mxRn 111 45 [(0, .ref 9), (1, .int (nq)), (2, .long (x)), (4, .int (k)), (5, .int (v))] [.int (v)] w res := by
  refine mxRn.it2 2 0 (bb := Op.if_icmp.holds .le (v) (3 : Int32)) (pc' := 58) (lv' := [(0, .ref 9), (1, .int (nq)), (2, .long (x)), (4, .int (k)), (5, .int (v))]) (st' := []) (w' := w) (X := fun n => mxev (n + 0) 111 49 [(0, .ref 9), (1, .int (nq)), (2, .long (x)), (4, .int (k)), (5, .int (v))] [] w) (fun n => rfl) h ?_
  exact H
set_option maxRecDepth 1000000 in
set_option maxHeartbeats 4000000 in
theorem tm_gt (x : Int64) (k nq v : Int32) (w : mxW) (h : Op.if_icmp.holds .le (v) (3 : Int32) = false) {res : mxR} (H : mxRn 111 49 [(0, .ref 9), (1, .int (nq)), (2, .long (x)), (4, .int (k)), (5, .int (v))] [] w res) : mxRn 111 45 [(0, .ref 9), (1, .int (nq)), (2, .long (x)), (4, .int (k)), (5, .int (v))] [.int (v)] w res := by
  refine mxRn.if2 2 0 (bb := Op.if_icmp.holds .le (v) (3 : Int32)) (pc' := 49) (lv' := [(0, .ref 9), (1, .int (nq)), (2, .long (x)), (4, .int (k)), (5, .int (v))]) (st' := []) (w' := w) (X := fun n => mxev (n + 0) 111 58 [(0, .ref 9), (1, .int (nq)), (2, .long (x)), (4, .int (k)), (5, .int (v))] [] w) (fun n => rfl) h ?_
  exact H
set_option maxRecDepth 1000000 in
set_option maxHeartbeats 4000000 in
theorem tm_eq (x : Int64) (k nq v : Int32) (w : mxW) (h : Op.if_icmp.holds .eq (v) (10 : Int32) = true) {res : mxR} (H : mxRn 111 58 [(0, .ref 9), (1, .int (nq)), (2, .long (x)), (4, .int (k)), (5, .int (v))] [] w res) : mxRn 111 49 [(0, .ref 9), (1, .int (nq)), (2, .long (x)), (4, .int (k)), (5, .int (v))] [] w res := by
  refine mxRn.it2 3 0 (bb := Op.if_icmp.holds .eq (v) (10 : Int32)) (pc' := 58) (lv' := [(0, .ref 9), (1, .int (nq)), (2, .long (x)), (4, .int (k)), (5, .int (v))]) (st' := []) (w' := w) (X := fun n => mxev (n + 0) 111 56 [(0, .ref 9), (1, .int (nq)), (2, .long (x)), (4, .int (k)), (5, .int (v))] [] w) (fun n => rfl) h ?_
  exact H
set_option maxRecDepth 1000000 in
set_option maxHeartbeats 4000000 in
theorem tm_ne (x : Int64) (k nq v : Int32) (w : mxW) (h : Op.if_icmp.holds .eq (v) (10 : Int32) = false) : mxRn 111 49 [(0, .ref 9), (1, .int (nq)), (2, .long (x)), (4, .int (k)), (5, .int (v))] [] w (some (.int (-1)), w) := by
  refine mxRn.if2 3 0 (bb := Op.if_icmp.holds .eq (v) (10 : Int32)) (pc' := 56) (lv' := [(0, .ref 9), (1, .int (nq)), (2, .long (x)), (4, .int (k)), (5, .int (v))]) (st' := []) (w' := w) (X := fun n => mxev (n + 0) 111 58 [(0, .ref 9), (1, .int (nq)), (2, .long (x)), (4, .int (k)), (5, .int (v))] [] w) (fun n => rfl) h ?_
  exact mxRn.ret 2 (fun n => rfl)
set_option maxRecDepth 1000000 in
set_option maxHeartbeats 4000000 in
theorem tm_nx (x : Int64) (k nq v : Int32) (w : mxW) {res : mxR} (H : mxRn 111 24 [(0, .ref 9), (1, .int (nq)), (2, .long (x)), (4, .int ((k) + 1)), (5, .int (v))] [] w res) : mxRn 111 58 [(0, .ref 9), (1, .int (nq)), (2, .long (x)), (4, .int (k)), (5, .int (v))] [] w res := by
  refine mxRn.g2 2 0 (pc' := 24) (lv' := [(0, .ref 9), (1, .int (nq)), (2, .long (x)), (4, .int ((k) + 1)), (5, .int (v))]) (st' := []) (w' := w) (fun n => rfl) ?_
  exact H
theorem tm_a0 (x : Int64) (k nq : Int32) (w : mxW) (hk : Op.if_icmp.holds .ge (k) (nq) = false) (h3 : Op.if_icmp.holds .le (lm x k) (3 : Int32) = true) {res : mxR} (H : mxRn 111 24 [(0, .ref 9), (1, .int nq), (2, .long x), (4, .int (k + 1)), (5, .int (lm x k))] [] w res) : mxRn 111 24 [(0, .ref 9), (1, .int (nq)), (2, .long (x)), (4, .int (k))] [] w res := tm_h0 x k nq w hk (tm_le x k nq (lm x k) w h3 (tm_nx x k nq (lm x k) w H))
set_option maxRecDepth 1000000 in
set_option maxHeartbeats 4000000 in
theorem tm_b0 (x : Int64) (k nq : Int32) (w : mxW) (hk : Op.if_icmp.holds .ge (k) (nq) = false) (h3 : Op.if_icmp.holds .le (lm x k) (3 : Int32) = false) (h10 : Op.if_icmp.holds .eq (lm x k) (10 : Int32) = true) {res : mxR} (H : mxRn 111 24 [(0, .ref 9), (1, .int nq), (2, .long x), (4, .int (k + 1)), (5, .int (lm x k))] [] w res) : mxRn 111 24 [(0, .ref 9), (1, .int (nq)), (2, .long (x)), (4, .int (k))] [] w res := tm_h0 x k nq w hk (tm_gt x k nq (lm x k) w h3 (tm_eq x k nq (lm x k) w h10 (tm_nx x k nq (lm x k) w H)))
set_option maxRecDepth 1000000 in
set_option maxHeartbeats 4000000 in
theorem tm_n0 (x : Int64) (k nq : Int32) (w : mxW) (hk : Op.if_icmp.holds .ge (k) (nq) = false) (h3 : Op.if_icmp.holds .le (lm x k) (3 : Int32) = false) (h10 : Op.if_icmp.holds .eq (lm x k) (10 : Int32) = false) : mxRn 111 24 [(0, .ref 9), (1, .int (nq)), (2, .long (x)), (4, .int (k))] [] w (some (.int (-1)), w) := tm_h0 x k nq w hk (tm_gt x k nq (lm x k) w h3 (tm_ne x k nq (lm x k) w h10))
set_option maxRecDepth 1000000 in
set_option maxHeartbeats 4000000 in
theorem tm_x0 (x : Int64) (k nq : Int32) (w : mxW) (hk : Op.if_icmp.holds .ge (k) (nq) = true) {res : mxR} (H : mxRn 111 64 [(0, .ref 9), (1, .int (nq)), (2, .long (x)), (4, .int (k))] [] w res) : mxRn 111 24 [(0, .ref 9), (1, .int (nq)), (2, .long (x)), (4, .int (k))] [] w res := by
  refine mxRn.it2 3 0 (bb := Op.if_icmp.holds .ge (k) (nq)) (pc' := 64) (lv' := [(0, .ref 9), (1, .int (nq)), (2, .long (x)), (4, .int (k))]) (st' := []) (w' := w) (X := fun n => mxev (n + 0) 111 30 [(0, .ref 9), (1, .int (nq)), (2, .long (x)), (4, .int (k))] [] w) (fun n => rfl) hk ?_
  exact H
set_option maxRecDepth 1000000 in
set_option maxHeartbeats 4000000 in
theorem tm_a1 (x : Int64) (k nq l : Int32) (w : mxW) (hk : Op.if_icmp.holds .ge (k) (nq) = false) (h3 : Op.if_icmp.holds .le (lm x k) (3 : Int32) = true) {res : mxR} (H : mxRn 111 24 [(0, .ref 9), (1, .int nq), (2, .long x), (4, .int (k + 1)), (5, .int (lm x k))] [] w res) : mxRn 111 24 [(0, .ref 9), (1, .int (nq)), (2, .long (x)), (4, .int (k)), (5, .int (l))] [] w res := tm_h1 x k nq l w hk (tm_le x k nq (lm x k) w h3 (tm_nx x k nq (lm x k) w H))
set_option maxRecDepth 1000000 in
set_option maxHeartbeats 4000000 in
theorem tm_b1 (x : Int64) (k nq l : Int32) (w : mxW) (hk : Op.if_icmp.holds .ge (k) (nq) = false) (h3 : Op.if_icmp.holds .le (lm x k) (3 : Int32) = false) (h10 : Op.if_icmp.holds .eq (lm x k) (10 : Int32) = true) {res : mxR} (H : mxRn 111 24 [(0, .ref 9), (1, .int nq), (2, .long x), (4, .int (k + 1)), (5, .int (lm x k))] [] w res) : mxRn 111 24 [(0, .ref 9), (1, .int (nq)), (2, .long (x)), (4, .int (k)), (5, .int (l))] [] w res := tm_h1 x k nq l w hk (tm_gt x k nq (lm x k) w h3 (tm_eq x k nq (lm x k) w h10 (tm_nx x k nq (lm x k) w H)))
set_option maxRecDepth 1000000 in
set_option maxHeartbeats 4000000 in
theorem tm_n1 (x : Int64) (k nq l : Int32) (w : mxW) (hk : Op.if_icmp.holds .ge (k) (nq) = false) (h3 : Op.if_icmp.holds .le (lm x k) (3 : Int32) = false) (h10 : Op.if_icmp.holds .eq (lm x k) (10 : Int32) = false) : mxRn 111 24 [(0, .ref 9), (1, .int (nq)), (2, .long (x)), (4, .int (k)), (5, .int (l))] [] w (some (.int (-1)), w) := tm_h1 x k nq l w hk (tm_gt x k nq (lm x k) w h3 (tm_ne x k nq (lm x k) w h10))
set_option maxRecDepth 1000000 in
set_option maxHeartbeats 4000000 in
theorem tm_x1 (x : Int64) (k nq l : Int32) (w : mxW) (hk : Op.if_icmp.holds .ge (k) (nq) = true) {res : mxR} (H : mxRn 111 64 [(0, .ref 9), (1, .int (nq)), (2, .long (x)), (4, .int (k)), (5, .int (l))] [] w res) : mxRn 111 24 [(0, .ref 9), (1, .int (nq)), (2, .long (x)), (4, .int (k)), (5, .int (l))] [] w res := by
  refine mxRn.it2 3 0 (bb := Op.if_icmp.holds .ge (k) (nq)) (pc' := 64) (lv' := [(0, .ref 9), (1, .int (nq)), (2, .long (x)), (4, .int (k)), (5, .int (l))]) (st' := []) (w' := w) (X := fun n => mxev (n + 0) 111 30 [(0, .ref 9), (1, .int (nq)), (2, .long (x)), (4, .int (k)), (5, .int (l))] [] w) (fun n => rfl) hk ?_
  exact H
def tm_ok (x : Int64) (j : Nat) : Prop := Op.if_icmp.holds .le (lm x (nI j)) 3 = true ∨ Op.if_icmp.holds .eq (lm x (nI j)) 10 = true
theorem tm_it0 (x : Int64) (j nn : Nat) (hn : nn ≤ 8) (hj : j < nn) (w : mxW) (h : tm_ok x j) {res : mxR} (H : mxRn 111 24 [(0, .ref 9), (1, .int (nI nn)), (2, .long x), (4, .int (nI (j + 1))), (5, .int (lm x (nI j)))] [] w res) : mxRn 111 24 [(0, .ref 9), (1, .int (nI nn)), (2, .long x), (4, .int (nI j))] [] w res := by
  have hk : Op.if_icmp.holds .ge (nI j) (nI nn) = false := hc_ge_f (nn : Int) (nI_toInt (by omega)) (by rw [nI_toInt (by omega)]; omega)
  rw [← nI_1] at H
  cases h3 : Op.if_icmp.holds .le (lm x (nI j)) 3 with
  | true => exact tm_a0 x (nI j) (nI nn) w hk h3 H
  | false =>
    rcases h with h | h
    · rw [h3] at h; cases h
    · exact tm_b0 x (nI j) (nI nn) w hk h3 h H
theorem tm_it1 (x : Int64) (j nn : Nat) (l : Int32) (hn : nn ≤ 8) (hj : j < nn) (w : mxW) (h : tm_ok x j) {res : mxR} (H : mxRn 111 24 [(0, .ref 9), (1, .int (nI nn)), (2, .long x), (4, .int (nI (j + 1))), (5, .int (lm x (nI j)))] [] w res) : mxRn 111 24 [(0, .ref 9), (1, .int (nI nn)), (2, .long x), (4, .int (nI j)), (5, .int l)] [] w res := by
  have hk : Op.if_icmp.holds .ge (nI j) (nI nn) = false := hc_ge_f (nn : Int) (nI_toInt (by omega)) (by rw [nI_toInt (by omega)]; omega)
  rw [← nI_1] at H
  cases h3 : Op.if_icmp.holds .le (lm x (nI j)) 3 with
  | true => exact tm_a1 x (nI j) (nI nn) l w hk h3 H
  | false =>
    rcases h with h | h
    · rw [h3] at h; cases h
    · exact tm_b1 x (nI j) (nI nn) l w hk h3 h H
theorem tm_all1 (x : Int64) (nn : Nat) (hn : nn ≤ 8) (w : mxW) {res : mxR} (H : ∀ l, mxRn 111 64 [(0, .ref 9), (1, .int (nI nn)), (2, .long x), (4, .int (nI nn)), (5, .int l)] [] w res) : ∀ (d j : Nat) (l : Int32), j + d = nn → (∀ q, j ≤ q → q < nn → tm_ok x q) → mxRn 111 24 [(0, .ref 9), (1, .int (nI nn)), (2, .long x), (4, .int (nI j)), (5, .int l)] [] w res
  | 0, j, l, hd, _ => by
    obtain rfl : j = nn := by omega
    exact tm_x1 x (nI j) (nI j) l w (he_ge _) (H l)
  | d + 1, j, l, hd, hg => tm_it1 x j nn l hn (by omega) w (hg j (Nat.le_refl j) (by omega)) (tm_all1 x nn hn w H d (j + 1) _ (by omega) (fun q h1 h2 => hg q (by omega) h2))
theorem tm_all (x : Int64) (nn : Nat) (h0 : 1 ≤ nn) (hn : nn ≤ 8) (w : mxW) {res : mxR} (H : ∀ l, mxRn 111 64 [(0, .ref 9), (1, .int (nI nn)), (2, .long x), (4, .int (nI nn)), (5, .int l)] [] w res) (hg : ∀ q, q < nn → tm_ok x q) : mxRn 111 24 [(0, .ref 9), (1, .int (nI nn)), (2, .long x), (4, .int (nI 0))] [] w res :=
  tm_it0 x 0 nn hn (by omega) w (hg 0 (by omega)) (tm_all1 x nn hn w H (nn - 1) 1 _ (by omega) (fun q _ h2 => hg q h2))
theorem tm_bad1 (x : Int64) (nn : Nat) (hn : nn ≤ 8) (w : mxW) : ∀ (d j : Nat) (l : Int32), j + d = nn → (∃ q, j ≤ q ∧ q < nn ∧ ¬ tm_ok x q) → mxRn 111 24 [(0, .ref 9), (1, .int (nI nn)), (2, .long x), (4, .int (nI j)), (5, .int l)] [] w (some (.int (-1)), w)
  | 0, j, l, hd, hb => by
    obtain ⟨q, h1, h2, -⟩ := hb
    omega
  | d + 1, j, l, hd, hb => by
    have hk : Op.if_icmp.holds .ge (nI j) (nI nn) = false := hc_ge_f (nn : Int) (nI_toInt (by omega)) (by rw [nI_toInt (by omega)]; omega)
    rcases Classical.em (tm_ok x j) with h | h
    · refine tm_it1 x j nn l hn (by omega) w h (tm_bad1 x nn hn w d (j + 1) _ (by omega) ?_)
      obtain ⟨q, h1, h2, h3⟩ := hb
      refine ⟨q, ?_, h2, h3⟩
      rcases Nat.lt_or_ge j q with g | g
      · exact g
      · obtain rfl : q = j := by omega
        exact absurd h h3
    · exact tm_n1 x (nI j) (nI nn) l w hk (Bool.eq_false_iff.mpr (fun e => h (Or.inl e))) (Bool.eq_false_iff.mpr (fun e => h (Or.inr e)))
theorem tm_bad (x : Int64) (nn : Nat) (h0 : 1 ≤ nn) (hn : nn ≤ 8) (w : mxW) (hb : ∃ q, q < nn ∧ ¬ tm_ok x q) : mxRn 111 24 [(0, .ref 9), (1, .int (nI nn)), (2, .long x), (4, .int (nI 0))] [] w (some (.int (-1)), w) := by
  have hk : Op.if_icmp.holds .ge (nI 0) (nI nn) = false := hc_ge_f (nn : Int) (nI_toInt (by omega)) (by rw [nI_toInt (by omega)]; omega)
  rcases Classical.em (tm_ok x 0) with h | h
  · refine tm_it0 x 0 nn hn (by omega) w h (tm_bad1 x nn hn w (nn - 1) 1 _ (by omega) ?_)
    obtain ⟨q, h2, h3⟩ := hb
    refine ⟨q, ?_, h2, h3⟩
    rcases Nat.lt_or_ge 0 q with g | g
    · exact g
    · obtain rfl : q = 0 := by omega
      exact absurd h h3
  · exact tm_n0 x (nI 0) (nI nn) w hk (Bool.eq_false_iff.mpr (fun e => h (Or.inl e))) (Bool.eq_false_iff.mpr (fun e => h (Or.inr e)))
