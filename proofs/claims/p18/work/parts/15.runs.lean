/-! runs: from some fuel on, the answer is res -/
def mxRn (y pc : Nat) (lv : mxV) (st : List Value) (w : mxW) (res : mxR) : Prop := ∃ N, ∀ n, mxev (n + N) y pc lv st w = some res
theorem mxRn.go {y pc : Nat} {lv : mxV} {st : List Value} {w : mxW} {res : mxR} (k : Nat) {pc' : Nat} {lv' : mxV} {st' : List Value} {w' : mxW} (h : ∀ n, mxev (n + k) y pc lv st w = mxev n y pc' lv' st' w') (H : mxRn y pc' lv' st' w' res) : mxRn y pc lv st w res := by
  obtain ⟨N, H⟩ := H
  exact ⟨N + k, fun n => by rw [← Nat.add_assoc, h]; exact H n⟩
theorem mxRn.ift {y pc : Nat} {lv : mxV} {st : List Value} {w : mxW} {res : mxR} (k : Nat) {bb : Bool} {pc' : Nat} {lv' : mxV} {st' : List Value} {w' : mxW} {X : Nat → Option mxR} (h : ∀ n, mxev (n + k) y pc lv st w = cond bb (mxev n y pc' lv' st' w') (X n)) (hb : bb = true) (H : mxRn y pc' lv' st' w' res) : mxRn y pc lv st w res :=
  H.go k (fun n => by rw [h, hb]; rfl)
theorem mxRn.iff {y pc : Nat} {lv : mxV} {st : List Value} {w : mxW} {res : mxR} (k : Nat) {bb : Bool} {pc' : Nat} {lv' : mxV} {st' : List Value} {w' : mxW} {X : Nat → Option mxR} (h : ∀ n, mxev (n + k) y pc lv st w = cond bb (X n) (mxev n y pc' lv' st' w')) (hb : bb = false) (H : mxRn y pc' lv' st' w' res) : mxRn y pc lv st w res :=
  H.go k (fun n => by rw [h, hb]; rfl)
theorem mxRn.ret {y pc : Nat} {lv : mxV} {st : List Value} {w : mxW} {res : mxR} (k : Nat) (h : ∀ n, mxev (n + k) y pc lv st w = some res) : mxRn y pc lv st w res := ⟨k, h⟩
theorem mxRn.call {y pc : Nat} {lv : mxV} {st : List Value} {w : mxW} {res : mxR} (k : Nat) {z pc' : Nat} {lz lv' : mxV} {r : List Value} {w1 wz : mxW} {rz : Option Value} (h : ∀ n, mxev (n + k) y pc lv st w = (mxev n z 0 lz [] w1).bind (fun q => mxev n y pc' lv' (q.1.toList ++ r) q.2)) (Hz : mxRn z 0 lz [] w1 (rz, wz)) (H : mxRn y pc' lv' (rz.toList ++ r) wz res) : mxRn y pc lv st w res := by
  obtain ⟨N, H⟩ := H
  obtain ⟨M, Hz⟩ := Hz
  refine ⟨N + M + k, fun n => ?_⟩
  rw [← Nat.add_assoc, h, ← Nat.add_assoc, Hz (n + N)]
  show mxev (n + N + M) y pc' lv' (rz.toList ++ r) wz = some res
  rw [show n + N + M = n + M + N by omega]
  exact H (n + M)
def mxRL (L : Nat) (xs : Nat → Int32) (pc : Nat) (lv : mxV) (st : List Value) (w : mxW) (res : mxR) : Prop := ∃ N, ∀ n, mxevL L xs (n + N) pc lv st w = some res
theorem mxRL.go {L : Nat} {xs : Nat → Int32} {pc : Nat} {lv : mxV} {st : List Value} {w : mxW} {res : mxR} (k : Nat) {pc' : Nat} {lv' : mxV} {st' : List Value} {w' : mxW} (h : ∀ n, mxevL L xs (n + k) pc lv st w = mxevL L xs n pc' lv' st' w') (H : mxRL L xs pc' lv' st' w' res) : mxRL L xs pc lv st w res := by
  obtain ⟨N, H⟩ := H
  exact ⟨N + k, fun n => by rw [← Nat.add_assoc, h]; exact H n⟩
theorem mxRL.ift {L : Nat} {xs : Nat → Int32} {pc : Nat} {lv : mxV} {st : List Value} {w : mxW} {res : mxR} (k : Nat) {bb : Bool} {pc' : Nat} {lv' : mxV} {st' : List Value} {w' : mxW} {X : Nat → Option mxR} (h : ∀ n, mxevL L xs (n + k) pc lv st w = cond bb (mxevL L xs n pc' lv' st' w') (X n)) (hb : bb = true) (H : mxRL L xs pc' lv' st' w' res) : mxRL L xs pc lv st w res :=
  H.go k (fun n => by rw [h, hb]; rfl)
theorem mxRL.iff {L : Nat} {xs : Nat → Int32} {pc : Nat} {lv : mxV} {st : List Value} {w : mxW} {res : mxR} (k : Nat) {bb : Bool} {pc' : Nat} {lv' : mxV} {st' : List Value} {w' : mxW} {X : Nat → Option mxR} (h : ∀ n, mxevL L xs (n + k) pc lv st w = cond bb (X n) (mxevL L xs n pc' lv' st' w')) (hb : bb = false) (H : mxRL L xs pc' lv' st' w' res) : mxRL L xs pc lv st w res :=
  H.go k (fun n => by rw [h, hb]; rfl)
theorem mxRL.ret {L : Nat} {xs : Nat → Int32} {pc : Nat} {lv : mxV} {st : List Value} {w : mxW} {res : mxR} (k : Nat) (h : ∀ n, mxevL L xs (n + k) pc lv st w = some res) : mxRL L xs pc lv st w res := ⟨k, h⟩
theorem mxRL.call {L : Nat} {xs : Nat → Int32} {pc : Nat} {lv : mxV} {st : List Value} {w : mxW} {res : mxR} (k : Nat) {z pc' : Nat} {lz lv' : mxV} {r : List Value} {w1 wz : mxW} {rz : Option Value} (h : ∀ n, mxevL L xs (n + k) pc lv st w = (mxev n z 0 lz [] w1).bind (fun q => mxevL L xs n pc' lv' (q.1.toList ++ r) q.2)) (Hz : mxRn z 0 lz [] w1 (rz, wz)) (H : mxRL L xs pc' lv' (rz.toList ++ r) wz res) : mxRL L xs pc lv st w res := by
  obtain ⟨N, H⟩ := H
  obtain ⟨M, Hz⟩ := Hz
  refine ⟨N + M + k, fun n => ?_⟩
  rw [← Nat.add_assoc, h, ← Nat.add_assoc, Hz (n + N)]
  show mxevL L xs (n + N + M) pc' lv' (rz.toList ++ r) wz = some res
  rw [show n + N + M = n + M + N by omega]
  exact H (n + M)
