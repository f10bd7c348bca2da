theorem mx_rt1 {i : mxi} {pc : Nat} {op : Instr} {lv : mxV} {st : List Value} {w : mxW} {k : Nat → mxV → List Value → mxW → Option mxR} {call : Nat → List Value → mxW → Option mxR} {res : mxR} (h : mxS i pc op lv st w k call = some res) (hop : mxrt op = true) (hr : mxi_r i = some .boolean) : ∃ v : Int32, op = .ireturn ∧ st = [.int v] ∧ res = (some (.int v), w) := by
  cases op <;> first
    | (cases hop; done)
    | simp only [mxS, hr] at h
  case ireturn =>
    split at h
    · rename_i v ty hh
      obtain ⟨-, h⟩ := mx_cn h
      cases h
      exact ⟨v, rfl, rfl, rfl⟩
    · cases h
  all_goals cases h
section LAWRUN
variable {p : Program} {l : Launch} {e : Env} {s : State} {m : MethodId} {below : List Frame} {meth : Method} {c : Code} {sa : Nat → Nat} {cA : Nat → ClassId} {dC : Nat → ClassId} {dI : Nat → Nat → Nat}
theorem mx_DL {b0 L : Nat} {xs : Nat → Int32} (C : mxF p room_1 s m #[Value.ref b0] meth c s.heap.size sa cA dC dI miL_law) (hX : va_X b0 L xs s s.heap) (hb0 : b0 < s.heap.size) (hsa : sa 2 = b0) : ∀ (n pc : Nat) (lv : mxV) (st : List Value) (w : mxW) (res : mxR), mxevL L xs n pc lv st w = some res → res.1 = some (.int 1) → res.2.1.length ≤ 600000 → mxsl res.2 ≤ 7302250 → mxD p l e room_1 s m #[Value.ref b0] below meth c s.heap.size sa cA dC dI miL_law (lw_Z below #[Value.ref b0] s) 0 0 pc lv st w ∧ mxgr w res.2 := by
  intro n
  induction n with
  | zero => intro pc lv st w res h; cases h
  | succ n ih =>
    intro pc lv st w res h hr1 hc hs
    have hbA : ¬ (fun q : Nat => s.heap.size ≤ q) b0 := Nat.not_le.mpr hb0
    simp only [mxevL] at h
    split at h
    · cases h
    · rename_i op len hop
      have hmt := mx_look hop
      have hdk := List.all_eq_true.mp mdkL_law _ hmt
      have hro := List.all_eq_true.mp mk_roomL _ hmt
      simp only [Bool.and_eq_true, decide_eq_true_eq] at hdk
      unfold mxSL at h
      split at h
      · rename_i x r
        obtain ⟨hb, h⟩ := mx_cn h
        obtain ⟨K, g⟩ := ih _ _ _ _ _ h hr1 hc hs
        obtain rfl : len = 1 := by simpa [mxln] using hdk.2
        refine ⟨?_, g⟩
        intro H locs cells slots ls h1 h2 h3 h4 h5 h6
        show W p l e room_1 s m #[Value.ref b0] below meth c H locs cells slots _ (F0 m pc ls (.int x :: .ref (sa 2) :: r.map (mxv s.heap.size sa)))
        rw [hsa]
        exact va_sld C.x C.bb hX hb0 hbA h3 (mxin_of hb) hdk.1 (K H locs cells slots ls h1 h2 h3 h4 h5 h6)
      · rename_i r
        obtain ⟨K, g⟩ := ih _ _ _ _ _ h hr1 hc hs
        obtain rfl : len = 1 := by simpa [mxln] using hdk.2
        refine ⟨?_, g⟩
        intro H locs cells slots ls h1 h2 h3 h4 h5 h6
        show W p l e room_1 s m #[Value.ref b0] below meth c H locs cells slots _ (F0 m pc ls (.ref (sa 2) :: r.map (mxv s.heap.size sa)))
        rw [hsa]
        exact va_slen C.x C.bb hX hb0 hbA h3 hdk.1 (K H locs cells slots ls h1 h2 h3 h4 h5 h6)
      · have hgk : ∀ pc' lv' st' w', mxevL L xs n pc' lv' st' w' = some res → mxgr w' res.2 := fun pc' lv' st' w' hk => (ih _ _ _ _ _ hk hr1 hc hs).2
        have hgc : ∀ z vs w' (q : mxR), cond (Nat.ble (mxsum vs) (mxlL z)) (mxev n z 0 (lv_args 0 vs) [] w') none = some q → mxgr w' q.2 := fun z vs w' q hq => mxev_grow (mx_cn hq).2
        refine ⟨mx_S C hdk.1 hdk.2 hro h hgk hgc (fun pc' lv' st' w' hk => (ih _ _ _ _ _ hk hr1 hc hs).1) (fun z zi vs w' q hz hq => ?_) (by show res.2.1.length ≤ 600000 + 0; omega) (by show mxsl res.2 ≤ 7302250 + 0; omega) (fun hop => ?_), mxS_grow h hgk hgc⟩
        · obtain ⟨hb, hq⟩ := mx_cn hq
          rw [show mxlL z = mxi_L zi by unfold mxlL; rw [hz]] at hb
          exact mx_met l hz (Nat.ble_eq.mp hb) hq _ _ _ _ _
        · obtain ⟨v, rfl, rfl, rfl⟩ := mx_rt1 h hop rfl
          obtain rfl : v = 1 := by simpa using hr1
          obtain rfl : len = 1 := by simpa [mxln] using hdk.2
          intro H locs cells slots ls h1 h2 h3 h4 h5 h6
          refine va_forget (fun q hq => h3.2.2 q hq) ?_
          refine W.widen (k := 600000) (n := 7302250) (by have : w.1.length ≤ 600000 := hc; omega) (by have : mxsl w ≤ 7302250 := hs; omega) ?_
          exact lw_ret C.x C.bb C.rr C.lk hdk.1
end LAWRUN
