/-! walks: from the beginning to the end -/
def k_walks : sxK := ([(0, 0, 0, 0), ((-2147483648), 2147483647, 0, 0), (1, 10, 0, 0), ((-2147483648), 2147483647, 0, 0), ((-2147483648), 2147483647, 0, 0), (0, 200, 0, 0), (0, 200, 0, 0), (0, 200, 0, 0), (0, 803, 0, 0), (0, 4, 0, 0), (0, 15, 0, 0), ((-2147483648), 2147483647, 0, 0), (0, 9223372036854775807, 1, 0), (0, 127, 0, 0), ((-2147483648), 2147483647, 0, 0), (0, 1, 0, 0), (0, 6, 0, 0), (0, 20001, 0, 0), ((-2147483648), 2147483647, 0, 0), (0, 1, 0, 0), (0, 10, 0, 0), ((-2147483648), 2147483647, 0, 0), ((-2147483648), 2147483647, 0, 0), (0, 1, 0, 0), (0, 1, 0, 0), (0, 1, 0, 0), (0, 1, 0, 0), (0, 3, 0, 0), (0, 3, 0, 0), (0, 3, 0, 0), (0, 3, 0, 0), (0, 1, 0, 0), (0, 1, 0, 0), (0, 1, 0, 0), (0, 1, 0, 0), (0, 9, 0, 23), (0, 9, 0, 24), (0, 9, 0, 25), (0, 9, 0, 26), (0, 4, 0, 0), (0, 4, 0, 0)], [(2, 9, 0), (0, 1, 0), (0, 2, 0), (0, 3, 0)], [(9, (8, 37, 0, 0, 0, some [(0, 4, 0), (2, 10, 0), (0, 5, 0), (0, 6, 0), (0, 7, 0), (0, 8, 0), (2, 11, 0), (2, 12, 0), (2, 13, 0), (2, 14, 0), (2, 15, 0), (2, 16, 0), (2, 17, 0), (2, 18, 0), (0, 9, 0), (0, 10, 0), (0, 11, 0), (1, 12, 0), (0, 13, 0), (0, 14, 0), (0, 15, 0), (0, 16, 0), (2, 19, 0), (2, 20, 0), (2, 21, 0), (2, 22, 0), (2, 23, 0), (2, 24, 0), (0, 17, 0), (0, 18, 0), (2, 25, 0), (0, 19, 0), (0, 20, 0), (0, 21, 0), (0, 22, 0), (2, 26, 0), (2, 27, 0)])), (14, (3, 4, 0, 0, 0, some [(0, 23, 0), (0, 24, 0), (0, 25, 0), (0, 26, 0)])), (15, (0, 4, 0, 0, 0, some [(0, 27, 0), (0, 28, 0), (0, 29, 0), (0, 30, 0)])), (16, (0, 4, 0, 0, 0, some [(0, 31, 0), (0, 32, 0), (0, 33, 0), (0, 34, 0)])), (17, (0, 4, 0, 0, 0, some [(0, 35, 0), (0, 36, 0), (0, 37, 0), (0, 38, 0)])), (18, (0, 2, 0, 0, 0, some [(0, 39, 0), (0, 40, 0)])), (11, (0, 7, 0, 9, 2, none)), (21, (1, 20001, 0, 9223372036854775807, 1, none)), (22, (0, 20001, (-1), 20000, 0, none)), (23, (0, 20001, (-2147483648), 2147483647, 0, none)), (24, (0, 65536, 0, 20001, 0, none)), (25, (0, 10, (-2147483648), 2147483647, 0, none))], [([(0, 0, 0, 0), ((-2147483648), 2147483647, 0, 0), (1, 10, 0, 0), ((-2147483648), 2147483647, 0, 0), ((-2147483648), 2147483647, 0, 0), (0, 200, 0, 0), (0, 200, 0, 0), (0, 200, 0, 0), (0, 803, 0, 0), (0, 4, 0, 0), (0, 15, 0, 0), ((-2147483648), 2147483647, 0, 0), (0, 9223372036854775807, 1, 0), (0, 127, 0, 0), ((-2147483648), 2147483647, 0, 0), (0, 1, 0, 0), (0, 6, 0, 0), (0, 20001, 0, 0), ((-2147483648), 2147483647, 0, 0), (0, 1, 0, 0), (0, 10, 0, 0), ((-2147483648), 2147483647, 0, 0), ((-2147483648), 2147483647, 0, 0), (0, 1, 0, 0), (0, 1, 0, 0), (0, 1, 0, 0), (0, 1, 0, 0), (0, 3, 0, 0), (0, 3, 0, 0), (0, 3, 0, 0), (0, 3, 0, 0), (0, 1, 0, 0), (0, 1, 0, 0), (0, 1, 0, 0), (0, 1, 0, 0), (0, 9, 0, 23), (0, 9, 0, 24), (0, 9, 0, 25), (0, 9, 0, 26), (0, 4, 0, 0), (0, 4, 0, 0), (0, 4, 0, 0), (0, 15, 0, 0), ((-2147483648), 2147483647, 0, 0), (0, 20001, 0, 0), ((-2147483648), 2147483647, 0, 0), (0, 1, 0, 0), (0, 1, 0, 0), (0, 1, 0, 0), (0, 1, 0, 0), (0, 3, 0, 0), (0, 3, 0, 0), (0, 3, 0, 0), (0, 3, 0, 0), (0, 1, 0, 0), (0, 1, 0, 0), (0, 1, 0, 0), (0, 1, 0, 0), (0, 9, 0, 46), (0, 9, 0, 47), (0, 9, 0, 48), (0, 9, 0, 49), (0, 4, 0, 0), (0, 4, 0, 0), ((-2), 10, 0, 0)], some (0, 64, 0), [(9, (8, 37, 0, 0, 0, some [(0, 4, 0), (2, 10, 0), (0, 5, 0), (0, 6, 0), (0, 7, 0), (0, 8, 0), (2, 11, 0), (2, 12, 0), (2, 13, 0), (2, 14, 0), (2, 15, 0), (2, 16, 0), (2, 17, 0), (2, 18, 0), (0, 41, 0), (0, 42, 0), (0, 43, 0), (1, 12, 0), (0, 13, 0), (0, 14, 0), (0, 15, 0), (0, 16, 0), (2, 19, 0), (2, 20, 0), (2, 21, 0), (2, 22, 0), (2, 23, 0), (2, 24, 0), (0, 44, 0), (0, 45, 0), (2, 25, 0), (0, 19, 0), (0, 20, 0), (0, 21, 0), (0, 22, 0), (2, 26, 0), (2, 27, 0)])), (14, (3, 4, 0, 0, 0, some [(0, 46, 0), (0, 47, 0), (0, 48, 0), (0, 49, 0)])), (15, (0, 4, 0, 0, 0, some [(0, 50, 0), (0, 51, 0), (0, 52, 0), (0, 53, 0)])), (16, (0, 4, 0, 0, 0, some [(0, 54, 0), (0, 55, 0), (0, 56, 0), (0, 57, 0)])), (17, (0, 4, 0, 0, 0, some [(0, 58, 0), (0, 59, 0), (0, 60, 0), (0, 61, 0)])), (18, (0, 2, 0, 0, 0, some [(0, 62, 0), (0, 63, 0)])), (21, (1, 20001, 0, 9223372036854775807, 1, none)), (22, (0, 20001, (-1), 20000, 0, none)), (23, (0, 20001, (-2147483648), 2147483647, 0, none)), (24, (0, 65536, 0, 20001, 0, none)), (25, (0, 10, (-2147483648), 2147483647, 0, none))])])
/-! its proof is below -/
def v0 : sxA := ([(0, 0, 0, 0), ((-2147483648), 2147483647, 0, 0), (1, 10, 0, 0), ((-2147483648), 2147483647, 0, 0), ((-2147483648), 2147483647, 0, 0), (0, 200, 0, 0), (0, 200, 0, 0), (0, 200, 0, 0), (0, 803, 0, 0), (0, 4, 0, 0), (0, 15, 0, 0), ((-2147483648), 2147483647, 0, 0), (0, 9223372036854775807, 1, 0), (0, 127, 0, 0), ((-2147483648), 2147483647, 0, 0), (0, 1, 0, 0), (0, 6, 0, 0), (0, 20001, 0, 0), ((-2147483648), 2147483647, 0, 0), (0, 1, 0, 0), (0, 10, 0, 0), ((-2147483648), 2147483647, 0, 0), ((-2147483648), 2147483647, 0, 0), (0, 1, 0, 0), (0, 1, 0, 0), (0, 1, 0, 0), (0, 1, 0, 0), (0, 3, 0, 0), (0, 3, 0, 0), (0, 3, 0, 0), (0, 3, 0, 0), (0, 1, 0, 0), (0, 1, 0, 0), (0, 1, 0, 0), (0, 1, 0, 0), (0, 9, 0, 23), (0, 9, 0, 24), (0, 9, 0, 25), (0, 9, 0, 26), (0, 4, 0, 0), (0, 4, 0, 0)], [(0, (2, 9, 0)), (1, (0, 1, 0)), (2, (0, 2, 0)), (3, (0, 3, 0))], [], [(9, (8, 37, 0, 0, 0, some [(0, 4, 0), (2, 10, 0), (0, 5, 0), (0, 6, 0), (0, 7, 0), (0, 8, 0), (2, 11, 0), (2, 12, 0), (2, 13, 0), (2, 14, 0), (2, 15, 0), (2, 16, 0), (2, 17, 0), (2, 18, 0), (0, 9, 0), (0, 10, 0), (0, 11, 0), (1, 12, 0), (0, 13, 0), (0, 14, 0), (0, 15, 0), (0, 16, 0), (2, 19, 0), (2, 20, 0), (2, 21, 0), (2, 22, 0), (2, 23, 0), (2, 24, 0), (0, 17, 0), (0, 18, 0), (2, 25, 0), (0, 19, 0), (0, 20, 0), (0, 21, 0), (0, 22, 0), (2, 26, 0), (2, 27, 0)])), (14, (3, 4, 0, 0, 0, some [(0, 23, 0), (0, 24, 0), (0, 25, 0), (0, 26, 0)])), (15, (0, 4, 0, 0, 0, some [(0, 27, 0), (0, 28, 0), (0, 29, 0), (0, 30, 0)])), (16, (0, 4, 0, 0, 0, some [(0, 31, 0), (0, 32, 0), (0, 33, 0), (0, 34, 0)])), (17, (0, 4, 0, 0, 0, some [(0, 35, 0), (0, 36, 0), (0, 37, 0), (0, 38, 0)])), (18, (0, 2, 0, 0, 0, some [(0, 39, 0), (0, 40, 0)])), (11, (0, 7, 0, 9, 2, none)), (21, (1, 20001, 0, 9223372036854775807, 1, none)), (22, (0, 20001, (-1), 20000, 0, none)), (23, (0, 20001, (-2147483648), 2147483647, 0, none)), (24, (0, 65536, 0, 20001, 0, none)), (25, (0, 10, (-2147483648), 2147483647, 0, none))], 1000)
def y0_0 : sxA := ([(0, 0, 0, 0), ((-2147483648), 2147483647, 0, 0), (1, 10, 0, 0), ((-2147483648), 2147483647, 0, 0), ((-2147483648), 2147483647, 0, 0), (0, 200, 0, 0), (0, 200, 0, 0), (0, 200, 0, 0), (0, 803, 0, 0), (0, 4, 0, 0), (0, 15, 0, 0), ((-2147483648), 2147483647, 0, 0), (0, 9223372036854775807, 1, 0), (0, 127, 0, 0), ((-2147483648), 2147483647, 0, 0), (0, 1, 0, 0), (0, 6, 0, 0), (0, 20001, 0, 0), ((-2147483648), 2147483647, 0, 0), (0, 1, 0, 0), (0, 10, 0, 0), ((-2147483648), 2147483647, 0, 0), ((-2147483648), 2147483647, 0, 0), (0, 1, 0, 0), (0, 1, 0, 0), (0, 1, 0, 0), (0, 1, 0, 0), (0, 3, 0, 0), (0, 3, 0, 0), (0, 3, 0, 0), (0, 3, 0, 0), (0, 1, 0, 0), (0, 1, 0, 0), (0, 1, 0, 0), (0, 1, 0, 0), (0, 9, 0, 23), (0, 9, 0, 24), (0, 9, 0, 25), (0, 9, 0, 26), (0, 4, 0, 0), (0, 4, 0, 0)], [(0, (2, 9, 0)), (1, (0, 1, 0)), (2, (0, 2, 0)), (3, (0, 3, 0)), (4, (0, 0, 0))], [], [(9, (8, 37, 0, 0, 0, some [(0, 4, 0), (2, 10, 0), (0, 5, 0), (0, 6, 0), (0, 7, 0), (0, 8, 0), (2, 11, 0), (2, 12, 0), (2, 13, 0), (2, 14, 0), (2, 15, 0), (2, 16, 0), (2, 17, 0), (2, 18, 0), (0, 9, 0), (0, 10, 0), (0, 1, 0), (1, 12, 0), (0, 13, 0), (0, 14, 0), (0, 15, 0), (0, 16, 0), (2, 19, 0), (2, 20, 0), (2, 21, 0), (2, 22, 0), (2, 23, 0), (2, 24, 0), (0, 17, 0), (0, 18, 0), (2, 25, 0), (0, 19, 0), (0, 20, 0), (0, 21, 0), (0, 22, 0), (2, 26, 0), (2, 27, 0)])), (14, (3, 4, 0, 0, 0, some [(0, 23, 0), (0, 24, 0), (0, 25, 0), (0, 26, 0)])), (15, (0, 4, 0, 0, 0, some [(0, 27, 0), (0, 28, 0), (0, 29, 0), (0, 30, 0)])), (16, (0, 4, 0, 0, 0, some [(0, 31, 0), (0, 32, 0), (0, 33, 0), (0, 34, 0)])), (17, (0, 4, 0, 0, 0, some [(0, 35, 0), (0, 36, 0), (0, 37, 0), (0, 38, 0)])), (18, (0, 2, 0, 0, 0, some [(0, 39, 0), (0, 40, 0)])), (11, (0, 7, 0, 9, 2, none)), (21, (1, 20001, 0, 9223372036854775807, 1, none)), (22, (0, 20001, (-1), 20000, 0, none)), (23, (0, 20001, (-2147483648), 2147483647, 0, none)), (24, (0, 65536, 0, 20001, 0, none)), (25, (0, 10, (-2147483648), 2147483647, 0, none))], 1000)
def Y0 : List (Nat × sxA) := [(8, y0_0)]
theorem b0 : sx_bk TW miX5_walks (mxi_t miX5_walks) [8] 4000 0 (roA v0) (Y0.map roP) = true := by decide +kernel
def v8 : sxA := (y0_0.1, [(0, (2, 9, 0)), (1, (0, 1, 0)), (2, (0, 2, 0)), (3, (0, 3, 0)), (4, (0, 0, 65536))], [], y0_0.2.2.2.1, 1000)
def s8 : List (Nat × Int) := [(0, 0), (1, 0), (2, 0), (3, 0), (4, 0), (5, 0), (6, 0), (7, 0), (8, 0), (9, 0), (10, 0), (1, 0), (12, 0), (13, 0), (14, 0), (15, 0), (16, 0), (17, 0), (18, 0), (19, 0), (20, 0), (21, 0), (22, 0), (23, 0), (24, 0), (25, 0), (26, 0), (27, 0), (28, 0), (29, 0), (30, 0), (31, 0), (32, 0), (33, 0), (34, 0), (35, 0), (36, 0), (37, 0), (38, 0), (39, 0), (40, 0)]
theorem s8_ok : sx_sub v8.1 s8 v8 v29 = true := by decide +kernel
theorem s8_kp : kps KP s8 = true := by decide +kernel
theorem me_D0 {w w' : mxW} {f : Int32} (h : me_G w w' f) (hst : (w.2.1 9 28).toInt = 0) (hk : f.toInt = -1) (g1 : cz (w.2.1 24) 65536 = 0) : wG w' (w'.2.1 9 28).toInt ∧ wD w' (w'.2.1 9 28).toInt 0 := by
  rcases h with rfl | ⟨h1, h2, h3, h4, h5⟩
  · rw [hst]
    exact ⟨by unfold wG; omega, fun x hx => by omega⟩
  · rw [hst] at h1 h2 h4 h5
    rw [h2]
    refine ⟨by unfold wG; omega, fun x hx => ?_⟩
    have ex : x = 0 := by omega
    subst ex
    show w'.2.1 22 0 = -1
    exact h5.trans (Int32.toInt_inj.mp (by rw [hk]; rfl))
def shf (n : Nat) (e : sxe) : sxe := (e.1, e.2.1, e.2.2.1, cond (Nat.beq e.2.2.2 0) 0 (e.2.2.2 + n))
theorem env_join {E E2 : List sxe} {ρ ρ2 : Nat → Int} (h : sx_env E ρ) (h2 : sx_env E2 ρ2) : sx_env (E ++ E2.map (shf E.length)) (fun i => if i < E.length then ρ i else ρ2 (i - E.length)) := by
  obtain ⟨a1, a2, a3⟩ := h
  obtain ⟨c1, c2, c3⟩ := h2
  refine ⟨(if_pos a2).trans a1, by rw [List.length_append]; omega, fun i e he => ?_⟩
  rw [List.length_append, List.length_map]
  by_cases hi : i < E.length
  · rw [List.getElem?_append_left hi] at he
    obtain ⟨d1, d2, d3, d4, d5⟩ := a3 i e he
    dsimp only
    rw [if_pos hi, if_pos d4]
    exact ⟨d1, d2, d3, by omega, d5⟩
  · rw [List.getElem?_append_right (by omega), List.getElem?_map] at he
    obtain ⟨e0, he0, rfl⟩ := Option.map_eq_some_iff.mp he
    obtain ⟨d1, d2, d3, d4, d5⟩ := c3 _ e0 he0
    dsimp only
    rw [if_neg hi]
    refine ⟨d1, d2, d3, ?_, ?_⟩
    · show cond (Nat.beq e0.2.2.2 0) 0 (e0.2.2.2 + E.length) < _
      cases Nat.beq e0.2.2.2 0 with
      | true => show 0 < _; omega
      | false => show e0.2.2.2 + E.length < _; omega
    · show cond (Nat.beq e0.2.2.2 0) 0 (e0.2.2.2 + E.length) ≠ 0 → 1 ≤ (if cond (Nat.beq e0.2.2.2 0) 0 (e0.2.2.2 + E.length) < E.length then ρ (cond (Nat.beq e0.2.2.2 0) 0 (e0.2.2.2 + E.length)) else ρ2 (cond (Nat.beq e0.2.2.2 0) 0 (e0.2.2.2 + E.length) - E.length)) → _
      cases hb : Nat.beq e0.2.2.2 0 with
      | true => exact fun q => absurd rfl q
      | false =>
        intro _ q
        have q2 : 1 ≤ (if e0.2.2.2 + E.length < E.length then ρ (e0.2.2.2 + E.length) else ρ2 (e0.2.2.2 + E.length - E.length)) := q
        rw [if_neg (by omega), Nat.add_sub_cancel] at q2
        exact d5 (fun z => by rw [z] at hb; cases hb) q2

def sEND : List (Nat × Int) := [(0, 0), (1, 0), (2, 0), (3, 0), (4, 0), (5, 0), (6, 0), (7, 0), (8, 0), (50, 0), (51, 0), (52, 0), (12, 0), (13, 0), (14, 0), (15, 0), (16, 0), (58, 0), (59, 0), (19, 0), (20, 0), (21, 0), (22, 0), (64, 0), (65, 0), (66, 0), (67, 0), (68, 0), (69, 0), (70, 0), (71, 0), (72, 0), (73, 0), (74, 0), (75, 0), (76, 0), (77, 0), (78, 0), (79, 0), (80, 0), (81, 0), (9, 0), (10, 0), (11, 0), (17, 0), (18, 0), (23, 0), (24, 0), (25, 0), (26, 0), (27, 0), (28, 0), (29, 0), (30, 0), (31, 0), (32, 0), (33, 0), (34, 0), (35, 0), (36, 0), (37, 0), (38, 0), (39, 0), (40, 0), (82, 0)]
def vEND : sxA := (vHP.1 ++ vHP.1.map (shf vHP.1.length) ++ [(-2, 10, 0, 0)], [], [(0, 82, 0)], vHP.2.2.2.1, 1000)
theorem sEND_ok : (match k_walks.2.2.2 with | [p] => sx_sub vEND.1 sEND vEND (p.1, [], p.2.1.toList, p.2.2, 1000) | _ => false) = true := by decide +kernel
theorem sEND_id : ((List.range 41).all (fun i => match sEND[i]? with | some q => decide (q.2 = 0) && ((Nat.beq q.1 i && KP.contains i) || Nat.beq q.1 (41 + i)) | none => false)) = true := by decide +kernel
theorem w_entry {W0 : Nat} {S : Nat → Prop} {ρ : Nat → Int} {lv : mxV} {w : mxW} (hS : ∀ k, 21 ≤ k → k ≤ 25 → S k) (hl : 26 ≤ w.1.length) (hγ : sx_γ W0 S ρ v0 lv [] w) : wFIN W0 S ρ 0 lv [] w := by
  obtain ⟨y, hy, ρ1, lv1, st1, w1, a1, a2, a3, a4, a5, a6, a7⟩ := wblk b0 (by decide) (by decide) hS hl hγ
  simp only [Y0, List.mem_cons, List.not_mem_nil, or_false] at hy
  subst hy
  obtain ⟨hs, hq, hbz⟩ := wshp a2 rfl rfl rfl rfl rfl rfl rfl rfl rfl rfl rfl
  obtain rfl : lv1 = y0_0.2.1.map (sx_lv W0 ρ1) := a2.2.1.1
  obtain rfl : st1 = [] := a2.2.2.1.1
  have z0 : ρ1 0 = 0 := a2.1.1
  have hl1 : 26 ≤ w1.1.length := by rw [a4]; exact hl
  have kp1 : ∀ i ∈ KP, ρ1 i = ρ i := fun i hi => a1 i (KP_lt i hi)
  clear a1 a4 a5 a6
  refine wFIN.go a7 a3 ?_
  clear a7 a3 hγ hl
  -- the clear loop
  obtain ⟨w2, r1, r2, r3, r4⟩ : ∃ w2 : mxW, w2.1 = w1.1 ∧ (∀ c, c ≠ 24 → w2.2.1 c = w1.2.1 c ∧ w2.2.2.1 c = w1.2.2.1 c ∧ w2.2.2.2 c = w1.2.2.2 c) ∧ (∀ j, j < 65536 → w2.2.1 24 j = 0) ∧ ∀ res, mxRn 117 29 (v8.2.1.map (sx_lv W0 ρ1)) [] w2 res → mxRn 117 8 (y0_0.2.1.map (sx_lv W0 ρ1)) [] w1 res := by
    obtain ⟨shw, I, J, Q⟩ := w1
    obtain ⟨a, sh, rfl⟩ := shW_ex shw hs.1 hs.2.1 hs.2.2.1 hs.2.2.2.1 hs.2.2.2.2.1 hs.2.2.2.2.2
    have hQ : QW Q = Q := QW_eq hq.1 hq.2.1 hq.2.2.1 hq.2.2.2.1 hq.2.2.2.2
    obtain ⟨I', k1, k2, k3⟩ := wc_loop (a := a) (sh := sh) (J := J) (Q := Q) (r := Int32.ofInt (ρ1 1 + 0)) (ln := Int32.ofInt (ρ1 2 + 0)) (kd := Int32.ofInt (ρ1 3 + 0)) 65536 0 I (by decide) (by decide) (fun j hj => absurd hj (Nat.not_lt_zero j))
    rw [hQ] at k3
    refine ⟨(shW a sh, I', J, Q), rfl, fun c hc => ⟨k1 c hc, rfl, rfl⟩, k2, fun res H => ?_⟩
    have e0 : Int32.ofInt (ρ1 0 + 0) = 0 := by rw [z0]; rfl
    have e1 : Int32.ofInt (ρ1 0 + 65536) = 65536 := by rw [z0]; rfl
    have g := k3 res (by
      have H2 : mxRn 117 29 [(0, .ref 9), (1, .int (Int32.ofInt (ρ1 1 + 0))), (2, .int (Int32.ofInt (ρ1 2 + 0))), (3, .int (Int32.ofInt (ρ1 3 + 0))), (4, .int (Int32.ofInt (ρ1 0 + 65536)))] [] (shW a sh, I', J, Q) res := H
      rw [e1] at H2
      exact H2)
    show mxRn 117 8 [(0, .ref 9), (1, .int (Int32.ofInt (ρ1 1 + 0))), (2, .int (Int32.ofInt (ρ1 2 + 0))), (3, .int (Int32.ofInt (ρ1 3 + 0))), (4, .int (Int32.ofInt (ρ1 0 + 0)))] [] (shW a sh, I, J, Q) res
    rw [e0]
    exact g
  have hwr := sx_γ_wr (E := y0_0.1) (la := y0_0.2.1) (sa := []) (H := y0_0.2.2.2.1) (c := 1000) (w' := w2) (k := 24) (cl := (0, 65536, 0, 20001, 0, none)) (cl' := (0, 65536, 0, 20001, 0, none)) a2 rfl (by decide) r1 (fun c hc => r2 c hc) (by
    refine ⟨by rw [r1]; exact hs.2.2.2.2.1, by decide, fun j hj => ?_⟩
    show (0 : Int) ≤ (w2.2.1 24 j).toInt ∧ (w2.2.1 24 j).toInt ≤ 20001 ∧ _
    rw [r3 j hj]
    exact ⟨by decide, by decide, fun q => by cases q⟩)
  obtain ⟨b1, b2⟩ := hwr
  have g8 : sx_γ W0 S ρ1 v8 (v8.2.1.map (sx_lv W0 ρ1)) [] w2 := by
    refine ⟨b1.1, ⟨rfl, fun q hq => ?_⟩, ⟨rfl, fun v hv => absurd hv List.not_mem_nil⟩, b1.2.2.2.1, b1.2.2.2.2⟩
    simp only [v8, List.mem_cons, List.not_mem_nil, or_false] at hq
    rcases hq with rfl | rfl | rfl | rfl | rfl <;> intro _ <;> decide
  refine wFIN.go r4 b2 ?_
  have g29 := (sx_sub_ok g8 s8_ok).1
  have hl2 : 26 ≤ w2.1.length := by rw [r1]; exact hl1
  have kp2 : ∀ i ∈ KP, sx_ρ s8 ρ1 i = ρ i := fun i hi => (kps_ok s8_kp i hi).trans (kp1 i hi)
  generalize sx_ρ s8 ρ1 = ρ2 at g29 kp2
  have cz2 : cz (w2.2.1 24) 65536 = 0 := cz_zero r3
  generalize v8.2.1.map (sx_lv W0 ρ1) = lv2 at g29
  clear r4 b2 b1 g8 r1 r2 r3 hs hq hbz a2 hl1 kp1 z0
  -- the first state
  obtain ⟨y, hy, ρ3, lv3, st3, w3, a1, a2, a3, a4, a5, a6, a7⟩ := wblk b29 (by decide) (by decide) hS hl2 g29
  simp only [Y29, List.mem_cons, List.not_mem_nil, or_false] at hy
  subst hy
  obtain ⟨hs, hq, hbz⟩ := wshp a2 rfl rfl rfl rfl rfl rfl rfl rfl rfl rfl rfl
  obtain rfl : lv3 = y29_0.2.1.map (sx_lv W0 ρ3) := a2.2.1.1
  obtain rfl : st3 = y29_0.2.2.1.map (sx_val W0 ρ3) := a2.2.2.1.1
  have z0 : ρ3 0 = 0 := a2.1.1
  have hst : (w3.2.1 9 28).toInt = 0 := (stv (t := 8) (s := 0) (o := 0) a2 rfl rfl rfl (by decide)).trans (by rw [z0]; rfl)
  have hz : cz (w3.2.1 24) 65536 = 0 := by rw [a6]; exact cz2
  obtain ⟨y2, hy2, ρ4, w4, rv, c1, c2, c3, c4, c5⟩ := wcall (fun W1 S1 => (me_w hs.2.2.2.2.2 hq.2.2.2.2 (by rw [hz]; decide) W1 S1 _).1) rs a2
  have run : ∀ res, mxRn 117 53 (y29_0.2.1.map (sx_lv W0 ρ3)) (rv.toList ++ []) w4 res → mxRn 117 50 (y29_0.2.1.map (sx_lv W0 ρ3)) (y29_0.2.2.1.map (sx_val W0 ρ3)) w3 res := fun res H =>
    wvir (pc := 50) (n := 238) (len := 3) (z := 116) (zi := miX5_meets) (E := y29_0.1) (la := y29_0.2.1) (sa := y29_0.2.2.1) (r := []) (H := y29_0.2.2.2.1) (c := y29_0.2.2.2.2) (v := (2, 9, 0)) rfl rfl rfl rfl rfl rfl (by decide +kernel) a2 c3 H
  have hmf : (Int32.ofInt (ρ3 0 + (-1))).toInt = -1 := by rw [z0]; rfl
  obtain ⟨m1, m2⟩ := me_D0 (me_G2 (v := Int64.ofInt (ρ3 41 + 0)) (f := Int32.ofInt (ρ3 0 + (-1))) (l := Int32.ofInt (ρ3 0 + (-1))) hs hq hbz (by rw [hz]; decide) (by rw [hst]; decide) c3) hst hmf hz
  have hl4 : w4.1.length = w3.1.length := by
    simp only [List.mem_cons, List.not_mem_nil, or_false] at hy2
    rcases hy2 with rfl | rfl
    · exact γ_len (W1 := W0) a2 c4 rfl
    · exact γ_len (W1 := W0) a2 c4 rfl
  simp only [List.mem_cons, List.not_mem_nil, or_false] at hy2
  rcases hy2 with rfl | rfl
  · have hst2 : (w4.2.1 9 28).toInt = ρ4 0 + 0 := stv (t := 8) (s := 0) (o := 0) c4 rfl rfl rfl (by decide)
    rw [hst2] at m1 m2
    obtain ⟨y3, hy3, ρ5, lv5, st5, w5, d1, d2, d3, d4, d5, d6, d7⟩ := wblk b530 (by decide) (by decide) hS (by rw [hl4, a4]; exact hl2) c4
    simp only [Y530, List.mem_cons, List.not_mem_nil, or_false] at hy3
    subst hy3
    have g := (sx_sub_ok d2 s530_0_ok).1
    have e := g.2.2.1.1
    replace e : st5 = [] := e
    subst e
    have z5 : ρ5 0 = 0 := d2.1.1
    have z4 : ρ4 0 = 0 := c4.1.1
    refine wFIN.go (fun res H => a7 res (run res (d7 res H))) ((a3.tr c5).tr d3) (w59 hS _ (Nat.le_refl _) ⟨by rw [d4, hl4, a4]; exact hl2, ?_, m2.cg d5 (show ρ5 0 + 0 = ρ4 0 + 0 by rw [z5, z4]) (show ρ5 0 + 1 - 1 = 0 by rw [z5]; rfl), fun i hi => (kps_ok s530_0_kp i hi).trans ((d1 i (Nat.lt_trans (KP_lt i hi) (by decide))).trans ((c1 i (Nat.lt_trans (KP_lt i hi) (by decide))).trans ((a1 i (KP_lt i hi)).trans (kp2 i hi))))⟩ (Or.inl g))
    show wG w5 (ρ5 0 + 0)
    unfold wG at m1 ⊢
    rw [z4] at m1
    rw [d6, z5]
    exact m1
  · have hst2 : (w4.2.1 9 28).toInt = ρ4 0 + 1 := stv (t := 8) (s := 0) (o := 1) c4 rfl rfl rfl (by decide)
    rw [hst2] at m1 m2
    obtain ⟨y3, hy3, ρ5, lv5, st5, w5, d1, d2, d3, d4, d5, d6, d7⟩ := wblk b531 (by decide) (by decide) hS (by rw [hl4, a4]; exact hl2) c4
    simp only [Y531, List.mem_cons, List.not_mem_nil, or_false] at hy3
    subst hy3
    have g := (sx_sub_ok d2 s531_0_ok).1
    have e := g.2.2.1.1
    replace e : st5 = [] := e
    subst e
    have z5 : ρ5 0 = 0 := d2.1.1
    have z4 : ρ4 0 = 0 := c4.1.1
    refine wFIN.go (fun res H => a7 res (run res (d7 res H))) ((a3.tr c5).tr d3) (w59 hS _ (Nat.le_refl _) ⟨by rw [d4, hl4, a4]; exact hl2, ?_, m2.cg d5 (show ρ5 0 + 1 = ρ4 0 + 1 by rw [z5, z4]) (show ρ5 0 + 1 - 1 = 0 by rw [z5]; rfl), fun i hi => (kps_ok s531_0_kp i hi).trans ((d1 i (Nat.lt_trans (KP_lt i hi) (by decide))).trans ((c1 i (Nat.lt_trans (KP_lt i hi) (by decide))).trans ((a1 i (KP_lt i hi)).trans (kp2 i hi))))⟩ (Or.inl g))
    show wG w5 (ρ5 0 + 1)
    unfold wG at m1 ⊢
    rw [z4] at m1
    rw [d6, z5]
    exact m1
theorem c_walks : sx_C 117 k_walks := by
  intro W0 S ρ w hγ
  have h0 : sx_γ W0 S ρ v0 (lv_args 0 (k_walks.2.1.map (sx_val W0 ρ))) [] w := hγ
  have hc : ∀ k, 21 ≤ k → k ≤ 25 → S k ∧ k < w.1.length := by
    intro k h1 h2
    have key : ∀ (cl : sxc), v0.2.2.2.1.lookup k = some cl → cl.2.2.2.2.1 < 2 → k < 1000 → S k ∧ k < w.1.length := by
      intro cl e1 e2 e3
      have g := h0.2.2.2.1 _ (sx_hl e1)
      have g1 := g.1.1
      have g2 := g.2.1 e2
      dsimp only at g1 g2
      rw [sx_ad_lt e3] at g1 g2
      exact ⟨g2, (List.getElem?_eq_some_iff.mp g1).1⟩
    have hk : k = 21 ∨ k = 22 ∨ k = 23 ∨ k = 24 ∨ k = 25 := by omega
    rcases hk with rfl | rfl | rfl | rfl | rfl
    · exact key _ rfl (by decide) (by decide)
    · exact key _ rfl (by decide) (by decide)
    · exact key _ rfl (by decide) (by decide)
    · exact key _ rfl (by decide) (by decide)
    · exact key _ rfl (by decide) (by decide)
  obtain ⟨ret, w', ρ', f1, f2, f3, f4, f5, f6⟩ := w_entry (fun k h1 h2 => (hc k h1 h2).1) (hc 25 (by decide) (by decide)).2 h0
  have he := sx_env_new (env_join f5.1 (show sx_env vHP.1 ρ from h0.1)) (z := ret) (lo := -2) (hi := 10) (fl := 0) f2 f3 (fun q => by cases q)
  have hlen : (vHP.1 ++ vHP.1.map (shf vHP.1.length)).length = 82 := by decide
  rw [hlen] at he
  generalize hρs : sx_up (fun i => if i < vHP.1.length then ρ' i else ρ (i - vHP.1.length)) 82 ret = ρs at he
  have s1 : ∀ i, i < 41 → ρs i = ρ' i := by
    intro i hi
    rw [← hρs]
    unfold sx_up
    rw [if_neg (by omega)]
    exact if_pos (show i < vHP.1.length from hi)
  have s2 : ∀ i, i < 41 → ρs (41 + i) = ρ i := by
    intro i hi
    rw [← hρs]
    unfold sx_up
    rw [if_neg (by omega)]
    exact (if_neg (show ¬ 41 + i < 41 by omega)).trans (congrArg ρ (show 41 + i - 41 = i by omega))
  have s3 : ρs 82 = ret := by
    rw [← hρs]
    unfold sx_up
    rw [if_pos rfl]
  have gE : sx_γ W0 S ρs vEND [] (vEND.2.2.1.map (sx_val W0 ρs)) w' := by
    have g0 := sx_γ_ag (E := vHP.1) (la := []) (sa := []) (H := vHP.2.2.2.1) (c := 1000) f5 he (by decide) s1
    exact ⟨g0.1, g0.2.1, ⟨rfl, fun v hv => by
      simp only [vEND, List.mem_cons, List.not_mem_nil, or_false] at hv
      subst hv
      intro _
      decide⟩, g0.2.2.2⟩
  have hid : ∀ i, i < 41 → sx_ρ sEND ρs i = ρ i := by
    intro i hi
    have g := List.all_eq_true.mp sEND_id i (List.mem_range.mpr hi)
    split at g
    · rename_i q hq
      rw [Bool.and_eq_true, decide_eq_true_eq, Bool.or_eq_true, Bool.and_eq_true] at g
      rw [sx_ρ_at hq, g.1, Int.add_zero]
      rcases g.2 with ⟨k1, k2⟩ | k1
      · rw [sx_bq k1, s1 i hi]
        exact f4 i (List.contains_iff_mem.mp k2)
      · rw [sx_bq k1, s2 i hi]
    · cases g
  have gs := (sx_sub_ok gE sEND_ok).1
  refine ⟨_, List.mem_cons_self, sx_ρ sEND ρs, w', fun j hj => hid j hj, by decide, ?_, ?_, f6⟩
  · have e : some (Value.int (Int32.ofInt ret)) = some (Value.int (Int32.ofInt (ρs 82 + 0 + 0))) := by rw [s3, Int.add_zero, Int.add_zero]
    rw [e] at f1
    exact f1
  · have e := gs.2.2.1.1
    rw [← e]
    exact gs
