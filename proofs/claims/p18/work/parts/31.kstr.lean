/-- a contract of constants: the run itself -/
theorem sx_C_pure {z : Nat} {K : sxK} {args : List sxv} {v : sxv} (hK : K = ([(0, 0, 0, 0)], args, [], [([(0, 0, 0, 0)], some v, [])])) (hr : ∀ (W0 : Nat) (ρ : Nat → Int) (w : mxW), ρ 0 = 0 → mxRn z 0 (lv_args 0 (args.map (sx_val W0 ρ))) [] w (some (sx_val W0 ρ v), w)) (hv : v.1 < 2 → v.2.1 < 1 := by decide) : sx_C z K := by
  subst hK
  intro W0 S ρ w h
  refine ⟨_, List.mem_singleton.mpr rfl, ρ, w, fun _ _ => rfl, Nat.le_refl _, hr W0 ρ w h.1.1, ⟨h.1, ⟨rfl, fun q hq => absurd hq List.not_mem_nil⟩, ⟨rfl, fun u hu => ?_⟩, fun q hq => absurd hq List.not_mem_nil, h.2.2.2.2⟩, sx_Fr.rf⟩
  rcases List.mem_singleton.mp hu with rfl
  exact hv
def k_len0 : sxK := ([(0, 0, 0, 0)], [(3, 3, 0)], [], [([(0, 0, 0, 0)], some (0, 0, 5), [])])
theorem c_len0 : sx_C 127 k_len0 := sx_C_pure rfl (fun W0 ρ w h0 => by
  show mxRn 127 0 [(0, .retAddr 3)] [] w (some (.int (Int32.ofInt (ρ 0 + 5))), w)
  rw [h0]
  exact ⟨60, fun n => rfl⟩)
def k_ch0_0 : sxK := ([(0, 0, 0, 0)], [(3, 3, 0), (0, 0, 0)], [], [([(0, 0, 0, 0)], some (0, 0, 101), [])])
theorem c_ch0_0 : sx_C 128 k_ch0_0 := sx_C_pure rfl (fun W0 ρ w h0 => by
  show mxRn 128 0 [(0, .retAddr 3), (1, .int (Int32.ofInt (ρ 0 + 0)))] [] w (some (.int (Int32.ofInt (ρ 0 + 101))), w)
  rw [h0]
  exact ⟨60, fun n => rfl⟩)
def k_ch0_1 : sxK := ([(0, 0, 0, 0)], [(3, 3, 0), (0, 0, 1)], [], [([(0, 0, 0, 0)], some (0, 0, 97), [])])
theorem c_ch0_1 : sx_C 128 k_ch0_1 := sx_C_pure rfl (fun W0 ρ w h0 => by
  show mxRn 128 0 [(0, .retAddr 3), (1, .int (Int32.ofInt (ρ 0 + 1)))] [] w (some (.int (Int32.ofInt (ρ 0 + 97))), w)
  rw [h0]
  exact ⟨60, fun n => rfl⟩)
def k_ch0_2 : sxK := ([(0, 0, 0, 0)], [(3, 3, 0), (0, 0, 2)], [], [([(0, 0, 0, 0)], some (0, 0, 114), [])])
theorem c_ch0_2 : sx_C 128 k_ch0_2 := sx_C_pure rfl (fun W0 ρ w h0 => by
  show mxRn 128 0 [(0, .retAddr 3), (1, .int (Int32.ofInt (ρ 0 + 2)))] [] w (some (.int (Int32.ofInt (ρ 0 + 114))), w)
  rw [h0]
  exact ⟨60, fun n => rfl⟩)
def k_ch0_3 : sxK := ([(0, 0, 0, 0)], [(3, 3, 0), (0, 0, 3)], [], [([(0, 0, 0, 0)], some (0, 0, 108), [])])
theorem c_ch0_3 : sx_C 128 k_ch0_3 := sx_C_pure rfl (fun W0 ρ w h0 => by
  show mxRn 128 0 [(0, .retAddr 3), (1, .int (Int32.ofInt (ρ 0 + 3)))] [] w (some (.int (Int32.ofInt (ρ 0 + 108))), w)
  rw [h0]
  exact ⟨60, fun n => rfl⟩)
def k_ch0_4 : sxK := ([(0, 0, 0, 0)], [(3, 3, 0), (0, 0, 4)], [], [([(0, 0, 0, 0)], some (0, 0, 121), [])])
theorem c_ch0_4 : sx_C 128 k_ch0_4 := sx_C_pure rfl (fun W0 ρ w h0 => by
  show mxRn 128 0 [(0, .retAddr 3), (1, .int (Int32.ofInt (ρ 0 + 4)))] [] w (some (.int (Int32.ofInt (ρ 0 + 121))), w)
  rw [h0]
  exact ⟨60, fun n => rfl⟩)
def k_len1 : sxK := ([(0, 0, 0, 0)], [(3, 4, 0)], [], [([(0, 0, 0, 0)], some (0, 0, 5), [])])
theorem c_len1 : sx_C 127 k_len1 := sx_C_pure rfl (fun W0 ρ w h0 => by
  show mxRn 127 0 [(0, .retAddr 4)] [] w (some (.int (Int32.ofInt (ρ 0 + 5))), w)
  rw [h0]
  exact ⟨60, fun n => rfl⟩)
def k_ch1_0 : sxK := ([(0, 0, 0, 0)], [(3, 4, 0), (0, 0, 0)], [], [([(0, 0, 0, 0)], some (0, 0, 108), [])])
theorem c_ch1_0 : sx_C 128 k_ch1_0 := sx_C_pure rfl (fun W0 ρ w h0 => by
  show mxRn 128 0 [(0, .retAddr 4), (1, .int (Int32.ofInt (ρ 0 + 0)))] [] w (some (.int (Int32.ofInt (ρ 0 + 108))), w)
  rw [h0]
  exact ⟨60, fun n => rfl⟩)
def k_ch1_1 : sxK := ([(0, 0, 0, 0)], [(3, 4, 0), (0, 0, 1)], [], [([(0, 0, 0, 0)], some (0, 0, 105), [])])
theorem c_ch1_1 : sx_C 128 k_ch1_1 := sx_C_pure rfl (fun W0 ρ w h0 => by
  show mxRn 128 0 [(0, .retAddr 4), (1, .int (Int32.ofInt (ρ 0 + 1)))] [] w (some (.int (Int32.ofInt (ρ 0 + 105))), w)
  rw [h0]
  exact ⟨60, fun n => rfl⟩)
def k_ch1_2 : sxK := ([(0, 0, 0, 0)], [(3, 4, 0), (0, 0, 2)], [], [([(0, 0, 0, 0)], some (0, 0, 110), [])])
theorem c_ch1_2 : sx_C 128 k_ch1_2 := sx_C_pure rfl (fun W0 ρ w h0 => by
  show mxRn 128 0 [(0, .retAddr 4), (1, .int (Int32.ofInt (ρ 0 + 2)))] [] w (some (.int (Int32.ofInt (ρ 0 + 110))), w)
  rw [h0]
  exact ⟨60, fun n => rfl⟩)
def k_ch1_3 : sxK := ([(0, 0, 0, 0)], [(3, 4, 0), (0, 0, 3)], [], [([(0, 0, 0, 0)], some (0, 0, 107), [])])
theorem c_ch1_3 : sx_C 128 k_ch1_3 := sx_C_pure rfl (fun W0 ρ w h0 => by
  show mxRn 128 0 [(0, .retAddr 4), (1, .int (Int32.ofInt (ρ 0 + 3)))] [] w (some (.int (Int32.ofInt (ρ 0 + 107))), w)
  rw [h0]
  exact ⟨60, fun n => rfl⟩)
def k_ch1_4 : sxK := ([(0, 0, 0, 0)], [(3, 4, 0), (0, 0, 4)], [], [([(0, 0, 0, 0)], some (0, 0, 115), [])])
theorem c_ch1_4 : sx_C 128 k_ch1_4 := sx_C_pure rfl (fun W0 ρ w h0 => by
  show mxRn 128 0 [(0, .retAddr 4), (1, .int (Int32.ofInt (ρ 0 + 4)))] [] w (some (.int (Int32.ofInt (ρ 0 + 115))), w)
  rw [h0]
  exact ⟨60, fun n => rfl⟩)
def k_len2 : sxK := ([(0, 0, 0, 0)], [(3, 5, 0)], [], [([(0, 0, 0, 0)], some (0, 0, 4), [])])
theorem c_len2 : sx_C 127 k_len2 := sx_C_pure rfl (fun W0 ρ w h0 => by
  show mxRn 127 0 [(0, .retAddr 5)] [] w (some (.int (Int32.ofInt (ρ 0 + 4))), w)
  rw [h0]
  exact ⟨60, fun n => rfl⟩)
def k_ch2_0 : sxK := ([(0, 0, 0, 0)], [(3, 5, 0), (0, 0, 0)], [], [([(0, 0, 0, 0)], some (0, 0, 107), [])])
theorem c_ch2_0 : sx_C 128 k_ch2_0 := sx_C_pure rfl (fun W0 ρ w h0 => by
  show mxRn 128 0 [(0, .retAddr 5), (1, .int (Int32.ofInt (ρ 0 + 0)))] [] w (some (.int (Int32.ofInt (ρ 0 + 107))), w)
  rw [h0]
  exact ⟨60, fun n => rfl⟩)
def k_ch2_1 : sxK := ([(0, 0, 0, 0)], [(3, 5, 0), (0, 0, 1)], [], [([(0, 0, 0, 0)], some (0, 0, 101), [])])
theorem c_ch2_1 : sx_C 128 k_ch2_1 := sx_C_pure rfl (fun W0 ρ w h0 => by
  show mxRn 128 0 [(0, .retAddr 5), (1, .int (Int32.ofInt (ρ 0 + 1)))] [] w (some (.int (Int32.ofInt (ρ 0 + 101))), w)
  rw [h0]
  exact ⟨60, fun n => rfl⟩)
def k_ch2_2 : sxK := ([(0, 0, 0, 0)], [(3, 5, 0), (0, 0, 2)], [], [([(0, 0, 0, 0)], some (0, 0, 101), [])])
theorem c_ch2_2 : sx_C 128 k_ch2_2 := sx_C_pure rfl (fun W0 ρ w h0 => by
  show mxRn 128 0 [(0, .retAddr 5), (1, .int (Int32.ofInt (ρ 0 + 2)))] [] w (some (.int (Int32.ofInt (ρ 0 + 101))), w)
  rw [h0]
  exact ⟨60, fun n => rfl⟩)
def k_ch2_3 : sxK := ([(0, 0, 0, 0)], [(3, 5, 0), (0, 0, 3)], [], [([(0, 0, 0, 0)], some (0, 0, 112), [])])
theorem c_ch2_3 : sx_C 128 k_ch2_3 := sx_C_pure rfl (fun W0 ρ w h0 => by
  show mxRn 128 0 [(0, .retAddr 5), (1, .int (Int32.ofInt (ρ 0 + 3)))] [] w (some (.int (Int32.ofInt (ρ 0 + 112))), w)
  rw [h0]
  exact ⟨60, fun n => rfl⟩)
def k_len3 : sxK := ([(0, 0, 0, 0)], [(3, 6, 0)], [], [([(0, 0, 0, 0)], some (0, 0, 4), [])])
theorem c_len3 : sx_C 127 k_len3 := sx_C_pure rfl (fun W0 ρ w h0 => by
  show mxRn 127 0 [(0, .retAddr 6)] [] w (some (.int (Int32.ofInt (ρ 0 + 4))), w)
  rw [h0]
  exact ⟨60, fun n => rfl⟩)
def k_ch3_0 : sxK := ([(0, 0, 0, 0)], [(3, 6, 0), (0, 0, 0)], [], [([(0, 0, 0, 0)], some (0, 0, 115), [])])
theorem c_ch3_0 : sx_C 128 k_ch3_0 := sx_C_pure rfl (fun W0 ρ w h0 => by
  show mxRn 128 0 [(0, .retAddr 6), (1, .int (Int32.ofInt (ρ 0 + 0)))] [] w (some (.int (Int32.ofInt (ρ 0 + 115))), w)
  rw [h0]
  exact ⟨60, fun n => rfl⟩)
def k_ch3_1 : sxK := ([(0, 0, 0, 0)], [(3, 6, 0), (0, 0, 1)], [], [([(0, 0, 0, 0)], some (0, 0, 116), [])])
theorem c_ch3_1 : sx_C 128 k_ch3_1 := sx_C_pure rfl (fun W0 ρ w h0 => by
  show mxRn 128 0 [(0, .retAddr 6), (1, .int (Int32.ofInt (ρ 0 + 1)))] [] w (some (.int (Int32.ofInt (ρ 0 + 116))), w)
  rw [h0]
  exact ⟨60, fun n => rfl⟩)
def k_ch3_2 : sxK := ([(0, 0, 0, 0)], [(3, 6, 0), (0, 0, 2)], [], [([(0, 0, 0, 0)], some (0, 0, 97), [])])
theorem c_ch3_2 : sx_C 128 k_ch3_2 := sx_C_pure rfl (fun W0 ρ w h0 => by
  show mxRn 128 0 [(0, .retAddr 6), (1, .int (Int32.ofInt (ρ 0 + 2)))] [] w (some (.int (Int32.ofInt (ρ 0 + 97))), w)
  rw [h0]
  exact ⟨60, fun n => rfl⟩)
def k_ch3_3 : sxK := ([(0, 0, 0, 0)], [(3, 6, 0), (0, 0, 3)], [], [([(0, 0, 0, 0)], some (0, 0, 121), [])])
theorem c_ch3_3 : sx_C 128 k_ch3_3 := sx_C_pure rfl (fun W0 ρ w h0 => by
  show mxRn 128 0 [(0, .retAddr 6), (1, .int (Int32.ofInt (ρ 0 + 3)))] [] w (some (.int (Int32.ofInt (ρ 0 + 121))), w)
  rw [h0]
  exact ⟨60, fun n => rfl⟩)
def k_len4 : sxK := ([(0, 0, 0, 0)], [(3, 7, 0)], [], [([(0, 0, 0, 0)], some (0, 0, 4), [])])
theorem c_len4 : sx_C 127 k_len4 := sx_C_pure rfl (fun W0 ρ w h0 => by
  show mxRn 127 0 [(0, .retAddr 7)] [] w (some (.int (Int32.ofInt (ρ 0 + 4))), w)
  rw [h0]
  exact ⟨60, fun n => rfl⟩)
def k_ch4_0 : sxK := ([(0, 0, 0, 0)], [(3, 7, 0), (0, 0, 0)], [], [([(0, 0, 0, 0)], some (0, 0, 116), [])])
theorem c_ch4_0 : sx_C 128 k_ch4_0 := sx_C_pure rfl (fun W0 ρ w h0 => by
  show mxRn 128 0 [(0, .retAddr 7), (1, .int (Int32.ofInt (ρ 0 + 0)))] [] w (some (.int (Int32.ofInt (ρ 0 + 116))), w)
  rw [h0]
  exact ⟨60, fun n => rfl⟩)
def k_ch4_1 : sxK := ([(0, 0, 0, 0)], [(3, 7, 0), (0, 0, 1)], [], [([(0, 0, 0, 0)], some (0, 0, 111), [])])
theorem c_ch4_1 : sx_C 128 k_ch4_1 := sx_C_pure rfl (fun W0 ρ w h0 => by
  show mxRn 128 0 [(0, .retAddr 7), (1, .int (Int32.ofInt (ρ 0 + 1)))] [] w (some (.int (Int32.ofInt (ρ 0 + 111))), w)
  rw [h0]
  exact ⟨60, fun n => rfl⟩)
def k_ch4_2 : sxK := ([(0, 0, 0, 0)], [(3, 7, 0), (0, 0, 2)], [], [([(0, 0, 0, 0)], some (0, 0, 108), [])])
theorem c_ch4_2 : sx_C 128 k_ch4_2 := sx_C_pure rfl (fun W0 ρ w h0 => by
  show mxRn 128 0 [(0, .retAddr 7), (1, .int (Int32.ofInt (ρ 0 + 2)))] [] w (some (.int (Int32.ofInt (ρ 0 + 108))), w)
  rw [h0]
  exact ⟨60, fun n => rfl⟩)
def k_ch4_3 : sxK := ([(0, 0, 0, 0)], [(3, 7, 0), (0, 0, 3)], [], [([(0, 0, 0, 0)], some (0, 0, 100), [])])
theorem c_ch4_3 : sx_C 128 k_ch4_3 := sx_C_pure rfl (fun W0 ρ w h0 => by
  show mxRn 128 0 [(0, .retAddr 7), (1, .int (Int32.ofInt (ρ 0 + 3)))] [] w (some (.int (Int32.ofInt (ρ 0 + 100))), w)
  rw [h0]
  exact ⟨60, fun n => rfl⟩)
def k_len5 : sxK := ([(0, 0, 0, 0)], [(3, 8, 0)], [], [([(0, 0, 0, 0)], some (0, 0, 5), [])])
theorem c_len5 : sx_C 127 k_len5 := sx_C_pure rfl (fun W0 ρ w h0 => by
  show mxRn 127 0 [(0, .retAddr 8)] [] w (some (.int (Int32.ofInt (ρ 0 + 5))), w)
  rw [h0]
  exact ⟨60, fun n => rfl⟩)
def k_ch5_0 : sxK := ([(0, 0, 0, 0)], [(3, 8, 0), (0, 0, 0)], [], [([(0, 0, 0, 0)], some (0, 0, 102), [])])
theorem c_ch5_0 : sx_C 128 k_ch5_0 := sx_C_pure rfl (fun W0 ρ w h0 => by
  show mxRn 128 0 [(0, .retAddr 8), (1, .int (Int32.ofInt (ρ 0 + 0)))] [] w (some (.int (Int32.ofInt (ρ 0 + 102))), w)
  rw [h0]
  exact ⟨60, fun n => rfl⟩)
def k_ch5_1 : sxK := ([(0, 0, 0, 0)], [(3, 8, 0), (0, 0, 1)], [], [([(0, 0, 0, 0)], some (0, 0, 111), [])])
theorem c_ch5_1 : sx_C 128 k_ch5_1 := sx_C_pure rfl (fun W0 ρ w h0 => by
  show mxRn 128 0 [(0, .retAddr 8), (1, .int (Int32.ofInt (ρ 0 + 1)))] [] w (some (.int (Int32.ofInt (ρ 0 + 111))), w)
  rw [h0]
  exact ⟨60, fun n => rfl⟩)
def k_ch5_2 : sxK := ([(0, 0, 0, 0)], [(3, 8, 0), (0, 0, 2)], [], [([(0, 0, 0, 0)], some (0, 0, 114), [])])
theorem c_ch5_2 : sx_C 128 k_ch5_2 := sx_C_pure rfl (fun W0 ρ w h0 => by
  show mxRn 128 0 [(0, .retAddr 8), (1, .int (Int32.ofInt (ρ 0 + 2)))] [] w (some (.int (Int32.ofInt (ρ 0 + 114))), w)
  rw [h0]
  exact ⟨60, fun n => rfl⟩)
def k_ch5_3 : sxK := ([(0, 0, 0, 0)], [(3, 8, 0), (0, 0, 3)], [], [([(0, 0, 0, 0)], some (0, 0, 109), [])])
theorem c_ch5_3 : sx_C 128 k_ch5_3 := sx_C_pure rfl (fun W0 ρ w h0 => by
  show mxRn 128 0 [(0, .retAddr 8), (1, .int (Int32.ofInt (ρ 0 + 3)))] [] w (some (.int (Int32.ofInt (ρ 0 + 109))), w)
  rw [h0]
  exact ⟨60, fun n => rfl⟩)
def k_ch5_4 : sxK := ([(0, 0, 0, 0)], [(3, 8, 0), (0, 0, 4)], [], [([(0, 0, 0, 0)], some (0, 0, 115), [])])
theorem c_ch5_4 : sx_C 128 k_ch5_4 := sx_C_pure rfl (fun W0 ρ w h0 => by
  show mxRn 128 0 [(0, .retAddr 8), (1, .int (Int32.ofInt (ρ 0 + 4)))] [] w (some (.int (Int32.ofInt (ρ 0 + 115))), w)
  rw [h0]
  exact ⟨60, fun n => rfl⟩)
def k_len6 : sxK := ([(0, 0, 0, 0)], [(3, 9, 0)], [], [([(0, 0, 0, 0)], some (0, 0, 4), [])])
theorem c_len6 : sx_C 127 k_len6 := sx_C_pure rfl (fun W0 ρ w h0 => by
  show mxRn 127 0 [(0, .retAddr 9)] [] w (some (.int (Int32.ofInt (ρ 0 + 4))), w)
  rw [h0]
  exact ⟨60, fun n => rfl⟩)
def k_ch6_0 : sxK := ([(0, 0, 0, 0)], [(3, 9, 0), (0, 0, 0)], [], [([(0, 0, 0, 0)], some (0, 0, 108), [])])
theorem c_ch6_0 : sx_C 128 k_ch6_0 := sx_C_pure rfl (fun W0 ρ w h0 => by
  show mxRn 128 0 [(0, .retAddr 9), (1, .int (Int32.ofInt (ρ 0 + 0)))] [] w (some (.int (Int32.ofInt (ρ 0 + 108))), w)
  rw [h0]
  exact ⟨60, fun n => rfl⟩)
def k_ch6_1 : sxK := ([(0, 0, 0, 0)], [(3, 9, 0), (0, 0, 1)], [], [([(0, 0, 0, 0)], some (0, 0, 105), [])])
theorem c_ch6_1 : sx_C 128 k_ch6_1 := sx_C_pure rfl (fun W0 ρ w h0 => by
  show mxRn 128 0 [(0, .retAddr 9), (1, .int (Int32.ofInt (ρ 0 + 1)))] [] w (some (.int (Int32.ofInt (ρ 0 + 105))), w)
  rw [h0]
  exact ⟨60, fun n => rfl⟩)
def k_ch6_2 : sxK := ([(0, 0, 0, 0)], [(3, 9, 0), (0, 0, 2)], [], [([(0, 0, 0, 0)], some (0, 0, 102), [])])
theorem c_ch6_2 : sx_C 128 k_ch6_2 := sx_C_pure rfl (fun W0 ρ w h0 => by
  show mxRn 128 0 [(0, .retAddr 9), (1, .int (Int32.ofInt (ρ 0 + 2)))] [] w (some (.int (Int32.ofInt (ρ 0 + 102))), w)
  rw [h0]
  exact ⟨60, fun n => rfl⟩)
def k_ch6_3 : sxK := ([(0, 0, 0, 0)], [(3, 9, 0), (0, 0, 3)], [], [([(0, 0, 0, 0)], some (0, 0, 101), [])])
theorem c_ch6_3 : sx_C 128 k_ch6_3 := sx_C_pure rfl (fun W0 ρ w h0 => by
  show mxRn 128 0 [(0, .retAddr 9), (1, .int (Int32.ofInt (ρ 0 + 3)))] [] w (some (.int (Int32.ofInt (ρ 0 + 101))), w)
  rw [h0]
  exact ⟨60, fun n => rfl⟩)
