def mxsec (n : Nat) : List Cond := match n with
  | 0 => k2_sels lw_privs
  | 1 => tables_1_1
  | 2 => tables_1_2
  | 3 => tables_1_3
  | _ => tables_1_4
theorem mxsec_in {n : Nat} {w : Cond} (h : w ∈ mxsec n) : w ∈ lw_tbl := by
  unfold lw_tbl tables_1
  match n, h with
  | 0, h => exact List.mem_append_left _ h
  | 1, h => exact List.mem_append_right _ (List.mem_append_left _ h)
  | 2, h => exact List.mem_append_right _ (List.mem_append_right _ (List.mem_append_left _ h))
  | 3, h => exact List.mem_append_right _ (List.mem_append_right _ (List.mem_append_right _ (List.mem_append_left _ h)))
  | n + 4, h => exact List.mem_append_right _ (List.mem_append_right _ (List.mem_append_right _ (List.mem_append_right _ h)))
/-- the tables' words that outlive calls -/
def mxA : List Cond := lw_tbl.filter goodWord
def mxall {α : Type} (f : α → Cond) : List α → List (Nat × Nat) → Bool
  | [], _ => true
  | e :: L, p :: ps => decide ((mxsec p.1)[p.2]? = some (f e)) && goodWord (f e) && mxall f L ps
  | _ :: _, [] => false
theorem mx_chk {α : Type} {f : α → Cond} : ∀ {L : List α} {ps : List (Nat × Nat)}, mxall f L ps = true → ∀ e ∈ L, f e ∈ mxA
  | [], _, _, e, he => absurd he List.not_mem_nil
  | a :: L, [], h, _, _ => by cases h
  | a :: L, p :: ps, h, e, he => by
    unfold mxall at h
    simp only [Bool.and_eq_true, decide_eq_true_eq] at h
    rcases List.mem_cons.mp he with rfl | he
    · exact List.mem_filter.mpr ⟨mxsec_in (List.mem_of_getElem? h.1.1), h.1.2⟩
    · exact mx_chk h.2 e he
theorem mxA_1 {w : Cond} (p : Nat × Nat) (h : mxall (fun x : Cond => x) [w] [p] = true) : w ∈ mxA := mx_chk h w List.mem_cons_self
def mxms_0 : List mxi := [miX0_init, miX0_tells, miX0_lifeTicks, miX0_wordCount, miX0_idleRules, miX0_read, miX0_readWord, miX0_readNumber, miX0_setFault, miX0_wordBetween, miX0_isWord, miX0_nameOf]
theorem mk_code_0 : ∀ i ∈ mxms_0, Cond.code (mxi_n i) (mxi_c i) (mxi_L i) (mxi_r i) ∈ mxA := mx_chk (f := fun i : mxi => Cond.code (mxi_n i) (mxi_c i) (mxi_L i) (mxi_r i)) (ps := [(1, 26), (2, 19), (2, 15), (2, 0), (3, 55), (1, 157), (1, 164), (1, 236), (1, 232), (1, 167), (1, 180), (1, 170)]) (by decide +kernel)
theorem mk_ini_0 : ∀ i ∈ mxms_0, Cond.initialized (mxo (mxi_o i)) ∈ mxA := mx_chk (f := fun i : mxi => Cond.initialized (mxo (mxi_o i))) (ps := [(1, 2), (1, 2), (1, 2), (1, 2), (1, 2), (1, 2), (1, 2), (1, 2), (1, 2), (1, 2), (1, 2), (1, 2)]) (by decide +kernel)
theorem mk_knd_0 : ∀ i ∈ mxms_0, (if mxi_s i = true then Cond.static (mxi_n i) else Cond.instanceMethod (mxi_n i)) ∈ mxA := mx_chk (f := fun i : mxi => if mxi_s i = true then Cond.static (mxi_n i) else Cond.instanceMethod (mxi_n i)) (ps := [(1, 25), (2, 17), (2, 13), (1, 238), (3, 53), (1, 155), (1, 163), (1, 235), (1, 231), (1, 166), (1, 179), (1, 169)]) (by decide +kernel)
theorem mk_sel_0 : ∀ i ∈ mxms_0, (if mxi_s i = true ∨ mxi_I i = true then Cond.initialized (mxo (mxi_o i)) else Cond.selects (mxo (mxi_o i)) (mxi_n i) (mxi_n i)) ∈ mxA := mx_chk (f := fun i : mxi => if mxi_s i = true ∨ mxi_I i = true then Cond.initialized (mxo (mxi_o i)) else Cond.selects (mxo (mxi_o i)) (mxi_n i) (mxi_n i)) (ps := [(1, 2), (2, 18), (2, 14), (1, 239), (3, 54), (1, 156), (0, 1), (0, 3), (0, 2), (1, 2), (1, 2), (1, 2)]) (by decide +kernel)
theorem mk_nam_0 : mxms_0.all (fun i => decide ((mxi_n i).cls = mxo (mxi_o i)) && plainName (mxi_n i).cls && decide ((mxi_n i).cls ≠ "java/lang/invoke/MethodHandle") && decide ((mxi_n i).cls ≠ "java/lang/invoke/VarHandle") && decide ((parseMethodDescriptor (mxi_n i).desc).map (fun d => d.parameters.length) = some (mxi_a i)) && (!(mxi_I i) || decide ((mxi_n i).name = "<init>"))) = true := by decide +kernel
def mxms_1 : List mxi := [miX1_init, miX1_statesMet, miX1_flawKind, miX1_run, miX1_forget, miX1_findFlaw, miX1_goOn, miX1_meet, miX1_keep, miX1_copyRow, miX2_lives, miX2_owner]
theorem mk_code_1 : ∀ i ∈ mxms_1, Cond.code (mxi_n i) (mxi_c i) (mxi_L i) (mxi_r i) ∈ mxA := mx_chk (f := fun i : mxi => Cond.code (mxi_n i) (mxi_c i) (mxi_L i) (mxi_r i)) (ps := [(2, 194), (3, 24), (3, 28), (2, 228), (2, 232), (3, 9), (3, 16), (3, 0), (3, 5), (3, 35), (2, 64), (2, 108)]) (by decide +kernel)
theorem mk_ini_1 : ∀ i ∈ mxms_1, Cond.initialized (mxo (mxi_o i)) ∈ mxA := mx_chk (f := fun i : mxi => Cond.initialized (mxo (mxi_o i))) (ps := [(1, 12), (1, 12), (1, 12), (1, 12), (1, 12), (1, 12), (1, 12), (1, 12), (1, 12), (1, 12), (1, 11), (1, 11)]) (by decide +kernel)
theorem mk_knd_1 : ∀ i ∈ mxms_1, (if mxi_s i = true then Cond.static (mxi_n i) else Cond.instanceMethod (mxi_n i)) ∈ mxA := mx_chk (f := fun i : mxi => if mxi_s i = true then Cond.static (mxi_n i) else Cond.instanceMethod (mxi_n i)) (ps := [(2, 193), (3, 22), (3, 26), (2, 226), (2, 231), (3, 8), (3, 15), (2, 239), (3, 4), (3, 33), (2, 63), (2, 107)]) (by decide +kernel)
theorem mk_sel_1 : ∀ i ∈ mxms_1, (if mxi_s i = true ∨ mxi_I i = true then Cond.initialized (mxo (mxi_o i)) else Cond.selects (mxo (mxi_o i)) (mxi_n i) (mxi_n i)) ∈ mxA := mx_chk (f := fun i : mxi => if mxi_s i = true ∨ mxi_I i = true then Cond.initialized (mxo (mxi_o i)) else Cond.selects (mxo (mxi_o i)) (mxi_n i) (mxi_n i)) (ps := [(1, 12), (3, 23), (3, 27), (2, 227), (0, 17), (0, 20), (0, 21), (0, 18), (0, 19), (3, 34), (1, 11), (1, 11)]) (by decide +kernel)
theorem mk_nam_1 : mxms_1.all (fun i => decide ((mxi_n i).cls = mxo (mxi_o i)) && plainName (mxi_n i).cls && decide ((mxi_n i).cls ≠ "java/lang/invoke/MethodHandle") && decide ((mxi_n i).cls ≠ "java/lang/invoke/VarHandle") && decide ((parseMethodDescriptor (mxi_n i).desc).map (fun d => d.parameters.length) = some (mxi_a i)) && (!(mxi_I i) || decide ((mxi_n i).name = "<init>"))) = true := by decide +kernel
def mxms_2 : List mxi := [miX2_bound, miX2_ticks, miX2_given, miX2_store, miX2_known, miX2_knows, miX2_ended, miX2_owned, miX2_ticked, miX2_stored, miX2_learnt, miX2_minted]
theorem mk_code_2 : ∀ i ∈ mxms_2, Cond.code (mxi_n i) (mxi_c i) (mxi_L i) (mxi_r i) ∈ mxA := mx_chk (f := fun i : mxi => Cond.code (mxi_n i) (mxi_c i) (mxi_L i) (mxi_r i)) (ps := [(2, 95), (2, 144), (2, 71), (2, 61), (2, 169), (2, 134), (2, 101), (2, 98), (2, 141), (2, 79), (2, 84), (2, 75)]) (by decide +kernel)
theorem mk_ini_2 : ∀ i ∈ mxms_2, Cond.initialized (mxo (mxi_o i)) ∈ mxA := mx_chk (f := fun i : mxi => Cond.initialized (mxo (mxi_o i))) (ps := [(1, 11), (1, 11), (1, 11), (1, 11), (1, 11), (1, 11), (1, 11), (1, 11), (1, 11), (1, 11), (1, 11), (1, 11)]) (by decide +kernel)
theorem mk_knd_2 : ∀ i ∈ mxms_2, (if mxi_s i = true then Cond.static (mxi_n i) else Cond.instanceMethod (mxi_n i)) ∈ mxA := mx_chk (f := fun i : mxi => if mxi_s i = true then Cond.static (mxi_n i) else Cond.instanceMethod (mxi_n i)) (ps := [(2, 94), (2, 143), (2, 70), (2, 60), (2, 168), (2, 133), (2, 100), (2, 97), (2, 140), (2, 78), (2, 83), (2, 74)]) (by decide +kernel)
theorem mk_sel_2 : ∀ i ∈ mxms_2, (if mxi_s i = true ∨ mxi_I i = true then Cond.initialized (mxo (mxi_o i)) else Cond.selects (mxo (mxi_o i)) (mxi_n i) (mxi_n i)) ∈ mxA := mx_chk (f := fun i : mxi => if mxi_s i = true ∨ mxi_I i = true then Cond.initialized (mxo (mxi_o i)) else Cond.selects (mxo (mxi_o i)) (mxi_n i) (mxi_n i)) (ps := [(1, 11), (1, 11), (1, 11), (1, 11), (1, 11), (1, 11), (1, 11), (1, 11), (1, 11), (1, 11), (1, 11), (1, 11)]) (by decide +kernel)
theorem mk_nam_2 : mxms_2.all (fun i => decide ((mxi_n i).cls = mxo (mxi_o i)) && plainName (mxi_n i).cls && decide ((mxi_n i).cls ≠ "java/lang/invoke/MethodHandle") && decide ((mxi_n i).cls ≠ "java/lang/invoke/VarHandle") && decide ((parseMethodDescriptor (mxi_n i).desc).map (fun d => d.parameters.length) = some (mxi_a i)) && (!(mxi_I i) || decide ((mxi_n i).name = "<init>"))) = true := by decide +kernel
def mxms_3 : List mxi := [miX3_init, miX3_learn, miX3_holds, miX3_after, miX3_flawOf, miX3_good, miX3_visitorHolds, miX3_visited, miX3_given, miX3_loggedIn, miX3_left, miX3_canAct]
theorem mk_code_3 : ∀ i ∈ mxms_3, Cond.code (mxi_n i) (mxi_c i) (mxi_L i) (mxi_r i) ∈ mxA := mx_chk (f := fun i : mxi => Cond.code (mxi_n i) (mxi_c i) (mxi_L i) (mxi_r i)) (ps := [(1, 52), (2, 45), (2, 49), (2, 54), (2, 161), (2, 92), (2, 115), (2, 58), (2, 68), (2, 88), (2, 105), (2, 112)]) (by decide +kernel)
theorem mk_ini_3 : ∀ i ∈ mxms_3, Cond.initialized (mxo (mxi_o i)) ∈ mxA := mx_chk (f := fun i : mxi => Cond.initialized (mxo (mxi_o i))) (ps := [(1, 3), (1, 3), (1, 3), (1, 3), (1, 3), (1, 3), (1, 3), (1, 3), (1, 3), (1, 3), (1, 3), (1, 3)]) (by decide +kernel)
theorem mk_knd_3 : ∀ i ∈ mxms_3, (if mxi_s i = true then Cond.static (mxi_n i) else Cond.instanceMethod (mxi_n i)) ∈ mxA := mx_chk (f := fun i : mxi => if mxi_s i = true then Cond.static (mxi_n i) else Cond.instanceMethod (mxi_n i)) (ps := [(1, 51), (2, 43), (2, 48), (2, 52), (2, 159), (2, 91), (2, 114), (2, 57), (2, 67), (2, 87), (2, 104), (2, 111)]) (by decide +kernel)
theorem mk_sel_3 : ∀ i ∈ mxms_3, (if mxi_s i = true ∨ mxi_I i = true then Cond.initialized (mxo (mxi_o i)) else Cond.selects (mxo (mxi_o i)) (mxi_n i) (mxi_n i)) ∈ mxA := mx_chk (f := fun i : mxi => if mxi_s i = true ∨ mxi_I i = true then Cond.initialized (mxo (mxi_o i)) else Cond.selects (mxo (mxi_o i)) (mxi_n i) (mxi_n i)) (ps := [(1, 3), (2, 44), (1, 3), (2, 53), (2, 160), (0, 8), (1, 3), (0, 5), (0, 6), (0, 7), (0, 9), (0, 10)]) (by decide +kernel)
theorem mk_nam_3 : mxms_3.all (fun i => decide ((mxi_n i).cls = mxo (mxi_o i)) && plainName (mxi_n i).cls && decide ((mxi_n i).cls ≠ "java/lang/invoke/MethodHandle") && decide ((mxi_n i).cls ≠ "java/lang/invoke/VarHandle") && decide ((parseMethodDescriptor (mxi_n i).desc).map (fun d => d.parameters.length) = some (mxi_a i)) && (!(mxi_I i) || decide ((mxi_n i).name = "<init>"))) = true := by decide +kernel
def mxms_4 : List mxi := [miX3_followed, miX3_canBeSent, miX3_shown, miX3_canRide, miX3_ticked, miX4_init, miX4_feed, miX4_putFour, miX4_end, miX4_house, miX4_has, miX4_cost]
theorem mk_code_4 : ∀ i ∈ mxms_4, Cond.code (mxi_n i) (mxi_c i) (mxi_L i) (mxi_r i) ∈ mxA := mx_chk (f := fun i : mxi => Cond.code (mxi_n i) (mxi_c i) (mxi_L i) (mxi_r i)) (ps := [(2, 119), (2, 123), (2, 127), (2, 131), (2, 138), (1, 18), (1, 141), (1, 145), (1, 149), (1, 153), (2, 11), (2, 23)]) (by decide +kernel)
theorem mk_ini_4 : ∀ i ∈ mxms_4, Cond.initialized (mxo (mxi_o i)) ∈ mxA := mx_chk (f := fun i : mxi => Cond.initialized (mxo (mxi_o i))) (ps := [(1, 3), (1, 3), (1, 3), (1, 3), (1, 3), (1, 1), (1, 1), (1, 1), (1, 1), (1, 1), (1, 1), (1, 1)]) (by decide +kernel)
theorem mk_knd_4 : ∀ i ∈ mxms_4, (if mxi_s i = true then Cond.static (mxi_n i) else Cond.instanceMethod (mxi_n i)) ∈ mxA := mx_chk (f := fun i : mxi => if mxi_s i = true then Cond.static (mxi_n i) else Cond.instanceMethod (mxi_n i)) (ps := [(2, 118), (2, 122), (2, 126), (2, 130), (2, 137), (1, 17), (1, 139), (1, 144), (1, 147), (1, 151), (2, 9), (2, 21)]) (by decide +kernel)
theorem mk_sel_4 : ∀ i ∈ mxms_4, (if mxi_s i = true ∨ mxi_I i = true then Cond.initialized (mxo (mxi_o i)) else Cond.selects (mxo (mxi_o i)) (mxi_n i) (mxi_n i)) ∈ mxA := mx_chk (f := fun i : mxi => if mxi_s i = true ∨ mxi_I i = true then Cond.initialized (mxo (mxi_o i)) else Cond.selects (mxo (mxi_o i)) (mxi_n i) (mxi_n i)) (ps := [(0, 11), (0, 12), (0, 13), (0, 14), (0, 15), (1, 1), (1, 140), (0, 0), (1, 148), (1, 152), (2, 10), (2, 22)]) (by decide +kernel)
theorem mk_nam_4 : mxms_4.all (fun i => decide ((mxi_n i).cls = mxo (mxi_o i)) && plainName (mxi_n i).cls && decide ((mxi_n i).cls ≠ "java/lang/invoke/MethodHandle") && decide ((mxi_n i).cls ≠ "java/lang/invoke/VarHandle") && decide ((parseMethodDescriptor (mxi_n i).desc).map (fun d => d.parameters.length) = some (mxi_a i)) && (!(mxi_I i) || decide ((mxi_n i).name = "<init>"))) = true := by decide +kernel
def mxms_5 : List mxi := [miX4_task, miX4_taskLetter, miX4_goes, miX4_taskGoes, miX4_drop, miX4_begin, miX4_letter, miX4_row, miX4_ticket, miX4_walk, miX4_searcher, miX4_isRuleSet]
theorem mk_code_5 : ∀ i ∈ mxms_5, Cond.code (mxi_n i) (mxi_c i) (mxi_L i) (mxi_r i) ∈ mxA := mx_chk (f := fun i : mxi => Cond.code (mxi_n i) (mxi_c i) (mxi_L i) (mxi_r i)) (ps := [(2, 27), (2, 30), (2, 34), (2, 41), (2, 149), (2, 153), (2, 157), (2, 165), (2, 174), (2, 182), (2, 189), (2, 37)]) (by decide +kernel)
theorem mk_ini_5 : ∀ i ∈ mxms_5, Cond.initialized (mxo (mxi_o i)) ∈ mxA := mx_chk (f := fun i : mxi => Cond.initialized (mxo (mxi_o i))) (ps := [(1, 1), (1, 1), (1, 1), (1, 1), (1, 1), (1, 1), (1, 1), (1, 1), (1, 1), (1, 1), (1, 1), (1, 1)]) (by decide +kernel)
theorem mk_knd_5 : ∀ i ∈ mxms_5, (if mxi_s i = true then Cond.static (mxi_n i) else Cond.instanceMethod (mxi_n i)) ∈ mxA := mx_chk (f := fun i : mxi => if mxi_s i = true then Cond.static (mxi_n i) else Cond.instanceMethod (mxi_n i)) (ps := [(2, 25), (2, 29), (2, 32), (2, 40), (2, 147), (2, 151), (2, 155), (2, 163), (2, 172), (2, 180), (2, 188), (2, 36)]) (by decide +kernel)
theorem mk_sel_5 : ∀ i ∈ mxms_5, (if mxi_s i = true ∨ mxi_I i = true then Cond.initialized (mxo (mxi_o i)) else Cond.selects (mxo (mxi_o i)) (mxi_n i) (mxi_n i)) ∈ mxA := mx_chk (f := fun i : mxi => if mxi_s i = true ∨ mxi_I i = true then Cond.initialized (mxo (mxi_o i)) else Cond.selects (mxo (mxi_o i)) (mxi_n i) (mxi_n i)) (ps := [(2, 26), (1, 1), (2, 33), (0, 4), (2, 148), (2, 152), (2, 156), (2, 164), (2, 173), (2, 181), (0, 16), (1, 1)]) (by decide +kernel)
theorem mk_nam_5 : mxms_5.all (fun i => decide ((mxi_n i).cls = mxo (mxi_o i)) && plainName (mxi_n i).cls && decide ((mxi_n i).cls ≠ "java/lang/invoke/MethodHandle") && decide ((mxi_n i).cls ≠ "java/lang/invoke/VarHandle") && decide ((parseMethodDescriptor (mxi_n i).desc).map (fun d => d.parameters.length) = some (mxi_a i)) && (!(mxi_I i) || decide ((mxi_n i).name = "<init>"))) = true := by decide +kernel
def mxms_6 : List mxi := [miX4_canWalk, miX4_least, miX4_walked, miX4_mend, miX4_tasksThatGo, miX4_rankRuleSets, miX4_nextRank, miX4_count, miX5_init, miX5_in, miX5_feed, miX5_put]
theorem mk_code_6 : ∀ i ∈ mxms_6, Cond.code (mxi_n i) (mxi_c i) (mxi_L i) (mxi_r i) ∈ mxA := mx_chk (f := fun i : mxi => Cond.code (mxi_n i) (mxi_c i) (mxi_L i) (mxi_r i)) (ps := [(2, 185), (3, 39), (3, 43), (3, 47), (3, 51), (3, 60), (3, 65), (3, 70), (3, 75), (4, 14), (3, 206), (3, 210)]) (by decide +kernel)
theorem mk_ini_6 : ∀ i ∈ mxms_6, Cond.initialized (mxo (mxi_o i)) ∈ mxA := mx_chk (f := fun i : mxi => Cond.initialized (mxo (mxi_o i))) (ps := [(1, 1), (1, 1), (1, 1), (1, 1), (1, 1), (1, 1), (1, 1), (1, 1), (1, 4), (1, 4), (1, 4), (1, 4)]) (by decide +kernel)
theorem mk_knd_6 : ∀ i ∈ mxms_6, (if mxi_s i = true then Cond.static (mxi_n i) else Cond.instanceMethod (mxi_n i)) ∈ mxA := mx_chk (f := fun i : mxi => if mxi_s i = true then Cond.static (mxi_n i) else Cond.instanceMethod (mxi_n i)) (ps := [(2, 184), (3, 37), (3, 41), (3, 45), (3, 50), (3, 59), (3, 64), (3, 68), (3, 74), (4, 13), (3, 204), (3, 209)]) (by decide +kernel)
theorem mk_sel_6 : ∀ i ∈ mxms_6, (if mxi_s i = true ∨ mxi_I i = true then Cond.initialized (mxo (mxi_o i)) else Cond.selects (mxo (mxi_o i)) (mxi_n i) (mxi_n i)) ∈ mxA := mx_chk (f := fun i : mxi => if mxi_s i = true ∨ mxi_I i = true then Cond.initialized (mxo (mxi_o i)) else Cond.selects (mxo (mxi_o i)) (mxi_n i) (mxi_n i)) (ps := [(1, 1), (3, 38), (3, 42), (3, 46), (0, 22), (0, 23), (0, 24), (3, 69), (1, 4), (1, 4), (3, 205), (0, 27)]) (by decide +kernel)
theorem mk_nam_6 : mxms_6.all (fun i => decide ((mxi_n i).cls = mxo (mxi_o i)) && plainName (mxi_n i).cls && decide ((mxi_n i).cls ≠ "java/lang/invoke/MethodHandle") && decide ((mxi_n i).cls ≠ "java/lang/invoke/VarHandle") && decide ((parseMethodDescriptor (mxi_n i).desc).map (fun d => d.parameters.length) = some (mxi_a i)) && (!(mxi_I i) || decide ((mxi_n i).name = "<init>"))) = true := by decide +kernel
def mxms_7 : List mxi := [miX5_end, miX5_fails, miX5_isEnd, miX5_is, miX5_wordOf, miX5_number, miX5_word, miX5_house, miX5_has, miX5_empties, miX5_packed, miX5_unpacks]
theorem mk_code_7 : ∀ i ∈ mxms_7, Cond.code (mxi_n i) (mxi_c i) (mxi_L i) (mxi_r i) ∈ mxA := mx_chk (f := fun i : mxi => Cond.code (mxi_n i) (mxi_c i) (mxi_L i) (mxi_r i)) (ps := [(3, 214), (4, 7), (3, 222), (4, 1), (3, 230), (4, 11), (3, 226), (3, 218), (4, 18), (3, 81), (3, 85), (4, 30)]) (by decide +kernel)
theorem mk_ini_7 : ∀ i ∈ mxms_7, Cond.initialized (mxo (mxi_o i)) ∈ mxA := mx_chk (f := fun i : mxi => Cond.initialized (mxo (mxi_o i))) (ps := [(1, 4), (1, 4), (1, 4), (1, 4), (1, 4), (1, 4), (1, 4), (1, 4), (1, 4), (1, 4), (1, 4), (1, 4)]) (by decide +kernel)
theorem mk_knd_7 : ∀ i ∈ mxms_7, (if mxi_s i = true then Cond.static (mxi_n i) else Cond.instanceMethod (mxi_n i)) ∈ mxA := mx_chk (f := fun i : mxi => if mxi_s i = true then Cond.static (mxi_n i) else Cond.instanceMethod (mxi_n i)) (ps := [(3, 212), (4, 6), (3, 221), (4, 0), (3, 229), (4, 10), (3, 225), (3, 216), (4, 16), (3, 80), (3, 84), (4, 29)]) (by decide +kernel)
theorem mk_sel_7 : ∀ i ∈ mxms_7, (if mxi_s i = true ∨ mxi_I i = true then Cond.initialized (mxo (mxi_o i)) else Cond.selects (mxo (mxi_o i)) (mxi_n i) (mxi_n i)) ∈ mxA := mx_chk (f := fun i : mxi => if mxi_s i = true ∨ mxi_I i = true then Cond.initialized (mxo (mxi_o i)) else Cond.selects (mxo (mxi_o i)) (mxi_n i) (mxi_n i)) (ps := [(3, 213), (0, 32), (0, 28), (0, 31), (0, 30), (0, 33), (0, 29), (3, 217), (4, 17), (0, 25), (0, 26), (0, 34)]) (by decide +kernel)
theorem mk_nam_7 : mxms_7.all (fun i => decide ((mxi_n i).cls = mxo (mxi_o i)) && plainName (mxi_n i).cls && decide ((mxi_n i).cls ≠ "java/lang/invoke/MethodHandle") && decide ((mxi_n i).cls ≠ "java/lang/invoke/VarHandle") && decide ((parseMethodDescriptor (mxi_n i).desc).map (fun d => d.parameters.length) = some (mxi_a i)) && (!(mxi_I i) || decide ((mxi_n i).name = "<init>"))) = true := by decide +kernel
def mxms_8 : List mxi := [miX5_hasRule, miX5_isGood, miX5_gives, miX5_visits, miX5_logsIn, miX5_leaves, miX5_follows, miX5_shows, miX5_rides, miX5_ticksOn, miX5_does, miX5_begin]
theorem mk_code_8 : ∀ i ∈ mxms_8, Cond.code (mxi_n i) (mxi_c i) (mxi_L i) (mxi_r i) ∈ mxA := mx_chk (f := fun i : mxi => Cond.code (mxi_n i) (mxi_c i) (mxi_L i) (mxi_r i)) (ps := [(4, 50), (4, 54), (4, 42), (4, 38), (4, 46), (4, 58), (4, 62), (4, 66), (4, 70), (4, 74), (4, 34), (4, 22)]) (by decide +kernel)
theorem mk_ini_8 : ∀ i ∈ mxms_8, Cond.initialized (mxo (mxi_o i)) ∈ mxA := mx_chk (f := fun i : mxi => Cond.initialized (mxo (mxi_o i))) (ps := [(1, 4), (1, 4), (1, 4), (1, 4), (1, 4), (1, 4), (1, 4), (1, 4), (1, 4), (1, 4), (1, 4), (1, 4)]) (by decide +kernel)
theorem mk_knd_8 : ∀ i ∈ mxms_8, (if mxi_s i = true then Cond.static (mxi_n i) else Cond.instanceMethod (mxi_n i)) ∈ mxA := mx_chk (f := fun i : mxi => if mxi_s i = true then Cond.static (mxi_n i) else Cond.instanceMethod (mxi_n i)) (ps := [(4, 49), (4, 53), (4, 41), (4, 37), (4, 45), (4, 57), (4, 61), (4, 65), (4, 69), (4, 73), (4, 33), (4, 20)]) (by decide +kernel)
theorem mk_sel_8 : ∀ i ∈ mxms_8, (if mxi_s i = true ∨ mxi_I i = true then Cond.initialized (mxo (mxi_o i)) else Cond.selects (mxo (mxi_o i)) (mxi_n i) (mxi_n i)) ∈ mxA := mx_chk (f := fun i : mxi => if mxi_s i = true ∨ mxi_I i = true then Cond.initialized (mxo (mxi_o i)) else Cond.selects (mxo (mxi_o i)) (mxi_n i) (mxi_n i)) (ps := [(0, 39), (0, 40), (0, 37), (0, 36), (0, 38), (0, 41), (0, 42), (0, 43), (0, 44), (0, 45), (0, 35), (4, 21)]) (by decide +kernel)
theorem mk_nam_8 : mxms_8.all (fun i => decide ((mxi_n i).cls = mxo (mxi_o i)) && plainName (mxi_n i).cls && decide ((mxi_n i).cls ≠ "java/lang/invoke/MethodHandle") && decide ((mxi_n i).cls ≠ "java/lang/invoke/VarHandle") && decide ((parseMethodDescriptor (mxi_n i).desc).map (fun d => d.parameters.length) = some (mxi_a i)) && (!(mxi_I i) || decide ((mxi_n i).name = "<init>"))) = true := by decide +kernel
def mxms_9 : List mxi := [miX5_letter, miX5_row, miX5_ticket, miX5_task, miX5_goes, miX5_goes_, miX5_drop, miX5_placeOf, miX5_meets, miX5_walks, miX5_leads, miX5_walk]
theorem mk_code_9 : ∀ i ∈ mxms_9, Cond.code (mxi_n i) (mxi_c i) (mxi_L i) (mxi_r i) ∈ mxA := mx_chk (f := fun i : mxi => Cond.code (mxi_n i) (mxi_c i) (mxi_L i) (mxi_r i)) (ps := [(4, 26), (4, 78), (4, 82), (4, 86), (4, 95), (4, 91), (4, 99), (4, 115), (4, 111), (4, 107), (4, 121), (4, 103)]) (by decide +kernel)
theorem mk_ini_9 : ∀ i ∈ mxms_9, Cond.initialized (mxo (mxi_o i)) ∈ mxA := mx_chk (f := fun i : mxi => Cond.initialized (mxo (mxi_o i))) (ps := [(1, 4), (1, 4), (1, 4), (1, 4), (1, 4), (1, 4), (1, 4), (1, 4), (1, 4), (1, 4), (1, 4), (1, 4)]) (by decide +kernel)
theorem mk_knd_9 : ∀ i ∈ mxms_9, (if mxi_s i = true then Cond.static (mxi_n i) else Cond.instanceMethod (mxi_n i)) ∈ mxA := mx_chk (f := fun i : mxi => if mxi_s i = true then Cond.static (mxi_n i) else Cond.instanceMethod (mxi_n i)) (ps := [(4, 24), (4, 76), (4, 80), (4, 84), (4, 94), (4, 89), (4, 97), (4, 114), (4, 110), (4, 106), (4, 120), (4, 101)]) (by decide +kernel)
theorem mk_sel_9 : ∀ i ∈ mxms_9, (if mxi_s i = true ∨ mxi_I i = true then Cond.initialized (mxo (mxi_o i)) else Cond.selects (mxo (mxi_o i)) (mxi_n i) (mxi_n i)) ∈ mxA := mx_chk (f := fun i : mxi => if mxi_s i = true ∨ mxi_I i = true then Cond.initialized (mxo (mxi_o i)) else Cond.selects (mxo (mxi_o i)) (mxi_n i) (mxi_n i)) (ps := [(4, 25), (4, 77), (4, 81), (4, 85), (0, 46), (4, 90), (4, 98), (0, 49), (0, 48), (0, 47), (0, 50), (4, 102)]) (by decide +kernel)
theorem mk_nam_9 : mxms_9.all (fun i => decide ((mxi_n i).cls = mxo (mxi_o i)) && plainName (mxi_n i).cls && decide ((mxi_n i).cls ≠ "java/lang/invoke/MethodHandle") && decide ((mxi_n i).cls ≠ "java/lang/invoke/VarHandle") && decide ((parseMethodDescriptor (mxi_n i).desc).map (fun d => d.parameters.length) = some (mxi_a i)) && (!(mxi_I i) || decide ((mxi_n i).name = "<init>"))) = true := by decide +kernel
def mxms_10 : List mxi := [miX5_least, miX5_walked, miX5_cost, miX5_mend, miX5_count, miJ6_bitCount_0f7a4, miJ7_fill_53178, miJ0_length_8abf5, miJ0_charAt_5068e, miJ0_coder_7d493, miJ0_isLatin1_aae02, miJ0_checkIndex_df160]
theorem mk_code_10 : ∀ i ∈ mxms_10, Cond.code (mxi_n i) (mxi_c i) (mxi_L i) (mxi_r i) ∈ mxA := mx_chk (f := fun i : mxi => Cond.code (mxi_n i) (mxi_c i) (mxi_L i) (mxi_r i)) (ps := [(4, 125), (4, 129), (4, 133), (4, 137), (4, 141), (2, 3), (2, 236), (1, 184), (1, 194), (1, 188), (1, 198), (1, 204)]) (by decide +kernel)
theorem mk_ini_10 : ∀ i ∈ mxms_10, Cond.initialized (mxo (mxi_o i)) ∈ mxA := mx_chk (f := fun i : mxi => Cond.initialized (mxo (mxi_o i))) (ps := [(1, 4), (1, 4), (1, 4), (1, 4), (1, 4), (1, 10), (1, 13), (1, 6), (1, 6), (1, 6), (1, 6), (1, 6)]) (by decide +kernel)
theorem mk_knd_10 : ∀ i ∈ mxms_10, (if mxi_s i = true then Cond.static (mxi_n i) else Cond.instanceMethod (mxi_n i)) ∈ mxA := mx_chk (f := fun i : mxi => if mxi_s i = true then Cond.static (mxi_n i) else Cond.instanceMethod (mxi_n i)) (ps := [(4, 123), (4, 127), (4, 131), (4, 135), (4, 139), (2, 2), (2, 235), (1, 182), (1, 192), (1, 186), (1, 196), (1, 203)]) (by decide +kernel)
theorem mk_sel_10 : ∀ i ∈ mxms_10, (if mxi_s i = true ∨ mxi_I i = true then Cond.initialized (mxo (mxi_o i)) else Cond.selects (mxo (mxi_o i)) (mxi_n i) (mxi_n i)) ∈ mxA := mx_chk (f := fun i : mxi => if mxi_s i = true ∨ mxi_I i = true then Cond.initialized (mxo (mxi_o i)) else Cond.selects (mxo (mxi_o i)) (mxi_n i) (mxi_n i)) (ps := [(4, 124), (4, 128), (4, 132), (4, 136), (4, 140), (1, 10), (1, 13), (1, 183), (1, 193), (1, 187), (1, 197), (1, 6)]) (by decide +kernel)
theorem mk_nam_10 : mxms_10.all (fun i => decide ((mxi_n i).cls = mxo (mxi_o i)) && plainName (mxi_n i).cls && decide ((mxi_n i).cls ≠ "java/lang/invoke/MethodHandle") && decide ((mxi_n i).cls ≠ "java/lang/invoke/VarHandle") && decide ((parseMethodDescriptor (mxi_n i).desc).map (fun d => d.parameters.length) = some (mxi_a i)) && (!(mxi_I i) || decide ((mxi_n i).name = "<init>"))) = true := by decide +kernel
def mxms_11 : List mxi := [miJ1_charAt_3b067, miJ3_checkIndex_8e157]
theorem mk_code_11 : ∀ i ∈ mxms_11, Cond.code (mxi_n i) (mxi_c i) (mxi_L i) (mxi_r i) ∈ mxA := mx_chk (f := fun i : mxi => Cond.code (mxi_n i) (mxi_c i) (mxi_L i) (mxi_r i)) (ps := [(1, 201), (1, 209)]) (by decide +kernel)
theorem mk_ini_11 : ∀ i ∈ mxms_11, Cond.initialized (mxo (mxi_o i)) ∈ mxA := mx_chk (f := fun i : mxi => Cond.initialized (mxo (mxi_o i))) (ps := [(1, 7), (1, 8)]) (by decide +kernel)
theorem mk_knd_11 : ∀ i ∈ mxms_11, (if mxi_s i = true then Cond.static (mxi_n i) else Cond.instanceMethod (mxi_n i)) ∈ mxA := mx_chk (f := fun i : mxi => if mxi_s i = true then Cond.static (mxi_n i) else Cond.instanceMethod (mxi_n i)) (ps := [(1, 200), (1, 208)]) (by decide +kernel)
theorem mk_sel_11 : ∀ i ∈ mxms_11, (if mxi_s i = true ∨ mxi_I i = true then Cond.initialized (mxo (mxi_o i)) else Cond.selects (mxo (mxi_o i)) (mxi_n i) (mxi_n i)) ∈ mxA := mx_chk (f := fun i : mxi => if mxi_s i = true ∨ mxi_I i = true then Cond.initialized (mxo (mxi_o i)) else Cond.selects (mxo (mxi_o i)) (mxi_n i) (mxi_n i)) (ps := [(1, 7), (1, 8)]) (by decide +kernel)
theorem mk_nam_11 : mxms_11.all (fun i => decide ((mxi_n i).cls = mxo (mxi_o i)) && plainName (mxi_n i).cls && decide ((mxi_n i).cls ≠ "java/lang/invoke/MethodHandle") && decide ((mxi_n i).cls ≠ "java/lang/invoke/VarHandle") && decide ((parseMethodDescriptor (mxi_n i).desc).map (fun d => d.parameters.length) = some (mxi_a i)) && (!(mxi_I i) || decide ((mxi_n i).name = "<init>"))) = true := by decide +kernel
theorem mk_code : ∀ i ∈ mxms, Cond.code (mxi_n i) (mxi_c i) (mxi_L i) (mxi_r i) ∈ mxA := (List.forall_mem_append.mpr ⟨mk_code_0, (List.forall_mem_append.mpr ⟨mk_code_1, (List.forall_mem_append.mpr ⟨mk_code_2, (List.forall_mem_append.mpr ⟨mk_code_3, (List.forall_mem_append.mpr ⟨mk_code_4, (List.forall_mem_append.mpr ⟨mk_code_5, (List.forall_mem_append.mpr ⟨mk_code_6, (List.forall_mem_append.mpr ⟨mk_code_7, (List.forall_mem_append.mpr ⟨mk_code_8, (List.forall_mem_append.mpr ⟨mk_code_9, (List.forall_mem_append.mpr ⟨mk_code_10, mk_code_11⟩)⟩)⟩)⟩)⟩)⟩)⟩)⟩)⟩)⟩)⟩)
theorem mk_ini : ∀ i ∈ mxms, Cond.initialized (mxo (mxi_o i)) ∈ mxA := (List.forall_mem_append.mpr ⟨mk_ini_0, (List.forall_mem_append.mpr ⟨mk_ini_1, (List.forall_mem_append.mpr ⟨mk_ini_2, (List.forall_mem_append.mpr ⟨mk_ini_3, (List.forall_mem_append.mpr ⟨mk_ini_4, (List.forall_mem_append.mpr ⟨mk_ini_5, (List.forall_mem_append.mpr ⟨mk_ini_6, (List.forall_mem_append.mpr ⟨mk_ini_7, (List.forall_mem_append.mpr ⟨mk_ini_8, (List.forall_mem_append.mpr ⟨mk_ini_9, (List.forall_mem_append.mpr ⟨mk_ini_10, mk_ini_11⟩)⟩)⟩)⟩)⟩)⟩)⟩)⟩)⟩)⟩)⟩)
theorem mk_knd : ∀ i ∈ mxms, (if mxi_s i = true then Cond.static (mxi_n i) else Cond.instanceMethod (mxi_n i)) ∈ mxA := (List.forall_mem_append.mpr ⟨mk_knd_0, (List.forall_mem_append.mpr ⟨mk_knd_1, (List.forall_mem_append.mpr ⟨mk_knd_2, (List.forall_mem_append.mpr ⟨mk_knd_3, (List.forall_mem_append.mpr ⟨mk_knd_4, (List.forall_mem_append.mpr ⟨mk_knd_5, (List.forall_mem_append.mpr ⟨mk_knd_6, (List.forall_mem_append.mpr ⟨mk_knd_7, (List.forall_mem_append.mpr ⟨mk_knd_8, (List.forall_mem_append.mpr ⟨mk_knd_9, (List.forall_mem_append.mpr ⟨mk_knd_10, mk_knd_11⟩)⟩)⟩)⟩)⟩)⟩)⟩)⟩)⟩)⟩)⟩)
theorem mk_sel : ∀ i ∈ mxms, (if mxi_s i = true ∨ mxi_I i = true then Cond.initialized (mxo (mxi_o i)) else Cond.selects (mxo (mxi_o i)) (mxi_n i) (mxi_n i)) ∈ mxA := (List.forall_mem_append.mpr ⟨mk_sel_0, (List.forall_mem_append.mpr ⟨mk_sel_1, (List.forall_mem_append.mpr ⟨mk_sel_2, (List.forall_mem_append.mpr ⟨mk_sel_3, (List.forall_mem_append.mpr ⟨mk_sel_4, (List.forall_mem_append.mpr ⟨mk_sel_5, (List.forall_mem_append.mpr ⟨mk_sel_6, (List.forall_mem_append.mpr ⟨mk_sel_7, (List.forall_mem_append.mpr ⟨mk_sel_8, (List.forall_mem_append.mpr ⟨mk_sel_9, (List.forall_mem_append.mpr ⟨mk_sel_10, mk_sel_11⟩)⟩)⟩)⟩)⟩)⟩)⟩)⟩)⟩)⟩)⟩)
theorem mk_nam : mxms.all (fun i => decide ((mxi_n i).cls = mxo (mxi_o i)) && plainName (mxi_n i).cls && decide ((mxi_n i).cls ≠ "java/lang/invoke/MethodHandle") && decide ((mxi_n i).cls ≠ "java/lang/invoke/VarHandle") && decide ((parseMethodDescriptor (mxi_n i).desc).map (fun d => d.parameters.length) = some (mxi_a i)) && (!(mxi_I i) || decide ((mxi_n i).name = "<init>"))) = true := by
  show List.all (mxms_0 ++ (mxms_1 ++ (mxms_2 ++ (mxms_3 ++ (mxms_4 ++ (mxms_5 ++ (mxms_6 ++ (mxms_7 ++ (mxms_8 ++ (mxms_9 ++ (mxms_10 ++ mxms_11))))))))))) _ = true
  simp only [List.all_append, mk_nam_0, mk_nam_1, mk_nam_2, mk_nam_3, mk_nam_4, mk_nam_5, mk_nam_6, mk_nam_7, mk_nam_8, mk_nam_9, mk_nam_10, mk_nam_11, Bool.and_self]
/-- an instruction's length -/
def mxln (op : Instr) (n : Nat) : Bool := match op with
  | .tableswitch _ _ _ _ => true
  | .lookupswitch _ _ => true
  | .bipush _ => n == 2
  | .iload _ => n == 2
  | .lload _ => n == 2
  | .aload _ => n == 2
  | .istore _ => n == 2
  | .lstore _ => n == 2
  | .astore _ => n == 2
  | .ldc _ => n == 2
  | .newarray _ => n == 2
  | .sipush _ => n == 3
  | .iinc _ _ => n == 3
  | .ifCond _ _ => n == 3
  | .if_icmp _ _ => n == 3
  | .ifnonnull _ => n == 3
  | .goto _ => n == 3
  | .ldc2_w _ => n == 3
  | .ldc_w _ => n == 3
  | .getstatic _ => n == 3
  | .getfield _ => n == 3
  | .putfield _ => n == 3
  | .new _ => n == 3
  | .invokestatic _ => n == 3
  | .invokevirtual _ => n == 3
  | .invokespecial _ => n == 3
  | _ => n == 1
def mxdk (i : mxi) : Bool := (mxi_t i).all (fun e => decide (decode (mxi_c i) e.1 = .ok e.2) && mxln e.2.1 e.2.2)
theorem mdkX0_init : mxdk miX0_init = true := by decide +kernel
theorem mdkX0_tells : mxdk miX0_tells = true := by decide +kernel
theorem mdkX0_lifeTicks : mxdk miX0_lifeTicks = true := by decide +kernel
theorem mdkX0_wordCount : mxdk miX0_wordCount = true := by decide +kernel
theorem mdkX0_idleRules : mxdk miX0_idleRules = true := by decide +kernel
theorem mdkX0_read : mxdk miX0_read = true := by decide +kernel
theorem mdkX0_readWord : mxdk miX0_readWord = true := by decide +kernel
theorem mdkX0_readNumber : mxdk miX0_readNumber = true := by decide +kernel
theorem mdkX0_setFault : mxdk miX0_setFault = true := by decide +kernel
theorem mdkX0_wordBetween : mxdk miX0_wordBetween = true := by decide +kernel
theorem mdkX0_isWord : mxdk miX0_isWord = true := by decide +kernel
theorem mdkX0_nameOf : mxdk miX0_nameOf = true := by decide +kernel
theorem mdkX1_init : mxdk miX1_init = true := by decide +kernel
theorem mdkX1_statesMet : mxdk miX1_statesMet = true := by decide +kernel
theorem mdkX1_flawKind : mxdk miX1_flawKind = true := by decide +kernel
theorem mdkX1_run : mxdk miX1_run = true := by decide +kernel
theorem mdkX1_forget : mxdk miX1_forget = true := by decide +kernel
theorem mdkX1_findFlaw : mxdk miX1_findFlaw = true := by decide +kernel
theorem mdkX1_goOn : mxdk miX1_goOn = true := by decide +kernel
theorem mdkX1_meet : mxdk miX1_meet = true := by decide +kernel
theorem mdkX1_keep : mxdk miX1_keep = true := by decide +kernel
theorem mdkX1_copyRow : mxdk miX1_copyRow = true := by decide +kernel
theorem mdkX2_lives : mxdk miX2_lives = true := by decide +kernel
theorem mdkX2_owner : mxdk miX2_owner = true := by decide +kernel
theorem mdkX2_bound : mxdk miX2_bound = true := by decide +kernel
theorem mdkX2_ticks : mxdk miX2_ticks = true := by decide +kernel
theorem mdkX2_given : mxdk miX2_given = true := by decide +kernel
theorem mdkX2_store : mxdk miX2_store = true := by decide +kernel
theorem mdkX2_known : mxdk miX2_known = true := by decide +kernel
theorem mdkX2_knows : mxdk miX2_knows = true := by decide +kernel
theorem mdkX2_ended : mxdk miX2_ended = true := by decide +kernel
theorem mdkX2_owned : mxdk miX2_owned = true := by decide +kernel
theorem mdkX2_ticked : mxdk miX2_ticked = true := by decide +kernel
theorem mdkX2_stored : mxdk miX2_stored = true := by decide +kernel
theorem mdkX2_learnt : mxdk miX2_learnt = true := by decide +kernel
theorem mdkX2_minted : mxdk miX2_minted = true := by decide +kernel
theorem mdkX3_init : mxdk miX3_init = true := by decide +kernel
theorem mdkX3_learn : mxdk miX3_learn = true := by decide +kernel
theorem mdkX3_holds : mxdk miX3_holds = true := by decide +kernel
theorem mdkX3_after : mxdk miX3_after = true := by decide +kernel
theorem mdkX3_flawOf : mxdk miX3_flawOf = true := by decide +kernel
theorem mdkX3_good : mxdk miX3_good = true := by decide +kernel
theorem mdkX3_visitorHolds : mxdk miX3_visitorHolds = true := by decide +kernel
theorem mdkX3_visited : mxdk miX3_visited = true := by decide +kernel
theorem mdkX3_given : mxdk miX3_given = true := by decide +kernel
theorem mdkX3_loggedIn : mxdk miX3_loggedIn = true := by decide +kernel
theorem mdkX3_left : mxdk miX3_left = true := by decide +kernel
theorem mdkX3_canAct : mxdk miX3_canAct = true := by decide +kernel
theorem mdkX3_followed : mxdk miX3_followed = true := by decide +kernel
theorem mdkX3_canBeSent : mxdk miX3_canBeSent = true := by decide +kernel
theorem mdkX3_shown : mxdk miX3_shown = true := by decide +kernel
theorem mdkX3_canRide : mxdk miX3_canRide = true := by decide +kernel
theorem mdkX3_ticked : mxdk miX3_ticked = true := by decide +kernel
theorem mdkX4_init : mxdk miX4_init = true := by decide +kernel
theorem mdkX4_feed : mxdk miX4_feed = true := by decide +kernel
theorem mdkX4_putFour : mxdk miX4_putFour = true := by decide +kernel
theorem mdkX4_end : mxdk miX4_end = true := by decide +kernel
theorem mdkX4_house : mxdk miX4_house = true := by decide +kernel
theorem mdkX4_has : mxdk miX4_has = true := by decide +kernel
theorem mdkX4_cost : mxdk miX4_cost = true := by decide +kernel
theorem mdkX4_task : mxdk miX4_task = true := by decide +kernel
theorem mdkX4_taskLetter : mxdk miX4_taskLetter = true := by decide +kernel
theorem mdkX4_goes : mxdk miX4_goes = true := by decide +kernel
theorem mdkX4_taskGoes : mxdk miX4_taskGoes = true := by decide +kernel
theorem mdkX4_drop : mxdk miX4_drop = true := by decide +kernel
theorem mdkX4_begin : mxdk miX4_begin = true := by decide +kernel
theorem mdkX4_letter : mxdk miX4_letter = true := by decide +kernel
theorem mdkX4_row : mxdk miX4_row = true := by decide +kernel
theorem mdkX4_ticket : mxdk miX4_ticket = true := by decide +kernel
theorem mdkX4_walk : mxdk miX4_walk = true := by decide +kernel
theorem mdkX4_searcher : mxdk miX4_searcher = true := by decide +kernel
theorem mdkX4_isRuleSet : mxdk miX4_isRuleSet = true := by decide +kernel
theorem mdkX4_canWalk : mxdk miX4_canWalk = true := by decide +kernel
theorem mdkX4_least : mxdk miX4_least = true := by decide +kernel
theorem mdkX4_walked : mxdk miX4_walked = true := by decide +kernel
theorem mdkX4_mend : mxdk miX4_mend = true := by decide +kernel
theorem mdkX4_tasksThatGo : mxdk miX4_tasksThatGo = true := by decide +kernel
theorem mdkX4_rankRuleSets : mxdk miX4_rankRuleSets = true := by decide +kernel
theorem mdkX4_nextRank : mxdk miX4_nextRank = true := by decide +kernel
theorem mdkX4_count : mxdk miX4_count = true := by decide +kernel
theorem mdkX5_init : mxdk miX5_init = true := by decide +kernel
theorem mdkX5_in : mxdk miX5_in = true := by decide +kernel
theorem mdkX5_feed : mxdk miX5_feed = true := by decide +kernel
theorem mdkX5_put : mxdk miX5_put = true := by decide +kernel
theorem mdkX5_end : mxdk miX5_end = true := by decide +kernel
theorem mdkX5_fails : mxdk miX5_fails = true := by decide +kernel
theorem mdkX5_isEnd : mxdk miX5_isEnd = true := by decide +kernel
theorem mdkX5_is : mxdk miX5_is = true := by decide +kernel
theorem mdkX5_wordOf : mxdk miX5_wordOf = true := by decide +kernel
theorem mdkX5_number : mxdk miX5_number = true := by decide +kernel
theorem mdkX5_word : mxdk miX5_word = true := by decide +kernel
theorem mdkX5_house : mxdk miX5_house = true := by decide +kernel
theorem mdkX5_has : mxdk miX5_has = true := by decide +kernel
theorem mdkX5_empties : mxdk miX5_empties = true := by decide +kernel
theorem mdkX5_packed : mxdk miX5_packed = true := by decide +kernel
theorem mdkX5_unpacks : mxdk miX5_unpacks = true := by decide +kernel
theorem mdkX5_hasRule : mxdk miX5_hasRule = true := by decide +kernel
theorem mdkX5_isGood : mxdk miX5_isGood = true := by decide +kernel
theorem mdkX5_gives : mxdk miX5_gives = true := by decide +kernel
theorem mdkX5_visits : mxdk miX5_visits = true := by decide +kernel
theorem mdkX5_logsIn : mxdk miX5_logsIn = true := by decide +kernel
theorem mdkX5_leaves : mxdk miX5_leaves = true := by decide +kernel
theorem mdkX5_follows : mxdk miX5_follows = true := by decide +kernel
theorem mdkX5_shows : mxdk miX5_shows = true := by decide +kernel
theorem mdkX5_rides : mxdk miX5_rides = true := by decide +kernel
theorem mdkX5_ticksOn : mxdk miX5_ticksOn = true := by decide +kernel
theorem mdkX5_does : mxdk miX5_does = true := by decide +kernel
theorem mdkX5_begin : mxdk miX5_begin = true := by decide +kernel
theorem mdkX5_letter : mxdk miX5_letter = true := by decide +kernel
theorem mdkX5_row : mxdk miX5_row = true := by decide +kernel
theorem mdkX5_ticket : mxdk miX5_ticket = true := by decide +kernel
theorem mdkX5_task : mxdk miX5_task = true := by decide +kernel
theorem mdkX5_goes : mxdk miX5_goes = true := by decide +kernel
theorem mdkX5_goes_ : mxdk miX5_goes_ = true := by decide +kernel
theorem mdkX5_drop : mxdk miX5_drop = true := by decide +kernel
theorem mdkX5_placeOf : mxdk miX5_placeOf = true := by decide +kernel
theorem mdkX5_meets : mxdk miX5_meets = true := by decide +kernel
theorem mdkX5_walks : mxdk miX5_walks = true := by decide +kernel
theorem mdkX5_leads : mxdk miX5_leads = true := by decide +kernel
theorem mdkX5_walk : mxdk miX5_walk = true := by decide +kernel
theorem mdkX5_least : mxdk miX5_least = true := by decide +kernel
theorem mdkX5_walked : mxdk miX5_walked = true := by decide +kernel
theorem mdkX5_cost : mxdk miX5_cost = true := by decide +kernel
theorem mdkX5_mend : mxdk miX5_mend = true := by decide +kernel
theorem mdkX5_count : mxdk miX5_count = true := by decide +kernel
theorem mdkJ6_bitCount_0f7a4 : mxdk miJ6_bitCount_0f7a4 = true := by decide +kernel
theorem mdkJ7_fill_53178 : mxdk miJ7_fill_53178 = true := by decide +kernel
theorem mdkJ0_length_8abf5 : mxdk miJ0_length_8abf5 = true := by decide +kernel
theorem mdkJ0_charAt_5068e : mxdk miJ0_charAt_5068e = true := by decide +kernel
theorem mdkJ0_coder_7d493 : mxdk miJ0_coder_7d493 = true := by decide +kernel
theorem mdkJ0_isLatin1_aae02 : mxdk miJ0_isLatin1_aae02 = true := by decide +kernel
theorem mdkJ0_checkIndex_df160 : mxdk miJ0_checkIndex_df160 = true := by decide +kernel
theorem mdkJ1_charAt_3b067 : mxdk miJ1_charAt_3b067 = true := by decide +kernel
theorem mdkJ3_checkIndex_8e157 : mxdk miJ3_checkIndex_8e157 = true := by decide +kernel
theorem mk_dec_0 : mxms_0.all mxdk = true := by
  simp only [mxms_0, List.all_cons, List.all_nil, mdkX0_init, mdkX0_tells, mdkX0_lifeTicks, mdkX0_wordCount, mdkX0_idleRules, mdkX0_read, mdkX0_readWord, mdkX0_readNumber, mdkX0_setFault, mdkX0_wordBetween, mdkX0_isWord, mdkX0_nameOf, Bool.and_self]
theorem mk_dec_1 : mxms_1.all mxdk = true := by
  simp only [mxms_1, List.all_cons, List.all_nil, mdkX1_init, mdkX1_statesMet, mdkX1_flawKind, mdkX1_run, mdkX1_forget, mdkX1_findFlaw, mdkX1_goOn, mdkX1_meet, mdkX1_keep, mdkX1_copyRow, mdkX2_lives, mdkX2_owner, Bool.and_self]
theorem mk_dec_2 : mxms_2.all mxdk = true := by
  simp only [mxms_2, List.all_cons, List.all_nil, mdkX2_bound, mdkX2_ticks, mdkX2_given, mdkX2_store, mdkX2_known, mdkX2_knows, mdkX2_ended, mdkX2_owned, mdkX2_ticked, mdkX2_stored, mdkX2_learnt, mdkX2_minted, Bool.and_self]
theorem mk_dec_3 : mxms_3.all mxdk = true := by
  simp only [mxms_3, List.all_cons, List.all_nil, mdkX3_init, mdkX3_learn, mdkX3_holds, mdkX3_after, mdkX3_flawOf, mdkX3_good, mdkX3_visitorHolds, mdkX3_visited, mdkX3_given, mdkX3_loggedIn, mdkX3_left, mdkX3_canAct, Bool.and_self]
theorem mk_dec_4 : mxms_4.all mxdk = true := by
  simp only [mxms_4, List.all_cons, List.all_nil, mdkX3_followed, mdkX3_canBeSent, mdkX3_shown, mdkX3_canRide, mdkX3_ticked, mdkX4_init, mdkX4_feed, mdkX4_putFour, mdkX4_end, mdkX4_house, mdkX4_has, mdkX4_cost, Bool.and_self]
theorem mk_dec_5 : mxms_5.all mxdk = true := by
  simp only [mxms_5, List.all_cons, List.all_nil, mdkX4_task, mdkX4_taskLetter, mdkX4_goes, mdkX4_taskGoes, mdkX4_drop, mdkX4_begin, mdkX4_letter, mdkX4_row, mdkX4_ticket, mdkX4_walk, mdkX4_searcher, mdkX4_isRuleSet, Bool.and_self]
theorem mk_dec_6 : mxms_6.all mxdk = true := by
  simp only [mxms_6, List.all_cons, List.all_nil, mdkX4_canWalk, mdkX4_least, mdkX4_walked, mdkX4_mend, mdkX4_tasksThatGo, mdkX4_rankRuleSets, mdkX4_nextRank, mdkX4_count, mdkX5_init, mdkX5_in, mdkX5_feed, mdkX5_put, Bool.and_self]
theorem mk_dec_7 : mxms_7.all mxdk = true := by
  simp only [mxms_7, List.all_cons, List.all_nil, mdkX5_end, mdkX5_fails, mdkX5_isEnd, mdkX5_is, mdkX5_wordOf, mdkX5_number, mdkX5_word, mdkX5_house, mdkX5_has, mdkX5_empties, mdkX5_packed, mdkX5_unpacks, Bool.and_self]
theorem mk_dec_8 : mxms_8.all mxdk = true := by
  simp only [mxms_8, List.all_cons, List.all_nil, mdkX5_hasRule, mdkX5_isGood, mdkX5_gives, mdkX5_visits, mdkX5_logsIn, mdkX5_leaves, mdkX5_follows, mdkX5_shows, mdkX5_rides, mdkX5_ticksOn, mdkX5_does, mdkX5_begin, Bool.and_self]
theorem mk_dec_9 : mxms_9.all mxdk = true := by
  simp only [mxms_9, List.all_cons, List.all_nil, mdkX5_letter, mdkX5_row, mdkX5_ticket, mdkX5_task, mdkX5_goes, mdkX5_goes_, mdkX5_drop, mdkX5_placeOf, mdkX5_meets, mdkX5_walks, mdkX5_leads, mdkX5_walk, Bool.and_self]
theorem mk_dec_10 : mxms_10.all mxdk = true := by
  simp only [mxms_10, List.all_cons, List.all_nil, mdkX5_least, mdkX5_walked, mdkX5_cost, mdkX5_mend, mdkX5_count, mdkJ6_bitCount_0f7a4, mdkJ7_fill_53178, mdkJ0_length_8abf5, mdkJ0_charAt_5068e, mdkJ0_coder_7d493, mdkJ0_isLatin1_aae02, mdkJ0_checkIndex_df160, Bool.and_self]
theorem mk_dec_11 : mxms_11.all mxdk = true := by
  simp only [mxms_11, List.all_cons, List.all_nil, mdkJ1_charAt_3b067, mdkJ3_checkIndex_8e157, Bool.and_self]
theorem mk_dec : mxms.all mxdk = true := by
  show List.all (mxms_0 ++ (mxms_1 ++ (mxms_2 ++ (mxms_3 ++ (mxms_4 ++ (mxms_5 ++ (mxms_6 ++ (mxms_7 ++ (mxms_8 ++ (mxms_9 ++ (mxms_10 ++ mxms_11))))))))))) _ = true
  simp only [List.all_append, mk_dec_0, mk_dec_1, mk_dec_2, mk_dec_3, mk_dec_4, mk_dec_5, mk_dec_6, mk_dec_7, mk_dec_8, mk_dec_9, mk_dec_10, mk_dec_11, Bool.and_self]
theorem mk_fl_0 : ∀ e ∈ mxfl 0, Cond.fieldLink (mxo 0) e.1 ((mxct e.2.1).2.1 e.2.2).1 ((mxct e.2.1).2.1 e.2.2).2.1 ((mxct e.2.1).2.1 e.2.2).2.2.1 ∈ mxA := mx_chk (f := fun e : Nat × Nat × Nat => Cond.fieldLink (mxo 0) e.1 ((mxct e.2.1).2.1 e.2.2).1 ((mxct e.2.1).2.1 e.2.2).2.1 ((mxct e.2.1).2.1 e.2.2).2.2.1) (ps := [(1, 28), (1, 29), (1, 30), (1, 31), (1, 32), (1, 33)]) (by decide +kernel)
theorem mk_flb_0 : (mxfl 0).all (fun e => Nat.blt e.2.1 5 && Nat.blt e.2.2 (mxnf e.2.1) && (!((mxct e.2.1).2.1 e.2.2).2.2.2 || decide (((mxct e.2.1).2.1 e.2.2).1 = mxo 0))) = true := by decide +kernel
theorem mk_fl_1 : ∀ e ∈ mxfl 1, Cond.fieldLink (mxo 1) e.1 ((mxct e.2.1).2.1 e.2.2).1 ((mxct e.2.1).2.1 e.2.2).2.1 ((mxct e.2.1).2.1 e.2.2).2.2.1 ∈ mxA := mx_chk (f := fun e : Nat × Nat × Nat => Cond.fieldLink (mxo 1) e.1 ((mxct e.2.1).2.1 e.2.2).1 ((mxct e.2.1).2.1 e.2.2).2.1 ((mxct e.2.1).2.1 e.2.2).2.2.1) (ps := [(2, 197), (2, 198), (2, 199), (2, 200), (2, 201), (2, 202), (2, 203), (2, 204), (2, 205)]) (by decide +kernel)
theorem mk_flb_1 : (mxfl 1).all (fun e => Nat.blt e.2.1 5 && Nat.blt e.2.2 (mxnf e.2.1) && (!((mxct e.2.1).2.1 e.2.2).2.2.2 || decide (((mxct e.2.1).2.1 e.2.2).1 = mxo 1))) = true := by decide +kernel
theorem mk_fl_3 : ∀ e ∈ mxfl 3, Cond.fieldLink (mxo 3) e.1 ((mxct e.2.1).2.1 e.2.2).1 ((mxct e.2.1).2.1 e.2.2).2.1 ((mxct e.2.1).2.1 e.2.2).2.2.1 ∈ mxA := mx_chk (f := fun e : Nat × Nat × Nat => Cond.fieldLink (mxo 3) e.1 ((mxct e.2.1).2.1 e.2.2).1 ((mxct e.2.1).2.1 e.2.2).2.1 ((mxct e.2.1).2.1 e.2.2).2.2.1) (ps := [(1, 54), (1, 55), (1, 56), (1, 57), (1, 58), (1, 59), (1, 60), (1, 61), (1, 62)]) (by decide +kernel)
theorem mk_flb_3 : (mxfl 3).all (fun e => Nat.blt e.2.1 5 && Nat.blt e.2.2 (mxnf e.2.1) && (!((mxct e.2.1).2.1 e.2.2).2.2.2 || decide (((mxct e.2.1).2.1 e.2.2).1 = mxo 3))) = true := by decide +kernel
theorem mk_fl_4 : ∀ e ∈ mxfl 4, Cond.fieldLink (mxo 4) e.1 ((mxct e.2.1).2.1 e.2.2).1 ((mxct e.2.1).2.1 e.2.2).2.1 ((mxct e.2.1).2.1 e.2.2).2.2.1 ∈ mxA := mx_chk (f := fun e : Nat × Nat × Nat => Cond.fieldLink (mxo 4) e.1 ((mxct e.2.1).2.1 e.2.2).1 ((mxct e.2.1).2.1 e.2.2).2.1 ((mxct e.2.1).2.1 e.2.2).2.2.1) (ps := [(1, 82), (1, 83), (1, 84), (1, 85), (1, 86), (1, 87), (1, 88), (1, 89), (1, 90), (1, 91), (1, 92), (1, 93), (1, 94), (1, 95), (1, 96), (1, 97), (1, 98), (1, 99)]) (by decide +kernel)
theorem mk_flb_4 : (mxfl 4).all (fun e => Nat.blt e.2.1 5 && Nat.blt e.2.2 (mxnf e.2.1) && (!((mxct e.2.1).2.1 e.2.2).2.2.2 || decide (((mxct e.2.1).2.1 e.2.2).1 = mxo 4))) = true := by decide +kernel
theorem mk_fl_5 : ∀ e ∈ mxfl 5, Cond.fieldLink (mxo 5) e.1 ((mxct e.2.1).2.1 e.2.2).1 ((mxct e.2.1).2.1 e.2.2).2.1 ((mxct e.2.1).2.1 e.2.2).2.2.1 ∈ mxA := mx_chk (f := fun e : Nat × Nat × Nat => Cond.fieldLink (mxo 5) e.1 ((mxct e.2.1).2.1 e.2.2).1 ((mxct e.2.1).2.1 e.2.2).2.1 ((mxct e.2.1).2.1 e.2.2).2.2.1) (ps := [(3, 91), (3, 96), (3, 97), (3, 98), (3, 99), (3, 100), (3, 101), (3, 102), (3, 103), (3, 112), (3, 113), (3, 114), (3, 115), (3, 116), (3, 117), (3, 120), (3, 125), (3, 126), (3, 107), (3, 92), (3, 95), (3, 93), (3, 94), (3, 104), (3, 105), (3, 106), (3, 108), (3, 109), (3, 110), (3, 111), (3, 118), (3, 119), (3, 121), (3, 122), (3, 123), (3, 124)]) (by decide +kernel)
theorem mk_flb_5 : (mxfl 5).all (fun e => Nat.blt e.2.1 5 && Nat.blt e.2.2 (mxnf e.2.1) && (!((mxct e.2.1).2.1 e.2.2).2.2.2 || decide (((mxct e.2.1).2.1 e.2.2).1 = mxo 5))) = true := by decide +kernel
theorem mk_fl (o : Nat) : ∀ e ∈ mxfl o, Cond.fieldLink (mxo o) e.1 ((mxct e.2.1).2.1 e.2.2).1 ((mxct e.2.1).2.1 e.2.2).2.1 ((mxct e.2.1).2.1 e.2.2).2.2.1 ∈ mxA := by
  match o with
  | 0 => exact mk_fl_0
  | 1 => exact mk_fl_1
  | 2 => exact fun e h => absurd h List.not_mem_nil
  | 3 => exact mk_fl_3
  | 4 => exact mk_fl_4
  | 5 => exact mk_fl_5
  | o + 6 => exact fun e h => absurd h List.not_mem_nil
theorem mk_flb (o : Nat) : (mxfl o).all (fun e => Nat.blt e.2.1 5 && Nat.blt e.2.2 (mxnf e.2.1) && (!((mxct e.2.1).2.1 e.2.2).2.2.2 || decide (((mxct e.2.1).2.1 e.2.2).1 = mxo o))) = true := by
  match o with
  | 0 => exact mk_flb_0
  | 1 => exact mk_flb_1
  | 2 => exact rfl
  | 3 => exact mk_flb_3
  | 4 => exact mk_flb_4
  | 5 => exact mk_flb_5
  | o + 6 => rfl
theorem mk_cs_1 : ∀ e ∈ mxcs 1, (match e.2 with | .int v => Cond.constant (mxo 1) e.1 v | .long v => Cond.constantLong (mxo 1) e.1 v | _ => Cond.static yX0_init) ∈ mxA := mx_chk (f := fun e : Nat × Value => (match e.2 with | .int v => Cond.constant (mxo 1) e.1 v | .long v => Cond.constantLong (mxo 1) e.1 v | _ => Cond.static yX0_init)) (ps := [(2, 196), (2, 233), (3, 20), (3, 1)]) (by decide +kernel)
theorem mk_cs_2 : ∀ e ∈ mxcs 2, (match e.2 with | .int v => Cond.constant (mxo 2) e.1 v | .long v => Cond.constantLong (mxo 2) e.1 v | _ => Cond.static yX0_init) ∈ mxA := mx_chk (f := fun e : Nat × Value => (match e.2 with | .int v => Cond.constant (mxo 2) e.1 v | .long v => Cond.constantLong (mxo 2) e.1 v | _ => Cond.static yX0_init)) (ps := [(2, 81), (2, 80), (2, 76)]) (by decide +kernel)
theorem mk_cs_3 : ∀ e ∈ mxcs 3, (match e.2 with | .int v => Cond.constant (mxo 3) e.1 v | .long v => Cond.constantLong (mxo 3) e.1 v | _ => Cond.static yX0_init) ∈ mxA := mx_chk (f := fun e : Nat × Value => (match e.2 with | .int v => Cond.constant (mxo 3) e.1 v | .long v => Cond.constantLong (mxo 3) e.1 v | _ => Cond.static yX0_init)) (ps := [(2, 72)]) (by decide +kernel)
theorem mk_cs_4 : ∀ e ∈ mxcs 4, (match e.2 with | .int v => Cond.constant (mxo 4) e.1 v | .long v => Cond.constantLong (mxo 4) e.1 v | _ => Cond.static yX0_init) ∈ mxA := mx_chk (f := fun e : Nat × Value => (match e.2 with | .int v => Cond.constant (mxo 4) e.1 v | .long v => Cond.constantLong (mxo 4) e.1 v | _ => Cond.static yX0_init)) (ps := [(2, 145), (3, 66)]) (by decide +kernel)
theorem mk_cs_5 : ∀ e ∈ mxcs 5, (match e.2 with | .int v => Cond.constant (mxo 5) e.1 v | .long v => Cond.constantLong (mxo 5) e.1 v | _ => Cond.static yX0_init) ∈ mxA := mx_chk (f := fun e : Nat × Value => (match e.2 with | .int v => Cond.constant (mxo 5) e.1 v | .long v => Cond.constantLong (mxo 5) e.1 v | _ => Cond.static yX0_init)) (ps := [(3, 77), (3, 86), (3, 87), (3, 88), (3, 89), (3, 90), (4, 87), (4, 116), (4, 117)]) (by decide +kernel)
theorem mk_cs_6 : ∀ e ∈ mxcs 6, (match e.2 with | .int v => Cond.constant (mxo 6) e.1 v | .long v => Cond.constantLong (mxo 6) e.1 v | _ => Cond.static yX0_init) ∈ mxA := mx_chk (f := fun e : Nat × Value => (match e.2 with | .int v => Cond.constant (mxo 6) e.1 v | .long v => Cond.constantLong (mxo 6) e.1 v | _ => Cond.static yX0_init)) (ps := [(2, 4), (2, 5), (2, 6)]) (by decide +kernel)
theorem mk_cs_8 : ∀ e ∈ mxcs 8, (match e.2 with | .int v => Cond.constant (mxo 8) e.1 v | .long v => Cond.constantLong (mxo 8) e.1 v | _ => Cond.static yX0_init) ∈ mxA := mx_chk (f := fun e : Nat × Value => (match e.2 with | .int v => Cond.constant (mxo 8) e.1 v | .long v => Cond.constantLong (mxo 8) e.1 v | _ => Cond.static yX0_init)) (ps := [(4, 142)]) (by decide +kernel)
theorem mk_cs (o : Nat) : ∀ e ∈ mxcs o, (match e.2 with | .int v => Cond.constant (mxo o) e.1 v | .long v => Cond.constantLong (mxo o) e.1 v | _ => Cond.static yX0_init) ∈ mxA := by
  match o with
  | 0 => exact fun e h => absurd h List.not_mem_nil
  | 1 => exact mk_cs_1
  | 2 => exact mk_cs_2
  | 3 => exact mk_cs_3
  | 4 => exact mk_cs_4
  | 5 => exact mk_cs_5
  | 6 => exact mk_cs_6
  | 7 => exact fun e h => absurd h List.not_mem_nil
  | 8 => exact mk_cs_8
  | o + 9 => exact fun e h => absurd h List.not_mem_nil
theorem mk_caq_0 : ∀ e ∈ mxca 0, Cond.methodLink (mxo 0) e.1 (mxi_n (mxms.getD e.2 miX0_init)) ∈ mxA := mx_chk (f := fun e : Nat × Nat => Cond.methodLink (mxo 0) e.1 (mxi_n (mxms.getD e.2 miX0_init))) (ps := [(2, 1), (3, 56), (1, 161), (1, 165), (1, 229), (1, 233), (1, 168), (1, 178), (1, 181), (1, 191)]) (by decide +kernel)
theorem mk_ca_0 : ∀ e ∈ mxca 0, ∀ i, mxms[e.2]? = some i → Cond.methodLink (mxo 0) e.1 (mxi_n i) ∈ mxA := fun e h i hi => by
  have q := mk_caq_0 e h
  rw [List.getD_eq_getElem?_getD, hi] at q
  exact q
theorem mk_caq_1 : ∀ e ∈ mxca 1, Cond.methodLink (mxo 1) e.1 (mxi_n (mxms.getD e.2 miX0_init)) ∈ mxA := mx_chk (f := fun e : Nat × Nat => Cond.methodLink (mxo 1) e.1 (mxi_n (mxms.getD e.2 miX0_init))) (ps := [(2, 229), (2, 237), (3, 6), (3, 13), (2, 234), (3, 12), (3, 19), (3, 2)]) (by decide +kernel)
theorem mk_ca_1 : ∀ e ∈ mxca 1, ∀ i, mxms[e.2]? = some i → Cond.methodLink (mxo 1) e.1 (mxi_n i) ∈ mxA := fun e h i hi => by
  have q := mk_caq_1 e h
  rw [List.getD_eq_getElem?_getD, hi] at q
  exact q
theorem mk_caq_3 : ∀ e ∈ mxca 3, Cond.methodLink (mxo 3) e.1 (mxi_n (mxms.getD e.2 miX0_init)) ∈ mxA := mx_chk (f := fun e : Nat × Nat => Cond.methodLink (mxo 3) e.1 (mxi_n (mxms.getD e.2 miX0_init))) (ps := [(2, 46), (2, 47), (2, 50), (2, 55), (2, 85), (2, 102), (2, 109), (2, 116), (2, 120), (2, 124), (2, 128), (2, 135), (2, 113), (2, 62), (2, 93), (2, 59), (2, 106), (2, 65), (2, 69), (2, 73), (2, 77), (2, 82), (2, 89), (2, 96), (2, 99), (2, 132), (2, 139), (2, 142)]) (by decide +kernel)
theorem mk_ca_3 : ∀ e ∈ mxca 3, ∀ i, mxms[e.2]? = some i → Cond.methodLink (mxo 3) e.1 (mxi_n i) ∈ mxA := fun e h i hi => by
  have q := mk_caq_3 e h
  rw [List.getD_eq_getElem?_getD, hi] at q
  exact q
theorem mk_caq_4 : ∀ e ∈ mxca 4, Cond.methodLink (mxo 4) e.1 (mxi_n (mxms.getD e.2 miX0_init)) ∈ mxA := mx_chk (f := fun e : Nat × Nat => Cond.methodLink (mxo 4) e.1 (mxi_n (mxms.getD e.2 miX0_init))) (ps := [(1, 142), (1, 154), (1, 237), (2, 12), (2, 16), (2, 28), (2, 35), (2, 38), (2, 42), (2, 51), (2, 158), (2, 166), (2, 167), (2, 170), (2, 175), (2, 176), (2, 177), (2, 178), (2, 183), (2, 186), (2, 225), (3, 21), (3, 25), (3, 32), (3, 48), (3, 52), (3, 57), (3, 62), (3, 61)]) (by decide +kernel)
theorem mk_ca_4 : ∀ e ∈ mxca 4, ∀ i, mxms[e.2]? = some i → Cond.methodLink (mxo 4) e.1 (mxi_n i) ∈ mxA := fun e h i hi => by
  have q := mk_caq_4 e h
  rw [List.getD_eq_getElem?_getD, hi] at q
  exact q
theorem mk_caq_5 : ∀ e ∈ mxca 5, Cond.methodLink (mxo 5) e.1 (mxi_n (mxms.getD e.2 miX0_init)) ∈ mxA := mx_chk (f := fun e : Nat × Nat => Cond.methodLink (mxo 5) e.1 (mxi_n (mxms.getD e.2 miX0_init))) (ps := [(3, 78), (3, 82), (3, 207), (4, 2), (4, 3), (3, 219), (4, 4), (4, 12), (3, 227), (3, 238), (4, 8), (3, 223), (4, 47), (4, 39), (4, 51), (4, 35), (4, 43), (4, 55), (4, 59), (4, 63), (4, 67), (4, 71), (4, 27), (4, 31), (4, 92), (4, 112), (4, 108), (4, 118), (4, 104)]) (by decide +kernel)
theorem mk_ca_5 : ∀ e ∈ mxca 5, ∀ i, mxms[e.2]? = some i → Cond.methodLink (mxo 5) e.1 (mxi_n i) ∈ mxA := fun e h i hi => by
  have q := mk_caq_5 e h
  rw [List.getD_eq_getElem?_getD, hi] at q
  exact q
theorem mk_caq_8 : ∀ e ∈ mxca 8, Cond.methodLink (mxo 8) e.1 (mxi_n (mxms.getD e.2 miX0_init)) ∈ mxA := mx_chk (f := fun e : Nat × Nat => Cond.methodLink (mxo 8) e.1 (mxi_n (mxms.getD e.2 miX0_init))) (ps := [(1, 16), (3, 73), (1, 138), (3, 203), (1, 146), (3, 211), (1, 150), (3, 215), (2, 8), (4, 15), (2, 20), (4, 130), (2, 24), (4, 83), (2, 31), (4, 88), (2, 146), (4, 96), (2, 150), (4, 19), (2, 154), (4, 23), (2, 162), (4, 75), (2, 171), (4, 79), (2, 179), (4, 100), (3, 36), (4, 122), (3, 40), (4, 126), (3, 44), (4, 134), (3, 67), (4, 138)]) (by decide +kernel)
theorem mk_ca_8 : ∀ e ∈ mxca 8, ∀ i, mxms[e.2]? = some i → Cond.methodLink (mxo 8) e.1 (mxi_n i) ∈ mxA := fun e h i hi => by
  have q := mk_caq_8 e h
  rw [List.getD_eq_getElem?_getD, hi] at q
  exact q
theorem mk_caq_9 : ∀ e ∈ mxca 9, Cond.methodLink (mxo 9) e.1 (mxi_n (mxms.getD e.2 miX0_init)) ∈ mxA := mx_chk (f := fun e : Nat × Nat => Cond.methodLink (mxo 9) e.1 (mxi_n (mxms.getD e.2 miX0_init))) (ps := [(1, 185), (1, 195), (1, 199), (1, 207)]) (by decide +kernel)
theorem mk_ca_9 : ∀ e ∈ mxca 9, ∀ i, mxms[e.2]? = some i → Cond.methodLink (mxo 9) e.1 (mxi_n i) ∈ mxA := fun e h i hi => by
  have q := mk_caq_9 e h
  rw [List.getD_eq_getElem?_getD, hi] at q
  exact q
theorem mk_caq_10 : ∀ e ∈ mxca 10, Cond.methodLink (mxo 10) e.1 (mxi_n (mxms.getD e.2 miX0_init)) ∈ mxA := mx_chk (f := fun e : Nat × Nat => Cond.methodLink (mxo 10) e.1 (mxi_n (mxms.getD e.2 miX0_init))) (ps := [(1, 202)]) (by decide +kernel)
theorem mk_ca_10 : ∀ e ∈ mxca 10, ∀ i, mxms[e.2]? = some i → Cond.methodLink (mxo 10) e.1 (mxi_n i) ∈ mxA := fun e h i hi => by
  have q := mk_caq_10 e h
  rw [List.getD_eq_getElem?_getD, hi] at q
  exact q
theorem mk_ca (o : Nat) : ∀ e ∈ mxca o, ∀ i, mxms[e.2]? = some i → Cond.methodLink (mxo o) e.1 (mxi_n i) ∈ mxA := by
  match o with
  | 0 => exact mk_ca_0
  | 1 => exact mk_ca_1
  | 2 => exact fun e h => absurd h List.not_mem_nil
  | 3 => exact mk_ca_3
  | 4 => exact mk_ca_4
  | 5 => exact mk_ca_5
  | 6 => exact fun e h => absurd h List.not_mem_nil
  | 7 => exact fun e h => absurd h List.not_mem_nil
  | 8 => exact mk_ca_8
  | 9 => exact mk_ca_9
  | 10 => exact mk_ca_10
  | o + 11 => exact fun e h => absurd h List.not_mem_nil
theorem mk_nw_4 : ∀ e ∈ mxnw 4, Cond.classLink (mxo 4) e.1 (mxct e.2).1 ∈ mxA := mx_chk (f := fun e : Nat × Nat => Cond.classLink (mxo 4) e.1 (mxct e.2).1) (ps := [(1, 22), (1, 48), (2, 190)]) (by decide +kernel)
theorem mk_nw_8 : ∀ e ∈ mxnw 8, Cond.classLink (mxo 8) e.1 (mxct e.2).1 ∈ mxA := mx_chk (f := fun e : Nat × Nat => Cond.classLink (mxo 8) e.1 (mxct e.2).1) (ps := [(1, 14), (3, 71)]) (by decide +kernel)
theorem mk_nw (o : Nat) : ∀ e ∈ mxnw o, Cond.classLink (mxo o) e.1 (mxct e.2).1 ∈ mxA := by
  match o with
  | 0 => exact fun e h => absurd h List.not_mem_nil
  | 1 => exact fun e h => absurd h List.not_mem_nil
  | 2 => exact fun e h => absurd h List.not_mem_nil
  | 3 => exact fun e h => absurd h List.not_mem_nil
  | 4 => exact mk_nw_4
  | 5 => exact fun e h => absurd h List.not_mem_nil
  | 6 => exact fun e h => absurd h List.not_mem_nil
  | 7 => exact fun e h => absurd h List.not_mem_nil
  | 8 => exact mk_nw_8
  | o + 9 => exact fun e h => absurd h List.not_mem_nil
theorem mk_nwb (o : Nat) : ∀ e ∈ mxnw o, e.2 < 5 := by
  match o with
  | 0 => exact fun e h => absurd h List.not_mem_nil
  | 1 => exact fun e h => absurd h List.not_mem_nil
  | 2 => exact fun e h => absurd h List.not_mem_nil
  | 3 => exact fun e h => absurd h List.not_mem_nil
  | 4 => decide +kernel
  | 5 => exact fun e h => absurd h List.not_mem_nil
  | 6 => exact fun e h => absurd h List.not_mem_nil
  | 7 => exact fun e h => absurd h List.not_mem_nil
  | 8 => decide +kernel
  | o + 9 => exact fun e h => absurd h List.not_mem_nil
theorem mk_lay_0 : ∀ x ∈ u_ws RX0 TX0 6, x ∈ mxA := mx_chk (f := fun x : Cond => x) (ps := [(1, 34), (1, 36), (1, 38), (1, 40), (1, 42), (1, 44)]) (by decide +kernel)
theorem mk_ins_0 : Cond.instantiable RX0 6 ∈ mxA := mxA_1 (1, 23) (by decide +kernel)
theorem mk_inc_0 : Cond.initialized RX0 ∈ mxA := mxA_1 (1, 2) (by decide +kernel)
theorem mk_lay_1 : ∀ x ∈ u_ws RX1 TX1 9, x ∈ mxA := mx_chk (f := fun x : Cond => x) (ps := [(2, 206), (2, 208), (2, 210), (2, 212), (2, 214), (2, 216), (2, 218), (2, 220), (2, 222)]) (by decide +kernel)
theorem mk_ins_1 : Cond.instantiable RX1 9 ∈ mxA := mxA_1 (2, 191) (by decide +kernel)
theorem mk_inc_1 : Cond.initialized RX1 ∈ mxA := mxA_1 (1, 12) (by decide +kernel)
theorem mk_lay_2 : ∀ x ∈ u_ws RX3 TX3 9, x ∈ mxA := mx_chk (f := fun x : Cond => x) (ps := [(1, 63), (1, 65), (1, 67), (1, 69), (1, 71), (1, 73), (1, 75), (1, 77), (1, 79)]) (by decide +kernel)
theorem mk_ins_2 : Cond.instantiable RX3 9 ∈ mxA := mxA_1 (1, 49) (by decide +kernel)
theorem mk_inc_2 : Cond.initialized RX3 ∈ mxA := mxA_1 (1, 3) (by decide +kernel)
theorem mk_lay_3 : ∀ x ∈ u_ws RX4 TX4 18, x ∈ mxA := mx_chk (f := fun x : Cond => x) (ps := [(1, 100), (1, 102), (1, 104), (1, 106), (1, 108), (1, 110), (1, 112), (1, 114), (1, 116), (1, 118), (1, 120), (1, 122), (1, 124), (1, 126), (1, 128), (1, 130), (1, 132), (1, 134)]) (by decide +kernel)
theorem mk_ins_3 : Cond.instantiable RX4 18 ∈ mxA := mxA_1 (1, 15) (by decide +kernel)
theorem mk_inc_3 : Cond.initialized RX4 ∈ mxA := mxA_1 (1, 1) (by decide +kernel)
theorem mk_lay_4 : ∀ x ∈ u_ws RX5 TX5 37, x ∈ mxA := mx_chk (f := fun x : Cond => x) (ps := [(3, 127), (3, 129), (3, 131), (3, 133), (3, 135), (3, 137), (3, 139), (3, 141), (3, 143), (3, 145), (3, 147), (3, 149), (3, 151), (3, 153), (3, 155), (3, 157), (3, 159), (3, 161), (3, 163), (3, 165), (3, 167), (3, 169), (3, 171), (3, 173), (3, 175), (3, 177), (3, 179), (3, 181), (3, 183), (3, 185), (3, 187), (3, 189), (3, 191), (3, 193), (3, 195), (3, 197), (3, 199)]) (by decide +kernel)
theorem mk_ins_4 : Cond.instantiable RX5 37 ∈ mxA := mxA_1 (3, 72) (by decide +kernel)
theorem mk_inc_4 : Cond.initialized RX5 ∈ mxA := mxA_1 (1, 4) (by decide +kernel)
theorem mk_cls : ∀ c, c < 5 → vwCl[c]? = some ((mxct c).1, (mxct c).2.1, mxnf c) ∧ (∀ x ∈ u_ws (mxct c).1 (mxct c).2.1 (mxnf c), x ∈ mxA) ∧ (∀ a, a < mxnf c → ∀ b, b < mxnf c → a ≠ b → ((mxct c).2.1 a).2.1 ≠ ((mxct c).2.1 b).2.1) ∧ (∀ k, k < mxnf c → parseFieldDescriptor ((mxct c).2.1 k).2.2.1 = some (mxty c k)) ∧ Cond.instantiable (mxct c).1 (mxnf c) ∈ mxA ∧ Cond.initialized (mxct c).1 ∈ mxA := by
  intro c hc
  match c, hc with
  | 0, _ => exact ⟨rfl, mk_lay_0, nmX0, tyX0_ok, mk_ins_0, mk_inc_0⟩
  | 1, _ => exact ⟨rfl, mk_lay_1, nmX1, tyX1_ok, mk_ins_1, mk_inc_1⟩
  | 2, _ => exact ⟨rfl, mk_lay_2, nmX3, tyX3_ok, mk_ins_2, mk_inc_2⟩
  | 3, _ => exact ⟨rfl, mk_lay_3, nmX4, tyX4_ok, mk_ins_3, mk_inc_3⟩
  | 4, _ => exact ⟨rfl, mk_lay_4, nmX5, tyX5_ok, mk_ins_4, mk_inc_4⟩
theorem mk_obi : Cond.instanceMethod objectInit ∈ mxA := mxA_1 (1, 20) (by decide +kernel)
theorem mk_obc : Cond.code objectInit ⟨#[0xb1]⟩ 1 none ∈ mxA := mxA_1 (1, 21) (by decide +kernel)
theorem mk_oi_0 : ∀ e ∈ mxoi 0, Cond.methodLink (mxo 0) e objectInit ∈ mxA := mx_chk (f := fun e : Nat => Cond.methodLink (mxo 0) e objectInit) (ps := [(1, 27)]) (by decide +kernel)
theorem mk_oi_1 : ∀ e ∈ mxoi 1, Cond.methodLink (mxo 1) e objectInit ∈ mxA := mx_chk (f := fun e : Nat => Cond.methodLink (mxo 1) e objectInit) (ps := [(2, 195)]) (by decide +kernel)
theorem mk_oi_3 : ∀ e ∈ mxoi 3, Cond.methodLink (mxo 3) e objectInit ∈ mxA := mx_chk (f := fun e : Nat => Cond.methodLink (mxo 3) e objectInit) (ps := [(1, 53)]) (by decide +kernel)
theorem mk_oi_4 : ∀ e ∈ mxoi 4, Cond.methodLink (mxo 4) e objectInit ∈ mxA := mx_chk (f := fun e : Nat => Cond.methodLink (mxo 4) e objectInit) (ps := [(1, 19)]) (by decide +kernel)
theorem mk_oi_5 : ∀ e ∈ mxoi 5, Cond.methodLink (mxo 5) e objectInit ∈ mxA := mx_chk (f := fun e : Nat => Cond.methodLink (mxo 5) e objectInit) (ps := [(3, 76)]) (by decide +kernel)
theorem mk_oi (o : Nat) : ∀ e ∈ mxoi o, Cond.methodLink (mxo o) e objectInit ∈ mxA := by
  match o with
  | 0 => exact mk_oi_0
  | 1 => exact mk_oi_1
  | 2 => exact fun e h => absurd h List.not_mem_nil
  | 3 => exact mk_oi_3
  | 4 => exact mk_oi_4
  | 5 => exact mk_oi_5
  | o + 6 => exact fun e h => absurd h List.not_mem_nil
theorem mk_ma_0 : ∀ e ∈ mxma 0, Cond.methodLink (mxo 0) e.1 (if e.2 = 0 then Lib.Math.max.name else Lib.Math.min.name) ∈ mxA := mx_chk (f := fun e : Nat × Nat => Cond.methodLink (mxo 0) e.1 (if e.2 = 0 then Lib.Math.max.name else Lib.Math.min.name)) (ps := [(1, 158)]) (by decide +kernel)
theorem mk_ma_4 : ∀ e ∈ mxma 4, Cond.methodLink (mxo 4) e.1 (if e.2 = 0 then Lib.Math.max.name else Lib.Math.min.name) ∈ mxA := mx_chk (f := fun e : Nat × Nat => Cond.methodLink (mxo 4) e.1 (if e.2 = 0 then Lib.Math.max.name else Lib.Math.min.name)) (ps := [(3, 29)]) (by decide +kernel)
theorem mk_ma (o : Nat) : ∀ e ∈ mxma o, Cond.methodLink (mxo o) e.1 (if e.2 = 0 then Lib.Math.max.name else Lib.Math.min.name) ∈ mxA := by
  match o with
  | 0 => exact mk_ma_0
  | 1 => exact fun e h => absurd h List.not_mem_nil
  | 2 => exact fun e h => absurd h List.not_mem_nil
  | 3 => exact fun e h => absurd h List.not_mem_nil
  | 4 => exact mk_ma_4
  | o + 5 => exact fun e h => absurd h List.not_mem_nil
theorem mk_mini : Cond.initialized "java/lang/Math" ∈ mxA := mxA_1 (1, 5) (by decide +kernel)
theorem mk_maxs : Cond.static Lib.Math.max.name ∈ mxA := mxA_1 (3, 30) (by decide +kernel)
theorem mk_maxc : Cond.code Lib.Math.max.name Lib.Math.max.code 2 (some .int) ∈ mxA := mxA_1 (3, 31) (by decide +kernel)
theorem mk_mins : Cond.static Lib.Math.min.name ∈ mxA := mxA_1 (1, 159) (by decide +kernel)
theorem mk_minc : Cond.code Lib.Math.min.name Lib.Math.min.code 2 (some .int) ∈ mxA := mxA_1 (1, 160) (by decide +kernel)
theorem mk_ar_int : Cond.arrayClass .int ∈ mxA := mxA_1 (1, 47) (by decide +kernel)
theorem mk_ar_long : Cond.arrayClass .long ∈ mxA := mxA_1 (1, 137) (by decide +kernel)
theorem mk_ar_byte : Cond.arrayClass .byte ∈ mxA := mxA_1 (2, 7) (by decide +kernel)
theorem mk_ar_boolean : Cond.arrayClass .boolean ∈ mxA := mxA_1 (3, 202) (by decide +kernel)
theorem mk_mv : Cond.fieldLink RX1 74 RX1 "MOVES" "[I" ∈ mxA := mxA_1 (3, 17) (by decide +kernel)
theorem mk_fw : Cond.fieldLink RX1 65 RX1 "FLAW_LETTERS" "[I" ∈ mxA := mxA_1 (3, 10) (by decide +kernel)
theorem mk_fjv : Cond.fieldLink RJ0 9 "java/lang/String" "value" "[B" ∈ mxA := mxA_1 (4, 143) (by decide +kernel)
theorem mk_fjc : Cond.fieldLink RJ0 15 "java/lang/String" "coder" "B" ∈ mxA := mxA_1 (4, 144) (by decide +kernel)
theorem mk_fjz : Cond.fieldLink RJ0 38 "java/lang/String" "COMPACT_STRINGS" "Z" ∈ mxA := mxA_1 (1, 189) (by decide +kernel)
theorem mk_fjq : Cond.fieldLink RJ0 1053 "jdk/internal/util/Preconditions" "SIOOBE_FORMATTER" "Ljava/util/function/BiFunction;" ∈ mxA := mxA_1 (1, 205) (by decide +kernel)
/-- a method's room holds its callees' -/
def mxro (i : mxi) (op : Instr) : Bool := match op with
  | .invokestatic n => (match (mxca (mxi_o i)).lookup n with
    | some z => (match mxms[z]? with
      | some zi => Nat.ble (mxi_f zi + 1) (mxi_f i) && Nat.ble (8 + (mxi_L zi + 11) + mxi_l zi) (mxi_l i)
      | none => true)
    | none => (match (mxma (mxi_o i)).lookup n with
      | some _ => Nat.ble 1 (mxi_f i) && Nat.ble 21 (mxi_l i)
      | none => true))
  | .invokevirtual n => (match (mxca (mxi_o i)).lookup n with
    | some z => (match mxms[z]? with
      | some zi => Nat.ble (mxi_f zi + 1) (mxi_f i) && Nat.ble (8 + (mxi_L zi + 11) + mxi_l zi) (mxi_l i)
      | none => true)
    | none => true)
  | .invokespecial n => (if (mxoi (mxi_o i)).contains n then Nat.ble 1 (mxi_f i) && Nat.ble 12 (mxi_l i) else (match (mxne (mxi_o i)).lookup n with
    | some z => (match mxms[z]? with
      | some zi => Nat.ble (mxi_f zi + 1) (mxi_f i) && Nat.ble (8 + (mxi_L zi + 11) + mxi_l zi) (mxi_l i)
      | none => true)
    | none => (match (mxca (mxi_o i)).lookup n with
      | some z => (match mxms[z]? with
        | some zi => Nat.ble (mxi_f zi + 1) (mxi_f i) && Nat.ble (8 + (mxi_L zi + 11) + mxi_l zi) (mxi_l i)
        | none => true)
      | none => true)))
  | _ => true
def mxrk (i : mxi) : Bool := (mxi_t i).all (fun e => mxro i e.2.1)
theorem mk_room : mxms.all mxrk = true := by decide +kernel
theorem mk_roomL : mxrk miL_law = true := by decide +kernel
theorem mdkL_law : mxdk miL_law = true := by decide +kernel
