/-! every instruction but calls and returns -/
set_option maxHeartbeats 1000000 in
theorem sx_step_ok {W0 : Nat} {S : Nat → Prop} {i : mxi} {pc : Nat} {ρ : Nat → Int} {E : List sxe} {la : List (Nat × sxv)} {sa : List sxv} {H : List (Nat × sxc)} {c : Nat} {w : mxW} {R : List (Nat × sxA)} {op : Instr} (hR : sx_step i pc op E la sa H c = some R) (h : sx_γ W0 S ρ (E, la, sa, H, c) (la.map (sx_lv W0 ρ)) (sa.map (sx_val W0 ρ)) w) : sx_Ok W0 S i pc op ρ E.length (la.map (sx_lv W0 ρ)) (sa.map (sx_val W0 ρ)) w R := by
  have h0 := h.1.1
  cases op <;> simp only [sx_step] at hR <;> first
    | (cases hR; done)
    | exact sxo_iload_n hR h
    | exact sxo_iload hR h
    | exact sxo_lload_n hR h
    | exact sxo_lload hR h
    | exact sxo_aload_n hR h
    | exact sxo_aload hR h
    | exact sxo_istore_n hR h
    | exact sxo_istore hR h
    | exact sxo_lstore_n hR h
    | exact sxo_lstore hR h
    | exact sxo_astore_n hR h
    | exact sxo_astore hR h
    | exact sxo_iinc hR h
    | exact sxo_iadd hR h
    | exact sxo_isub hR h
    | exact sxo_imul hR h
    | exact sxo_iand hR h
    | exact sxo_ior hR h
    | exact sxo_irem hR h
    | exact sxo_ishl hR h
    | exact sxo_ishr hR h
    | exact sxo_iushr hR h
    | exact sxo_ladd hR h
    | exact sxo_lmul hR h
    | exact sxo_lor hR h
    | exact sxo_lxor hR h
    | exact sxo_land hR h
    | exact sxo_lshl hR h
    | exact sxo_lshr hR h
    | exact sxo_lushr hR h
    | exact sxo_lcmp hR h
    | exact sxo_i2l hR h
    | exact sxo_l2i hR h
    | exact sxo_i2b hR h
    | exact sxo_dup hR h
    | exact sxo_pop hR h
    | exact sxo_dup2 hR h
    | exact sxo_ifCond hR h
    | exact sxo_icmp hR h
    | exact sxo_nonnull hR h
    | exact sxo_goto hR h
    | exact sxo_tsw hR h
    | exact sxo_lsw hR h
    | exact sxo_getf hR h
    | exact sxo_putf hR h
    | exact sxo_alen hR h
    | exact sxo_lald hR h
    | exact sxo_bald hR h
    | exact sxo_iast hR h
    | exact sxo_last hR h
    | exact sxo_bast hR h
    | skip
  case iconst n => exact sxo_push hR h (fun _ => rfl) (fun k call => by rw [sx_k0 h0]; rfl)
  case bipush n => exact sxo_push hR h (fun _ => rfl) (fun k call => by rw [sx_k0 h0]; rfl)
  case sipush n => exact sxo_push hR h (fun _ => rfl) (fun k call => by rw [sx_k0 h0]; rfl)
  case lconst n => exact sxo_push hR h (fun _ => rfl) (fun k call => by rw [sx_k1 h0]; rfl)
  case aconst_null => exact sxo_push hR h (fun _ => rfl) (fun k call => rfl)
  case iaload =>
    split at hR
    · exact sxo_iald hR h
    · exact sxo_sld hR h
  case ldc n =>
    split at hR
    · rename_i v hv
      exact sxo_push hR h (fun _ => rfl) (fun k call => by rw [sx_k0 h0]; simp only [mxS, hv])
    · rename_i hv
      split at hR
      · rename_i j hj
        refine sxo_push hR h (fun q => absurd q (Nat.not_lt.mpr (Nat.le_of_ble_eq_true rfl))) (fun k call => ?_)
        simp only [mxS, hj]
        rfl
      · cases hR
  case ldc_w n =>
    split at hR
    · rename_i v hv
      exact sxo_push hR h (fun _ => rfl) (fun k call => by rw [sx_k0 h0]; simp only [mxS, hv])
    · cases hR
  case ldc2_w n =>
    split at hR
    · rename_i v hv
      exact sxo_push hR h (fun _ => rfl) (fun k call => by rw [sx_k1 h0]; simp only [mxS, hv])
    · cases hR
  case getstatic n =>
    split at hR
    · rename_i j hj
      exact sxo_push hR h (fun q => absurd q (Nat.not_lt.mpr (Nat.le_of_ble_eq_true rfl))) (fun k call => by simp only [mxS, hj]; rfl)
    · cases hR
