set_option maxHeartbeats 4000000 in
set_option maxRecDepth 20000 in
theorem op_burns {G : zG} (hG : G.1 = zProg) (a1 a2 a3 a4 a5 : Int32) : zW zTt G 12 121 [.ref 0, .int a1, .int a2, .int a3, .int a4, .int a5] (dzH dH0) (fun w h => ∃ x : Int32, w = some (.int x) ∧ (∃ fs : List Value, h[111]? = some (.inr (12, fs))) ∧ zW zTt G 12 195 [.ref 111, .int a1, .int a2, .int a3, .int a4, .int a5] h (fun w2 _ => w2 = some (.int x))) := by
  obtain ⟨p9, t9⟩ := G
  have hG : p9 = zProg := hG
  subst hG
  refine zW_in rfl (Nat.le_of_ble_eq_true rfl) ?_
  refine r_aload (zW_mono _ _ _) rfl rfl ?_
  refine r_get (zW_mono _ _ _) rfl hx_0 rfl ?_
  refine r_iload (zW_mono _ _ _) rfl rfl ?_
  refine r_virt1 (zW_mono _ _ _) rfl hx_36 (Nat.le_of_ble_eq_true rfl) rfl (Nat.le_of_ble_eq_true rfl) (Nat.le_of_ble_eq_true rfl) ?_
  refine zW_in rfl (Nat.le_of_ble_eq_true rfl) ?_
  refine r_iload (zW_mono _ _ _) rfl rfl ?_
  refine r_i0_lt (X := a1.toInt) (zW_mono _ _ _) rfl rfl (fun z1 => ?_) (fun z1 => ?_)
  · refine r_push (zW_mono _ _ _) rfl ?_
    refine r_nret (zW_mono _ _ _) rfl rfl rfl ?_
    refine r_astoreN (zW_mono _ _ _) rfl (Nat.le_of_ble_eq_true rfl) ?_
    refine r_aloadN (zW_mono _ _ _) rfl rfl ?_
    refine r_ifnullT (zW_mono _ _ _) rfl ?_
    refine r_push (zW_mono _ _ _) rfl ?_
    refine r_iret (zW_mono _ _ _) rfl rfl rfl ?_
    refine ⟨_, rfl, ⟨_, hx_111⟩, ?_⟩
    refine zW_in rfl (Nat.le_of_ble_eq_true rfl) ?_
    refine r_aload (zW_mono _ _ _) rfl rfl ?_
    refine r_iload (zW_mono _ _ _) rfl rfl ?_
    refine r_virt1 (zW_mono _ _ _) rfl hx_111 (Nat.le_of_ble_eq_true rfl) rfl (Nat.le_of_ble_eq_true rfl) (Nat.le_of_ble_eq_true rfl) ?_
    refine zW_in rfl (Nat.le_of_ble_eq_true rfl) ?_
    refine r_iload (zW_mono _ _ _) rfl rfl ?_
    refine r_i2l (zW_mono _ _ _) rfl ?_
    refine r_push (zW_mono _ _ _) rfl ?_
    refine r_aload (zW_mono _ _ _) rfl rfl ?_
    refine r_get (zW_mono _ _ _) rfl hx_111 rfl ?_
    refine r_push (zW_mono _ _ _) rfl ?_
    refine r_isub (zW_mono _ _ _) rfl ?_
    refine r_i2l (zW_mono _ _ _) rfl ?_
    refine r_stat3 (zW_mono _ _ _) rfl (Nat.le_of_ble_eq_true rfl) rfl (Nat.le_of_ble_eq_true rfl) (Nat.le_of_ble_eq_true rfl) ?_
    refine zW_in rfl (Nat.le_of_ble_eq_true rfl) ?_
    refine r_lload (zW_mono _ _ _) rfl rfl ?_
    refine r_lload (zW_mono _ _ _) rfl rfl ?_
    refine r_lc_lt (X := a1.toInt) (Y := 0) (zW_mono _ _ _) rfl rfl (zi64 _) (by decide +kernel) (fun z2 => ?_) (fun q => by exfalso; omega)
    refine r_push (zW_mono _ _ _) rfl ?_
    refine r_iret (zW_mono _ _ _) rfl rfl (by decide +kernel) ?_
    refine r_iret (zW_mono _ _ _) rfl rfl (by decide +kernel) ?_
    refine r_if_eq (zW_mono _ _ _) rfl (fun _ => ?_) (fun q => absurd q (by decide +kernel))
    refine r_push (zW_mono _ _ _) rfl ?_
    refine r_iret (zW_mono _ _ _) rfl rfl rfl ?_
    first | rfl | exact congrArg some (by decide +kernel)
  · refine r_iload (zW_mono _ _ _) rfl rfl ?_
    refine r_aload (zW_mono _ _ _) rfl rfl ?_
    refine r_get (zW_mono _ _ _) rfl hx_36 rfl ?_
    refine r_ic_ge (X := a1.toInt) (Y := 0) (zW_mono _ _ _) rfl rfl (by decide +kernel) (fun z3 => ?_) (fun q => by exfalso; omega)
    refine r_push (zW_mono _ _ _) rfl ?_
    refine r_nret (zW_mono _ _ _) rfl rfl rfl ?_
    refine r_astoreN (zW_mono _ _ _) rfl (Nat.le_of_ble_eq_true rfl) ?_
    refine r_aloadN (zW_mono _ _ _) rfl rfl ?_
    refine r_ifnullT (zW_mono _ _ _) rfl ?_
    refine r_push (zW_mono _ _ _) rfl ?_
    refine r_iret (zW_mono _ _ _) rfl rfl rfl ?_
    refine ⟨_, rfl, ⟨_, hx_111⟩, ?_⟩
    refine zW_in rfl (Nat.le_of_ble_eq_true rfl) ?_
    refine r_aload (zW_mono _ _ _) rfl rfl ?_
    refine r_iload (zW_mono _ _ _) rfl rfl ?_
    refine r_virt1 (zW_mono _ _ _) rfl hx_111 (Nat.le_of_ble_eq_true rfl) rfl (Nat.le_of_ble_eq_true rfl) (Nat.le_of_ble_eq_true rfl) ?_
    refine zW_in rfl (Nat.le_of_ble_eq_true rfl) ?_
    refine r_iload (zW_mono _ _ _) rfl rfl ?_
    refine r_i2l (zW_mono _ _ _) rfl ?_
    refine r_push (zW_mono _ _ _) rfl ?_
    refine r_aload (zW_mono _ _ _) rfl rfl ?_
    refine r_get (zW_mono _ _ _) rfl hx_111 rfl ?_
    refine r_push (zW_mono _ _ _) rfl ?_
    refine r_isub (zW_mono _ _ _) rfl ?_
    refine r_i2l (zW_mono _ _ _) rfl ?_
    refine r_stat3 (zW_mono _ _ _) rfl (Nat.le_of_ble_eq_true rfl) rfl (Nat.le_of_ble_eq_true rfl) (Nat.le_of_ble_eq_true rfl) ?_
    refine zW_in rfl (Nat.le_of_ble_eq_true rfl) ?_
    refine r_lload (zW_mono _ _ _) rfl rfl ?_
    refine r_lload (zW_mono _ _ _) rfl rfl ?_
    refine r_lc_lt (X := a1.toInt) (Y := 0) (zW_mono _ _ _) rfl rfl (zi64 _) (by decide +kernel) (fun q => by exfalso; omega) (fun z4 => ?_)
    refine r_lload (zW_mono _ _ _) rfl rfl ?_
    refine r_lload (zW_mono _ _ _) rfl rfl ?_
    refine r_lc_gt (X := a1.toInt) (Y := (-1)) (zW_mono _ _ _) rfl rfl (zi64 _) (by decide +kernel) (fun z5 => ?_) (fun q => by exfalso; omega)
    refine r_push (zW_mono _ _ _) rfl ?_
    refine r_iret (zW_mono _ _ _) rfl rfl (by decide +kernel) ?_
    refine r_iret (zW_mono _ _ _) rfl rfl (by decide +kernel) ?_
    refine r_if_eq (zW_mono _ _ _) rfl (fun _ => ?_) (fun q => absurd q (by decide +kernel))
    refine r_push (zW_mono _ _ _) rfl ?_
    refine r_iret (zW_mono _ _ _) rfl rfl rfl ?_
    first | rfl | exact congrArg some (by decide +kernel)
set_option maxHeartbeats 4000000 in
set_option maxRecDepth 20000 in
theorem op_feed {G : zG} (hG : G.1 = zProg) (a1 a2 a3 a4 a5 : Int32) : zW zTt G 12 122 [.ref 0, .int a1, .int a2, .int a3, .int a4, .int a5] (dzH dH0) (fun w h => ∃ x : Int32, w = some (.int x) ∧ (∃ fs : List Value, h[111]? = some (.inr (12, fs))) ∧ zW zTt G 12 196 [.ref 111, .int a1, .int a2, .int a3, .int a4, .int a5] h (fun w2 _ => w2 = some (.int x))) := by
  obtain ⟨p9, t9⟩ := G
  have hG : p9 = zProg := hG
  subst hG
  refine zW_in rfl (Nat.le_of_ble_eq_true rfl) ?_
  refine r_aload (zW_mono _ _ _) rfl rfl ?_
  refine r_get (zW_mono _ _ _) rfl hx_0 rfl ?_
  refine r_push (zW_mono _ _ _) rfl ?_
  refine r_virt1 (zW_mono _ _ _) rfl hx_44 (Nat.le_of_ble_eq_true rfl) rfl (Nat.le_of_ble_eq_true rfl) (Nat.le_of_ble_eq_true rfl) ?_
  refine zW_in rfl (Nat.le_of_ble_eq_true rfl) ?_
  refine r_aload (zW_mono _ _ _) rfl rfl ?_
  refine r_get (zW_mono _ _ _) rfl hx_44 rfl ?_
  refine r_iload (zW_mono _ _ _) rfl rfl ?_
  refine r_iadd (zW_mono _ _ _) rfl ?_
  refine r_push (zW_mono _ _ _) rfl ?_
  refine r_icmp_gt (zW_mono _ _ _) rfl (fun q => absurd q (by decide +kernel)) (fun _ => ?_)
  refine r_push (zW_mono _ _ _) rfl ?_
  refine r_goto (zW_mono _ _ _) rfl ?_
  refine r_iret (zW_mono _ _ _) rfl rfl (by decide +kernel) ?_
  refine r_if_ne (zW_mono _ _ _) rfl (fun _ => ?_) (fun q => absurd q (by decide +kernel))
  refine r_aload (zW_mono _ _ _) rfl rfl ?_
  refine r_get (zW_mono _ _ _) rfl hx_0 rfl ?_
  refine r_iload (zW_mono _ _ _) rfl rfl ?_
  refine r_virt1 (zW_mono _ _ _) rfl hx_44 (Nat.le_of_ble_eq_true rfl) rfl (Nat.le_of_ble_eq_true rfl) (Nat.le_of_ble_eq_true rfl) ?_
  refine zW_in rfl (Nat.le_of_ble_eq_true rfl) ?_
  refine r_push (zW_mono _ _ _) rfl ?_
  refine r_istore (zW_mono _ _ _) rfl (Nat.le_of_ble_eq_true rfl) ?_
  refine r_iload (zW_mono _ _ _) rfl rfl ?_
  refine r_if_lt (zW_mono _ _ _) rfl (fun q => absurd q (by decide +kernel)) (fun _ => ?_)
  refine r_aload (zW_mono _ _ _) rfl rfl ?_
  refine r_get (zW_mono _ _ _) rfl hx_44 rfl ?_
  refine r_push (zW_mono _ _ _) rfl ?_
  refine r_icmp_ge (zW_mono _ _ _) rfl (fun q => absurd q (by decide +kernel)) (fun _ => ?_)
  refine r_aload (zW_mono _ _ _) rfl rfl ?_
  refine r_get (zW_mono _ _ _) rfl hx_44 rfl ?_
  refine r_aload (zW_mono _ _ _) rfl rfl ?_
  refine r_get (zW_mono _ _ _) rfl hx_44 rfl ?_
  refine r_iload (zW_mono _ _ _) rfl rfl ?_
  refine r_iload (zW_mono _ _ _) rfl rfl ?_
  refine r_ishr (zW_mono _ _ _) rfl ?_
  refine r_i2b (zW_mono _ _ _) rfl ?_
  refine r_bast (zW_mono _ _ _) rfl hx_45 (vp_in_iff.mpr ⟨(by decide +kernel), (by decide +kernel)⟩) ?_
  refine zR_nm (fun h1 e1 => ?_)
  have g1 := zgs e1 hx_45
  refine r_aload (zW_mono _ _ _) rfl rfl ?_
  refine r_dup (zW_mono _ _ _) rfl rfl ?_
  have f2 := (zgn e1 (by decide) hx_44)
  refine r_get (zW_mono _ _ _) rfl f2 rfl ?_
  refine r_push (zW_mono _ _ _) rfl ?_
  refine r_iadd (zW_mono _ _ _) rfl ?_
  refine r_put (zW_mono _ _ _) rfl f2 (Nat.le_of_ble_eq_true rfl) rfl rfl rfl ?_
  refine zR_nm (fun h3 e3 => ?_)
  have g3 := zgs e3 f2
  refine r_iinc (zW_mono _ _ _) rfl rfl (Nat.le_of_ble_eq_true rfl) ?_
  refine r_goto (zW_mono _ _ _) rfl ?_
  refine r_iload (zW_mono _ _ _) rfl rfl ?_
  refine r_if_lt (zW_mono _ _ _) rfl (fun q => absurd q (by decide +kernel)) (fun _ => ?_)
  refine r_aload (zW_mono _ _ _) rfl rfl ?_
  refine r_get (zW_mono _ _ _) rfl g3 rfl ?_
  refine r_push (zW_mono _ _ _) rfl ?_
  refine r_icmp_ge (zW_mono _ _ _) rfl (fun q => absurd q (by decide +kernel)) (fun _ => ?_)
  refine r_aload (zW_mono _ _ _) rfl rfl ?_
  refine r_get (zW_mono _ _ _) rfl g3 rfl ?_
  refine r_aload (zW_mono _ _ _) rfl rfl ?_
  refine r_get (zW_mono _ _ _) rfl g3 rfl ?_
  refine r_iload (zW_mono _ _ _) rfl rfl ?_
  refine r_iload (zW_mono _ _ _) rfl rfl ?_
  refine r_ishr (zW_mono _ _ _) rfl ?_
  refine r_i2b (zW_mono _ _ _) rfl ?_
  have f4 := (zgn e3 (by decide) g1)
  refine r_bast (zW_mono _ _ _) rfl f4 (vp_in_iff.mpr ⟨(by decide +kernel), (by decide +kernel)⟩) ?_
  refine zR_nm (fun h5 e5 => ?_)
  have g5 := zgs e5 f4
  refine r_aload (zW_mono _ _ _) rfl rfl ?_
  refine r_dup (zW_mono _ _ _) rfl rfl ?_
  have f6 := (zgn e5 (by decide) g3)
  refine r_get (zW_mono _ _ _) rfl f6 rfl ?_
  refine r_push (zW_mono _ _ _) rfl ?_
  refine r_iadd (zW_mono _ _ _) rfl ?_
  refine r_put (zW_mono _ _ _) rfl f6 (Nat.le_of_ble_eq_true rfl) rfl rfl rfl ?_
  refine zR_nm (fun h7 e7 => ?_)
  have g7 := zgs e7 f6
  refine r_iinc (zW_mono _ _ _) rfl rfl (Nat.le_of_ble_eq_true rfl) ?_
  refine r_goto (zW_mono _ _ _) rfl ?_
  refine r_iload (zW_mono _ _ _) rfl rfl ?_
  refine r_if_lt (zW_mono _ _ _) rfl (fun q => absurd q (by decide +kernel)) (fun _ => ?_)
  refine r_aload (zW_mono _ _ _) rfl rfl ?_
  refine r_get (zW_mono _ _ _) rfl g7 rfl ?_
  refine r_push (zW_mono _ _ _) rfl ?_
  refine r_icmp_ge (zW_mono _ _ _) rfl (fun q => absurd q (by decide +kernel)) (fun _ => ?_)
  refine r_aload (zW_mono _ _ _) rfl rfl ?_
  refine r_get (zW_mono _ _ _) rfl g7 rfl ?_
  refine r_aload (zW_mono _ _ _) rfl rfl ?_
  refine r_get (zW_mono _ _ _) rfl g7 rfl ?_
  refine r_iload (zW_mono _ _ _) rfl rfl ?_
  refine r_iload (zW_mono _ _ _) rfl rfl ?_
  refine r_ishr (zW_mono _ _ _) rfl ?_
  refine r_i2b (zW_mono _ _ _) rfl ?_
  have f8 := (zgn e7 (by decide) g5)
  refine r_bast (zW_mono _ _ _) rfl f8 (vp_in_iff.mpr ⟨(by decide +kernel), (by decide +kernel)⟩) ?_
  refine zR_nm (fun h9 e9 => ?_)
  have g9 := zgs e9 f8
  refine r_aload (zW_mono _ _ _) rfl rfl ?_
  refine r_dup (zW_mono _ _ _) rfl rfl ?_
  have f10 := (zgn e9 (by decide) g7)
  refine r_get (zW_mono _ _ _) rfl f10 rfl ?_
  refine r_push (zW_mono _ _ _) rfl ?_
  refine r_iadd (zW_mono _ _ _) rfl ?_
  refine r_put (zW_mono _ _ _) rfl f10 (Nat.le_of_ble_eq_true rfl) rfl rfl rfl ?_
  refine zR_nm (fun h11 e11 => ?_)
  have g11 := zgs e11 f10
  refine r_iinc (zW_mono _ _ _) rfl rfl (Nat.le_of_ble_eq_true rfl) ?_
  refine r_goto (zW_mono _ _ _) rfl ?_
  refine r_iload (zW_mono _ _ _) rfl rfl ?_
  refine r_if_lt (zW_mono _ _ _) rfl (fun q => absurd q (by decide +kernel)) (fun _ => ?_)
  refine r_aload (zW_mono _ _ _) rfl rfl ?_
  refine r_get (zW_mono _ _ _) rfl g11 rfl ?_
  refine r_push (zW_mono _ _ _) rfl ?_
  refine r_icmp_ge (zW_mono _ _ _) rfl (fun q => absurd q (by decide +kernel)) (fun _ => ?_)
  refine r_aload (zW_mono _ _ _) rfl rfl ?_
  refine r_get (zW_mono _ _ _) rfl g11 rfl ?_
  refine r_aload (zW_mono _ _ _) rfl rfl ?_
  refine r_get (zW_mono _ _ _) rfl g11 rfl ?_
  refine r_iload (zW_mono _ _ _) rfl rfl ?_
  refine r_iload (zW_mono _ _ _) rfl rfl ?_
  refine r_ishr (zW_mono _ _ _) rfl ?_
  refine r_i2b (zW_mono _ _ _) rfl ?_
  have f12 := (zgn e11 (by decide) g9)
  refine r_bast (zW_mono _ _ _) rfl f12 (vp_in_iff.mpr ⟨(by decide +kernel), (by decide +kernel)⟩) ?_
  refine zR_nm (fun h13 e13 => ?_)
  have g13 := zgs e13 f12
  refine r_aload (zW_mono _ _ _) rfl rfl ?_
  refine r_dup (zW_mono _ _ _) rfl rfl ?_
  have f14 := (zgn e13 (by decide) g11)
  refine r_get (zW_mono _ _ _) rfl f14 rfl ?_
  refine r_push (zW_mono _ _ _) rfl ?_
  refine r_iadd (zW_mono _ _ _) rfl ?_
  refine r_put (zW_mono _ _ _) rfl f14 (Nat.le_of_ble_eq_true rfl) rfl rfl rfl ?_
  refine zR_nm (fun h15 e15 => ?_)
  have g15 := zgs e15 f14
  refine r_iinc (zW_mono _ _ _) rfl rfl (Nat.le_of_ble_eq_true rfl) ?_
  refine r_goto (zW_mono _ _ _) rfl ?_
  refine r_iload (zW_mono _ _ _) rfl rfl ?_
  refine r_if_lt (zW_mono _ _ _) rfl (fun _ => ?_) (fun q => absurd q (by decide +kernel))
  refine r_vret (zW_mono _ _ _) rfl rfl ?_
  refine r_aload (zW_mono _ _ _) rfl rfl ?_
  have f16 := (zgn e15 (by decide) (zgn e13 (by decide) (zgn e11 (by decide) (zgn e9 (by decide) (zgn e7 (by decide) (zgn e5 (by decide) (zgn e3 (by decide) (zgn e1 (by decide) hx_0))))))))
  refine r_get (zW_mono _ _ _) rfl f16 rfl ?_
  refine r_iload (zW_mono _ _ _) rfl rfl ?_
  refine r_virt1 (zW_mono _ _ _) rfl g15 (Nat.le_of_ble_eq_true rfl) rfl (Nat.le_of_ble_eq_true rfl) (Nat.le_of_ble_eq_true rfl) ?_
  refine zW_in rfl (Nat.le_of_ble_eq_true rfl) ?_
  refine r_push (zW_mono _ _ _) rfl ?_
  refine r_istore (zW_mono _ _ _) rfl (Nat.le_of_ble_eq_true rfl) ?_
  refine r_iload (zW_mono _ _ _) rfl rfl ?_
  refine r_if_lt (zW_mono _ _ _) rfl (fun q => absurd q (by decide +kernel)) (fun _ => ?_)
  refine r_aload (zW_mono _ _ _) rfl rfl ?_
  refine r_get (zW_mono _ _ _) rfl g15 rfl ?_
  refine r_push (zW_mono _ _ _) rfl ?_
  refine r_icmp_ge (zW_mono _ _ _) rfl (fun q => absurd q (by decide +kernel)) (fun _ => ?_)
  refine r_aload (zW_mono _ _ _) rfl rfl ?_
  refine r_get (zW_mono _ _ _) rfl g15 rfl ?_
  refine r_aload (zW_mono _ _ _) rfl rfl ?_
  refine r_get (zW_mono _ _ _) rfl g15 rfl ?_
  refine r_iload (zW_mono _ _ _) rfl rfl ?_
  refine r_iload (zW_mono _ _ _) rfl rfl ?_
  refine r_ishr (zW_mono _ _ _) rfl ?_
  refine r_i2b (zW_mono _ _ _) rfl ?_
  have f17 := (zgn e15 (by decide) g13)
  refine r_bast (zW_mono _ _ _) rfl f17 (vp_in_iff.mpr ⟨(by decide +kernel), (by decide +kernel)⟩) ?_
  refine zR_nm (fun h18 e18 => ?_)
  have g18 := zgs e18 f17
  refine r_aload (zW_mono _ _ _) rfl rfl ?_
  refine r_dup (zW_mono _ _ _) rfl rfl ?_
  have f19 := (zgn e18 (by decide) g15)
  refine r_get (zW_mono _ _ _) rfl f19 rfl ?_
  refine r_push (zW_mono _ _ _) rfl ?_
  refine r_iadd (zW_mono _ _ _) rfl ?_
  refine r_put (zW_mono _ _ _) rfl f19 (Nat.le_of_ble_eq_true rfl) rfl rfl rfl ?_
  refine zR_nm (fun h20 e20 => ?_)
  have g20 := zgs e20 f19
  refine r_iinc (zW_mono _ _ _) rfl rfl (Nat.le_of_ble_eq_true rfl) ?_
  refine r_goto (zW_mono _ _ _) rfl ?_
  refine r_iload (zW_mono _ _ _) rfl rfl ?_
  refine r_if_lt (zW_mono _ _ _) rfl (fun q => absurd q (by decide +kernel)) (fun _ => ?_)
  refine r_aload (zW_mono _ _ _) rfl rfl ?_
  refine r_get (zW_mono _ _ _) rfl g20 rfl ?_
  refine r_push (zW_mono _ _ _) rfl ?_
  refine r_icmp_ge (zW_mono _ _ _) rfl (fun q => absurd q (by decide +kernel)) (fun _ => ?_)
  refine r_aload (zW_mono _ _ _) rfl rfl ?_
  refine r_get (zW_mono _ _ _) rfl g20 rfl ?_
  refine r_aload (zW_mono _ _ _) rfl rfl ?_
  refine r_get (zW_mono _ _ _) rfl g20 rfl ?_
  refine r_iload (zW_mono _ _ _) rfl rfl ?_
  refine r_iload (zW_mono _ _ _) rfl rfl ?_
  refine r_ishr (zW_mono _ _ _) rfl ?_
  refine r_i2b (zW_mono _ _ _) rfl ?_
  have f21 := (zgn e20 (by decide) g18)
  refine r_bast (zW_mono _ _ _) rfl f21 (vp_in_iff.mpr ⟨(by decide +kernel), (by decide +kernel)⟩) ?_
  refine zR_nm (fun h22 e22 => ?_)
  have g22 := zgs e22 f21
  refine r_aload (zW_mono _ _ _) rfl rfl ?_
  refine r_dup (zW_mono _ _ _) rfl rfl ?_
  have f23 := (zgn e22 (by decide) g20)
  refine r_get (zW_mono _ _ _) rfl f23 rfl ?_
  refine r_push (zW_mono _ _ _) rfl ?_
  refine r_iadd (zW_mono _ _ _) rfl ?_
  refine r_put (zW_mono _ _ _) rfl f23 (Nat.le_of_ble_eq_true rfl) rfl rfl rfl ?_
  refine zR_nm (fun h24 e24 => ?_)
  have g24 := zgs e24 f23
  refine r_iinc (zW_mono _ _ _) rfl rfl (Nat.le_of_ble_eq_true rfl) ?_
  refine r_goto (zW_mono _ _ _) rfl ?_
  refine r_iload (zW_mono _ _ _) rfl rfl ?_
  refine r_if_lt (zW_mono _ _ _) rfl (fun q => absurd q (by decide +kernel)) (fun _ => ?_)
  refine r_aload (zW_mono _ _ _) rfl rfl ?_
  refine r_get (zW_mono _ _ _) rfl g24 rfl ?_
  refine r_push (zW_mono _ _ _) rfl ?_
  refine r_icmp_ge (zW_mono _ _ _) rfl (fun q => absurd q (by decide +kernel)) (fun _ => ?_)
  refine r_aload (zW_mono _ _ _) rfl rfl ?_
  refine r_get (zW_mono _ _ _) rfl g24 rfl ?_
  refine r_aload (zW_mono _ _ _) rfl rfl ?_
  refine r_get (zW_mono _ _ _) rfl g24 rfl ?_
  refine r_iload (zW_mono _ _ _) rfl rfl ?_
  refine r_iload (zW_mono _ _ _) rfl rfl ?_
  refine r_ishr (zW_mono _ _ _) rfl ?_
  refine r_i2b (zW_mono _ _ _) rfl ?_
  have f25 := (zgn e24 (by decide) g22)
  refine r_bast (zW_mono _ _ _) rfl f25 (vp_in_iff.mpr ⟨(by decide +kernel), (by decide +kernel)⟩) ?_
  refine zR_nm (fun h26 e26 => ?_)
  have g26 := zgs e26 f25
  refine r_aload (zW_mono _ _ _) rfl rfl ?_
  refine r_dup (zW_mono _ _ _) rfl rfl ?_
  have f27 := (zgn e26 (by decide) g24)
  refine r_get (zW_mono _ _ _) rfl f27 rfl ?_
  refine r_push (zW_mono _ _ _) rfl ?_
  refine r_iadd (zW_mono _ _ _) rfl ?_
  refine r_put (zW_mono _ _ _) rfl f27 (Nat.le_of_ble_eq_true rfl) rfl rfl rfl ?_
  refine zR_nm (fun h28 e28 => ?_)
  have g28 := zgs e28 f27
  refine r_iinc (zW_mono _ _ _) rfl rfl (Nat.le_of_ble_eq_true rfl) ?_
  refine r_goto (zW_mono _ _ _) rfl ?_
  refine r_iload (zW_mono _ _ _) rfl rfl ?_
  refine r_if_lt (zW_mono _ _ _) rfl (fun q => absurd q (by decide +kernel)) (fun _ => ?_)
  refine r_aload (zW_mono _ _ _) rfl rfl ?_
  refine r_get (zW_mono _ _ _) rfl g28 rfl ?_
  refine r_push (zW_mono _ _ _) rfl ?_
  refine r_icmp_ge (zW_mono _ _ _) rfl (fun q => absurd q (by decide +kernel)) (fun _ => ?_)
  refine r_aload (zW_mono _ _ _) rfl rfl ?_
  refine r_get (zW_mono _ _ _) rfl g28 rfl ?_
  refine r_aload (zW_mono _ _ _) rfl rfl ?_
  refine r_get (zW_mono _ _ _) rfl g28 rfl ?_
  refine r_iload (zW_mono _ _ _) rfl rfl ?_
  refine r_iload (zW_mono _ _ _) rfl rfl ?_
  refine r_ishr (zW_mono _ _ _) rfl ?_
  refine r_i2b (zW_mono _ _ _) rfl ?_
  have f29 := (zgn e28 (by decide) g26)
  refine r_bast (zW_mono _ _ _) rfl f29 (vp_in_iff.mpr ⟨(by decide +kernel), (by decide +kernel)⟩) ?_
  refine zR_nm (fun h30 e30 => ?_)
  have g30 := zgs e30 f29
  refine r_aload (zW_mono _ _ _) rfl rfl ?_
  refine r_dup (zW_mono _ _ _) rfl rfl ?_
  have f31 := (zgn e30 (by decide) g28)
  refine r_get (zW_mono _ _ _) rfl f31 rfl ?_
  refine r_push (zW_mono _ _ _) rfl ?_
  refine r_iadd (zW_mono _ _ _) rfl ?_
  refine r_put (zW_mono _ _ _) rfl f31 (Nat.le_of_ble_eq_true rfl) rfl rfl rfl ?_
  refine zR_nm (fun h32 e32 => ?_)
  have g32 := zgs e32 f31
  refine r_iinc (zW_mono _ _ _) rfl rfl (Nat.le_of_ble_eq_true rfl) ?_
  refine r_goto (zW_mono _ _ _) rfl ?_
  refine r_iload (zW_mono _ _ _) rfl rfl ?_
  refine r_if_lt (zW_mono _ _ _) rfl (fun _ => ?_) (fun q => absurd q (by decide +kernel))
  refine r_vret (zW_mono _ _ _) rfl rfl ?_
  refine r_aload (zW_mono _ _ _) rfl rfl ?_
  have f33 := (zgn e32 (by decide) (zgn e30 (by decide) (zgn e28 (by decide) (zgn e26 (by decide) (zgn e24 (by decide) (zgn e22 (by decide) (zgn e20 (by decide) (zgn e18 (by decide) f16))))))))
  refine r_get (zW_mono _ _ _) rfl f33 rfl ?_
  refine r_iload (zW_mono _ _ _) rfl rfl ?_
  refine r_virt1 (zW_mono _ _ _) rfl g32 (Nat.le_of_ble_eq_true rfl) rfl (Nat.le_of_ble_eq_true rfl) (Nat.le_of_ble_eq_true rfl) ?_
  refine zW_in rfl (Nat.le_of_ble_eq_true rfl) ?_
  refine r_push (zW_mono _ _ _) rfl ?_
  refine r_istore (zW_mono _ _ _) rfl (Nat.le_of_ble_eq_true rfl) ?_
  refine r_iload (zW_mono _ _ _) rfl rfl ?_
  refine r_if_lt (zW_mono _ _ _) rfl (fun q => absurd q (by decide +kernel)) (fun _ => ?_)
  refine r_aload (zW_mono _ _ _) rfl rfl ?_
  refine r_get (zW_mono _ _ _) rfl g32 rfl ?_
  refine r_push (zW_mono _ _ _) rfl ?_
  refine r_icmp_ge (zW_mono _ _ _) rfl (fun q => absurd q (by decide +kernel)) (fun _ => ?_)
  refine r_aload (zW_mono _ _ _) rfl rfl ?_
  refine r_get (zW_mono _ _ _) rfl g32 rfl ?_
  refine r_aload (zW_mono _ _ _) rfl rfl ?_
  refine r_get (zW_mono _ _ _) rfl g32 rfl ?_
  refine r_iload (zW_mono _ _ _) rfl rfl ?_
  refine r_iload (zW_mono _ _ _) rfl rfl ?_
  refine r_ishr (zW_mono _ _ _) rfl ?_
  refine r_i2b (zW_mono _ _ _) rfl ?_
  have f34 := (zgn e32 (by decide) g30)
  refine r_bast (zW_mono _ _ _) rfl f34 (vp_in_iff.mpr ⟨(by decide +kernel), (by decide +kernel)⟩) ?_
  refine zR_nm (fun h35 e35 => ?_)
  have g35 := zgs e35 f34
  refine r_aload (zW_mono _ _ _) rfl rfl ?_
  refine r_dup (zW_mono _ _ _) rfl rfl ?_
  have f36 := (zgn e35 (by decide) g32)
  refine r_get (zW_mono _ _ _) rfl f36 rfl ?_
  refine r_push (zW_mono _ _ _) rfl ?_
  refine r_iadd (zW_mono _ _ _) rfl ?_
  refine r_put (zW_mono _ _ _) rfl f36 (Nat.le_of_ble_eq_true rfl) rfl rfl rfl ?_
  refine zR_nm (fun h37 e37 => ?_)
  have g37 := zgs e37 f36
  refine r_iinc (zW_mono _ _ _) rfl rfl (Nat.le_of_ble_eq_true rfl) ?_
  refine r_goto (zW_mono _ _ _) rfl ?_
  refine r_iload (zW_mono _ _ _) rfl rfl ?_
  refine r_if_lt (zW_mono _ _ _) rfl (fun q => absurd q (by decide +kernel)) (fun _ => ?_)
  refine r_aload (zW_mono _ _ _) rfl rfl ?_
  refine r_get (zW_mono _ _ _) rfl g37 rfl ?_
  refine r_push (zW_mono _ _ _) rfl ?_
  refine r_icmp_ge (zW_mono _ _ _) rfl (fun q => absurd q (by decide +kernel)) (fun _ => ?_)
  refine r_aload (zW_mono _ _ _) rfl rfl ?_
  refine r_get (zW_mono _ _ _) rfl g37 rfl ?_
  refine r_aload (zW_mono _ _ _) rfl rfl ?_
  refine r_get (zW_mono _ _ _) rfl g37 rfl ?_
  refine r_iload (zW_mono _ _ _) rfl rfl ?_
  refine r_iload (zW_mono _ _ _) rfl rfl ?_
  refine r_ishr (zW_mono _ _ _) rfl ?_
  refine r_i2b (zW_mono _ _ _) rfl ?_
  have f38 := (zgn e37 (by decide) g35)
  refine r_bast (zW_mono _ _ _) rfl f38 (vp_in_iff.mpr ⟨(by decide +kernel), (by decide +kernel)⟩) ?_
  refine zR_nm (fun h39 e39 => ?_)
  have g39 := zgs e39 f38
  refine r_aload (zW_mono _ _ _) rfl rfl ?_
  refine r_dup (zW_mono _ _ _) rfl rfl ?_
  have f40 := (zgn e39 (by decide) g37)
  refine r_get (zW_mono _ _ _) rfl f40 rfl ?_
  refine r_push (zW_mono _ _ _) rfl ?_
  refine r_iadd (zW_mono _ _ _) rfl ?_
  refine r_put (zW_mono _ _ _) rfl f40 (Nat.le_of_ble_eq_true rfl) rfl rfl rfl ?_
  refine zR_nm (fun h41 e41 => ?_)
  have g41 := zgs e41 f40
  refine r_iinc (zW_mono _ _ _) rfl rfl (Nat.le_of_ble_eq_true rfl) ?_
  refine r_goto (zW_mono _ _ _) rfl ?_
  refine r_iload (zW_mono _ _ _) rfl rfl ?_
  refine r_if_lt (zW_mono _ _ _) rfl (fun q => absurd q (by decide +kernel)) (fun _ => ?_)
  refine r_aload (zW_mono _ _ _) rfl rfl ?_
  refine r_get (zW_mono _ _ _) rfl g41 rfl ?_
  refine r_push (zW_mono _ _ _) rfl ?_
  refine r_icmp_ge (zW_mono _ _ _) rfl (fun q => absurd q (by decide +kernel)) (fun _ => ?_)
  refine r_aload (zW_mono _ _ _) rfl rfl ?_
  refine r_get (zW_mono _ _ _) rfl g41 rfl ?_
  refine r_aload (zW_mono _ _ _) rfl rfl ?_
  refine r_get (zW_mono _ _ _) rfl g41 rfl ?_
  refine r_iload (zW_mono _ _ _) rfl rfl ?_
  refine r_iload (zW_mono _ _ _) rfl rfl ?_
  refine r_ishr (zW_mono _ _ _) rfl ?_
  refine r_i2b (zW_mono _ _ _) rfl ?_
  have f42 := (zgn e41 (by decide) g39)
  refine r_bast (zW_mono _ _ _) rfl f42 (vp_in_iff.mpr ⟨(by decide +kernel), (by decide +kernel)⟩) ?_
  refine zR_nm (fun h43 e43 => ?_)
  have g43 := zgs e43 f42
  refine r_aload (zW_mono _ _ _) rfl rfl ?_
  refine r_dup (zW_mono _ _ _) rfl rfl ?_
  have f44 := (zgn e43 (by decide) g41)
  refine r_get (zW_mono _ _ _) rfl f44 rfl ?_
  refine r_push (zW_mono _ _ _) rfl ?_
  refine r_iadd (zW_mono _ _ _) rfl ?_
  refine r_put (zW_mono _ _ _) rfl f44 (Nat.le_of_ble_eq_true rfl) rfl rfl rfl ?_
  refine zR_nm (fun h45 e45 => ?_)
  have g45 := zgs e45 f44
  refine r_iinc (zW_mono _ _ _) rfl rfl (Nat.le_of_ble_eq_true rfl) ?_
  refine r_goto (zW_mono _ _ _) rfl ?_
  refine r_iload (zW_mono _ _ _) rfl rfl ?_
  refine r_if_lt (zW_mono _ _ _) rfl (fun q => absurd q (by decide +kernel)) (fun _ => ?_)
  refine r_aload (zW_mono _ _ _) rfl rfl ?_
  refine r_get (zW_mono _ _ _) rfl g45 rfl ?_
  refine r_push (zW_mono _ _ _) rfl ?_
  refine r_icmp_ge (zW_mono _ _ _) rfl (fun q => absurd q (by decide +kernel)) (fun _ => ?_)
  refine r_aload (zW_mono _ _ _) rfl rfl ?_
  refine r_get (zW_mono _ _ _) rfl g45 rfl ?_
  refine r_aload (zW_mono _ _ _) rfl rfl ?_
  refine r_get (zW_mono _ _ _) rfl g45 rfl ?_
  refine r_iload (zW_mono _ _ _) rfl rfl ?_
  refine r_iload (zW_mono _ _ _) rfl rfl ?_
  refine r_ishr (zW_mono _ _ _) rfl ?_
  refine r_i2b (zW_mono _ _ _) rfl ?_
  have f46 := (zgn e45 (by decide) g43)
  refine r_bast (zW_mono _ _ _) rfl f46 (vp_in_iff.mpr ⟨(by decide +kernel), (by decide +kernel)⟩) ?_
  refine zR_nm (fun h47 e47 => ?_)
  have g47 := zgs e47 f46
  refine r_aload (zW_mono _ _ _) rfl rfl ?_
  refine r_dup (zW_mono _ _ _) rfl rfl ?_
  have f48 := (zgn e47 (by decide) g45)
  refine r_get (zW_mono _ _ _) rfl f48 rfl ?_
  refine r_push (zW_mono _ _ _) rfl ?_
  refine r_iadd (zW_mono _ _ _) rfl ?_
  refine r_put (zW_mono _ _ _) rfl f48 (Nat.le_of_ble_eq_true rfl) rfl rfl rfl ?_
  refine zR_nm (fun h49 e49 => ?_)
  have g49 := zgs e49 f48
  refine r_iinc (zW_mono _ _ _) rfl rfl (Nat.le_of_ble_eq_true rfl) ?_
  refine r_goto (zW_mono _ _ _) rfl ?_
  refine r_iload (zW_mono _ _ _) rfl rfl ?_
  refine r_if_lt (zW_mono _ _ _) rfl (fun _ => ?_) (fun q => absurd q (by decide +kernel))
  refine r_vret (zW_mono _ _ _) rfl rfl ?_
  refine r_aload (zW_mono _ _ _) rfl rfl ?_
  have f50 := (zgn e49 (by decide) (zgn e47 (by decide) (zgn e45 (by decide) (zgn e43 (by decide) (zgn e41 (by decide) (zgn e39 (by decide) (zgn e37 (by decide) (zgn e35 (by decide) f33))))))))
  refine r_get (zW_mono _ _ _) rfl f50 rfl ?_
  refine r_iload (zW_mono _ _ _) rfl rfl ?_
  refine r_virt1 (zW_mono _ _ _) rfl g49 (Nat.le_of_ble_eq_true rfl) rfl (Nat.le_of_ble_eq_true rfl) (Nat.le_of_ble_eq_true rfl) ?_
  refine zW_in rfl (Nat.le_of_ble_eq_true rfl) ?_
  refine r_push (zW_mono _ _ _) rfl ?_
  refine r_istore (zW_mono _ _ _) rfl (Nat.le_of_ble_eq_true rfl) ?_
  refine r_iload (zW_mono _ _ _) rfl rfl ?_
  refine r_if_lt (zW_mono _ _ _) rfl (fun q => absurd q (by decide +kernel)) (fun _ => ?_)
  refine r_aload (zW_mono _ _ _) rfl rfl ?_
  refine r_get (zW_mono _ _ _) rfl g49 rfl ?_
  refine r_push (zW_mono _ _ _) rfl ?_
  refine r_icmp_ge (zW_mono _ _ _) rfl (fun q => absurd q (by decide +kernel)) (fun _ => ?_)
  refine r_aload (zW_mono _ _ _) rfl rfl ?_
  refine r_get (zW_mono _ _ _) rfl g49 rfl ?_
  refine r_aload (zW_mono _ _ _) rfl rfl ?_
  refine r_get (zW_mono _ _ _) rfl g49 rfl ?_
  refine r_iload (zW_mono _ _ _) rfl rfl ?_
  refine r_iload (zW_mono _ _ _) rfl rfl ?_
  refine r_ishr (zW_mono _ _ _) rfl ?_
  refine r_i2b (zW_mono _ _ _) rfl ?_
  have f51 := (zgn e49 (by decide) g47)
  refine r_bast (zW_mono _ _ _) rfl f51 (vp_in_iff.mpr ⟨(by decide +kernel), (by decide +kernel)⟩) ?_
  refine zR_nm (fun h52 e52 => ?_)
  have g52 := zgs e52 f51
  refine r_aload (zW_mono _ _ _) rfl rfl ?_
  refine r_dup (zW_mono _ _ _) rfl rfl ?_
  have f53 := (zgn e52 (by decide) g49)
  refine r_get (zW_mono _ _ _) rfl f53 rfl ?_
  refine r_push (zW_mono _ _ _) rfl ?_
  refine r_iadd (zW_mono _ _ _) rfl ?_
  refine r_put (zW_mono _ _ _) rfl f53 (Nat.le_of_ble_eq_true rfl) rfl rfl rfl ?_
  refine zR_nm (fun h54 e54 => ?_)
  have g54 := zgs e54 f53
  refine r_iinc (zW_mono _ _ _) rfl rfl (Nat.le_of_ble_eq_true rfl) ?_
  refine r_goto (zW_mono _ _ _) rfl ?_
  refine r_iload (zW_mono _ _ _) rfl rfl ?_
  refine r_if_lt (zW_mono _ _ _) rfl (fun q => absurd q (by decide +kernel)) (fun _ => ?_)
  refine r_aload (zW_mono _ _ _) rfl rfl ?_
  refine r_get (zW_mono _ _ _) rfl g54 rfl ?_
  refine r_push (zW_mono _ _ _) rfl ?_
  refine r_icmp_ge (zW_mono _ _ _) rfl (fun q => absurd q (by decide +kernel)) (fun _ => ?_)
  refine r_aload (zW_mono _ _ _) rfl rfl ?_
  refine r_get (zW_mono _ _ _) rfl g54 rfl ?_
  refine r_aload (zW_mono _ _ _) rfl rfl ?_
  refine r_get (zW_mono _ _ _) rfl g54 rfl ?_
  refine r_iload (zW_mono _ _ _) rfl rfl ?_
  refine r_iload (zW_mono _ _ _) rfl rfl ?_
  refine r_ishr (zW_mono _ _ _) rfl ?_
  refine r_i2b (zW_mono _ _ _) rfl ?_
  have f55 := (zgn e54 (by decide) g52)
  refine r_bast (zW_mono _ _ _) rfl f55 (vp_in_iff.mpr ⟨(by decide +kernel), (by decide +kernel)⟩) ?_
  refine zR_nm (fun h56 e56 => ?_)
  have g56 := zgs e56 f55
  refine r_aload (zW_mono _ _ _) rfl rfl ?_
  refine r_dup (zW_mono _ _ _) rfl rfl ?_
  have f57 := (zgn e56 (by decide) g54)
  refine r_get (zW_mono _ _ _) rfl f57 rfl ?_
  refine r_push (zW_mono _ _ _) rfl ?_
  refine r_iadd (zW_mono _ _ _) rfl ?_
  refine r_put (zW_mono _ _ _) rfl f57 (Nat.le_of_ble_eq_true rfl) rfl rfl rfl ?_
  refine zR_nm (fun h58 e58 => ?_)
  have g58 := zgs e58 f57
  refine r_iinc (zW_mono _ _ _) rfl rfl (Nat.le_of_ble_eq_true rfl) ?_
  refine r_goto (zW_mono _ _ _) rfl ?_
  refine r_iload (zW_mono _ _ _) rfl rfl ?_
  refine r_if_lt (zW_mono _ _ _) rfl (fun q => absurd q (by decide +kernel)) (fun _ => ?_)
  refine r_aload (zW_mono _ _ _) rfl rfl ?_
  refine r_get (zW_mono _ _ _) rfl g58 rfl ?_
  refine r_push (zW_mono _ _ _) rfl ?_
  refine r_icmp_ge (zW_mono _ _ _) rfl (fun q => absurd q (by decide +kernel)) (fun _ => ?_)
  refine r_aload (zW_mono _ _ _) rfl rfl ?_
  refine r_get (zW_mono _ _ _) rfl g58 rfl ?_
  refine r_aload (zW_mono _ _ _) rfl rfl ?_
  refine r_get (zW_mono _ _ _) rfl g58 rfl ?_
  refine r_iload (zW_mono _ _ _) rfl rfl ?_
  refine r_iload (zW_mono _ _ _) rfl rfl ?_
  refine r_ishr (zW_mono _ _ _) rfl ?_
  refine r_i2b (zW_mono _ _ _) rfl ?_
  have f59 := (zgn e58 (by decide) g56)
  refine r_bast (zW_mono _ _ _) rfl f59 (vp_in_iff.mpr ⟨(by decide +kernel), (by decide +kernel)⟩) ?_
  refine zR_nm (fun h60 e60 => ?_)
  have g60 := zgs e60 f59
  refine r_aload (zW_mono _ _ _) rfl rfl ?_
  refine r_dup (zW_mono _ _ _) rfl rfl ?_
  have f61 := (zgn e60 (by decide) g58)
  refine r_get (zW_mono _ _ _) rfl f61 rfl ?_
  refine r_push (zW_mono _ _ _) rfl ?_
  refine r_iadd (zW_mono _ _ _) rfl ?_
  refine r_put (zW_mono _ _ _) rfl f61 (Nat.le_of_ble_eq_true rfl) rfl rfl rfl ?_
  refine zR_nm (fun h62 e62 => ?_)
  have g62 := zgs e62 f61
  refine r_iinc (zW_mono _ _ _) rfl rfl (Nat.le_of_ble_eq_true rfl) ?_
  refine r_goto (zW_mono _ _ _) rfl ?_
  refine r_iload (zW_mono _ _ _) rfl rfl ?_
  refine r_if_lt (zW_mono _ _ _) rfl (fun q => absurd q (by decide +kernel)) (fun _ => ?_)
  refine r_aload (zW_mono _ _ _) rfl rfl ?_
  refine r_get (zW_mono _ _ _) rfl g62 rfl ?_
  refine r_push (zW_mono _ _ _) rfl ?_
  refine r_icmp_ge (zW_mono _ _ _) rfl (fun q => absurd q (by decide +kernel)) (fun _ => ?_)
  refine r_aload (zW_mono _ _ _) rfl rfl ?_
  refine r_get (zW_mono _ _ _) rfl g62 rfl ?_
  refine r_aload (zW_mono _ _ _) rfl rfl ?_
  refine r_get (zW_mono _ _ _) rfl g62 rfl ?_
  refine r_iload (zW_mono _ _ _) rfl rfl ?_
  refine r_iload (zW_mono _ _ _) rfl rfl ?_
  refine r_ishr (zW_mono _ _ _) rfl ?_
  refine r_i2b (zW_mono _ _ _) rfl ?_
  have f63 := (zgn e62 (by decide) g60)
  refine r_bast (zW_mono _ _ _) rfl f63 (vp_in_iff.mpr ⟨(by decide +kernel), (by decide +kernel)⟩) ?_
  refine zR_nm (fun h64 e64 => ?_)
  have g64 := zgs e64 f63
  refine r_aload (zW_mono _ _ _) rfl rfl ?_
  refine r_dup (zW_mono _ _ _) rfl rfl ?_
  have f65 := (zgn e64 (by decide) g62)
  refine r_get (zW_mono _ _ _) rfl f65 rfl ?_
  refine r_push (zW_mono _ _ _) rfl ?_
  refine r_iadd (zW_mono _ _ _) rfl ?_
  refine r_put (zW_mono _ _ _) rfl f65 (Nat.le_of_ble_eq_true rfl) rfl rfl rfl ?_
  refine zR_nm (fun h66 e66 => ?_)
  have g66 := zgs e66 f65
  refine r_iinc (zW_mono _ _ _) rfl rfl (Nat.le_of_ble_eq_true rfl) ?_
  refine r_goto (zW_mono _ _ _) rfl ?_
  refine r_iload (zW_mono _ _ _) rfl rfl ?_
  refine r_if_lt (zW_mono _ _ _) rfl (fun _ => ?_) (fun q => absurd q (by decide +kernel))
  refine r_vret (zW_mono _ _ _) rfl rfl ?_
  refine r_aload (zW_mono _ _ _) rfl rfl ?_
  have f67 := (zgn e66 (by decide) (zgn e64 (by decide) (zgn e62 (by decide) (zgn e60 (by decide) (zgn e58 (by decide) (zgn e56 (by decide) (zgn e54 (by decide) (zgn e52 (by decide) f50))))))))
  refine r_get (zW_mono _ _ _) rfl f67 rfl ?_
  refine r_iload (zW_mono _ _ _) rfl rfl ?_
  refine r_virt1 (zW_mono _ _ _) rfl g66 (Nat.le_of_ble_eq_true rfl) rfl (Nat.le_of_ble_eq_true rfl) (Nat.le_of_ble_eq_true rfl) ?_
  refine zW_in rfl (Nat.le_of_ble_eq_true rfl) ?_
  refine r_push (zW_mono _ _ _) rfl ?_
  refine r_istore (zW_mono _ _ _) rfl (Nat.le_of_ble_eq_true rfl) ?_
  refine r_iload (zW_mono _ _ _) rfl rfl ?_
  refine r_if_lt (zW_mono _ _ _) rfl (fun q => absurd q (by decide +kernel)) (fun _ => ?_)
  refine r_aload (zW_mono _ _ _) rfl rfl ?_
  refine r_get (zW_mono _ _ _) rfl g66 rfl ?_
  refine r_push (zW_mono _ _ _) rfl ?_
  refine r_icmp_ge (zW_mono _ _ _) rfl (fun q => absurd q (by decide +kernel)) (fun _ => ?_)
  refine r_aload (zW_mono _ _ _) rfl rfl ?_
  refine r_get (zW_mono _ _ _) rfl g66 rfl ?_
  refine r_aload (zW_mono _ _ _) rfl rfl ?_
  refine r_get (zW_mono _ _ _) rfl g66 rfl ?_
  refine r_iload (zW_mono _ _ _) rfl rfl ?_
  refine r_iload (zW_mono _ _ _) rfl rfl ?_
  refine r_ishr (zW_mono _ _ _) rfl ?_
  refine r_i2b (zW_mono _ _ _) rfl ?_
  have f68 := (zgn e66 (by decide) g64)
  refine r_bast (zW_mono _ _ _) rfl f68 (vp_in_iff.mpr ⟨(by decide +kernel), (by decide +kernel)⟩) ?_
  refine zR_nm (fun h69 e69 => ?_)
  have g69 := zgs e69 f68
  refine r_aload (zW_mono _ _ _) rfl rfl ?_
  refine r_dup (zW_mono _ _ _) rfl rfl ?_
  have f70 := (zgn e69 (by decide) g66)
  refine r_get (zW_mono _ _ _) rfl f70 rfl ?_
  refine r_push (zW_mono _ _ _) rfl ?_
  refine r_iadd (zW_mono _ _ _) rfl ?_
  refine r_put (zW_mono _ _ _) rfl f70 (Nat.le_of_ble_eq_true rfl) rfl rfl rfl ?_
  refine zR_nm (fun h71 e71 => ?_)
  have g71 := zgs e71 f70
  refine r_iinc (zW_mono _ _ _) rfl rfl (Nat.le_of_ble_eq_true rfl) ?_
  refine r_goto (zW_mono _ _ _) rfl ?_
  refine r_iload (zW_mono _ _ _) rfl rfl ?_
  refine r_if_lt (zW_mono _ _ _) rfl (fun q => absurd q (by decide +kernel)) (fun _ => ?_)
  refine r_aload (zW_mono _ _ _) rfl rfl ?_
  refine r_get (zW_mono _ _ _) rfl g71 rfl ?_
  refine r_push (zW_mono _ _ _) rfl ?_
  refine r_icmp_ge (zW_mono _ _ _) rfl (fun q => absurd q (by decide +kernel)) (fun _ => ?_)
  refine r_aload (zW_mono _ _ _) rfl rfl ?_
  refine r_get (zW_mono _ _ _) rfl g71 rfl ?_
  refine r_aload (zW_mono _ _ _) rfl rfl ?_
  refine r_get (zW_mono _ _ _) rfl g71 rfl ?_
  refine r_iload (zW_mono _ _ _) rfl rfl ?_
  refine r_iload (zW_mono _ _ _) rfl rfl ?_
  refine r_ishr (zW_mono _ _ _) rfl ?_
  refine r_i2b (zW_mono _ _ _) rfl ?_
  have f72 := (zgn e71 (by decide) g69)
  refine r_bast (zW_mono _ _ _) rfl f72 (vp_in_iff.mpr ⟨(by decide +kernel), (by decide +kernel)⟩) ?_
  refine zR_nm (fun h73 e73 => ?_)
  have g73 := zgs e73 f72
  refine r_aload (zW_mono _ _ _) rfl rfl ?_
  refine r_dup (zW_mono _ _ _) rfl rfl ?_
  have f74 := (zgn e73 (by decide) g71)
  refine r_get (zW_mono _ _ _) rfl f74 rfl ?_
  refine r_push (zW_mono _ _ _) rfl ?_
  refine r_iadd (zW_mono _ _ _) rfl ?_
  refine r_put (zW_mono _ _ _) rfl f74 (Nat.le_of_ble_eq_true rfl) rfl rfl rfl ?_
  refine zR_nm (fun h75 e75 => ?_)
  have g75 := zgs e75 f74
  refine r_iinc (zW_mono _ _ _) rfl rfl (Nat.le_of_ble_eq_true rfl) ?_
  refine r_goto (zW_mono _ _ _) rfl ?_
  refine r_iload (zW_mono _ _ _) rfl rfl ?_
  refine r_if_lt (zW_mono _ _ _) rfl (fun q => absurd q (by decide +kernel)) (fun _ => ?_)
  refine r_aload (zW_mono _ _ _) rfl rfl ?_
  refine r_get (zW_mono _ _ _) rfl g75 rfl ?_
  refine r_push (zW_mono _ _ _) rfl ?_
  refine r_icmp_ge (zW_mono _ _ _) rfl (fun q => absurd q (by decide +kernel)) (fun _ => ?_)
  refine r_aload (zW_mono _ _ _) rfl rfl ?_
  refine r_get (zW_mono _ _ _) rfl g75 rfl ?_
  refine r_aload (zW_mono _ _ _) rfl rfl ?_
  refine r_get (zW_mono _ _ _) rfl g75 rfl ?_
  refine r_iload (zW_mono _ _ _) rfl rfl ?_
  refine r_iload (zW_mono _ _ _) rfl rfl ?_
  refine r_ishr (zW_mono _ _ _) rfl ?_
  refine r_i2b (zW_mono _ _ _) rfl ?_
  have f76 := (zgn e75 (by decide) g73)
  refine r_bast (zW_mono _ _ _) rfl f76 (vp_in_iff.mpr ⟨(by decide +kernel), (by decide +kernel)⟩) ?_
  refine zR_nm (fun h77 e77 => ?_)
  have g77 := zgs e77 f76
  refine r_aload (zW_mono _ _ _) rfl rfl ?_
  refine r_dup (zW_mono _ _ _) rfl rfl ?_
  have f78 := (zgn e77 (by decide) g75)
  refine r_get (zW_mono _ _ _) rfl f78 rfl ?_
  refine r_push (zW_mono _ _ _) rfl ?_
  refine r_iadd (zW_mono _ _ _) rfl ?_
  refine r_put (zW_mono _ _ _) rfl f78 (Nat.le_of_ble_eq_true rfl) rfl rfl rfl ?_
  refine zR_nm (fun h79 e79 => ?_)
  have g79 := zgs e79 f78
  refine r_iinc (zW_mono _ _ _) rfl rfl (Nat.le_of_ble_eq_true rfl) ?_
  refine r_goto (zW_mono _ _ _) rfl ?_
  refine r_iload (zW_mono _ _ _) rfl rfl ?_
  refine r_if_lt (zW_mono _ _ _) rfl (fun q => absurd q (by decide +kernel)) (fun _ => ?_)
  refine r_aload (zW_mono _ _ _) rfl rfl ?_
  refine r_get (zW_mono _ _ _) rfl g79 rfl ?_
  refine r_push (zW_mono _ _ _) rfl ?_
  refine r_icmp_ge (zW_mono _ _ _) rfl (fun q => absurd q (by decide +kernel)) (fun _ => ?_)
  refine r_aload (zW_mono _ _ _) rfl rfl ?_
  refine r_get (zW_mono _ _ _) rfl g79 rfl ?_
  refine r_aload (zW_mono _ _ _) rfl rfl ?_
  refine r_get (zW_mono _ _ _) rfl g79 rfl ?_
  refine r_iload (zW_mono _ _ _) rfl rfl ?_
  refine r_iload (zW_mono _ _ _) rfl rfl ?_
  refine r_ishr (zW_mono _ _ _) rfl ?_
  refine r_i2b (zW_mono _ _ _) rfl ?_
  have f80 := (zgn e79 (by decide) g77)
  refine r_bast (zW_mono _ _ _) rfl f80 (vp_in_iff.mpr ⟨(by decide +kernel), (by decide +kernel)⟩) ?_
  refine zR_nm (fun h81 e81 => ?_)
  have g81 := zgs e81 f80
  refine r_aload (zW_mono _ _ _) rfl rfl ?_
  refine r_dup (zW_mono _ _ _) rfl rfl ?_
  have f82 := (zgn e81 (by decide) g79)
  refine r_get (zW_mono _ _ _) rfl f82 rfl ?_
  refine r_push (zW_mono _ _ _) rfl ?_
  refine r_iadd (zW_mono _ _ _) rfl ?_
  refine r_put (zW_mono _ _ _) rfl f82 (Nat.le_of_ble_eq_true rfl) rfl rfl rfl ?_
  refine zR_nm (fun h83 e83 => ?_)
  have g83 := zgs e83 f82
  refine r_iinc (zW_mono _ _ _) rfl rfl (Nat.le_of_ble_eq_true rfl) ?_
  refine r_goto (zW_mono _ _ _) rfl ?_
  refine r_iload (zW_mono _ _ _) rfl rfl ?_
  refine r_if_lt (zW_mono _ _ _) rfl (fun _ => ?_) (fun q => absurd q (by decide +kernel))
  refine r_vret (zW_mono _ _ _) rfl rfl ?_
  refine r_aload (zW_mono _ _ _) rfl rfl ?_
  have f84 := (zgn e83 (by decide) (zgn e81 (by decide) (zgn e79 (by decide) (zgn e77 (by decide) (zgn e75 (by decide) (zgn e73 (by decide) (zgn e71 (by decide) (zgn e69 (by decide) f67))))))))
  refine r_get (zW_mono _ _ _) rfl f84 rfl ?_
  refine r_get (zW_mono _ _ _) rfl g83 rfl ?_
  refine r_iret (zW_mono _ _ _) rfl rfl rfl ?_
  have f85 := (zgn e83 (by decide) (zgn e81 (by decide) (zgn e79 (by decide) (zgn e77 (by decide) (zgn e75 (by decide) (zgn e73 (by decide) (zgn e71 (by decide) (zgn e69 (by decide) (zgn e66 (by decide) (zgn e64 (by decide) (zgn e62 (by decide) (zgn e60 (by decide) (zgn e58 (by decide) (zgn e56 (by decide) (zgn e54 (by decide) (zgn e52 (by decide) (zgn e49 (by decide) (zgn e47 (by decide) (zgn e45 (by decide) (zgn e43 (by decide) (zgn e41 (by decide) (zgn e39 (by decide) (zgn e37 (by decide) (zgn e35 (by decide) (zgn e32 (by decide) (zgn e30 (by decide) (zgn e28 (by decide) (zgn e26 (by decide) (zgn e24 (by decide) (zgn e22 (by decide) (zgn e20 (by decide) (zgn e18 (by decide) (zgn e15 (by decide) (zgn e13 (by decide) (zgn e11 (by decide) (zgn e9 (by decide) (zgn e7 (by decide) (zgn e5 (by decide) (zgn e3 (by decide) (zgn e1 (by decide) hx_111))))))))))))))))))))))))))))))))))))))))
  refine ⟨_, rfl, ⟨_, f85⟩, ?_⟩
  refine zW_in rfl (Nat.le_of_ble_eq_true rfl) ?_
  refine r_aload (zW_mono _ _ _) rfl rfl ?_
  refine r_get (zW_mono _ _ _) rfl f85 rfl ?_
  refine r_push (zW_mono _ _ _) rfl ?_
  refine r_iadd (zW_mono _ _ _) rfl ?_
  refine r_push (zW_mono _ _ _) rfl ?_
  refine r_icmp_le (zW_mono _ _ _) rfl (fun _ => ?_) (fun q => absurd q (by decide +kernel))
  refine r_aload (zW_mono _ _ _) rfl rfl ?_
  refine r_iload (zW_mono _ _ _) rfl rfl ?_
  refine r_virt1 (zW_mono _ _ _) rfl f85 (Nat.le_of_ble_eq_true rfl) rfl (Nat.le_of_ble_eq_true rfl) (Nat.le_of_ble_eq_true rfl) ?_
  refine zW_in rfl (Nat.le_of_ble_eq_true rfl) ?_
  refine r_push (zW_mono _ _ _) rfl ?_
  refine r_istore (zW_mono _ _ _) rfl (Nat.le_of_ble_eq_true rfl) ?_
  refine r_iload (zW_mono _ _ _) rfl rfl ?_
  refine r_if_lt (zW_mono _ _ _) rfl (fun q => absurd q (by decide +kernel)) (fun _ => ?_)
  refine r_aload (zW_mono _ _ _) rfl rfl ?_
  refine r_get (zW_mono _ _ _) rfl f85 rfl ?_
  refine r_aload (zW_mono _ _ _) rfl rfl ?_
  refine r_get (zW_mono _ _ _) rfl f85 rfl ?_
  refine r_iload (zW_mono _ _ _) rfl rfl ?_
  refine r_iload (zW_mono _ _ _) rfl rfl ?_
  refine r_ishr (zW_mono _ _ _) rfl ?_
  refine r_i2b (zW_mono _ _ _) rfl ?_
  have f86 := (zgn e83 (by decide) (zgn e81 (by decide) (zgn e79 (by decide) (zgn e77 (by decide) (zgn e75 (by decide) (zgn e73 (by decide) (zgn e71 (by decide) (zgn e69 (by decide) (zgn e66 (by decide) (zgn e64 (by decide) (zgn e62 (by decide) (zgn e60 (by decide) (zgn e58 (by decide) (zgn e56 (by decide) (zgn e54 (by decide) (zgn e52 (by decide) (zgn e49 (by decide) (zgn e47 (by decide) (zgn e45 (by decide) (zgn e43 (by decide) (zgn e41 (by decide) (zgn e39 (by decide) (zgn e37 (by decide) (zgn e35 (by decide) (zgn e32 (by decide) (zgn e30 (by decide) (zgn e28 (by decide) (zgn e26 (by decide) (zgn e24 (by decide) (zgn e22 (by decide) (zgn e20 (by decide) (zgn e18 (by decide) (zgn e15 (by decide) (zgn e13 (by decide) (zgn e11 (by decide) (zgn e9 (by decide) (zgn e7 (by decide) (zgn e5 (by decide) (zgn e3 (by decide) (zgn e1 (by decide) hx_132))))))))))))))))))))))))))))))))))))))))
  refine r_bast (zW_mono _ _ _) rfl f86 (vp_in_iff.mpr ⟨(by decide +kernel), (by decide +kernel)⟩) ?_
  refine zR_nm (fun h87 e87 => ?_)
  have g87 := zgs e87 f86
  refine r_aload (zW_mono _ _ _) rfl rfl ?_
  refine r_dup (zW_mono _ _ _) rfl rfl ?_
  have f88 := (zgn e87 (by decide) f85)
  refine r_get (zW_mono _ _ _) rfl f88 rfl ?_
  refine r_push (zW_mono _ _ _) rfl ?_
  refine r_iadd (zW_mono _ _ _) rfl ?_
  refine r_put (zW_mono _ _ _) rfl f88 (Nat.le_of_ble_eq_true rfl) rfl rfl rfl ?_
  refine zR_nm (fun h89 e89 => ?_)
  have g89 := zgs e89 f88
  refine r_iinc (zW_mono _ _ _) rfl rfl (Nat.le_of_ble_eq_true rfl) ?_
  refine r_goto (zW_mono _ _ _) rfl ?_
  refine r_iload (zW_mono _ _ _) rfl rfl ?_
  refine r_if_lt (zW_mono _ _ _) rfl (fun q => absurd q (by decide +kernel)) (fun _ => ?_)
  refine r_aload (zW_mono _ _ _) rfl rfl ?_
  refine r_get (zW_mono _ _ _) rfl g89 rfl ?_
  refine r_aload (zW_mono _ _ _) rfl rfl ?_
  refine r_get (zW_mono _ _ _) rfl g89 rfl ?_
  refine r_iload (zW_mono _ _ _) rfl rfl ?_
  refine r_iload (zW_mono _ _ _) rfl rfl ?_
  refine r_ishr (zW_mono _ _ _) rfl ?_
  refine r_i2b (zW_mono _ _ _) rfl ?_
  have f90 := (zgn e89 (by decide) g87)
  refine r_bast (zW_mono _ _ _) rfl f90 (vp_in_iff.mpr ⟨(by decide +kernel), (by decide +kernel)⟩) ?_
  refine zR_nm (fun h91 e91 => ?_)
  have g91 := zgs e91 f90
  refine r_aload (zW_mono _ _ _) rfl rfl ?_
  refine r_dup (zW_mono _ _ _) rfl rfl ?_
  have f92 := (zgn e91 (by decide) g89)
  refine r_get (zW_mono _ _ _) rfl f92 rfl ?_
  refine r_push (zW_mono _ _ _) rfl ?_
  refine r_iadd (zW_mono _ _ _) rfl ?_
  refine r_put (zW_mono _ _ _) rfl f92 (Nat.le_of_ble_eq_true rfl) rfl rfl rfl ?_
  refine zR_nm (fun h93 e93 => ?_)
  have g93 := zgs e93 f92
  refine r_iinc (zW_mono _ _ _) rfl rfl (Nat.le_of_ble_eq_true rfl) ?_
  refine r_goto (zW_mono _ _ _) rfl ?_
  refine r_iload (zW_mono _ _ _) rfl rfl ?_
  refine r_if_lt (zW_mono _ _ _) rfl (fun q => absurd q (by decide +kernel)) (fun _ => ?_)
  refine r_aload (zW_mono _ _ _) rfl rfl ?_
  refine r_get (zW_mono _ _ _) rfl g93 rfl ?_
  refine r_aload (zW_mono _ _ _) rfl rfl ?_
  refine r_get (zW_mono _ _ _) rfl g93 rfl ?_
  refine r_iload (zW_mono _ _ _) rfl rfl ?_
  refine r_iload (zW_mono _ _ _) rfl rfl ?_
  refine r_ishr (zW_mono _ _ _) rfl ?_
  refine r_i2b (zW_mono _ _ _) rfl ?_
  have f94 := (zgn e93 (by decide) g91)
  refine r_bast (zW_mono _ _ _) rfl f94 (vp_in_iff.mpr ⟨(by decide +kernel), (by decide +kernel)⟩) ?_
  refine zR_nm (fun h95 e95 => ?_)
  have g95 := zgs e95 f94
  refine r_aload (zW_mono _ _ _) rfl rfl ?_
  refine r_dup (zW_mono _ _ _) rfl rfl ?_
  have f96 := (zgn e95 (by decide) g93)
  refine r_get (zW_mono _ _ _) rfl f96 rfl ?_
  refine r_push (zW_mono _ _ _) rfl ?_
  refine r_iadd (zW_mono _ _ _) rfl ?_
  refine r_put (zW_mono _ _ _) rfl f96 (Nat.le_of_ble_eq_true rfl) rfl rfl rfl ?_
  refine zR_nm (fun h97 e97 => ?_)
  have g97 := zgs e97 f96
  refine r_iinc (zW_mono _ _ _) rfl rfl (Nat.le_of_ble_eq_true rfl) ?_
  refine r_goto (zW_mono _ _ _) rfl ?_
  refine r_iload (zW_mono _ _ _) rfl rfl ?_
  refine r_if_lt (zW_mono _ _ _) rfl (fun q => absurd q (by decide +kernel)) (fun _ => ?_)
  refine r_aload (zW_mono _ _ _) rfl rfl ?_
  refine r_get (zW_mono _ _ _) rfl g97 rfl ?_
  refine r_aload (zW_mono _ _ _) rfl rfl ?_
  refine r_get (zW_mono _ _ _) rfl g97 rfl ?_
  refine r_iload (zW_mono _ _ _) rfl rfl ?_
  refine r_iload (zW_mono _ _ _) rfl rfl ?_
  refine r_ishr (zW_mono _ _ _) rfl ?_
  refine r_i2b (zW_mono _ _ _) rfl ?_
  have f98 := (zgn e97 (by decide) g95)
  refine r_bast (zW_mono _ _ _) rfl f98 (vp_in_iff.mpr ⟨(by decide +kernel), (by decide +kernel)⟩) ?_
  refine zR_nm (fun h99 e99 => ?_)
  have g99 := zgs e99 f98
  refine r_aload (zW_mono _ _ _) rfl rfl ?_
  refine r_dup (zW_mono _ _ _) rfl rfl ?_
  have f100 := (zgn e99 (by decide) g97)
  refine r_get (zW_mono _ _ _) rfl f100 rfl ?_
  refine r_push (zW_mono _ _ _) rfl ?_
  refine r_iadd (zW_mono _ _ _) rfl ?_
  refine r_put (zW_mono _ _ _) rfl f100 (Nat.le_of_ble_eq_true rfl) rfl rfl rfl ?_
  refine zR_nm (fun h101 e101 => ?_)
  have g101 := zgs e101 f100
  refine r_iinc (zW_mono _ _ _) rfl rfl (Nat.le_of_ble_eq_true rfl) ?_
  refine r_goto (zW_mono _ _ _) rfl ?_
  refine r_iload (zW_mono _ _ _) rfl rfl ?_
  refine r_if_lt (zW_mono _ _ _) rfl (fun _ => ?_) (fun q => absurd q (by decide +kernel))
  refine r_vret (zW_mono _ _ _) rfl rfl ?_
  refine r_aload (zW_mono _ _ _) rfl rfl ?_
  refine r_iload (zW_mono _ _ _) rfl rfl ?_
  refine r_virt1 (zW_mono _ _ _) rfl g101 (Nat.le_of_ble_eq_true rfl) rfl (Nat.le_of_ble_eq_true rfl) (Nat.le_of_ble_eq_true rfl) ?_
  refine zW_in rfl (Nat.le_of_ble_eq_true rfl) ?_
  refine r_push (zW_mono _ _ _) rfl ?_
  refine r_istore (zW_mono _ _ _) rfl (Nat.le_of_ble_eq_true rfl) ?_
  refine r_iload (zW_mono _ _ _) rfl rfl ?_
  refine r_if_lt (zW_mono _ _ _) rfl (fun q => absurd q (by decide +kernel)) (fun _ => ?_)
  refine r_aload (zW_mono _ _ _) rfl rfl ?_
  refine r_get (zW_mono _ _ _) rfl g101 rfl ?_
  refine r_aload (zW_mono _ _ _) rfl rfl ?_
  refine r_get (zW_mono _ _ _) rfl g101 rfl ?_
  refine r_iload (zW_mono _ _ _) rfl rfl ?_
  refine r_iload (zW_mono _ _ _) rfl rfl ?_
  refine r_ishr (zW_mono _ _ _) rfl ?_
  refine r_i2b (zW_mono _ _ _) rfl ?_
  have f102 := (zgn e101 (by decide) g99)
  refine r_bast (zW_mono _ _ _) rfl f102 (vp_in_iff.mpr ⟨(by decide +kernel), (by decide +kernel)⟩) ?_
  refine zR_nm (fun h103 e103 => ?_)
  have g103 := zgs e103 f102
  refine r_aload (zW_mono _ _ _) rfl rfl ?_
  refine r_dup (zW_mono _ _ _) rfl rfl ?_
  have f104 := (zgn e103 (by decide) g101)
  refine r_get (zW_mono _ _ _) rfl f104 rfl ?_
  refine r_push (zW_mono _ _ _) rfl ?_
  refine r_iadd (zW_mono _ _ _) rfl ?_
  refine r_put (zW_mono _ _ _) rfl f104 (Nat.le_of_ble_eq_true rfl) rfl rfl rfl ?_
  refine zR_nm (fun h105 e105 => ?_)
  have g105 := zgs e105 f104
  refine r_iinc (zW_mono _ _ _) rfl rfl (Nat.le_of_ble_eq_true rfl) ?_
  refine r_goto (zW_mono _ _ _) rfl ?_
  refine r_iload (zW_mono _ _ _) rfl rfl ?_
  refine r_if_lt (zW_mono _ _ _) rfl (fun q => absurd q (by decide +kernel)) (fun _ => ?_)
  refine r_aload (zW_mono _ _ _) rfl rfl ?_
  refine r_get (zW_mono _ _ _) rfl g105 rfl ?_
  refine r_aload (zW_mono _ _ _) rfl rfl ?_
  refine r_get (zW_mono _ _ _) rfl g105 rfl ?_
  refine r_iload (zW_mono _ _ _) rfl rfl ?_
  refine r_iload (zW_mono _ _ _) rfl rfl ?_
  refine r_ishr (zW_mono _ _ _) rfl ?_
  refine r_i2b (zW_mono _ _ _) rfl ?_
  have f106 := (zgn e105 (by decide) g103)
  refine r_bast (zW_mono _ _ _) rfl f106 (vp_in_iff.mpr ⟨(by decide +kernel), (by decide +kernel)⟩) ?_
  refine zR_nm (fun h107 e107 => ?_)
  have g107 := zgs e107 f106
  refine r_aload (zW_mono _ _ _) rfl rfl ?_
  refine r_dup (zW_mono _ _ _) rfl rfl ?_
  have f108 := (zgn e107 (by decide) g105)
  refine r_get (zW_mono _ _ _) rfl f108 rfl ?_
  refine r_push (zW_mono _ _ _) rfl ?_
  refine r_iadd (zW_mono _ _ _) rfl ?_
  refine r_put (zW_mono _ _ _) rfl f108 (Nat.le_of_ble_eq_true rfl) rfl rfl rfl ?_
  refine zR_nm (fun h109 e109 => ?_)
  have g109 := zgs e109 f108
  refine r_iinc (zW_mono _ _ _) rfl rfl (Nat.le_of_ble_eq_true rfl) ?_
  refine r_goto (zW_mono _ _ _) rfl ?_
  refine r_iload (zW_mono _ _ _) rfl rfl ?_
  refine r_if_lt (zW_mono _ _ _) rfl (fun q => absurd q (by decide +kernel)) (fun _ => ?_)
  refine r_aload (zW_mono _ _ _) rfl rfl ?_
  refine r_get (zW_mono _ _ _) rfl g109 rfl ?_
  refine r_aload (zW_mono _ _ _) rfl rfl ?_
  refine r_get (zW_mono _ _ _) rfl g109 rfl ?_
  refine r_iload (zW_mono _ _ _) rfl rfl ?_
  refine r_iload (zW_mono _ _ _) rfl rfl ?_
  refine r_ishr (zW_mono _ _ _) rfl ?_
  refine r_i2b (zW_mono _ _ _) rfl ?_
  have f110 := (zgn e109 (by decide) g107)
  refine r_bast (zW_mono _ _ _) rfl f110 (vp_in_iff.mpr ⟨(by decide +kernel), (by decide +kernel)⟩) ?_
  refine zR_nm (fun h111 e111 => ?_)
  have g111 := zgs e111 f110
  refine r_aload (zW_mono _ _ _) rfl rfl ?_
  refine r_dup (zW_mono _ _ _) rfl rfl ?_
  have f112 := (zgn e111 (by decide) g109)
  refine r_get (zW_mono _ _ _) rfl f112 rfl ?_
  refine r_push (zW_mono _ _ _) rfl ?_
  refine r_iadd (zW_mono _ _ _) rfl ?_
  refine r_put (zW_mono _ _ _) rfl f112 (Nat.le_of_ble_eq_true rfl) rfl rfl rfl ?_
  refine zR_nm (fun h113 e113 => ?_)
  have g113 := zgs e113 f112
  refine r_iinc (zW_mono _ _ _) rfl rfl (Nat.le_of_ble_eq_true rfl) ?_
  refine r_goto (zW_mono _ _ _) rfl ?_
  refine r_iload (zW_mono _ _ _) rfl rfl ?_
  refine r_if_lt (zW_mono _ _ _) rfl (fun q => absurd q (by decide +kernel)) (fun _ => ?_)
  refine r_aload (zW_mono _ _ _) rfl rfl ?_
  refine r_get (zW_mono _ _ _) rfl g113 rfl ?_
  refine r_aload (zW_mono _ _ _) rfl rfl ?_
  refine r_get (zW_mono _ _ _) rfl g113 rfl ?_
  refine r_iload (zW_mono _ _ _) rfl rfl ?_
  refine r_iload (zW_mono _ _ _) rfl rfl ?_
  refine r_ishr (zW_mono _ _ _) rfl ?_
  refine r_i2b (zW_mono _ _ _) rfl ?_
  have f114 := (zgn e113 (by decide) g111)
  refine r_bast (zW_mono _ _ _) rfl f114 (vp_in_iff.mpr ⟨(by decide +kernel), (by decide +kernel)⟩) ?_
  refine zR_nm (fun h115 e115 => ?_)
  have g115 := zgs e115 f114
  refine r_aload (zW_mono _ _ _) rfl rfl ?_
  refine r_dup (zW_mono _ _ _) rfl rfl ?_
  have f116 := (zgn e115 (by decide) g113)
  refine r_get (zW_mono _ _ _) rfl f116 rfl ?_
  refine r_push (zW_mono _ _ _) rfl ?_
  refine r_iadd (zW_mono _ _ _) rfl ?_
  refine r_put (zW_mono _ _ _) rfl f116 (Nat.le_of_ble_eq_true rfl) rfl rfl rfl ?_
  refine zR_nm (fun h117 e117 => ?_)
  have g117 := zgs e117 f116
  refine r_iinc (zW_mono _ _ _) rfl rfl (Nat.le_of_ble_eq_true rfl) ?_
  refine r_goto (zW_mono _ _ _) rfl ?_
  refine r_iload (zW_mono _ _ _) rfl rfl ?_
  refine r_if_lt (zW_mono _ _ _) rfl (fun _ => ?_) (fun q => absurd q (by decide +kernel))
  refine r_vret (zW_mono _ _ _) rfl rfl ?_
  refine r_aload (zW_mono _ _ _) rfl rfl ?_
  refine r_iload (zW_mono _ _ _) rfl rfl ?_
  refine r_virt1 (zW_mono _ _ _) rfl g117 (Nat.le_of_ble_eq_true rfl) rfl (Nat.le_of_ble_eq_true rfl) (Nat.le_of_ble_eq_true rfl) ?_
  refine zW_in rfl (Nat.le_of_ble_eq_true rfl) ?_
  refine r_push (zW_mono _ _ _) rfl ?_
  refine r_istore (zW_mono _ _ _) rfl (Nat.le_of_ble_eq_true rfl) ?_
  refine r_iload (zW_mono _ _ _) rfl rfl ?_
  refine r_if_lt (zW_mono _ _ _) rfl (fun q => absurd q (by decide +kernel)) (fun _ => ?_)
  refine r_aload (zW_mono _ _ _) rfl rfl ?_
  refine r_get (zW_mono _ _ _) rfl g117 rfl ?_
  refine r_aload (zW_mono _ _ _) rfl rfl ?_
  refine r_get (zW_mono _ _ _) rfl g117 rfl ?_
  refine r_iload (zW_mono _ _ _) rfl rfl ?_
  refine r_iload (zW_mono _ _ _) rfl rfl ?_
  refine r_ishr (zW_mono _ _ _) rfl ?_
  refine r_i2b (zW_mono _ _ _) rfl ?_
  have f118 := (zgn e117 (by decide) g115)
  refine r_bast (zW_mono _ _ _) rfl f118 (vp_in_iff.mpr ⟨(by decide +kernel), (by decide +kernel)⟩) ?_
  refine zR_nm (fun h119 e119 => ?_)
  have g119 := zgs e119 f118
  refine r_aload (zW_mono _ _ _) rfl rfl ?_
  refine r_dup (zW_mono _ _ _) rfl rfl ?_
  have f120 := (zgn e119 (by decide) g117)
  refine r_get (zW_mono _ _ _) rfl f120 rfl ?_
  refine r_push (zW_mono _ _ _) rfl ?_
  refine r_iadd (zW_mono _ _ _) rfl ?_
  refine r_put (zW_mono _ _ _) rfl f120 (Nat.le_of_ble_eq_true rfl) rfl rfl rfl ?_
  refine zR_nm (fun h121 e121 => ?_)
  have g121 := zgs e121 f120
  refine r_iinc (zW_mono _ _ _) rfl rfl (Nat.le_of_ble_eq_true rfl) ?_
  refine r_goto (zW_mono _ _ _) rfl ?_
  refine r_iload (zW_mono _ _ _) rfl rfl ?_
  refine r_if_lt (zW_mono _ _ _) rfl (fun q => absurd q (by decide +kernel)) (fun _ => ?_)
  refine r_aload (zW_mono _ _ _) rfl rfl ?_
  refine r_get (zW_mono _ _ _) rfl g121 rfl ?_
  refine r_aload (zW_mono _ _ _) rfl rfl ?_
  refine r_get (zW_mono _ _ _) rfl g121 rfl ?_
  refine r_iload (zW_mono _ _ _) rfl rfl ?_
  refine r_iload (zW_mono _ _ _) rfl rfl ?_
  refine r_ishr (zW_mono _ _ _) rfl ?_
  refine r_i2b (zW_mono _ _ _) rfl ?_
  have f122 := (zgn e121 (by decide) g119)
  refine r_bast (zW_mono _ _ _) rfl f122 (vp_in_iff.mpr ⟨(by decide +kernel), (by decide +kernel)⟩) ?_
  refine zR_nm (fun h123 e123 => ?_)
  have g123 := zgs e123 f122
  refine r_aload (zW_mono _ _ _) rfl rfl ?_
  refine r_dup (zW_mono _ _ _) rfl rfl ?_
  have f124 := (zgn e123 (by decide) g121)
  refine r_get (zW_mono _ _ _) rfl f124 rfl ?_
  refine r_push (zW_mono _ _ _) rfl ?_
  refine r_iadd (zW_mono _ _ _) rfl ?_
  refine r_put (zW_mono _ _ _) rfl f124 (Nat.le_of_ble_eq_true rfl) rfl rfl rfl ?_
  refine zR_nm (fun h125 e125 => ?_)
  have g125 := zgs e125 f124
  refine r_iinc (zW_mono _ _ _) rfl rfl (Nat.le_of_ble_eq_true rfl) ?_
  refine r_goto (zW_mono _ _ _) rfl ?_
  refine r_iload (zW_mono _ _ _) rfl rfl ?_
  refine r_if_lt (zW_mono _ _ _) rfl (fun q => absurd q (by decide +kernel)) (fun _ => ?_)
  refine r_aload (zW_mono _ _ _) rfl rfl ?_
  refine r_get (zW_mono _ _ _) rfl g125 rfl ?_
  refine r_aload (zW_mono _ _ _) rfl rfl ?_
  refine r_get (zW_mono _ _ _) rfl g125 rfl ?_
  refine r_iload (zW_mono _ _ _) rfl rfl ?_
  refine r_iload (zW_mono _ _ _) rfl rfl ?_
  refine r_ishr (zW_mono _ _ _) rfl ?_
  refine r_i2b (zW_mono _ _ _) rfl ?_
  have f126 := (zgn e125 (by decide) g123)
  refine r_bast (zW_mono _ _ _) rfl f126 (vp_in_iff.mpr ⟨(by decide +kernel), (by decide +kernel)⟩) ?_
  refine zR_nm (fun h127 e127 => ?_)
  have g127 := zgs e127 f126
  refine r_aload (zW_mono _ _ _) rfl rfl ?_
  refine r_dup (zW_mono _ _ _) rfl rfl ?_
  have f128 := (zgn e127 (by decide) g125)
  refine r_get (zW_mono _ _ _) rfl f128 rfl ?_
  refine r_push (zW_mono _ _ _) rfl ?_
  refine r_iadd (zW_mono _ _ _) rfl ?_
  refine r_put (zW_mono _ _ _) rfl f128 (Nat.le_of_ble_eq_true rfl) rfl rfl rfl ?_
  refine zR_nm (fun h129 e129 => ?_)
  have g129 := zgs e129 f128
  refine r_iinc (zW_mono _ _ _) rfl rfl (Nat.le_of_ble_eq_true rfl) ?_
  refine r_goto (zW_mono _ _ _) rfl ?_
  refine r_iload (zW_mono _ _ _) rfl rfl ?_
  refine r_if_lt (zW_mono _ _ _) rfl (fun q => absurd q (by decide +kernel)) (fun _ => ?_)
  refine r_aload (zW_mono _ _ _) rfl rfl ?_
  refine r_get (zW_mono _ _ _) rfl g129 rfl ?_
  refine r_aload (zW_mono _ _ _) rfl rfl ?_
  refine r_get (zW_mono _ _ _) rfl g129 rfl ?_
  refine r_iload (zW_mono _ _ _) rfl rfl ?_
  refine r_iload (zW_mono _ _ _) rfl rfl ?_
  refine r_ishr (zW_mono _ _ _) rfl ?_
  refine r_i2b (zW_mono _ _ _) rfl ?_
  have f130 := (zgn e129 (by decide) g127)
  refine r_bast (zW_mono _ _ _) rfl f130 (vp_in_iff.mpr ⟨(by decide +kernel), (by decide +kernel)⟩) ?_
  refine zR_nm (fun h131 e131 => ?_)
  have g131 := zgs e131 f130
  refine r_aload (zW_mono _ _ _) rfl rfl ?_
  refine r_dup (zW_mono _ _ _) rfl rfl ?_
  have f132 := (zgn e131 (by decide) g129)
  refine r_get (zW_mono _ _ _) rfl f132 rfl ?_
  refine r_push (zW_mono _ _ _) rfl ?_
  refine r_iadd (zW_mono _ _ _) rfl ?_
  refine r_put (zW_mono _ _ _) rfl f132 (Nat.le_of_ble_eq_true rfl) rfl rfl rfl ?_
  refine zR_nm (fun h133 e133 => ?_)
  have g133 := zgs e133 f132
  refine r_iinc (zW_mono _ _ _) rfl rfl (Nat.le_of_ble_eq_true rfl) ?_
  refine r_goto (zW_mono _ _ _) rfl ?_
  refine r_iload (zW_mono _ _ _) rfl rfl ?_
  refine r_if_lt (zW_mono _ _ _) rfl (fun _ => ?_) (fun q => absurd q (by decide +kernel))
  refine r_vret (zW_mono _ _ _) rfl rfl ?_
  refine r_aload (zW_mono _ _ _) rfl rfl ?_
  refine r_iload (zW_mono _ _ _) rfl rfl ?_
  refine r_virt1 (zW_mono _ _ _) rfl g133 (Nat.le_of_ble_eq_true rfl) rfl (Nat.le_of_ble_eq_true rfl) (Nat.le_of_ble_eq_true rfl) ?_
  refine zW_in rfl (Nat.le_of_ble_eq_true rfl) ?_
  refine r_push (zW_mono _ _ _) rfl ?_
  refine r_istore (zW_mono _ _ _) rfl (Nat.le_of_ble_eq_true rfl) ?_
  refine r_iload (zW_mono _ _ _) rfl rfl ?_
  refine r_if_lt (zW_mono _ _ _) rfl (fun q => absurd q (by decide +kernel)) (fun _ => ?_)
  refine r_aload (zW_mono _ _ _) rfl rfl ?_
  refine r_get (zW_mono _ _ _) rfl g133 rfl ?_
  refine r_aload (zW_mono _ _ _) rfl rfl ?_
  refine r_get (zW_mono _ _ _) rfl g133 rfl ?_
  refine r_iload (zW_mono _ _ _) rfl rfl ?_
  refine r_iload (zW_mono _ _ _) rfl rfl ?_
  refine r_ishr (zW_mono _ _ _) rfl ?_
  refine r_i2b (zW_mono _ _ _) rfl ?_
  have f134 := (zgn e133 (by decide) g131)
  refine r_bast (zW_mono _ _ _) rfl f134 (vp_in_iff.mpr ⟨(by decide +kernel), (by decide +kernel)⟩) ?_
  refine zR_nm (fun h135 e135 => ?_)
  have g135 := zgs e135 f134
  refine r_aload (zW_mono _ _ _) rfl rfl ?_
  refine r_dup (zW_mono _ _ _) rfl rfl ?_
  have f136 := (zgn e135 (by decide) g133)
  refine r_get (zW_mono _ _ _) rfl f136 rfl ?_
  refine r_push (zW_mono _ _ _) rfl ?_
  refine r_iadd (zW_mono _ _ _) rfl ?_
  refine r_put (zW_mono _ _ _) rfl f136 (Nat.le_of_ble_eq_true rfl) rfl rfl rfl ?_
  refine zR_nm (fun h137 e137 => ?_)
  have g137 := zgs e137 f136
  refine r_iinc (zW_mono _ _ _) rfl rfl (Nat.le_of_ble_eq_true rfl) ?_
  refine r_goto (zW_mono _ _ _) rfl ?_
  refine r_iload (zW_mono _ _ _) rfl rfl ?_
  refine r_if_lt (zW_mono _ _ _) rfl (fun q => absurd q (by decide +kernel)) (fun _ => ?_)
  refine r_aload (zW_mono _ _ _) rfl rfl ?_
  refine r_get (zW_mono _ _ _) rfl g137 rfl ?_
  refine r_aload (zW_mono _ _ _) rfl rfl ?_
  refine r_get (zW_mono _ _ _) rfl g137 rfl ?_
  refine r_iload (zW_mono _ _ _) rfl rfl ?_
  refine r_iload (zW_mono _ _ _) rfl rfl ?_
  refine r_ishr (zW_mono _ _ _) rfl ?_
  refine r_i2b (zW_mono _ _ _) rfl ?_
  have f138 := (zgn e137 (by decide) g135)
  refine r_bast (zW_mono _ _ _) rfl f138 (vp_in_iff.mpr ⟨(by decide +kernel), (by decide +kernel)⟩) ?_
  refine zR_nm (fun h139 e139 => ?_)
  have g139 := zgs e139 f138
  refine r_aload (zW_mono _ _ _) rfl rfl ?_
  refine r_dup (zW_mono _ _ _) rfl rfl ?_
  have f140 := (zgn e139 (by decide) g137)
  refine r_get (zW_mono _ _ _) rfl f140 rfl ?_
  refine r_push (zW_mono _ _ _) rfl ?_
  refine r_iadd (zW_mono _ _ _) rfl ?_
  refine r_put (zW_mono _ _ _) rfl f140 (Nat.le_of_ble_eq_true rfl) rfl rfl rfl ?_
  refine zR_nm (fun h141 e141 => ?_)
  have g141 := zgs e141 f140
  refine r_iinc (zW_mono _ _ _) rfl rfl (Nat.le_of_ble_eq_true rfl) ?_
  refine r_goto (zW_mono _ _ _) rfl ?_
  refine r_iload (zW_mono _ _ _) rfl rfl ?_
  refine r_if_lt (zW_mono _ _ _) rfl (fun q => absurd q (by decide +kernel)) (fun _ => ?_)
  refine r_aload (zW_mono _ _ _) rfl rfl ?_
  refine r_get (zW_mono _ _ _) rfl g141 rfl ?_
  refine r_aload (zW_mono _ _ _) rfl rfl ?_
  refine r_get (zW_mono _ _ _) rfl g141 rfl ?_
  refine r_iload (zW_mono _ _ _) rfl rfl ?_
  refine r_iload (zW_mono _ _ _) rfl rfl ?_
  refine r_ishr (zW_mono _ _ _) rfl ?_
  refine r_i2b (zW_mono _ _ _) rfl ?_
  have f142 := (zgn e141 (by decide) g139)
  refine r_bast (zW_mono _ _ _) rfl f142 (vp_in_iff.mpr ⟨(by decide +kernel), (by decide +kernel)⟩) ?_
  refine zR_nm (fun h143 e143 => ?_)
  have g143 := zgs e143 f142
  refine r_aload (zW_mono _ _ _) rfl rfl ?_
  refine r_dup (zW_mono _ _ _) rfl rfl ?_
  have f144 := (zgn e143 (by decide) g141)
  refine r_get (zW_mono _ _ _) rfl f144 rfl ?_
  refine r_push (zW_mono _ _ _) rfl ?_
  refine r_iadd (zW_mono _ _ _) rfl ?_
  refine r_put (zW_mono _ _ _) rfl f144 (Nat.le_of_ble_eq_true rfl) rfl rfl rfl ?_
  refine zR_nm (fun h145 e145 => ?_)
  have g145 := zgs e145 f144
  refine r_iinc (zW_mono _ _ _) rfl rfl (Nat.le_of_ble_eq_true rfl) ?_
  refine r_goto (zW_mono _ _ _) rfl ?_
  refine r_iload (zW_mono _ _ _) rfl rfl ?_
  refine r_if_lt (zW_mono _ _ _) rfl (fun q => absurd q (by decide +kernel)) (fun _ => ?_)
  refine r_aload (zW_mono _ _ _) rfl rfl ?_
  refine r_get (zW_mono _ _ _) rfl g145 rfl ?_
  refine r_aload (zW_mono _ _ _) rfl rfl ?_
  refine r_get (zW_mono _ _ _) rfl g145 rfl ?_
  refine r_iload (zW_mono _ _ _) rfl rfl ?_
  refine r_iload (zW_mono _ _ _) rfl rfl ?_
  refine r_ishr (zW_mono _ _ _) rfl ?_
  refine r_i2b (zW_mono _ _ _) rfl ?_
  have f146 := (zgn e145 (by decide) g143)
  refine r_bast (zW_mono _ _ _) rfl f146 (vp_in_iff.mpr ⟨(by decide +kernel), (by decide +kernel)⟩) ?_
  refine zR_nm (fun h147 e147 => ?_)
  have g147 := zgs e147 f146
  refine r_aload (zW_mono _ _ _) rfl rfl ?_
  refine r_dup (zW_mono _ _ _) rfl rfl ?_
  have f148 := (zgn e147 (by decide) g145)
  refine r_get (zW_mono _ _ _) rfl f148 rfl ?_
  refine r_push (zW_mono _ _ _) rfl ?_
  refine r_iadd (zW_mono _ _ _) rfl ?_
  refine r_put (zW_mono _ _ _) rfl f148 (Nat.le_of_ble_eq_true rfl) rfl rfl rfl ?_
  refine zR_nm (fun h149 e149 => ?_)
  have g149 := zgs e149 f148
  refine r_iinc (zW_mono _ _ _) rfl rfl (Nat.le_of_ble_eq_true rfl) ?_
  refine r_goto (zW_mono _ _ _) rfl ?_
  refine r_iload (zW_mono _ _ _) rfl rfl ?_
  refine r_if_lt (zW_mono _ _ _) rfl (fun _ => ?_) (fun q => absurd q (by decide +kernel))
  refine r_vret (zW_mono _ _ _) rfl rfl ?_
  refine r_aload (zW_mono _ _ _) rfl rfl ?_
  refine r_iload (zW_mono _ _ _) rfl rfl ?_
  refine r_virt1 (zW_mono _ _ _) rfl g149 (Nat.le_of_ble_eq_true rfl) rfl (Nat.le_of_ble_eq_true rfl) (Nat.le_of_ble_eq_true rfl) ?_
  refine zW_in rfl (Nat.le_of_ble_eq_true rfl) ?_
  refine r_push (zW_mono _ _ _) rfl ?_
  refine r_istore (zW_mono _ _ _) rfl (Nat.le_of_ble_eq_true rfl) ?_
  refine r_iload (zW_mono _ _ _) rfl rfl ?_
  refine r_if_lt (zW_mono _ _ _) rfl (fun q => absurd q (by decide +kernel)) (fun _ => ?_)
  refine r_aload (zW_mono _ _ _) rfl rfl ?_
  refine r_get (zW_mono _ _ _) rfl g149 rfl ?_
  refine r_aload (zW_mono _ _ _) rfl rfl ?_
  refine r_get (zW_mono _ _ _) rfl g149 rfl ?_
  refine r_iload (zW_mono _ _ _) rfl rfl ?_
  refine r_iload (zW_mono _ _ _) rfl rfl ?_
  refine r_ishr (zW_mono _ _ _) rfl ?_
  refine r_i2b (zW_mono _ _ _) rfl ?_
  have f150 := (zgn e149 (by decide) g147)
  refine r_bast (zW_mono _ _ _) rfl f150 (vp_in_iff.mpr ⟨(by decide +kernel), (by decide +kernel)⟩) ?_
  refine zR_nm (fun h151 e151 => ?_)
  have g151 := zgs e151 f150
  refine r_aload (zW_mono _ _ _) rfl rfl ?_
  refine r_dup (zW_mono _ _ _) rfl rfl ?_
  have f152 := (zgn e151 (by decide) g149)
  refine r_get (zW_mono _ _ _) rfl f152 rfl ?_
  refine r_push (zW_mono _ _ _) rfl ?_
  refine r_iadd (zW_mono _ _ _) rfl ?_
  refine r_put (zW_mono _ _ _) rfl f152 (Nat.le_of_ble_eq_true rfl) rfl rfl rfl ?_
  refine zR_nm (fun h153 e153 => ?_)
  have g153 := zgs e153 f152
  refine r_iinc (zW_mono _ _ _) rfl rfl (Nat.le_of_ble_eq_true rfl) ?_
  refine r_goto (zW_mono _ _ _) rfl ?_
  refine r_iload (zW_mono _ _ _) rfl rfl ?_
  refine r_if_lt (zW_mono _ _ _) rfl (fun q => absurd q (by decide +kernel)) (fun _ => ?_)
  refine r_aload (zW_mono _ _ _) rfl rfl ?_
  refine r_get (zW_mono _ _ _) rfl g153 rfl ?_
  refine r_aload (zW_mono _ _ _) rfl rfl ?_
  refine r_get (zW_mono _ _ _) rfl g153 rfl ?_
  refine r_iload (zW_mono _ _ _) rfl rfl ?_
  refine r_iload (zW_mono _ _ _) rfl rfl ?_
  refine r_ishr (zW_mono _ _ _) rfl ?_
  refine r_i2b (zW_mono _ _ _) rfl ?_
  have f154 := (zgn e153 (by decide) g151)
  refine r_bast (zW_mono _ _ _) rfl f154 (vp_in_iff.mpr ⟨(by decide +kernel), (by decide +kernel)⟩) ?_
  refine zR_nm (fun h155 e155 => ?_)
  have g155 := zgs e155 f154
  refine r_aload (zW_mono _ _ _) rfl rfl ?_
  refine r_dup (zW_mono _ _ _) rfl rfl ?_
  have f156 := (zgn e155 (by decide) g153)
  refine r_get (zW_mono _ _ _) rfl f156 rfl ?_
  refine r_push (zW_mono _ _ _) rfl ?_
  refine r_iadd (zW_mono _ _ _) rfl ?_
  refine r_put (zW_mono _ _ _) rfl f156 (Nat.le_of_ble_eq_true rfl) rfl rfl rfl ?_
  refine zR_nm (fun h157 e157 => ?_)
  have g157 := zgs e157 f156
  refine r_iinc (zW_mono _ _ _) rfl rfl (Nat.le_of_ble_eq_true rfl) ?_
  refine r_goto (zW_mono _ _ _) rfl ?_
  refine r_iload (zW_mono _ _ _) rfl rfl ?_
  refine r_if_lt (zW_mono _ _ _) rfl (fun q => absurd q (by decide +kernel)) (fun _ => ?_)
  refine r_aload (zW_mono _ _ _) rfl rfl ?_
  refine r_get (zW_mono _ _ _) rfl g157 rfl ?_
  refine r_aload (zW_mono _ _ _) rfl rfl ?_
  refine r_get (zW_mono _ _ _) rfl g157 rfl ?_
  refine r_iload (zW_mono _ _ _) rfl rfl ?_
  refine r_iload (zW_mono _ _ _) rfl rfl ?_
  refine r_ishr (zW_mono _ _ _) rfl ?_
  refine r_i2b (zW_mono _ _ _) rfl ?_
  have f158 := (zgn e157 (by decide) g155)
  refine r_bast (zW_mono _ _ _) rfl f158 (vp_in_iff.mpr ⟨(by decide +kernel), (by decide +kernel)⟩) ?_
  refine zR_nm (fun h159 e159 => ?_)
  have g159 := zgs e159 f158
  refine r_aload (zW_mono _ _ _) rfl rfl ?_
  refine r_dup (zW_mono _ _ _) rfl rfl ?_
  have f160 := (zgn e159 (by decide) g157)
  refine r_get (zW_mono _ _ _) rfl f160 rfl ?_
  refine r_push (zW_mono _ _ _) rfl ?_
  refine r_iadd (zW_mono _ _ _) rfl ?_
  refine r_put (zW_mono _ _ _) rfl f160 (Nat.le_of_ble_eq_true rfl) rfl rfl rfl ?_
  refine zR_nm (fun h161 e161 => ?_)
  have g161 := zgs e161 f160
  refine r_iinc (zW_mono _ _ _) rfl rfl (Nat.le_of_ble_eq_true rfl) ?_
  refine r_goto (zW_mono _ _ _) rfl ?_
  refine r_iload (zW_mono _ _ _) rfl rfl ?_
  refine r_if_lt (zW_mono _ _ _) rfl (fun q => absurd q (by decide +kernel)) (fun _ => ?_)
  refine r_aload (zW_mono _ _ _) rfl rfl ?_
  refine r_get (zW_mono _ _ _) rfl g161 rfl ?_
  refine r_aload (zW_mono _ _ _) rfl rfl ?_
  refine r_get (zW_mono _ _ _) rfl g161 rfl ?_
  refine r_iload (zW_mono _ _ _) rfl rfl ?_
  refine r_iload (zW_mono _ _ _) rfl rfl ?_
  refine r_ishr (zW_mono _ _ _) rfl ?_
  refine r_i2b (zW_mono _ _ _) rfl ?_
  have f162 := (zgn e161 (by decide) g159)
  refine r_bast (zW_mono _ _ _) rfl f162 (vp_in_iff.mpr ⟨(by decide +kernel), (by decide +kernel)⟩) ?_
  refine zR_nm (fun h163 e163 => ?_)
  have g163 := zgs e163 f162
  refine r_aload (zW_mono _ _ _) rfl rfl ?_
  refine r_dup (zW_mono _ _ _) rfl rfl ?_
  have f164 := (zgn e163 (by decide) g161)
  refine r_get (zW_mono _ _ _) rfl f164 rfl ?_
  refine r_push (zW_mono _ _ _) rfl ?_
  refine r_iadd (zW_mono _ _ _) rfl ?_
  refine r_put (zW_mono _ _ _) rfl f164 (Nat.le_of_ble_eq_true rfl) rfl rfl rfl ?_
  refine zR_nm (fun h165 e165 => ?_)
  have g165 := zgs e165 f164
  refine r_iinc (zW_mono _ _ _) rfl rfl (Nat.le_of_ble_eq_true rfl) ?_
  refine r_goto (zW_mono _ _ _) rfl ?_
  refine r_iload (zW_mono _ _ _) rfl rfl ?_
  refine r_if_lt (zW_mono _ _ _) rfl (fun _ => ?_) (fun q => absurd q (by decide +kernel))
  refine r_vret (zW_mono _ _ _) rfl rfl ?_
  refine r_aload (zW_mono _ _ _) rfl rfl ?_
  refine r_get (zW_mono _ _ _) rfl g165 rfl ?_
  refine r_iret (zW_mono _ _ _) rfl rfl rfl ?_
  first | rfl | exact congrArg some (by decide +kernel)
set_option maxHeartbeats 4000000 in
set_option maxRecDepth 20000 in
theorem op_end {G : zG} (hG : G.1 = zProg) (a1 : Int32) : zW zTt G 12 123 [.ref 0, .int a1] (dzH dH0) (fun w h => ∃ x : Int32, w = some (.int x) ∧ (∃ fs : List Value, h[111]? = some (.inr (12, fs))) ∧ zW zTt G 12 198 [.ref 111, .int a1] h (fun w2 _ => w2 = some (.int x))) := by
  obtain ⟨p9, t9⟩ := G
  have hG : p9 = zProg := hG
  subst hG
  refine zW_in rfl (Nat.le_of_ble_eq_true rfl) ?_
  refine r_iload (zW_mono _ _ _) rfl rfl ?_
  refine r_push (zW_mono _ _ _) rfl ?_
  refine r_aload (zW_mono _ _ _) rfl rfl ?_
  refine r_get (zW_mono _ _ _) rfl hx_0 rfl ?_
  refine r_get (zW_mono _ _ _) rfl hx_44 rfl ?_
  refine r_stat3 (zW_mono _ _ _) rfl (Nat.le_of_ble_eq_true rfl) rfl (Nat.le_of_ble_eq_true rfl) (Nat.le_of_ble_eq_true rfl) ?_
  refine zW_in rfl (Nat.le_of_ble_eq_true rfl) ?_
  refine r_iload (zW_mono _ _ _) rfl rfl ?_
  refine r_iload (zW_mono _ _ _) rfl rfl ?_
  refine r_ic_lt (X := a1.toInt) (Y := 0) (zW_mono _ _ _) rfl rfl (by decide +kernel) (fun z1 => ?_) (fun z1 => ?_)
  · refine r_push (zW_mono _ _ _) rfl ?_
    refine r_iret (zW_mono _ _ _) rfl rfl (by decide +kernel) ?_
    refine r_if_eq (zW_mono _ _ _) rfl (fun _ => ?_) (fun q => absurd q (by decide +kernel))
    refine r_push (zW_mono _ _ _) rfl ?_
    refine r_iret (zW_mono _ _ _) rfl rfl rfl ?_
    refine ⟨_, rfl, ⟨_, hx_111⟩, ?_⟩
    refine zW_in rfl (Nat.le_of_ble_eq_true rfl) ?_
    refine r_iload (zW_mono _ _ _) rfl rfl ?_
    refine r_i0_lt (X := a1.toInt) (zW_mono _ _ _) rfl rfl (fun z2 => ?_) (fun q => by exfalso; omega)
    refine r_push (zW_mono _ _ _) rfl ?_
    refine r_iret (zW_mono _ _ _) rfl rfl rfl ?_
    first | rfl | exact congrArg some (by decide +kernel)
  · refine r_iload (zW_mono _ _ _) rfl rfl ?_
    refine r_iload (zW_mono _ _ _) rfl rfl ?_
    refine r_ic_gt (X := a1.toInt) (Y := 0) (zW_mono _ _ _) rfl rfl (by decide +kernel) (fun z3 => ?_) (fun z3 => ?_)
    · refine r_push (zW_mono _ _ _) rfl ?_
      refine r_iret (zW_mono _ _ _) rfl rfl (by decide +kernel) ?_
      refine r_if_eq (zW_mono _ _ _) rfl (fun _ => ?_) (fun q => absurd q (by decide +kernel))
      refine r_push (zW_mono _ _ _) rfl ?_
      refine r_iret (zW_mono _ _ _) rfl rfl rfl ?_
      refine ⟨_, rfl, ⟨_, hx_111⟩, ?_⟩
      refine zW_in rfl (Nat.le_of_ble_eq_true rfl) ?_
      refine r_iload (zW_mono _ _ _) rfl rfl ?_
      refine r_i0_lt (X := a1.toInt) (zW_mono _ _ _) rfl rfl (fun q => by exfalso; omega) (fun z4 => ?_)
      refine r_iload (zW_mono _ _ _) rfl rfl ?_
      refine r_aload (zW_mono _ _ _) rfl rfl ?_
      refine r_get (zW_mono _ _ _) rfl hx_111 rfl ?_
      refine r_ic_le (X := a1.toInt) (Y := 0) (zW_mono _ _ _) rfl rfl (by decide +kernel) (fun q => by exfalso; omega) (fun z5 => ?_)
      refine r_push (zW_mono _ _ _) rfl ?_
      refine r_iret (zW_mono _ _ _) rfl rfl rfl ?_
      first | rfl | exact congrArg some (by decide +kernel)
    · refine r_push (zW_mono _ _ _) rfl ?_
      refine r_goto (zW_mono _ _ _) rfl ?_
      refine r_iret (zW_mono _ _ _) rfl rfl (by decide +kernel) ?_
      refine r_if_eq (zW_mono _ _ _) rfl (fun q => absurd q (by decide +kernel)) (fun _ => ?_)
      refine r_aload (zW_mono _ _ _) rfl rfl ?_
      refine r_get (zW_mono _ _ _) rfl hx_0 rfl ?_
      refine r_iload (zW_mono _ _ _) rfl rfl ?_
      refine r_virt1 (zW_mono _ _ _) rfl hx_44 (Nat.le_of_ble_eq_true rfl) rfl (Nat.le_of_ble_eq_true rfl) (Nat.le_of_ble_eq_true rfl) ?_
      refine zW_in rfl (Nat.le_of_ble_eq_true rfl) ?_
      refine r_aload (zW_mono _ _ _) rfl rfl ?_
      refine r_iload (zW_mono _ _ _) rfl rfl ?_
      refine r_put (zW_mono _ _ _) rfl hx_44 (Nat.le_of_ble_eq_true rfl) rfl rfl rfl ?_
      refine zR_nm (fun h1 e1 => ?_)
      have g1 := zgs e1 hx_44
      refine r_iload (zW_mono _ _ _) rfl rfl ?_
      refine r_iret (zW_mono _ _ _) rfl rfl rfl ?_
      refine r_goto (zW_mono _ _ _) rfl ?_
      refine r_iret (zW_mono _ _ _) rfl rfl rfl ?_
      have f2 := (zgn e1 (by decide) hx_111)
      refine ⟨_, rfl, ⟨_, f2⟩, ?_⟩
      refine zW_in rfl (Nat.le_of_ble_eq_true rfl) ?_
      refine r_iload (zW_mono _ _ _) rfl rfl ?_
      refine r_i0_lt (X := a1.toInt) (zW_mono _ _ _) rfl rfl (fun q => by exfalso; omega) (fun z6 => ?_)
      refine r_iload (zW_mono _ _ _) rfl rfl ?_
      refine r_aload (zW_mono _ _ _) rfl rfl ?_
      refine r_get (zW_mono _ _ _) rfl f2 rfl ?_
      refine r_ic_le (X := a1.toInt) (Y := 0) (zW_mono _ _ _) rfl rfl (by decide +kernel) (fun z7 => ?_) (fun q => by exfalso; omega)
      refine r_aload (zW_mono _ _ _) rfl rfl ?_
      refine r_iload (zW_mono _ _ _) rfl rfl ?_
      refine r_put (zW_mono _ _ _) rfl f2 (Nat.le_of_ble_eq_true rfl) rfl rfl rfl ?_
      refine zR_nm (fun h3 e3 => ?_)
      have g3 := zgs e3 f2
      refine r_iload (zW_mono _ _ _) rfl rfl ?_
      refine r_iret (zW_mono _ _ _) rfl rfl rfl ?_
      rfl
set_option maxHeartbeats 4000000 in
set_option maxRecDepth 20000 in
theorem op_rule {G : zG} (hG : G.1 = zProg) (hT : G.2.1 = ztx) (a1 : Int32) : zW zTt G 12 124 [.ref 0, .int a1] (dzH dH0) (fun w h => ∃ x : Int32, w = some (.int x) ∧ (∃ fs : List Value, h[111]? = some (.inr (12, fs))) ∧ zW zTt G 12 225 [.ref 111, .int a1] h (fun w2 _ => w2 = some (.int x))) := by
  obtain ⟨p9, t9, u9⟩ := G
  have hG : p9 = zProg := hG
  have hT : t9 = ztx := hT
  subst hG
  subst hT
  refine zW_in rfl (Nat.le_of_ble_eq_true rfl) ?_
  refine r_aload (zW_mono _ _ _) rfl rfl ?_
  refine r_get (zW_mono _ _ _) rfl hx_0 rfl ?_
  refine r_virt0 (zW_mono _ _ _) rfl hx_48 (Nat.le_of_ble_eq_true rfl) rfl (Nat.le_of_ble_eq_true rfl) (Nat.le_of_ble_eq_true rfl) ?_
  refine zW_in rfl (Nat.le_of_ble_eq_true rfl) ?_
  refine r_aload (zW_mono _ _ _) rfl rfl ?_
  refine r_get (zW_mono _ _ _) rfl hx_48 rfl ?_
  refine r_push (zW_mono _ _ _) rfl ?_
  refine r_icmp_ne (zW_mono _ _ _) rfl (fun _ => ?_) (fun q => absurd q (by decide +kernel))
  refine r_push (zW_mono _ _ _) rfl ?_
  refine r_iret (zW_mono _ _ _) rfl rfl (by decide +kernel) ?_
  refine r_if_ne (zW_mono _ _ _) rfl (fun q => absurd q (by decide +kernel)) (fun _ => ?_)
  refine r_iload (zW_mono _ _ _) rfl rfl ?_
  refine r_aload (zW_mono _ _ _) rfl rfl ?_
  refine r_get (zW_mono _ _ _) rfl hx_0 rfl ?_
  refine r_push (zW_mono _ _ _) rfl ?_
  refine r_stat3 (zW_mono _ _ _) rfl (Nat.le_of_ble_eq_true rfl) rfl (Nat.le_of_ble_eq_true rfl) (Nat.le_of_ble_eq_true rfl) ?_
  refine zW_in rfl (Nat.le_of_ble_eq_true rfl) ?_
  refine r_iload (zW_mono _ _ _) rfl rfl ?_
  refine r_iload (zW_mono _ _ _) rfl rfl ?_
  refine r_ic_lt (X := a1.toInt) (Y := 0) (zW_mono _ _ _) rfl rfl (by decide +kernel) (fun z1 => ?_) (fun z1 => ?_)
  · refine r_push (zW_mono _ _ _) rfl ?_
    refine r_iret (zW_mono _ _ _) rfl rfl (by decide +kernel) ?_
    refine r_if_ne (zW_mono _ _ _) rfl (fun q => absurd q (by decide +kernel)) (fun _ => ?_)
    refine r_push (zW_mono _ _ _) rfl ?_
    refine r_iret (zW_mono _ _ _) rfl rfl rfl ?_
    refine ⟨_, rfl, ⟨_, hx_111⟩, ?_⟩
    refine zW_in rfl (Nat.le_of_ble_eq_true rfl) ?_
    refine r_aload (zW_mono _ _ _) rfl rfl ?_
    refine r_get (zW_mono _ _ _) rfl hx_111 rfl ?_
    refine r_push (zW_mono _ _ _) rfl ?_
    refine r_icmp_eq (zW_mono _ _ _) rfl (fun q => absurd q (by decide +kernel)) (fun _ => ?_)
    refine r_iload (zW_mono _ _ _) rfl rfl ?_
    refine r_i2l (zW_mono _ _ _) rfl ?_
    refine r_aload (zW_mono _ _ _) rfl rfl ?_
    refine r_get (zW_mono _ _ _) rfl hx_111 rfl ?_
    refine r_i2l (zW_mono _ _ _) rfl ?_
    refine r_push (zW_mono _ _ _) rfl ?_
    refine r_stat3 (zW_mono _ _ _) rfl (Nat.le_of_ble_eq_true rfl) rfl (Nat.le_of_ble_eq_true rfl) (Nat.le_of_ble_eq_true rfl) ?_
    refine zW_in rfl (Nat.le_of_ble_eq_true rfl) ?_
    refine r_lload (zW_mono _ _ _) rfl rfl ?_
    refine r_lload (zW_mono _ _ _) rfl rfl ?_
    refine r_lc_lt (X := a1.toInt) (Y := 0) (zW_mono _ _ _) rfl rfl (zi64 _) (by decide +kernel) (fun z2 => ?_) (fun q => by exfalso; omega)
    refine r_push (zW_mono _ _ _) rfl ?_
    refine r_iret (zW_mono _ _ _) rfl rfl (by decide +kernel) ?_
    refine r_if_ne (zW_mono _ _ _) rfl (fun q => absurd q (by decide +kernel)) (fun _ => ?_)
    refine r_push (zW_mono _ _ _) rfl ?_
    refine r_iret (zW_mono _ _ _) rfl rfl rfl ?_
    first | rfl | exact congrArg some (by decide +kernel)
  · refine r_iload (zW_mono _ _ _) rfl rfl ?_
    refine r_iload (zW_mono _ _ _) rfl rfl ?_
    refine r_ic_gt (X := a1.toInt) (Y := 599) (zW_mono _ _ _) rfl rfl (by decide +kernel) (fun z3 => ?_) (fun z3 => ?_)
    · refine r_push (zW_mono _ _ _) rfl ?_
      refine r_iret (zW_mono _ _ _) rfl rfl (by decide +kernel) ?_
      refine r_if_ne (zW_mono _ _ _) rfl (fun q => absurd q (by decide +kernel)) (fun _ => ?_)
      refine r_push (zW_mono _ _ _) rfl ?_
      refine r_iret (zW_mono _ _ _) rfl rfl rfl ?_
      refine ⟨_, rfl, ⟨_, hx_111⟩, ?_⟩
      refine zW_in rfl (Nat.le_of_ble_eq_true rfl) ?_
      refine r_aload (zW_mono _ _ _) rfl rfl ?_
      refine r_get (zW_mono _ _ _) rfl hx_111 rfl ?_
      refine r_push (zW_mono _ _ _) rfl ?_
      refine r_icmp_eq (zW_mono _ _ _) rfl (fun q => absurd q (by decide +kernel)) (fun _ => ?_)
      refine r_iload (zW_mono _ _ _) rfl rfl ?_
      refine r_i2l (zW_mono _ _ _) rfl ?_
      refine r_aload (zW_mono _ _ _) rfl rfl ?_
      refine r_get (zW_mono _ _ _) rfl hx_111 rfl ?_
      refine r_i2l (zW_mono _ _ _) rfl ?_
      refine r_push (zW_mono _ _ _) rfl ?_
      refine r_stat3 (zW_mono _ _ _) rfl (Nat.le_of_ble_eq_true rfl) rfl (Nat.le_of_ble_eq_true rfl) (Nat.le_of_ble_eq_true rfl) ?_
      refine zW_in rfl (Nat.le_of_ble_eq_true rfl) ?_
      refine r_lload (zW_mono _ _ _) rfl rfl ?_
      refine r_lload (zW_mono _ _ _) rfl rfl ?_
      refine r_lc_lt (X := a1.toInt) (Y := 0) (zW_mono _ _ _) rfl rfl (zi64 _) (by decide +kernel) (fun q => by exfalso; omega) (fun z4 => ?_)
      refine r_lload (zW_mono _ _ _) rfl rfl ?_
      refine r_lload (zW_mono _ _ _) rfl rfl ?_
      refine r_lc_gt (X := a1.toInt) (Y := 599) (zW_mono _ _ _) rfl rfl (zi64 _) (by decide +kernel) (fun z5 => ?_) (fun q => by exfalso; omega)
      refine r_push (zW_mono _ _ _) rfl ?_
      refine r_iret (zW_mono _ _ _) rfl rfl (by decide +kernel) ?_
      refine r_if_ne (zW_mono _ _ _) rfl (fun q => absurd q (by decide +kernel)) (fun _ => ?_)
      refine r_push (zW_mono _ _ _) rfl ?_
      refine r_iret (zW_mono _ _ _) rfl rfl rfl ?_
      first | rfl | exact congrArg some (by decide +kernel)
    · refine r_push (zW_mono _ _ _) rfl ?_
      refine r_goto (zW_mono _ _ _) rfl ?_
      refine r_iret (zW_mono _ _ _) rfl rfl (by decide +kernel) ?_
      refine r_if_ne (zW_mono _ _ _) rfl (fun _ => ?_) (fun q => absurd q (by decide +kernel))
      refine r_aload (zW_mono _ _ _) rfl rfl ?_
      refine r_get (zW_mono _ _ _) rfl hx_0 rfl ?_
      refine r_virt0 (zW_mono _ _ _) rfl hx_44 (Nat.le_of_ble_eq_true rfl) rfl (Nat.le_of_ble_eq_true rfl) (Nat.le_of_ble_eq_true rfl) ?_
      refine dmet_ok (G := zG0) (G2 := (zProg, ztx, u9)) rfl rfl _ _ _ _ _ _ rr_x _ ?_
      refine r_istore (zW_mono _ _ _) rfl (Nat.le_of_ble_eq_true rfl) ?_
      refine r_aload (zW_mono _ _ _) rfl rfl ?_
      refine r_get (zW_mono _ _ _) rfl hy_0 rfl ?_
      refine r_push (zW_mono _ _ _) rfl ?_
      refine r_virt1 (zW_mono _ _ _) rfl hy_44 (Nat.le_of_ble_eq_true rfl) rfl (Nat.le_of_ble_eq_true rfl) (Nat.le_of_ble_eq_true rfl) ?_
      refine zW_in rfl (Nat.le_of_ble_eq_true rfl) ?_
      refine r_aload (zW_mono _ _ _) rfl rfl ?_
      refine r_iload (zW_mono _ _ _) rfl rfl ?_
      refine r_put (zW_mono _ _ _) rfl hy_44 (Nat.le_of_ble_eq_true rfl) rfl rfl rfl ?_
      refine zR_nm (fun h1 e1 => ?_)
      have g1 := zgs e1 hy_44
      refine r_iload (zW_mono _ _ _) rfl rfl ?_
      refine r_iret (zW_mono _ _ _) rfl rfl rfl ?_
      refine r_pop (zW_mono _ _ _) rfl rfl ?_
      refine r_iload (zW_mono _ _ _) rfl rfl ?_
      refine r_push (zW_mono _ _ _) rfl ?_
      refine r_icmp_ne (zW_mono _ _ _) rfl (fun _ => ?_) (fun q => absurd q (by decide +kernel))
      refine r_push (zW_mono _ _ _) rfl ?_
      refine r_iload (zW_mono _ _ _) rfl rfl ?_
      refine r_isub (zW_mono _ _ _) rfl ?_
      refine r_iret (zW_mono _ _ _) rfl rfl rfl ?_
      have f2 := (zgn e1 (by decide) hy_111)
      refine ⟨_, rfl, ⟨_, f2⟩, ?_⟩
      refine zW_in rfl (Nat.le_of_ble_eq_true rfl) ?_
      refine r_aload (zW_mono _ _ _) rfl rfl ?_
      refine r_get (zW_mono _ _ _) rfl f2 rfl ?_
      refine r_push (zW_mono _ _ _) rfl ?_
      refine r_icmp_eq (zW_mono _ _ _) rfl (fun q => absurd q (by decide +kernel)) (fun _ => ?_)
      refine r_iload (zW_mono _ _ _) rfl rfl ?_
      refine r_i2l (zW_mono _ _ _) rfl ?_
      refine r_aload (zW_mono _ _ _) rfl rfl ?_
      refine r_get (zW_mono _ _ _) rfl f2 rfl ?_
      refine r_i2l (zW_mono _ _ _) rfl ?_
      refine r_push (zW_mono _ _ _) rfl ?_
      refine r_stat3 (zW_mono _ _ _) rfl (Nat.le_of_ble_eq_true rfl) rfl (Nat.le_of_ble_eq_true rfl) (Nat.le_of_ble_eq_true rfl) ?_
      refine zW_in rfl (Nat.le_of_ble_eq_true rfl) ?_
      refine r_lload (zW_mono _ _ _) rfl rfl ?_
      refine r_lload (zW_mono _ _ _) rfl rfl ?_
      refine r_lc_lt (X := a1.toInt) (Y := 0) (zW_mono _ _ _) rfl rfl (zi64 _) (by decide +kernel) (fun q => by exfalso; omega) (fun z6 => ?_)
      refine r_lload (zW_mono _ _ _) rfl rfl ?_
      refine r_lload (zW_mono _ _ _) rfl rfl ?_
      refine r_lc_gt (X := a1.toInt) (Y := 599) (zW_mono _ _ _) rfl rfl (zi64 _) (by decide +kernel) (fun q => by exfalso; omega) (fun z7 => ?_)
      refine r_push (zW_mono _ _ _) rfl ?_
      refine r_goto (zW_mono _ _ _) rfl ?_
      refine r_iret (zW_mono _ _ _) rfl rfl (by decide +kernel) ?_
      refine r_if_ne (zW_mono _ _ _) rfl (fun _ => ?_) (fun q => absurd q (by decide +kernel))
      refine r_aload (zW_mono _ _ _) rfl rfl ?_
      refine r_push (zW_mono _ _ _) rfl ?_
      refine r_put (zW_mono _ _ _) rfl f2 (Nat.le_of_ble_eq_true rfl) rfl rfl rfl ?_
      refine zR_nm (fun h3 e3 => ?_)
      have g3 := zgs e3 f2
      refine r_aload (zW_mono _ _ _) rfl rfl ?_
      refine r_push (zW_mono _ _ _) rfl ?_
      refine r_put (zW_mono _ _ _) rfl g3 (Nat.le_of_ble_eq_true rfl) rfl rfl rfl ?_
      refine zR_nm (fun h4 e4 => ?_)
      have g4 := zgs e4 g3
      refine r_aload (zW_mono _ _ _) rfl rfl ?_
      refine r_push (zW_mono _ _ _) rfl ?_
      refine r_put (zW_mono _ _ _) rfl g4 (Nat.le_of_ble_eq_true rfl) rfl rfl rfl ?_
      refine zR_nm (fun h5 e5 => ?_)
      have g5 := zgs e5 g4
      refine r_aload (zW_mono _ _ _) rfl rfl ?_
      refine r_push (zW_mono _ _ _) rfl ?_
      refine r_put (zW_mono _ _ _) rfl g5 (Nat.le_of_ble_eq_true rfl) rfl rfl rfl ?_
      refine zR_nm (fun h6 e6 => ?_)
      have g6 := zgs e6 g5
      refine r_aload (zW_mono _ _ _) rfl rfl ?_
      refine r_push (zW_mono _ _ _) rfl ?_
      refine r_put (zW_mono _ _ _) rfl g6 (Nat.le_of_ble_eq_true rfl) rfl rfl rfl ?_
      refine zR_nm (fun h7 e7 => ?_)
      have g7 := zgs e7 g6
      refine r_push (zW_mono _ _ _) rfl ?_
      refine r_istore (zW_mono _ _ _) rfl (Nat.le_of_ble_eq_true rfl) ?_
      refine r_push (zW_mono _ _ _) rfl ?_
      refine r_istore (zW_mono _ _ _) rfl (Nat.le_of_ble_eq_true rfl) ?_
      refine r_iload (zW_mono _ _ _) rfl rfl ?_
      refine r_if_eq (zW_mono _ _ _) rfl (fun q => absurd q (by decide +kernel)) (fun _ => ?_)
      refine r_aload (zW_mono _ _ _) rfl rfl ?_
      refine r_iload (zW_mono _ _ _) rfl rfl ?_
      refine r_virt1 (zW_mono _ _ _) rfl g7 (Nat.le_of_ble_eq_true rfl) rfl (Nat.le_of_ble_eq_true rfl) (Nat.le_of_ble_eq_true rfl) ?_
      refine zW_in rfl (Nat.le_of_ble_eq_true rfl) ?_
      refine r_aload (zW_mono _ _ _) rfl rfl ?_
      refine r_virt0 (zW_mono _ _ _) rfl g7 (Nat.le_of_ble_eq_true rfl) rfl (Nat.le_of_ble_eq_true rfl) (Nat.le_of_ble_eq_true rfl) ?_
      refine zW_in rfl (Nat.le_of_ble_eq_true rfl) ?_
      refine r_aload (zW_mono _ _ _) rfl rfl ?_
      refine r_virt0 (zW_mono _ _ _) rfl g7 (Nat.le_of_ble_eq_true rfl) rfl (Nat.le_of_ble_eq_true rfl) (Nat.le_of_ble_eq_true rfl) ?_
      refine zW_in rfl (Nat.le_of_ble_eq_true rfl) ?_
      refine r_aload (zW_mono _ _ _) rfl rfl ?_
      refine r_get (zW_mono _ _ _) rfl g7 rfl ?_
      refine r_aload (zW_mono _ _ _) rfl rfl ?_
      refine r_get (zW_mono _ _ _) rfl g7 rfl ?_
      refine r_icmp_ge (zW_mono _ _ _) rfl (fun _ => ?_) (fun q => absurd q (by decide +kernel))
      refine r_push (zW_mono _ _ _) rfl ?_
      refine r_iret (zW_mono _ _ _) rfl rfl rfl ?_
      refine r_push (zW_mono _ _ _) rfl ?_
      refine r_icmp_ne (zW_mono _ _ _) rfl (fun _ => ?_) (fun q => absurd q (by decide +kernel))
      refine r_vret (zW_mono _ _ _) rfl rfl ?_
      refine r_aload (zW_mono _ _ _) rfl rfl ?_
      refine r_get (zW_mono _ _ _) rfl g7 rfl ?_
      refine r_istore (zW_mono _ _ _) rfl (Nat.le_of_ble_eq_true rfl) ?_
      refine r_push (zW_mono _ _ _) rfl ?_
      refine r_istore (zW_mono _ _ _) rfl (Nat.le_of_ble_eq_true rfl) ?_
      refine r_iload (zW_mono _ _ _) rfl rfl ?_
      refine r_push (zW_mono _ _ _) rfl ?_
      refine r_icmp_ge (zW_mono _ _ _) rfl (fun q => absurd q (by decide +kernel)) (fun _ => ?_)
      refine r_aload (zW_mono _ _ _) rfl rfl ?_
      refine r_iload (zW_mono _ _ _) rfl rfl ?_
      refine r_stat1 (zW_mono _ _ _) rfl (Nat.le_of_ble_eq_true rfl) rfl (Nat.le_of_ble_eq_true rfl) (Nat.le_of_ble_eq_true rfl) ?_
      refine zW_in rfl (Nat.le_of_ble_eq_true rfl) ?_
      refine r_iload (zW_mono _ _ _) rfl rfl ?_
      refine r_table (zW_mono _ _ _) rfl (fun q => absurd q (by decide +kernel)) (fun _ _ => ⟨_, rfl, ?_⟩)
      refine r_push (zW_mono _ _ _) rfl ?_
      refine r_sret (zW_mono _ _ _) rfl rfl rfl ?_
      refine r_virt1 (zW_mono _ _ _) rfl g7 (Nat.le_of_ble_eq_true rfl) rfl (Nat.le_of_ble_eq_true rfl) (Nat.le_of_ble_eq_true rfl) ?_
      refine zW_in rfl (Nat.le_of_ble_eq_true rfl) ?_
      refine r_aload (zW_mono _ _ _) rfl rfl ?_
      refine r_get (zW_mono _ _ _) rfl g7 rfl ?_
      refine r_istore (zW_mono _ _ _) rfl (Nat.le_of_ble_eq_true rfl) ?_
      refine r_iload (zW_mono _ _ _) rfl rfl ?_
      refine r_aload (zW_mono _ _ _) rfl rfl ?_
      refine r_get (zW_mono _ _ _) rfl g7 rfl ?_
      refine r_icmp_ge (zW_mono _ _ _) rfl (fun _ => ?_) (fun q => absurd q (by decide +kernel))
      refine r_iload (zW_mono _ _ _) rfl rfl ?_
      refine r_aload (zW_mono _ _ _) rfl rfl ?_
      refine r_get (zW_mono _ _ _) rfl g7 rfl ?_
      refine r_isub (zW_mono _ _ _) rfl ?_
      refine r_aloadS (zW_mono _ _ _) rfl rfl ?_
      refine r_tlenV (N := 5) (zW_mono _ _ _) rfl rfl (by decide +kernel) (Nat.le_of_ble_eq_true rfl) ?_
      refine r_icmp_ne (zW_mono _ _ _) rfl (fun _ => ?_) (fun q => absurd q (by decide +kernel))
      refine r_push (zW_mono _ _ _) rfl ?_
      refine r_istore (zW_mono _ _ _) rfl (Nat.le_of_ble_eq_true rfl) ?_
      refine r_push (zW_mono _ _ _) rfl ?_
      refine r_istore (zW_mono _ _ _) rfl (Nat.le_of_ble_eq_true rfl) ?_
      refine r_iload (zW_mono _ _ _) rfl rfl ?_
      refine r_aloadS (zW_mono _ _ _) rfl rfl ?_
      refine r_tlenV (N := 5) (zW_mono _ _ _) rfl rfl (by decide +kernel) (Nat.le_of_ble_eq_true rfl) ?_
      refine r_icmp_ge (zW_mono _ _ _) rfl (fun q => absurd q (by decide +kernel)) (fun _ => ?_)
      refine r_iload (zW_mono _ _ _) rfl rfl ?_
      refine r_if_eq (zW_mono _ _ _) rfl (fun _ => ?_) (fun q => absurd q (by decide +kernel))
      refine r_iload (zW_mono _ _ _) rfl rfl ?_
      refine r_iret (zW_mono _ _ _) rfl rfl (by decide +kernel) ?_
      refine r_if_ne (zW_mono _ _ _) rfl (fun q => absurd q (by decide +kernel)) (fun _ => ?_)
      refine r_iinc (zW_mono _ _ _) rfl rfl (Nat.le_of_ble_eq_true rfl) ?_
      refine r_goto (zW_mono _ _ _) rfl ?_
      refine r_iload (zW_mono _ _ _) rfl rfl ?_
      refine r_push (zW_mono _ _ _) rfl ?_
      refine r_icmp_ge (zW_mono _ _ _) rfl (fun q => absurd q (by decide +kernel)) (fun _ => ?_)
      refine r_aload (zW_mono _ _ _) rfl rfl ?_
      refine r_iload (zW_mono _ _ _) rfl rfl ?_
      refine r_stat1 (zW_mono _ _ _) rfl (Nat.le_of_ble_eq_true rfl) rfl (Nat.le_of_ble_eq_true rfl) (Nat.le_of_ble_eq_true rfl) ?_
      refine zW_in rfl (Nat.le_of_ble_eq_true rfl) ?_
      refine r_iload (zW_mono _ _ _) rfl rfl ?_
      refine r_table (zW_mono _ _ _) rfl (fun q => absurd q (by decide +kernel)) (fun _ _ => ⟨_, rfl, ?_⟩)
      refine r_push (zW_mono _ _ _) rfl ?_
      refine r_sret (zW_mono _ _ _) rfl rfl rfl ?_
      refine r_virt1 (zW_mono _ _ _) rfl g7 (Nat.le_of_ble_eq_true rfl) rfl (Nat.le_of_ble_eq_true rfl) (Nat.le_of_ble_eq_true rfl) ?_
      refine zW_in rfl (Nat.le_of_ble_eq_true rfl) ?_
      refine r_aload (zW_mono _ _ _) rfl rfl ?_
      refine r_get (zW_mono _ _ _) rfl g7 rfl ?_
      refine r_istore (zW_mono _ _ _) rfl (Nat.le_of_ble_eq_true rfl) ?_
      refine r_iload (zW_mono _ _ _) rfl rfl ?_
      refine r_aload (zW_mono _ _ _) rfl rfl ?_
      refine r_get (zW_mono _ _ _) rfl g7 rfl ?_
      refine r_icmp_ge (zW_mono _ _ _) rfl (fun _ => ?_) (fun q => absurd q (by decide +kernel))
      refine r_iload (zW_mono _ _ _) rfl rfl ?_
      refine r_aload (zW_mono _ _ _) rfl rfl ?_
      refine r_get (zW_mono _ _ _) rfl g7 rfl ?_
      refine r_isub (zW_mono _ _ _) rfl ?_
      refine r_aloadS (zW_mono _ _ _) rfl rfl ?_
      refine r_tlenV (N := 4) (zW_mono _ _ _) rfl rfl (by decide +kernel) (Nat.le_of_ble_eq_true rfl) ?_
      refine r_icmp_ne (zW_mono _ _ _) rfl (fun _ => ?_) (fun q => absurd q (by decide +kernel))
      refine r_push (zW_mono _ _ _) rfl ?_
      refine r_istore (zW_mono _ _ _) rfl (Nat.le_of_ble_eq_true rfl) ?_
      refine r_push (zW_mono _ _ _) rfl ?_
      refine r_istore (zW_mono _ _ _) rfl (Nat.le_of_ble_eq_true rfl) ?_
      refine r_iload (zW_mono _ _ _) rfl rfl ?_
      refine r_aloadS (zW_mono _ _ _) rfl rfl ?_
      refine r_tlenV (N := 4) (zW_mono _ _ _) rfl rfl (by decide +kernel) (Nat.le_of_ble_eq_true rfl) ?_
      refine r_icmp_ge (zW_mono _ _ _) rfl (fun q => absurd q (by decide +kernel)) (fun _ => ?_)
      refine r_iload (zW_mono _ _ _) rfl rfl ?_
      refine r_if_eq (zW_mono _ _ _) rfl (fun _ => ?_) (fun q => absurd q (by decide +kernel))
      refine r_iload (zW_mono _ _ _) rfl rfl ?_
      refine r_iret (zW_mono _ _ _) rfl rfl (by decide +kernel) ?_
      refine r_if_ne (zW_mono _ _ _) rfl (fun q => absurd q (by decide +kernel)) (fun _ => ?_)
      refine r_iinc (zW_mono _ _ _) rfl rfl (Nat.le_of_ble_eq_true rfl) ?_
      refine r_goto (zW_mono _ _ _) rfl ?_
      refine r_iload (zW_mono _ _ _) rfl rfl ?_
      refine r_push (zW_mono _ _ _) rfl ?_
      refine r_icmp_ge (zW_mono _ _ _) rfl (fun q => absurd q (by decide +kernel)) (fun _ => ?_)
      refine r_aload (zW_mono _ _ _) rfl rfl ?_
      refine r_iload (zW_mono _ _ _) rfl rfl ?_
      refine r_stat1 (zW_mono _ _ _) rfl (Nat.le_of_ble_eq_true rfl) rfl (Nat.le_of_ble_eq_true rfl) (Nat.le_of_ble_eq_true rfl) ?_
      refine zW_in rfl (Nat.le_of_ble_eq_true rfl) ?_
      refine r_iload (zW_mono _ _ _) rfl rfl ?_
      refine r_table (zW_mono _ _ _) rfl (fun q => absurd q (by decide +kernel)) (fun _ _ => ⟨_, rfl, ?_⟩)
      refine r_push (zW_mono _ _ _) rfl ?_
      refine r_sret (zW_mono _ _ _) rfl rfl rfl ?_
      refine r_virt1 (zW_mono _ _ _) rfl g7 (Nat.le_of_ble_eq_true rfl) rfl (Nat.le_of_ble_eq_true rfl) (Nat.le_of_ble_eq_true rfl) ?_
      refine zW_in rfl (Nat.le_of_ble_eq_true rfl) ?_
      refine r_aload (zW_mono _ _ _) rfl rfl ?_
      refine r_get (zW_mono _ _ _) rfl g7 rfl ?_
      refine r_istore (zW_mono _ _ _) rfl (Nat.le_of_ble_eq_true rfl) ?_
      refine r_iload (zW_mono _ _ _) rfl rfl ?_
      refine r_aload (zW_mono _ _ _) rfl rfl ?_
      refine r_get (zW_mono _ _ _) rfl g7 rfl ?_
      refine r_icmp_ge (zW_mono _ _ _) rfl (fun _ => ?_) (fun q => absurd q (by decide +kernel))
      refine r_iload (zW_mono _ _ _) rfl rfl ?_
      refine r_aload (zW_mono _ _ _) rfl rfl ?_
      refine r_get (zW_mono _ _ _) rfl g7 rfl ?_
      refine r_isub (zW_mono _ _ _) rfl ?_
      refine r_aloadS (zW_mono _ _ _) rfl rfl ?_
      refine r_tlenV (N := 4) (zW_mono _ _ _) rfl rfl (by decide +kernel) (Nat.le_of_ble_eq_true rfl) ?_
      refine r_icmp_ne (zW_mono _ _ _) rfl (fun _ => ?_) (fun q => absurd q (by decide +kernel))
      refine r_push (zW_mono _ _ _) rfl ?_
      refine r_istore (zW_mono _ _ _) rfl (Nat.le_of_ble_eq_true rfl) ?_
      refine r_push (zW_mono _ _ _) rfl ?_
      refine r_istore (zW_mono _ _ _) rfl (Nat.le_of_ble_eq_true rfl) ?_
      refine r_iload (zW_mono _ _ _) rfl rfl ?_
      refine r_aloadS (zW_mono _ _ _) rfl rfl ?_
      refine r_tlenV (N := 4) (zW_mono _ _ _) rfl rfl (by decide +kernel) (Nat.le_of_ble_eq_true rfl) ?_
      refine r_icmp_ge (zW_mono _ _ _) rfl (fun q => absurd q (by decide +kernel)) (fun _ => ?_)
      refine r_iload (zW_mono _ _ _) rfl rfl ?_
      refine r_if_eq (zW_mono _ _ _) rfl (fun _ => ?_) (fun q => absurd q (by decide +kernel))
      refine r_iload (zW_mono _ _ _) rfl rfl ?_
      refine r_iret (zW_mono _ _ _) rfl rfl (by decide +kernel) ?_
      refine r_if_ne (zW_mono _ _ _) rfl (fun q => absurd q (by decide +kernel)) (fun _ => ?_)
      refine r_iinc (zW_mono _ _ _) rfl rfl (Nat.le_of_ble_eq_true rfl) ?_
      refine r_goto (zW_mono _ _ _) rfl ?_
      refine r_iload (zW_mono _ _ _) rfl rfl ?_
      refine r_push (zW_mono _ _ _) rfl ?_
      refine r_icmp_ge (zW_mono _ _ _) rfl (fun q => absurd q (by decide +kernel)) (fun _ => ?_)
      refine r_aload (zW_mono _ _ _) rfl rfl ?_
      refine r_iload (zW_mono _ _ _) rfl rfl ?_
      refine r_stat1 (zW_mono _ _ _) rfl (Nat.le_of_ble_eq_true rfl) rfl (Nat.le_of_ble_eq_true rfl) (Nat.le_of_ble_eq_true rfl) ?_
      refine zW_in rfl (Nat.le_of_ble_eq_true rfl) ?_
      refine r_iload (zW_mono _ _ _) rfl rfl ?_
      refine r_table (zW_mono _ _ _) rfl (fun _ => ?_) (fun q1 q2 => absurd (by decide +kernel) q2)
      refine r_push (zW_mono _ _ _) rfl ?_
      refine r_sret (zW_mono _ _ _) rfl rfl rfl ?_
      refine r_virt1 (zW_mono _ _ _) rfl g7 (Nat.le_of_ble_eq_true rfl) rfl (Nat.le_of_ble_eq_true rfl) (Nat.le_of_ble_eq_true rfl) ?_
      refine zW_in rfl (Nat.le_of_ble_eq_true rfl) ?_
      refine r_aload (zW_mono _ _ _) rfl rfl ?_
      refine r_get (zW_mono _ _ _) rfl g7 rfl ?_
      refine r_istore (zW_mono _ _ _) rfl (Nat.le_of_ble_eq_true rfl) ?_
      refine r_iload (zW_mono _ _ _) rfl rfl ?_
      refine r_aload (zW_mono _ _ _) rfl rfl ?_
      refine r_get (zW_mono _ _ _) rfl g7 rfl ?_
      refine r_icmp_ge (zW_mono _ _ _) rfl (fun _ => ?_) (fun q => absurd q (by decide +kernel))
      refine r_iload (zW_mono _ _ _) rfl rfl ?_
      refine r_aload (zW_mono _ _ _) rfl rfl ?_
      refine r_get (zW_mono _ _ _) rfl g7 rfl ?_
      refine r_isub (zW_mono _ _ _) rfl ?_
      refine r_aloadS (zW_mono _ _ _) rfl rfl ?_
      refine r_tlenV (N := 6) (zW_mono _ _ _) rfl rfl (by decide +kernel) (Nat.le_of_ble_eq_true rfl) ?_
      refine r_icmp_ne (zW_mono _ _ _) rfl (fun _ => ?_) (fun q => absurd q (by decide +kernel))
      refine r_push (zW_mono _ _ _) rfl ?_
      refine r_istore (zW_mono _ _ _) rfl (Nat.le_of_ble_eq_true rfl) ?_
      refine r_push (zW_mono _ _ _) rfl ?_
      refine r_istore (zW_mono _ _ _) rfl (Nat.le_of_ble_eq_true rfl) ?_
      refine r_iload (zW_mono _ _ _) rfl rfl ?_
      refine r_aloadS (zW_mono _ _ _) rfl rfl ?_
      refine r_tlenV (N := 6) (zW_mono _ _ _) rfl rfl (by decide +kernel) (Nat.le_of_ble_eq_true rfl) ?_
      refine r_icmp_ge (zW_mono _ _ _) rfl (fun q => absurd q (by decide +kernel)) (fun _ => ?_)
      refine r_iload (zW_mono _ _ _) rfl rfl ?_
      refine r_if_eq (zW_mono _ _ _) rfl (fun _ => ?_) (fun q => absurd q (by decide +kernel))
      refine r_iload (zW_mono _ _ _) rfl rfl ?_
      refine r_iret (zW_mono _ _ _) rfl rfl (by decide +kernel) ?_
      refine r_if_ne (zW_mono _ _ _) rfl (fun q => absurd q (by decide +kernel)) (fun _ => ?_)
      refine r_iinc (zW_mono _ _ _) rfl rfl (Nat.le_of_ble_eq_true rfl) ?_
      refine r_goto (zW_mono _ _ _) rfl ?_
      refine r_iload (zW_mono _ _ _) rfl rfl ?_
      refine r_push (zW_mono _ _ _) rfl ?_
      refine r_icmp_ge (zW_mono _ _ _) rfl (fun _ => ?_) (fun q => absurd q (by decide +kernel))
      refine r_iload (zW_mono _ _ _) rfl rfl ?_
      refine r_push (zW_mono _ _ _) rfl ?_
      refine r_icmp_ne (zW_mono _ _ _) rfl (fun q => absurd q (by decide +kernel)) (fun _ => ?_)
      refine r_aload (zW_mono _ _ _) rfl rfl ?_
      refine r_push (zW_mono _ _ _) rfl ?_
      refine r_iload (zW_mono _ _ _) rfl rfl ?_
      refine r_virt2 (zW_mono _ _ _) rfl g7 (Nat.le_of_ble_eq_true rfl) rfl (Nat.le_of_ble_eq_true rfl) (Nat.le_of_ble_eq_true rfl) ?_
      refine zW_in rfl (Nat.le_of_ble_eq_true rfl) ?_
      refine r_aload (zW_mono _ _ _) rfl rfl ?_
      refine r_aload (zW_mono _ _ _) rfl rfl ?_
      refine r_get (zW_mono _ _ _) rfl g7 rfl ?_
      refine r_if_ne (zW_mono _ _ _) rfl (fun q => absurd q (by decide +kernel)) (fun _ => ?_)
      refine r_push (zW_mono _ _ _) rfl ?_
      refine r_push (zW_mono _ _ _) rfl ?_
      refine r_iload (zW_mono _ _ _) rfl rfl ?_
      refine r_imul (zW_mono _ _ _) rfl ?_
      refine r_iadd (zW_mono _ _ _) rfl ?_
      refine r_iload (zW_mono _ _ _) rfl rfl ?_
      refine r_iadd (zW_mono _ _ _) rfl ?_
      refine r_goto (zW_mono _ _ _) rfl ?_
      refine r_put (zW_mono _ _ _) rfl g7 (Nat.le_of_ble_eq_true rfl) rfl rfl rfl ?_
      refine zR_nm (fun h8 e8 => ?_)
      have g8 := zgs e8 g7
      refine r_vret (zW_mono _ _ _) rfl rfl ?_
      refine r_vret (zW_mono _ _ _) rfl rfl ?_
      refine r_iinc (zW_mono _ _ _) rfl rfl (Nat.le_of_ble_eq_true rfl) ?_
      refine r_aload (zW_mono _ _ _) rfl rfl ?_
      refine r_virt0 (zW_mono _ _ _) rfl g8 (Nat.le_of_ble_eq_true rfl) rfl (Nat.le_of_ble_eq_true rfl) (Nat.le_of_ble_eq_true rfl) ?_
      refine zW_in rfl (Nat.le_of_ble_eq_true rfl) ?_
      refine r_aload (zW_mono _ _ _) rfl rfl ?_
      refine r_virt0 (zW_mono _ _ _) rfl g8 (Nat.le_of_ble_eq_true rfl) rfl (Nat.le_of_ble_eq_true rfl) (Nat.le_of_ble_eq_true rfl) ?_
      refine zW_in rfl (Nat.le_of_ble_eq_true rfl) ?_
      refine r_aload (zW_mono _ _ _) rfl rfl ?_
      refine r_get (zW_mono _ _ _) rfl g8 rfl ?_
      refine r_aload (zW_mono _ _ _) rfl rfl ?_
      refine r_get (zW_mono _ _ _) rfl g8 rfl ?_
      refine r_icmp_ge (zW_mono _ _ _) rfl (fun _ => ?_) (fun q => absurd q (by decide +kernel))
      refine r_push (zW_mono _ _ _) rfl ?_
      refine r_iret (zW_mono _ _ _) rfl rfl rfl ?_
      refine r_push (zW_mono _ _ _) rfl ?_
      refine r_icmp_ne (zW_mono _ _ _) rfl (fun _ => ?_) (fun q => absurd q (by decide +kernel))
      refine r_vret (zW_mono _ _ _) rfl rfl ?_
      refine r_aload (zW_mono _ _ _) rfl rfl ?_
      refine r_get (zW_mono _ _ _) rfl g8 rfl ?_
      refine r_if_ne (zW_mono _ _ _) rfl (fun _ => ?_) (fun q => absurd q (by decide +kernel))
      refine r_aload (zW_mono _ _ _) rfl rfl ?_
      refine r_get (zW_mono _ _ _) rfl g8 rfl ?_
      refine r_if_ne (zW_mono _ _ _) rfl (fun _ => ?_) (fun q => absurd q (by decide +kernel))
      refine r_push (zW_mono _ _ _) rfl ?_
      refine r_istore (zW_mono _ _ _) rfl (Nat.le_of_ble_eq_true rfl) ?_
      refine r_aload (zW_mono _ _ _) rfl rfl ?_
      refine r_dup (zW_mono _ _ _) rfl rfl ?_
      refine r_get (zW_mono _ _ _) rfl g8 rfl ?_
      refine r_push (zW_mono _ _ _) rfl ?_
      refine r_iadd (zW_mono _ _ _) rfl ?_
      refine r_put (zW_mono _ _ _) rfl g8 (Nat.le_of_ble_eq_true rfl) rfl rfl rfl ?_
      refine zR_nm (fun h9 e9 => ?_)
      have g9 := zgs e9 g8
      refine r_goto (zW_mono _ _ _) rfl ?_
      refine r_iload (zW_mono _ _ _) rfl rfl ?_
      refine r_if_eq (zW_mono _ _ _) rfl (fun _ => ?_) (fun q => absurd q (by decide +kernel))
      refine r_aload (zW_mono _ _ _) rfl rfl ?_
      refine r_push (zW_mono _ _ _) rfl ?_
      refine r_put (zW_mono _ _ _) rfl g9 (Nat.le_of_ble_eq_true rfl) rfl rfl rfl ?_
      refine zR_nm (fun h10 e10 => ?_)
      have g10 := zgs e10 g9
      refine r_aload (zW_mono _ _ _) rfl rfl ?_
      refine r_get (zW_mono _ _ _) rfl g10 rfl ?_
      refine r_if_le (zW_mono _ _ _) rfl (fun q => absurd q (by decide +kernel)) (fun _ => ?_)
      refine r_push (zW_mono _ _ _) rfl ?_
      refine r_aload (zW_mono _ _ _) rfl rfl ?_
      refine r_get (zW_mono _ _ _) rfl g10 rfl ?_
      refine r_isub (zW_mono _ _ _) rfl ?_
      refine r_iret (zW_mono _ _ _) rfl rfl rfl ?_
      first | rfl | exact congrArg some (by decide +kernel)
set_option maxHeartbeats 4000000 in
set_option maxRecDepth 20000 in
theorem op_inForce {G : zG} (hG : G.1 = zProg) (a1 : Int32) : zW zTt G 12 125 [.ref 0, .int a1] (dzH dH0) (fun w h => ∃ x : Int32, w = some (.int x) ∧ (∃ fs : List Value, h[111]? = some (.inr (12, fs))) ∧ zW zTt G 12 227 [.ref 111, .int a1] h (fun w2 _ => w2 = some (.int x))) := by
  obtain ⟨p9, t9⟩ := G
  have hG : p9 = zProg := hG
  subst hG
  refine zW_in rfl (Nat.le_of_ble_eq_true rfl) ?_
  refine r_iload (zW_mono _ _ _) rfl rfl ?_
  refine r_stat1 (zW_mono _ _ _) rfl (Nat.le_of_ble_eq_true rfl) rfl (Nat.le_of_ble_eq_true rfl) (Nat.le_of_ble_eq_true rfl) ?_
  refine zW_in rfl (Nat.le_of_ble_eq_true rfl) ?_
  refine r_iload (zW_mono _ _ _) rfl rfl ?_
  refine r_push (zW_mono _ _ _) rfl ?_
  refine r_push (zW_mono _ _ _) rfl ?_
  refine r_stat3 (zW_mono _ _ _) rfl (Nat.le_of_ble_eq_true rfl) rfl (Nat.le_of_ble_eq_true rfl) (Nat.le_of_ble_eq_true rfl) ?_
  refine zW_in rfl (Nat.le_of_ble_eq_true rfl) ?_
  refine r_iload (zW_mono _ _ _) rfl rfl ?_
  refine r_iload (zW_mono _ _ _) rfl rfl ?_
  refine r_ic_lt (X := a1.toInt) (Y := 0) (zW_mono _ _ _) rfl rfl (by decide +kernel) (fun z1 => ?_) (fun z1 => ?_)
  · refine r_push (zW_mono _ _ _) rfl ?_
    refine r_iret (zW_mono _ _ _) rfl rfl (by decide +kernel) ?_
    refine r_iret (zW_mono _ _ _) rfl rfl (by decide +kernel) ?_
    refine r_if_eq (zW_mono _ _ _) rfl (fun _ => ?_) (fun q => absurd q (by decide +kernel))
    refine r_push (zW_mono _ _ _) rfl ?_
    refine r_iret (zW_mono _ _ _) rfl rfl rfl ?_
    refine ⟨_, rfl, ⟨_, hx_111⟩, ?_⟩
    refine zW_in rfl (Nat.le_of_ble_eq_true rfl) ?_
    refine r_iload (zW_mono _ _ _) rfl rfl ?_
    refine r_stat1 (zW_mono _ _ _) rfl (Nat.le_of_ble_eq_true rfl) rfl (Nat.le_of_ble_eq_true rfl) (Nat.le_of_ble_eq_true rfl) ?_
    refine zW_in rfl (Nat.le_of_ble_eq_true rfl) ?_
    refine r_iload (zW_mono _ _ _) rfl rfl ?_
    refine r_i2l (zW_mono _ _ _) rfl ?_
    refine r_push (zW_mono _ _ _) rfl ?_
    refine r_push (zW_mono _ _ _) rfl ?_
    refine r_stat3 (zW_mono _ _ _) rfl (Nat.le_of_ble_eq_true rfl) rfl (Nat.le_of_ble_eq_true rfl) (Nat.le_of_ble_eq_true rfl) ?_
    refine zW_in rfl (Nat.le_of_ble_eq_true rfl) ?_
    refine r_lload (zW_mono _ _ _) rfl rfl ?_
    refine r_lload (zW_mono _ _ _) rfl rfl ?_
    refine r_lc_lt (X := a1.toInt) (Y := 0) (zW_mono _ _ _) rfl rfl (zi64 _) (by decide +kernel) (fun z2 => ?_) (fun q => by exfalso; omega)
    refine r_push (zW_mono _ _ _) rfl ?_
    refine r_iret (zW_mono _ _ _) rfl rfl (by decide +kernel) ?_
    refine r_iret (zW_mono _ _ _) rfl rfl (by decide +kernel) ?_
    refine r_if_eq (zW_mono _ _ _) rfl (fun _ => ?_) (fun q => absurd q (by decide +kernel))
    refine r_push (zW_mono _ _ _) rfl ?_
    refine r_iret (zW_mono _ _ _) rfl rfl rfl ?_
    first | rfl | exact congrArg some (by decide +kernel)
  · refine r_iload (zW_mono _ _ _) rfl rfl ?_
    refine r_iload (zW_mono _ _ _) rfl rfl ?_
    refine r_ic_gt (X := a1.toInt) (Y := 599) (zW_mono _ _ _) rfl rfl (by decide +kernel) (fun z3 => ?_) (fun z3 => ?_)
    · refine r_push (zW_mono _ _ _) rfl ?_
      refine r_iret (zW_mono _ _ _) rfl rfl (by decide +kernel) ?_
      refine r_iret (zW_mono _ _ _) rfl rfl (by decide +kernel) ?_
      refine r_if_eq (zW_mono _ _ _) rfl (fun _ => ?_) (fun q => absurd q (by decide +kernel))
      refine r_push (zW_mono _ _ _) rfl ?_
      refine r_iret (zW_mono _ _ _) rfl rfl rfl ?_
      refine ⟨_, rfl, ⟨_, hx_111⟩, ?_⟩
      refine zW_in rfl (Nat.le_of_ble_eq_true rfl) ?_
      refine r_iload (zW_mono _ _ _) rfl rfl ?_
      refine r_stat1 (zW_mono _ _ _) rfl (Nat.le_of_ble_eq_true rfl) rfl (Nat.le_of_ble_eq_true rfl) (Nat.le_of_ble_eq_true rfl) ?_
      refine zW_in rfl (Nat.le_of_ble_eq_true rfl) ?_
      refine r_iload (zW_mono _ _ _) rfl rfl ?_
      refine r_i2l (zW_mono _ _ _) rfl ?_
      refine r_push (zW_mono _ _ _) rfl ?_
      refine r_push (zW_mono _ _ _) rfl ?_
      refine r_stat3 (zW_mono _ _ _) rfl (Nat.le_of_ble_eq_true rfl) rfl (Nat.le_of_ble_eq_true rfl) (Nat.le_of_ble_eq_true rfl) ?_
      refine zW_in rfl (Nat.le_of_ble_eq_true rfl) ?_
      refine r_lload (zW_mono _ _ _) rfl rfl ?_
      refine r_lload (zW_mono _ _ _) rfl rfl ?_
      refine r_lc_lt (X := a1.toInt) (Y := 0) (zW_mono _ _ _) rfl rfl (zi64 _) (by decide +kernel) (fun q => by exfalso; omega) (fun z4 => ?_)
      refine r_lload (zW_mono _ _ _) rfl rfl ?_
      refine r_lload (zW_mono _ _ _) rfl rfl ?_
      refine r_lc_gt (X := a1.toInt) (Y := 599) (zW_mono _ _ _) rfl rfl (zi64 _) (by decide +kernel) (fun z5 => ?_) (fun q => by exfalso; omega)
      refine r_push (zW_mono _ _ _) rfl ?_
      refine r_iret (zW_mono _ _ _) rfl rfl (by decide +kernel) ?_
      refine r_iret (zW_mono _ _ _) rfl rfl (by decide +kernel) ?_
      refine r_if_eq (zW_mono _ _ _) rfl (fun _ => ?_) (fun q => absurd q (by decide +kernel))
      refine r_push (zW_mono _ _ _) rfl ?_
      refine r_iret (zW_mono _ _ _) rfl rfl rfl ?_
      first | rfl | exact congrArg some (by decide +kernel)
    · refine r_push (zW_mono _ _ _) rfl ?_
      refine r_goto (zW_mono _ _ _) rfl ?_
      refine r_iret (zW_mono _ _ _) rfl rfl (by decide +kernel) ?_
      refine r_iret (zW_mono _ _ _) rfl rfl (by decide +kernel) ?_
      refine r_if_eq (zW_mono _ _ _) rfl (fun q => absurd q (by decide +kernel)) (fun _ => ?_)
      refine r_aload (zW_mono _ _ _) rfl rfl ?_
      refine r_get (zW_mono _ _ _) rfl hx_0 rfl ?_
      refine r_iload (zW_mono _ _ _) rfl rfl ?_
      refine r_virt1 (zW_mono _ _ _) rfl hx_48 (Nat.le_of_ble_eq_true rfl) rfl (Nat.le_of_ble_eq_true rfl) (Nat.le_of_ble_eq_true rfl) ?_
      refine zW_in rfl (Nat.le_of_ble_eq_true rfl) ?_
      refine r_push (zW_mono _ _ _) rfl ?_
      refine r_istore (zW_mono _ _ _) rfl (Nat.le_of_ble_eq_true rfl) ?_
      refine r_push (zW_mono _ _ _) rfl ?_
      refine r_istore (zW_mono _ _ _) rfl (Nat.le_of_ble_eq_true rfl) ?_
      refine r_iload (zW_mono _ _ _) rfl rfl ?_
      refine r_aload (zW_mono _ _ _) rfl rfl ?_
      refine r_get (zW_mono _ _ _) rfl hx_48 rfl ?_
      refine r_icmp_ge (zW_mono _ _ _) rfl (fun _ => ?_) (fun q => absurd q (by decide +kernel))
      refine r_iload (zW_mono _ _ _) rfl rfl ?_
      refine r_iret (zW_mono _ _ _) rfl rfl rfl ?_
      refine r_goto (zW_mono _ _ _) rfl ?_
      refine r_iret (zW_mono _ _ _) rfl rfl rfl ?_
      refine ⟨_, rfl, ⟨_, hx_111⟩, ?_⟩
      refine zW_in rfl (Nat.le_of_ble_eq_true rfl) ?_
      refine r_iload (zW_mono _ _ _) rfl rfl ?_
      refine r_stat1 (zW_mono _ _ _) rfl (Nat.le_of_ble_eq_true rfl) rfl (Nat.le_of_ble_eq_true rfl) (Nat.le_of_ble_eq_true rfl) ?_
      refine zW_in rfl (Nat.le_of_ble_eq_true rfl) ?_
      refine r_iload (zW_mono _ _ _) rfl rfl ?_
      refine r_i2l (zW_mono _ _ _) rfl ?_
      refine r_push (zW_mono _ _ _) rfl ?_
      refine r_push (zW_mono _ _ _) rfl ?_
      refine r_stat3 (zW_mono _ _ _) rfl (Nat.le_of_ble_eq_true rfl) rfl (Nat.le_of_ble_eq_true rfl) (Nat.le_of_ble_eq_true rfl) ?_
      refine zW_in rfl (Nat.le_of_ble_eq_true rfl) ?_
      refine r_lload (zW_mono _ _ _) rfl rfl ?_
      refine r_lload (zW_mono _ _ _) rfl rfl ?_
      refine r_lc_lt (X := a1.toInt) (Y := 0) (zW_mono _ _ _) rfl rfl (zi64 _) (by decide +kernel) (fun q => by exfalso; omega) (fun z6 => ?_)
      refine r_lload (zW_mono _ _ _) rfl rfl ?_
      refine r_lload (zW_mono _ _ _) rfl rfl ?_
      refine r_lc_gt (X := a1.toInt) (Y := 599) (zW_mono _ _ _) rfl rfl (zi64 _) (by decide +kernel) (fun q => by exfalso; omega) (fun z7 => ?_)
      refine r_push (zW_mono _ _ _) rfl ?_
      refine r_goto (zW_mono _ _ _) rfl ?_
      refine r_iret (zW_mono _ _ _) rfl rfl (by decide +kernel) ?_
      refine r_iret (zW_mono _ _ _) rfl rfl (by decide +kernel) ?_
      refine r_if_eq (zW_mono _ _ _) rfl (fun q => absurd q (by decide +kernel)) (fun _ => ?_)
      refine r_aload (zW_mono _ _ _) rfl rfl ?_
      refine r_iload (zW_mono _ _ _) rfl rfl ?_
      refine r_virt1 (zW_mono _ _ _) rfl hx_111 (Nat.le_of_ble_eq_true rfl) rfl (Nat.le_of_ble_eq_true rfl) (Nat.le_of_ble_eq_true rfl) ?_
      refine zW_in rfl (Nat.le_of_ble_eq_true rfl) ?_
      refine r_push (zW_mono _ _ _) rfl ?_
      refine r_istore (zW_mono _ _ _) rfl (Nat.le_of_ble_eq_true rfl) ?_
      refine r_push (zW_mono _ _ _) rfl ?_
      refine r_istore (zW_mono _ _ _) rfl (Nat.le_of_ble_eq_true rfl) ?_
      refine r_iload (zW_mono _ _ _) rfl rfl ?_
      refine r_aload (zW_mono _ _ _) rfl rfl ?_
      refine r_get (zW_mono _ _ _) rfl hx_111 rfl ?_
      refine r_icmp_ge (zW_mono _ _ _) rfl (fun _ => ?_) (fun q => absurd q (by decide +kernel))
      refine r_iload (zW_mono _ _ _) rfl rfl ?_
      refine r_iret (zW_mono _ _ _) rfl rfl rfl ?_
      refine r_goto (zW_mono _ _ _) rfl ?_
      refine r_iret (zW_mono _ _ _) rfl rfl rfl ?_
      first | rfl | exact congrArg some (by decide +kernel)
set_option maxHeartbeats 4000000 in
set_option maxRecDepth 20000 in
theorem op_must {G : zG} (hG : G.1 = zProg) (a1 a2 a3 : Int32) : zW zTt G 12 126 [.ref 0, .int a1, .int a2, .int a3] (dzH dH0) (fun w h => ∃ x : Int32, w = some (.int x) ∧ (∃ fs : List Value, h[111]? = some (.inr (12, fs))) ∧ zW zTt G 12 235 [.ref 111, .int a1, .int a2, .int a3] h (fun w2 _ => w2 = some (.int x))) := by
  obtain ⟨p9, t9⟩ := G
  have hG : p9 = zProg := hG
  subst hG
  refine zW_in rfl (Nat.le_of_ble_eq_true rfl) ?_
  refine r_aload (zW_mono _ _ _) rfl rfl ?_
  refine r_get (zW_mono _ _ _) rfl hx_0 rfl ?_
  refine r_iload (zW_mono _ _ _) rfl rfl ?_
  refine r_virt1 (zW_mono _ _ _) rfl hx_1 (Nat.le_of_ble_eq_true rfl) rfl (Nat.le_of_ble_eq_true rfl) (Nat.le_of_ble_eq_true rfl) ?_
  refine zW_in rfl (Nat.le_of_ble_eq_true rfl) ?_
  refine r_iload (zW_mono _ _ _) rfl rfl ?_
  refine r_i0_lt (X := a1.toInt) (zW_mono _ _ _) rfl rfl (fun z1 => ?_) (fun z1 => ?_)
  · refine r_push (zW_mono _ _ _) rfl ?_
    refine r_iret (zW_mono _ _ _) rfl rfl (by decide +kernel) ?_
    refine r_if_eq (zW_mono _ _ _) rfl (fun _ => ?_) (fun q => absurd q (by decide +kernel))
    refine r_push (zW_mono _ _ _) rfl ?_
    refine r_iret (zW_mono _ _ _) rfl rfl rfl ?_
    refine ⟨_, rfl, ⟨_, hx_111⟩, ?_⟩
    refine zW_in rfl (Nat.le_of_ble_eq_true rfl) ?_
    refine r_aload (zW_mono _ _ _) rfl rfl ?_
    refine r_iload (zW_mono _ _ _) rfl rfl ?_
    refine r_iload (zW_mono _ _ _) rfl rfl ?_
    refine r_iload (zW_mono _ _ _) rfl rfl ?_
    refine r_virt3 (zW_mono _ _ _) rfl hx_111 (Nat.le_of_ble_eq_true rfl) rfl (Nat.le_of_ble_eq_true rfl) (Nat.le_of_ble_eq_true rfl) ?_
    refine zW_in rfl (Nat.le_of_ble_eq_true rfl) ?_
    refine r_aload (zW_mono _ _ _) rfl rfl ?_
    refine r_iload (zW_mono _ _ _) rfl rfl ?_
    refine r_virt1 (zW_mono _ _ _) rfl hx_111 (Nat.le_of_ble_eq_true rfl) rfl (Nat.le_of_ble_eq_true rfl) (Nat.le_of_ble_eq_true rfl) ?_
    refine zW_in rfl (Nat.le_of_ble_eq_true rfl) ?_
    refine r_iload (zW_mono _ _ _) rfl rfl ?_
    refine r_i2l (zW_mono _ _ _) rfl ?_
    refine r_push (zW_mono _ _ _) rfl ?_
    refine r_aload (zW_mono _ _ _) rfl rfl ?_
    refine r_get (zW_mono _ _ _) rfl hx_111 rfl ?_
    refine r_push (zW_mono _ _ _) rfl ?_
    refine r_isub (zW_mono _ _ _) rfl ?_
    refine r_i2l (zW_mono _ _ _) rfl ?_
    refine r_stat3 (zW_mono _ _ _) rfl (Nat.le_of_ble_eq_true rfl) rfl (Nat.le_of_ble_eq_true rfl) (Nat.le_of_ble_eq_true rfl) ?_
    refine zW_in rfl (Nat.le_of_ble_eq_true rfl) ?_
    refine r_lload (zW_mono _ _ _) rfl rfl ?_
    refine r_lload (zW_mono _ _ _) rfl rfl ?_
    refine r_lc_lt (X := a1.toInt) (Y := 0) (zW_mono _ _ _) rfl rfl (zi64 _) (by decide +kernel) (fun z2 => ?_) (fun q => by exfalso; omega)
    refine r_push (zW_mono _ _ _) rfl ?_
    refine r_iret (zW_mono _ _ _) rfl rfl (by decide +kernel) ?_
    refine r_iret (zW_mono _ _ _) rfl rfl (by decide +kernel) ?_
    refine r_if_eq (zW_mono _ _ _) rfl (fun _ => ?_) (fun q => absurd q (by decide +kernel))
    refine r_push (zW_mono _ _ _) rfl ?_
    refine r_iret (zW_mono _ _ _) rfl rfl (by decide +kernel) ?_
    refine r_if_eq (zW_mono _ _ _) rfl (fun _ => ?_) (fun q => absurd q (by decide +kernel))
    refine r_push (zW_mono _ _ _) rfl ?_
    refine r_iret (zW_mono _ _ _) rfl rfl rfl ?_
    first | rfl | exact congrArg some (by decide +kernel)
  · refine r_iload (zW_mono _ _ _) rfl rfl ?_
    refine r_aload (zW_mono _ _ _) rfl rfl ?_
    refine r_get (zW_mono _ _ _) rfl hx_1 rfl ?_
    refine r_ic_ge (X := a1.toInt) (Y := 0) (zW_mono _ _ _) rfl rfl (by decide +kernel) (fun z3 => ?_) (fun q => by exfalso; omega)
    refine r_push (zW_mono _ _ _) rfl ?_
    refine r_iret (zW_mono _ _ _) rfl rfl (by decide +kernel) ?_
    refine r_if_eq (zW_mono _ _ _) rfl (fun _ => ?_) (fun q => absurd q (by decide +kernel))
    refine r_push (zW_mono _ _ _) rfl ?_
    refine r_iret (zW_mono _ _ _) rfl rfl rfl ?_
    refine ⟨_, rfl, ⟨_, hx_111⟩, ?_⟩
    refine zW_in rfl (Nat.le_of_ble_eq_true rfl) ?_
    refine r_aload (zW_mono _ _ _) rfl rfl ?_
    refine r_iload (zW_mono _ _ _) rfl rfl ?_
    refine r_iload (zW_mono _ _ _) rfl rfl ?_
    refine r_iload (zW_mono _ _ _) rfl rfl ?_
    refine r_virt3 (zW_mono _ _ _) rfl hx_111 (Nat.le_of_ble_eq_true rfl) rfl (Nat.le_of_ble_eq_true rfl) (Nat.le_of_ble_eq_true rfl) ?_
    refine zW_in rfl (Nat.le_of_ble_eq_true rfl) ?_
    refine r_aload (zW_mono _ _ _) rfl rfl ?_
    refine r_iload (zW_mono _ _ _) rfl rfl ?_
    refine r_virt1 (zW_mono _ _ _) rfl hx_111 (Nat.le_of_ble_eq_true rfl) rfl (Nat.le_of_ble_eq_true rfl) (Nat.le_of_ble_eq_true rfl) ?_
    refine zW_in rfl (Nat.le_of_ble_eq_true rfl) ?_
    refine r_iload (zW_mono _ _ _) rfl rfl ?_
    refine r_i2l (zW_mono _ _ _) rfl ?_
    refine r_push (zW_mono _ _ _) rfl ?_
    refine r_aload (zW_mono _ _ _) rfl rfl ?_
    refine r_get (zW_mono _ _ _) rfl hx_111 rfl ?_
    refine r_push (zW_mono _ _ _) rfl ?_
    refine r_isub (zW_mono _ _ _) rfl ?_
    refine r_i2l (zW_mono _ _ _) rfl ?_
    refine r_stat3 (zW_mono _ _ _) rfl (Nat.le_of_ble_eq_true rfl) rfl (Nat.le_of_ble_eq_true rfl) (Nat.le_of_ble_eq_true rfl) ?_
    refine zW_in rfl (Nat.le_of_ble_eq_true rfl) ?_
    refine r_lload (zW_mono _ _ _) rfl rfl ?_
    refine r_lload (zW_mono _ _ _) rfl rfl ?_
    refine r_lc_lt (X := a1.toInt) (Y := 0) (zW_mono _ _ _) rfl rfl (zi64 _) (by decide +kernel) (fun q => by exfalso; omega) (fun z4 => ?_)
    refine r_lload (zW_mono _ _ _) rfl rfl ?_
    refine r_lload (zW_mono _ _ _) rfl rfl ?_
    refine r_lc_gt (X := a1.toInt) (Y := (-1)) (zW_mono _ _ _) rfl rfl (zi64 _) (by decide +kernel) (fun z5 => ?_) (fun q => by exfalso; omega)
    refine r_push (zW_mono _ _ _) rfl ?_
    refine r_iret (zW_mono _ _ _) rfl rfl (by decide +kernel) ?_
    refine r_iret (zW_mono _ _ _) rfl rfl (by decide +kernel) ?_
    refine r_if_eq (zW_mono _ _ _) rfl (fun _ => ?_) (fun q => absurd q (by decide +kernel))
    refine r_push (zW_mono _ _ _) rfl ?_
    refine r_iret (zW_mono _ _ _) rfl rfl (by decide +kernel) ?_
    refine r_if_eq (zW_mono _ _ _) rfl (fun _ => ?_) (fun q => absurd q (by decide +kernel))
    refine r_push (zW_mono _ _ _) rfl ?_
    refine r_iret (zW_mono _ _ _) rfl rfl rfl ?_
    first | rfl | exact congrArg some (by decide +kernel)
set_option maxHeartbeats 4000000 in
set_option maxRecDepth 20000 in
theorem op_fails {G : zG} (hG : G.1 = zProg) (a1 a2 a3 : Int32) : zW zTt G 12 127 [.ref 0, .int a1, .int a2, .int a3] (dzH dH0) (fun w h => ∃ x : Int32, w = some (.int x) ∧ (∃ fs : List Value, h[111]? = some (.inr (12, fs))) ∧ zW zTt G 12 236 [.ref 111, .int a1, .int a2, .int a3] h (fun w2 _ => w2 = some (.int x))) := by
  obtain ⟨p9, t9⟩ := G
  have hG : p9 = zProg := hG
  subst hG
  refine zW_in rfl (Nat.le_of_ble_eq_true rfl) ?_
  refine r_aload (zW_mono _ _ _) rfl rfl ?_
  refine r_iload (zW_mono _ _ _) rfl rfl ?_
  refine r_iload (zW_mono _ _ _) rfl rfl ?_
  refine r_iload (zW_mono _ _ _) rfl rfl ?_
  refine r_virt3 (zW_mono _ _ _) rfl hx_0 (Nat.le_of_ble_eq_true rfl) rfl (Nat.le_of_ble_eq_true rfl) (Nat.le_of_ble_eq_true rfl) ?_
  refine zW_in rfl (Nat.le_of_ble_eq_true rfl) ?_
  refine r_aload (zW_mono _ _ _) rfl rfl ?_
  refine r_get (zW_mono _ _ _) rfl hx_0 rfl ?_
  refine r_iload (zW_mono _ _ _) rfl rfl ?_
  refine r_virt1 (zW_mono _ _ _) rfl hx_1 (Nat.le_of_ble_eq_true rfl) rfl (Nat.le_of_ble_eq_true rfl) (Nat.le_of_ble_eq_true rfl) ?_
  refine zW_in rfl (Nat.le_of_ble_eq_true rfl) ?_
  refine r_iload (zW_mono _ _ _) rfl rfl ?_
  refine r_i0_lt (X := a1.toInt) (zW_mono _ _ _) rfl rfl (fun z1 => ?_) (fun z1 => ?_)
  · refine r_push (zW_mono _ _ _) rfl ?_
    refine r_iret (zW_mono _ _ _) rfl rfl (by decide +kernel) ?_
    refine r_if_eq (zW_mono _ _ _) rfl (fun _ => ?_) (fun q => absurd q (by decide +kernel))
    refine r_push (zW_mono _ _ _) rfl ?_
    refine r_iret (zW_mono _ _ _) rfl rfl rfl ?_
    refine r_istore (zW_mono _ _ _) rfl (Nat.le_of_ble_eq_true rfl) ?_
    refine r_iload (zW_mono _ _ _) rfl rfl ?_
    refine r_push (zW_mono _ _ _) rfl ?_
    refine r_icmp_ne (zW_mono _ _ _) rfl (fun q => absurd q (by decide +kernel)) (fun _ => ?_)
    refine r_push (zW_mono _ _ _) rfl ?_
    refine r_iret (zW_mono _ _ _) rfl rfl rfl ?_
    refine ⟨_, rfl, ⟨_, hx_111⟩, ?_⟩
    refine zW_in rfl (Nat.le_of_ble_eq_true rfl) ?_
    refine r_aload (zW_mono _ _ _) rfl rfl ?_
    refine r_iload (zW_mono _ _ _) rfl rfl ?_
    refine r_iload (zW_mono _ _ _) rfl rfl ?_
    refine r_iload (zW_mono _ _ _) rfl rfl ?_
    refine r_virt3 (zW_mono _ _ _) rfl hx_111 (Nat.le_of_ble_eq_true rfl) rfl (Nat.le_of_ble_eq_true rfl) (Nat.le_of_ble_eq_true rfl) ?_
    refine zW_in rfl (Nat.le_of_ble_eq_true rfl) ?_
    refine r_aload (zW_mono _ _ _) rfl rfl ?_
    refine r_iload (zW_mono _ _ _) rfl rfl ?_
    refine r_virt1 (zW_mono _ _ _) rfl hx_111 (Nat.le_of_ble_eq_true rfl) rfl (Nat.le_of_ble_eq_true rfl) (Nat.le_of_ble_eq_true rfl) ?_
    refine zW_in rfl (Nat.le_of_ble_eq_true rfl) ?_
    refine r_iload (zW_mono _ _ _) rfl rfl ?_
    refine r_i2l (zW_mono _ _ _) rfl ?_
    refine r_push (zW_mono _ _ _) rfl ?_
    refine r_aload (zW_mono _ _ _) rfl rfl ?_
    refine r_get (zW_mono _ _ _) rfl hx_111 rfl ?_
    refine r_push (zW_mono _ _ _) rfl ?_
    refine r_isub (zW_mono _ _ _) rfl ?_
    refine r_i2l (zW_mono _ _ _) rfl ?_
    refine r_stat3 (zW_mono _ _ _) rfl (Nat.le_of_ble_eq_true rfl) rfl (Nat.le_of_ble_eq_true rfl) (Nat.le_of_ble_eq_true rfl) ?_
    refine zW_in rfl (Nat.le_of_ble_eq_true rfl) ?_
    refine r_lload (zW_mono _ _ _) rfl rfl ?_
    refine r_lload (zW_mono _ _ _) rfl rfl ?_
    refine r_lc_lt (X := a1.toInt) (Y := 0) (zW_mono _ _ _) rfl rfl (zi64 _) (by decide +kernel) (fun z2 => ?_) (fun q => by exfalso; omega)
    refine r_push (zW_mono _ _ _) rfl ?_
    refine r_iret (zW_mono _ _ _) rfl rfl (by decide +kernel) ?_
    refine r_iret (zW_mono _ _ _) rfl rfl (by decide +kernel) ?_
    refine r_if_eq (zW_mono _ _ _) rfl (fun _ => ?_) (fun q => absurd q (by decide +kernel))
    refine r_push (zW_mono _ _ _) rfl ?_
    refine r_iret (zW_mono _ _ _) rfl rfl (by decide +kernel) ?_
    refine r_if_ne (zW_mono _ _ _) rfl (fun q => absurd q (by decide +kernel)) (fun _ => ?_)
    refine r_push (zW_mono _ _ _) rfl ?_
    refine r_iret (zW_mono _ _ _) rfl rfl rfl ?_
    first | rfl | exact congrArg some (by decide +kernel)
  · refine r_iload (zW_mono _ _ _) rfl rfl ?_
    refine r_aload (zW_mono _ _ _) rfl rfl ?_
    refine r_get (zW_mono _ _ _) rfl hx_1 rfl ?_
    refine r_ic_ge (X := a1.toInt) (Y := 0) (zW_mono _ _ _) rfl rfl (by decide +kernel) (fun z3 => ?_) (fun q => by exfalso; omega)
    refine r_push (zW_mono _ _ _) rfl ?_
    refine r_iret (zW_mono _ _ _) rfl rfl (by decide +kernel) ?_
    refine r_if_eq (zW_mono _ _ _) rfl (fun _ => ?_) (fun q => absurd q (by decide +kernel))
    refine r_push (zW_mono _ _ _) rfl ?_
    refine r_iret (zW_mono _ _ _) rfl rfl rfl ?_
    refine r_istore (zW_mono _ _ _) rfl (Nat.le_of_ble_eq_true rfl) ?_
    refine r_iload (zW_mono _ _ _) rfl rfl ?_
    refine r_push (zW_mono _ _ _) rfl ?_
    refine r_icmp_ne (zW_mono _ _ _) rfl (fun q => absurd q (by decide +kernel)) (fun _ => ?_)
    refine r_push (zW_mono _ _ _) rfl ?_
    refine r_iret (zW_mono _ _ _) rfl rfl rfl ?_
    refine ⟨_, rfl, ⟨_, hx_111⟩, ?_⟩
    refine zW_in rfl (Nat.le_of_ble_eq_true rfl) ?_
    refine r_aload (zW_mono _ _ _) rfl rfl ?_
    refine r_iload (zW_mono _ _ _) rfl rfl ?_
    refine r_iload (zW_mono _ _ _) rfl rfl ?_
    refine r_iload (zW_mono _ _ _) rfl rfl ?_
    refine r_virt3 (zW_mono _ _ _) rfl hx_111 (Nat.le_of_ble_eq_true rfl) rfl (Nat.le_of_ble_eq_true rfl) (Nat.le_of_ble_eq_true rfl) ?_
    refine zW_in rfl (Nat.le_of_ble_eq_true rfl) ?_
    refine r_aload (zW_mono _ _ _) rfl rfl ?_
    refine r_iload (zW_mono _ _ _) rfl rfl ?_
    refine r_virt1 (zW_mono _ _ _) rfl hx_111 (Nat.le_of_ble_eq_true rfl) rfl (Nat.le_of_ble_eq_true rfl) (Nat.le_of_ble_eq_true rfl) ?_
    refine zW_in rfl (Nat.le_of_ble_eq_true rfl) ?_
    refine r_iload (zW_mono _ _ _) rfl rfl ?_
    refine r_i2l (zW_mono _ _ _) rfl ?_
    refine r_push (zW_mono _ _ _) rfl ?_
    refine r_aload (zW_mono _ _ _) rfl rfl ?_
    refine r_get (zW_mono _ _ _) rfl hx_111 rfl ?_
    refine r_push (zW_mono _ _ _) rfl ?_
    refine r_isub (zW_mono _ _ _) rfl ?_
    refine r_i2l (zW_mono _ _ _) rfl ?_
    refine r_stat3 (zW_mono _ _ _) rfl (Nat.le_of_ble_eq_true rfl) rfl (Nat.le_of_ble_eq_true rfl) (Nat.le_of_ble_eq_true rfl) ?_
    refine zW_in rfl (Nat.le_of_ble_eq_true rfl) ?_
    refine r_lload (zW_mono _ _ _) rfl rfl ?_
    refine r_lload (zW_mono _ _ _) rfl rfl ?_
    refine r_lc_lt (X := a1.toInt) (Y := 0) (zW_mono _ _ _) rfl rfl (zi64 _) (by decide +kernel) (fun q => by exfalso; omega) (fun z4 => ?_)
    refine r_lload (zW_mono _ _ _) rfl rfl ?_
    refine r_lload (zW_mono _ _ _) rfl rfl ?_
    refine r_lc_gt (X := a1.toInt) (Y := (-1)) (zW_mono _ _ _) rfl rfl (zi64 _) (by decide +kernel) (fun z5 => ?_) (fun q => by exfalso; omega)
    refine r_push (zW_mono _ _ _) rfl ?_
    refine r_iret (zW_mono _ _ _) rfl rfl (by decide +kernel) ?_
    refine r_iret (zW_mono _ _ _) rfl rfl (by decide +kernel) ?_
    refine r_if_eq (zW_mono _ _ _) rfl (fun _ => ?_) (fun q => absurd q (by decide +kernel))
    refine r_push (zW_mono _ _ _) rfl ?_
    refine r_iret (zW_mono _ _ _) rfl rfl (by decide +kernel) ?_
    refine r_if_ne (zW_mono _ _ _) rfl (fun q => absurd q (by decide +kernel)) (fun _ => ?_)
    refine r_push (zW_mono _ _ _) rfl ?_
    refine r_iret (zW_mono _ _ _) rfl rfl rfl ?_
    first | rfl | exact congrArg some (by decide +kernel)
set_option maxHeartbeats 4000000 in
set_option maxRecDepth 20000 in
theorem op_owed {G : zG} (hG : G.1 = zProg) (a1 a2 : Int32) : zW zTt G 12 128 [.ref 0, .int a1, .int a2] (dzH dH0) (fun w h => ∃ x : Int32, w = some (.int x) ∧ (∃ fs : List Value, h[111]? = some (.inr (12, fs))) ∧ zW zTt G 12 237 [.ref 111, .int a1, .int a2] h (fun w2 _ => w2 = some (.int x))) := by
  obtain ⟨p9, t9⟩ := G
  have hG : p9 = zProg := hG
  subst hG
  refine zW_in rfl (Nat.le_of_ble_eq_true rfl) ?_
  refine r_aload (zW_mono _ _ _) rfl rfl ?_
  refine r_get (zW_mono _ _ _) rfl hx_0 rfl ?_
  refine r_iload (zW_mono _ _ _) rfl rfl ?_
  refine r_virt1 (zW_mono _ _ _) rfl hx_1 (Nat.le_of_ble_eq_true rfl) rfl (Nat.le_of_ble_eq_true rfl) (Nat.le_of_ble_eq_true rfl) ?_
  refine zW_in rfl (Nat.le_of_ble_eq_true rfl) ?_
  refine r_iload (zW_mono _ _ _) rfl rfl ?_
  refine r_i0_lt (X := a1.toInt) (zW_mono _ _ _) rfl rfl (fun z1 => ?_) (fun z1 => ?_)
  · refine r_push (zW_mono _ _ _) rfl ?_
    refine r_iret (zW_mono _ _ _) rfl rfl (by decide +kernel) ?_
    refine r_if_eq (zW_mono _ _ _) rfl (fun _ => ?_) (fun q => absurd q (by decide +kernel))
    refine r_push (zW_mono _ _ _) rfl ?_
    refine r_iret (zW_mono _ _ _) rfl rfl rfl ?_
    refine ⟨_, rfl, ⟨_, hx_111⟩, ?_⟩
    refine zW_in rfl (Nat.le_of_ble_eq_true rfl) ?_
    refine r_aload (zW_mono _ _ _) rfl rfl ?_
    refine r_iload (zW_mono _ _ _) rfl rfl ?_
    refine r_virt1 (zW_mono _ _ _) rfl hx_111 (Nat.le_of_ble_eq_true rfl) rfl (Nat.le_of_ble_eq_true rfl) (Nat.le_of_ble_eq_true rfl) ?_
    refine zW_in rfl (Nat.le_of_ble_eq_true rfl) ?_
    refine r_iload (zW_mono _ _ _) rfl rfl ?_
    refine r_i2l (zW_mono _ _ _) rfl ?_
    refine r_push (zW_mono _ _ _) rfl ?_
    refine r_aload (zW_mono _ _ _) rfl rfl ?_
    refine r_get (zW_mono _ _ _) rfl hx_111 rfl ?_
    refine r_push (zW_mono _ _ _) rfl ?_
    refine r_isub (zW_mono _ _ _) rfl ?_
    refine r_i2l (zW_mono _ _ _) rfl ?_
    refine r_stat3 (zW_mono _ _ _) rfl (Nat.le_of_ble_eq_true rfl) rfl (Nat.le_of_ble_eq_true rfl) (Nat.le_of_ble_eq_true rfl) ?_
    refine zW_in rfl (Nat.le_of_ble_eq_true rfl) ?_
    refine r_lload (zW_mono _ _ _) rfl rfl ?_
    refine r_lload (zW_mono _ _ _) rfl rfl ?_
    refine r_lc_lt (X := a1.toInt) (Y := 0) (zW_mono _ _ _) rfl rfl (zi64 _) (by decide +kernel) (fun z2 => ?_) (fun q => by exfalso; omega)
    refine r_push (zW_mono _ _ _) rfl ?_
    refine r_iret (zW_mono _ _ _) rfl rfl (by decide +kernel) ?_
    refine r_iret (zW_mono _ _ _) rfl rfl (by decide +kernel) ?_
    refine r_if_eq (zW_mono _ _ _) rfl (fun _ => ?_) (fun q => absurd q (by decide +kernel))
    refine r_push (zW_mono _ _ _) rfl ?_
    refine r_iret (zW_mono _ _ _) rfl rfl rfl ?_
    first | rfl | exact congrArg some (by decide +kernel)
  · refine r_iload (zW_mono _ _ _) rfl rfl ?_
    refine r_aload (zW_mono _ _ _) rfl rfl ?_
    refine r_get (zW_mono _ _ _) rfl hx_1 rfl ?_
    refine r_ic_ge (X := a1.toInt) (Y := 0) (zW_mono _ _ _) rfl rfl (by decide +kernel) (fun z3 => ?_) (fun q => by exfalso; omega)
    refine r_push (zW_mono _ _ _) rfl ?_
    refine r_iret (zW_mono _ _ _) rfl rfl (by decide +kernel) ?_
    refine r_if_eq (zW_mono _ _ _) rfl (fun _ => ?_) (fun q => absurd q (by decide +kernel))
    refine r_push (zW_mono _ _ _) rfl ?_
    refine r_iret (zW_mono _ _ _) rfl rfl rfl ?_
    refine ⟨_, rfl, ⟨_, hx_111⟩, ?_⟩
    refine zW_in rfl (Nat.le_of_ble_eq_true rfl) ?_
    refine r_aload (zW_mono _ _ _) rfl rfl ?_
    refine r_iload (zW_mono _ _ _) rfl rfl ?_
    refine r_virt1 (zW_mono _ _ _) rfl hx_111 (Nat.le_of_ble_eq_true rfl) rfl (Nat.le_of_ble_eq_true rfl) (Nat.le_of_ble_eq_true rfl) ?_
    refine zW_in rfl (Nat.le_of_ble_eq_true rfl) ?_
    refine r_iload (zW_mono _ _ _) rfl rfl ?_
    refine r_i2l (zW_mono _ _ _) rfl ?_
    refine r_push (zW_mono _ _ _) rfl ?_
    refine r_aload (zW_mono _ _ _) rfl rfl ?_
    refine r_get (zW_mono _ _ _) rfl hx_111 rfl ?_
    refine r_push (zW_mono _ _ _) rfl ?_
    refine r_isub (zW_mono _ _ _) rfl ?_
    refine r_i2l (zW_mono _ _ _) rfl ?_
    refine r_stat3 (zW_mono _ _ _) rfl (Nat.le_of_ble_eq_true rfl) rfl (Nat.le_of_ble_eq_true rfl) (Nat.le_of_ble_eq_true rfl) ?_
    refine zW_in rfl (Nat.le_of_ble_eq_true rfl) ?_
    refine r_lload (zW_mono _ _ _) rfl rfl ?_
    refine r_lload (zW_mono _ _ _) rfl rfl ?_
    refine r_lc_lt (X := a1.toInt) (Y := 0) (zW_mono _ _ _) rfl rfl (zi64 _) (by decide +kernel) (fun q => by exfalso; omega) (fun z4 => ?_)
    refine r_lload (zW_mono _ _ _) rfl rfl ?_
    refine r_lload (zW_mono _ _ _) rfl rfl ?_
    refine r_lc_gt (X := a1.toInt) (Y := (-1)) (zW_mono _ _ _) rfl rfl (zi64 _) (by decide +kernel) (fun z5 => ?_) (fun q => by exfalso; omega)
    refine r_push (zW_mono _ _ _) rfl ?_
    refine r_iret (zW_mono _ _ _) rfl rfl (by decide +kernel) ?_
    refine r_iret (zW_mono _ _ _) rfl rfl (by decide +kernel) ?_
    refine r_if_eq (zW_mono _ _ _) rfl (fun _ => ?_) (fun q => absurd q (by decide +kernel))
    refine r_push (zW_mono _ _ _) rfl ?_
    refine r_iret (zW_mono _ _ _) rfl rfl rfl ?_
    first | rfl | exact congrArg some (by decide +kernel)
set_option maxHeartbeats 4000000 in
set_option maxRecDepth 20000 in
theorem op_test {G : zG} (hG : G.1 = zProg) (a1 a2 a3 a4 : Int32) : zW zTt G 12 129 [.ref 0, .int a1, .int a2, .int a3, .int a4] (dzH dH0) (fun w h => ∃ x : Int32, w = some (.int x) ∧ (∃ fs : List Value, h[111]? = some (.inr (12, fs))) ∧ zW zTt G 12 238 [.ref 111, .int a1, .int a2, .int a3, .int a4] h (fun w2 _ => w2 = some (.int x))) := by
  obtain ⟨p9, t9⟩ := G
  have hG : p9 = zProg := hG
  subst hG
  refine zW_in rfl (Nat.le_of_ble_eq_true rfl) ?_
  refine r_aload (zW_mono _ _ _) rfl rfl ?_
  refine r_get (zW_mono _ _ _) rfl hx_0 rfl ?_
  refine r_iload (zW_mono _ _ _) rfl rfl ?_
  refine r_virt1 (zW_mono _ _ _) rfl hx_1 (Nat.le_of_ble_eq_true rfl) rfl (Nat.le_of_ble_eq_true rfl) (Nat.le_of_ble_eq_true rfl) ?_
  refine zW_in rfl (Nat.le_of_ble_eq_true rfl) ?_
  refine r_iload (zW_mono _ _ _) rfl rfl ?_
  refine r_i0_lt (X := a1.toInt) (zW_mono _ _ _) rfl rfl (fun z1 => ?_) (fun z1 => ?_)
  · refine r_push (zW_mono _ _ _) rfl ?_
    refine r_iret (zW_mono _ _ _) rfl rfl (by decide +kernel) ?_
    refine r_if_eq (zW_mono _ _ _) rfl (fun _ => ?_) (fun q => absurd q (by decide +kernel))
    refine r_push (zW_mono _ _ _) rfl ?_
    refine r_istore (zW_mono _ _ _) rfl (Nat.le_of_ble_eq_true rfl) ?_
    refine r_iload (zW_mono _ _ _) rfl rfl ?_
    refine r_if_eq (zW_mono _ _ _) rfl (fun _ => ?_) (fun q => absurd q (by decide +kernel))
    refine r_push (zW_mono _ _ _) rfl ?_
    refine r_iret (zW_mono _ _ _) rfl rfl rfl ?_
    refine ⟨_, rfl, ⟨_, hx_111⟩, ?_⟩
    refine zW_in rfl (Nat.le_of_ble_eq_true rfl) ?_
    refine r_aload (zW_mono _ _ _) rfl rfl ?_
    refine r_get (zW_mono _ _ _) rfl hx_111 rfl ?_
    refine r_push (zW_mono _ _ _) rfl ?_
    refine r_icmp_eq (zW_mono _ _ _) rfl (fun q => absurd q (by decide +kernel)) (fun _ => ?_)
    refine r_aload (zW_mono _ _ _) rfl rfl ?_
    refine r_iload (zW_mono _ _ _) rfl rfl ?_
    refine r_virt1 (zW_mono _ _ _) rfl hx_111 (Nat.le_of_ble_eq_true rfl) rfl (Nat.le_of_ble_eq_true rfl) (Nat.le_of_ble_eq_true rfl) ?_
    refine zW_in rfl (Nat.le_of_ble_eq_true rfl) ?_
    refine r_iload (zW_mono _ _ _) rfl rfl ?_
    refine r_i2l (zW_mono _ _ _) rfl ?_
    refine r_push (zW_mono _ _ _) rfl ?_
    refine r_aload (zW_mono _ _ _) rfl rfl ?_
    refine r_get (zW_mono _ _ _) rfl hx_111 rfl ?_
    refine r_push (zW_mono _ _ _) rfl ?_
    refine r_isub (zW_mono _ _ _) rfl ?_
    refine r_i2l (zW_mono _ _ _) rfl ?_
    refine r_stat3 (zW_mono _ _ _) rfl (Nat.le_of_ble_eq_true rfl) rfl (Nat.le_of_ble_eq_true rfl) (Nat.le_of_ble_eq_true rfl) ?_
    refine zW_in rfl (Nat.le_of_ble_eq_true rfl) ?_
    refine r_lload (zW_mono _ _ _) rfl rfl ?_
    refine r_lload (zW_mono _ _ _) rfl rfl ?_
    refine r_lc_lt (X := a1.toInt) (Y := 0) (zW_mono _ _ _) rfl rfl (zi64 _) (by decide +kernel) (fun z2 => ?_) (fun q => by exfalso; omega)
    refine r_push (zW_mono _ _ _) rfl ?_
    refine r_iret (zW_mono _ _ _) rfl rfl (by decide +kernel) ?_
    refine r_iret (zW_mono _ _ _) rfl rfl (by decide +kernel) ?_
    refine r_if_eq (zW_mono _ _ _) rfl (fun _ => ?_) (fun q => absurd q (by decide +kernel))
    refine r_push (zW_mono _ _ _) rfl ?_
    refine r_iret (zW_mono _ _ _) rfl rfl rfl ?_
    first | rfl | exact congrArg some (by decide +kernel)
  · refine r_iload (zW_mono _ _ _) rfl rfl ?_
    refine r_aload (zW_mono _ _ _) rfl rfl ?_
    refine r_get (zW_mono _ _ _) rfl hx_1 rfl ?_
    refine r_ic_ge (X := a1.toInt) (Y := 0) (zW_mono _ _ _) rfl rfl (by decide +kernel) (fun z3 => ?_) (fun q => by exfalso; omega)
    refine r_push (zW_mono _ _ _) rfl ?_
    refine r_iret (zW_mono _ _ _) rfl rfl (by decide +kernel) ?_
    refine r_if_eq (zW_mono _ _ _) rfl (fun _ => ?_) (fun q => absurd q (by decide +kernel))
    refine r_push (zW_mono _ _ _) rfl ?_
    refine r_istore (zW_mono _ _ _) rfl (Nat.le_of_ble_eq_true rfl) ?_
    refine r_iload (zW_mono _ _ _) rfl rfl ?_
    refine r_if_eq (zW_mono _ _ _) rfl (fun _ => ?_) (fun q => absurd q (by decide +kernel))
    refine r_push (zW_mono _ _ _) rfl ?_
    refine r_iret (zW_mono _ _ _) rfl rfl rfl ?_
    refine ⟨_, rfl, ⟨_, hx_111⟩, ?_⟩
    refine zW_in rfl (Nat.le_of_ble_eq_true rfl) ?_
    refine r_aload (zW_mono _ _ _) rfl rfl ?_
    refine r_get (zW_mono _ _ _) rfl hx_111 rfl ?_
    refine r_push (zW_mono _ _ _) rfl ?_
    refine r_icmp_eq (zW_mono _ _ _) rfl (fun q => absurd q (by decide +kernel)) (fun _ => ?_)
    refine r_aload (zW_mono _ _ _) rfl rfl ?_
    refine r_iload (zW_mono _ _ _) rfl rfl ?_
    refine r_virt1 (zW_mono _ _ _) rfl hx_111 (Nat.le_of_ble_eq_true rfl) rfl (Nat.le_of_ble_eq_true rfl) (Nat.le_of_ble_eq_true rfl) ?_
    refine zW_in rfl (Nat.le_of_ble_eq_true rfl) ?_
    refine r_iload (zW_mono _ _ _) rfl rfl ?_
    refine r_i2l (zW_mono _ _ _) rfl ?_
    refine r_push (zW_mono _ _ _) rfl ?_
    refine r_aload (zW_mono _ _ _) rfl rfl ?_
    refine r_get (zW_mono _ _ _) rfl hx_111 rfl ?_
    refine r_push (zW_mono _ _ _) rfl ?_
    refine r_isub (zW_mono _ _ _) rfl ?_
    refine r_i2l (zW_mono _ _ _) rfl ?_
    refine r_stat3 (zW_mono _ _ _) rfl (Nat.le_of_ble_eq_true rfl) rfl (Nat.le_of_ble_eq_true rfl) (Nat.le_of_ble_eq_true rfl) ?_
    refine zW_in rfl (Nat.le_of_ble_eq_true rfl) ?_
    refine r_lload (zW_mono _ _ _) rfl rfl ?_
    refine r_lload (zW_mono _ _ _) rfl rfl ?_
    refine r_lc_lt (X := a1.toInt) (Y := 0) (zW_mono _ _ _) rfl rfl (zi64 _) (by decide +kernel) (fun q => by exfalso; omega) (fun z4 => ?_)
    refine r_lload (zW_mono _ _ _) rfl rfl ?_
    refine r_lload (zW_mono _ _ _) rfl rfl ?_
    refine r_lc_gt (X := a1.toInt) (Y := (-1)) (zW_mono _ _ _) rfl rfl (zi64 _) (by decide +kernel) (fun z5 => ?_) (fun q => by exfalso; omega)
    refine r_push (zW_mono _ _ _) rfl ?_
    refine r_iret (zW_mono _ _ _) rfl rfl (by decide +kernel) ?_
    refine r_iret (zW_mono _ _ _) rfl rfl (by decide +kernel) ?_
    refine r_if_eq (zW_mono _ _ _) rfl (fun _ => ?_) (fun q => absurd q (by decide +kernel))
    refine r_push (zW_mono _ _ _) rfl ?_
    refine r_iret (zW_mono _ _ _) rfl rfl rfl ?_
    first | rfl | exact congrArg some (by decide +kernel)
set_option maxHeartbeats 4000000 in
set_option maxRecDepth 20000 in
theorem op_reads {G : zG} (hG : G.1 = zProg) (a1 a2 : Int32) : zW zTt G 12 130 [.ref 0, .int a1, .int a2] (dzH dH0) (fun w h => ∃ x : Int32, w = some (.int x) ∧ (∃ fs : List Value, h[111]? = some (.inr (12, fs))) ∧ zW zTt G 12 239 [.ref 111, .int a1, .int a2] h (fun w2 _ => w2 = some (.int x))) := by
  obtain ⟨p9, t9⟩ := G
  have hG : p9 = zProg := hG
  subst hG
  refine zW_in rfl (Nat.le_of_ble_eq_true rfl) ?_
  refine r_aload (zW_mono _ _ _) rfl rfl ?_
  refine r_get (zW_mono _ _ _) rfl hx_0 rfl ?_
  refine r_iload (zW_mono _ _ _) rfl rfl ?_
  refine r_virt1 (zW_mono _ _ _) rfl hx_54 (Nat.le_of_ble_eq_true rfl) rfl (Nat.le_of_ble_eq_true rfl) (Nat.le_of_ble_eq_true rfl) ?_
  refine zW_in rfl (Nat.le_of_ble_eq_true rfl) ?_
  refine r_iload (zW_mono _ _ _) rfl rfl ?_
  refine r_i0_lt (X := a1.toInt) (zW_mono _ _ _) rfl rfl (fun z1 => ?_) (fun z1 => ?_)
  · refine r_push (zW_mono _ _ _) rfl ?_
    refine r_iret (zW_mono _ _ _) rfl rfl (by decide +kernel) ?_
    refine r_if_eq (zW_mono _ _ _) rfl (fun _ => ?_) (fun q => absurd q (by decide +kernel))
    refine r_push (zW_mono _ _ _) rfl ?_
    refine r_iret (zW_mono _ _ _) rfl rfl (by decide +kernel) ?_
    refine ⟨_, rfl, ⟨_, hx_111⟩, ?_⟩
    refine zW_in rfl (Nat.le_of_ble_eq_true rfl) ?_
    refine r_push (zW_mono _ _ _) rfl ?_
    refine r_istore (zW_mono _ _ _) rfl (Nat.le_of_ble_eq_true rfl) ?_
    refine r_push (zW_mono _ _ _) rfl ?_
    refine r_istore (zW_mono _ _ _) rfl (Nat.le_of_ble_eq_true rfl) ?_
    refine r_iload (zW_mono _ _ _) rfl rfl ?_
    refine r_aload (zW_mono _ _ _) rfl rfl ?_
    refine r_get (zW_mono _ _ _) rfl hx_111 rfl ?_
    refine r_icmp_ge (zW_mono _ _ _) rfl (fun _ => ?_) (fun q => absurd q (by decide +kernel))
    refine r_iload (zW_mono _ _ _) rfl rfl ?_
    refine r_if_ne (zW_mono _ _ _) rfl (fun q => absurd q (by decide +kernel)) (fun _ => ?_)
    refine r_aload (zW_mono _ _ _) rfl rfl ?_
    refine r_get (zW_mono _ _ _) rfl hx_111 rfl ?_
    refine r_push (zW_mono _ _ _) rfl ?_
    refine r_icmp_eq (zW_mono _ _ _) rfl (fun q => absurd q (by decide +kernel)) (fun _ => ?_)
    refine r_iload (zW_mono _ _ _) rfl rfl ?_
    refine r_i2l (zW_mono _ _ _) rfl ?_
    refine r_push (zW_mono _ _ _) rfl ?_
    refine r_aload (zW_mono _ _ _) rfl rfl ?_
    refine r_get (zW_mono _ _ _) rfl hx_111 rfl ?_
    refine r_push (zW_mono _ _ _) rfl ?_
    refine r_isub (zW_mono _ _ _) rfl ?_
    refine r_i2l (zW_mono _ _ _) rfl ?_
    refine r_stat3 (zW_mono _ _ _) rfl (Nat.le_of_ble_eq_true rfl) rfl (Nat.le_of_ble_eq_true rfl) (Nat.le_of_ble_eq_true rfl) ?_
    refine zW_in rfl (Nat.le_of_ble_eq_true rfl) ?_
    refine r_lload (zW_mono _ _ _) rfl rfl ?_
    refine r_lload (zW_mono _ _ _) rfl rfl ?_
    refine r_lc_lt (X := a1.toInt) (Y := 0) (zW_mono _ _ _) rfl rfl (zi64 _) (by decide +kernel) (fun z2 => ?_) (fun q => by exfalso; omega)
    refine r_push (zW_mono _ _ _) rfl ?_
    refine r_iret (zW_mono _ _ _) rfl rfl (by decide +kernel) ?_
    refine r_if_eq (zW_mono _ _ _) rfl (fun _ => ?_) (fun q => absurd q (by decide +kernel))
    refine r_push (zW_mono _ _ _) rfl ?_
    refine r_iret (zW_mono _ _ _) rfl rfl (by decide +kernel) ?_
    first | rfl | exact congrArg some (by decide +kernel)
  · refine r_iload (zW_mono _ _ _) rfl rfl ?_
    refine r_aload (zW_mono _ _ _) rfl rfl ?_
    refine r_get (zW_mono _ _ _) rfl hx_54 rfl ?_
    refine r_ic_ge (X := a1.toInt) (Y := 0) (zW_mono _ _ _) rfl rfl (by decide +kernel) (fun z3 => ?_) (fun q => by exfalso; omega)
    refine r_push (zW_mono _ _ _) rfl ?_
    refine r_iret (zW_mono _ _ _) rfl rfl (by decide +kernel) ?_
    refine r_if_eq (zW_mono _ _ _) rfl (fun _ => ?_) (fun q => absurd q (by decide +kernel))
    refine r_push (zW_mono _ _ _) rfl ?_
    refine r_iret (zW_mono _ _ _) rfl rfl (by decide +kernel) ?_
    refine ⟨_, rfl, ⟨_, hx_111⟩, ?_⟩
    refine zW_in rfl (Nat.le_of_ble_eq_true rfl) ?_
    refine r_push (zW_mono _ _ _) rfl ?_
    refine r_istore (zW_mono _ _ _) rfl (Nat.le_of_ble_eq_true rfl) ?_
    refine r_push (zW_mono _ _ _) rfl ?_
    refine r_istore (zW_mono _ _ _) rfl (Nat.le_of_ble_eq_true rfl) ?_
    refine r_iload (zW_mono _ _ _) rfl rfl ?_
    refine r_aload (zW_mono _ _ _) rfl rfl ?_
    refine r_get (zW_mono _ _ _) rfl hx_111 rfl ?_
    refine r_icmp_ge (zW_mono _ _ _) rfl (fun _ => ?_) (fun q => absurd q (by decide +kernel))
    refine r_iload (zW_mono _ _ _) rfl rfl ?_
    refine r_if_ne (zW_mono _ _ _) rfl (fun q => absurd q (by decide +kernel)) (fun _ => ?_)
    refine r_aload (zW_mono _ _ _) rfl rfl ?_
    refine r_get (zW_mono _ _ _) rfl hx_111 rfl ?_
    refine r_push (zW_mono _ _ _) rfl ?_
    refine r_icmp_eq (zW_mono _ _ _) rfl (fun q => absurd q (by decide +kernel)) (fun _ => ?_)
    refine r_iload (zW_mono _ _ _) rfl rfl ?_
    refine r_i2l (zW_mono _ _ _) rfl ?_
    refine r_push (zW_mono _ _ _) rfl ?_
    refine r_aload (zW_mono _ _ _) rfl rfl ?_
    refine r_get (zW_mono _ _ _) rfl hx_111 rfl ?_
    refine r_push (zW_mono _ _ _) rfl ?_
    refine r_isub (zW_mono _ _ _) rfl ?_
    refine r_i2l (zW_mono _ _ _) rfl ?_
    refine r_stat3 (zW_mono _ _ _) rfl (Nat.le_of_ble_eq_true rfl) rfl (Nat.le_of_ble_eq_true rfl) (Nat.le_of_ble_eq_true rfl) ?_
    refine zW_in rfl (Nat.le_of_ble_eq_true rfl) ?_
    refine r_lload (zW_mono _ _ _) rfl rfl ?_
    refine r_lload (zW_mono _ _ _) rfl rfl ?_
    refine r_lc_lt (X := a1.toInt) (Y := 0) (zW_mono _ _ _) rfl rfl (zi64 _) (by decide +kernel) (fun q => by exfalso; omega) (fun z4 => ?_)
    refine r_lload (zW_mono _ _ _) rfl rfl ?_
    refine r_lload (zW_mono _ _ _) rfl rfl ?_
    refine r_lc_gt (X := a1.toInt) (Y := (-1)) (zW_mono _ _ _) rfl rfl (zi64 _) (by decide +kernel) (fun z5 => ?_) (fun q => by exfalso; omega)
    refine r_push (zW_mono _ _ _) rfl ?_
    refine r_iret (zW_mono _ _ _) rfl rfl (by decide +kernel) ?_
    refine r_if_eq (zW_mono _ _ _) rfl (fun _ => ?_) (fun q => absurd q (by decide +kernel))
    refine r_push (zW_mono _ _ _) rfl ?_
    refine r_iret (zW_mono _ _ _) rfl rfl (by decide +kernel) ?_
    first | rfl | exact congrArg some (by decide +kernel)
set_option maxHeartbeats 4000000 in
set_option maxRecDepth 20000 in
theorem op_knew {G : zG} (hG : G.1 = zProg) (a1 a2 a3 a4 a5 : Int32) : zW zTt G 12 131 [.ref 0, .int a1, .int a2, .int a3, .int a4, .int a5] (dzH dH0) (fun w h => ∃ x : Int32, w = some (.int x) ∧ (∃ fs : List Value, h[111]? = some (.inr (12, fs))) ∧ zW zTt G 12 241 [.ref 111, .int a1, .int a2, .int a3, .int a4, .int a5] h (fun w2 _ => w2 = some (.int x))) := by
  obtain ⟨p9, t9⟩ := G
  have hG : p9 = zProg := hG
  subst hG
  refine zW_in rfl (Nat.le_of_ble_eq_true rfl) ?_
  refine r_aload (zW_mono _ _ _) rfl rfl ?_
  refine r_get (zW_mono _ _ _) rfl hx_0 rfl ?_
  refine r_iload (zW_mono _ _ _) rfl rfl ?_
  refine r_virt1 (zW_mono _ _ _) rfl hx_36 (Nat.le_of_ble_eq_true rfl) rfl (Nat.le_of_ble_eq_true rfl) (Nat.le_of_ble_eq_true rfl) ?_
  refine zW_in rfl (Nat.le_of_ble_eq_true rfl) ?_
  refine r_iload (zW_mono _ _ _) rfl rfl ?_
  refine r_i0_lt (X := a1.toInt) (zW_mono _ _ _) rfl rfl (fun z1 => ?_) (fun z1 => ?_)
  · refine r_push (zW_mono _ _ _) rfl ?_
    refine r_iret (zW_mono _ _ _) rfl rfl (by decide +kernel) ?_
    refine r_if_eq (zW_mono _ _ _) rfl (fun _ => ?_) (fun q => absurd q (by decide +kernel))
    refine r_push (zW_mono _ _ _) rfl ?_
    refine r_istore (zW_mono _ _ _) rfl (Nat.le_of_ble_eq_true rfl) ?_
    refine r_iload (zW_mono _ _ _) rfl rfl ?_
    refine r_if_eq (zW_mono _ _ _) rfl (fun _ => ?_) (fun q => absurd q (by decide +kernel))
    refine r_push (zW_mono _ _ _) rfl ?_
    refine r_iret (zW_mono _ _ _) rfl rfl rfl ?_
    refine ⟨_, rfl, ⟨_, hx_111⟩, ?_⟩
    refine zW_in rfl (Nat.le_of_ble_eq_true rfl) ?_
    refine r_aload (zW_mono _ _ _) rfl rfl ?_
    refine r_iload (zW_mono _ _ _) rfl rfl ?_
    refine r_virt1 (zW_mono _ _ _) rfl hx_111 (Nat.le_of_ble_eq_true rfl) rfl (Nat.le_of_ble_eq_true rfl) (Nat.le_of_ble_eq_true rfl) ?_
    refine zW_in rfl (Nat.le_of_ble_eq_true rfl) ?_
    refine r_iload (zW_mono _ _ _) rfl rfl ?_
    refine r_i2l (zW_mono _ _ _) rfl ?_
    refine r_push (zW_mono _ _ _) rfl ?_
    refine r_aload (zW_mono _ _ _) rfl rfl ?_
    refine r_get (zW_mono _ _ _) rfl hx_111 rfl ?_
    refine r_push (zW_mono _ _ _) rfl ?_
    refine r_isub (zW_mono _ _ _) rfl ?_
    refine r_i2l (zW_mono _ _ _) rfl ?_
    refine r_stat3 (zW_mono _ _ _) rfl (Nat.le_of_ble_eq_true rfl) rfl (Nat.le_of_ble_eq_true rfl) (Nat.le_of_ble_eq_true rfl) ?_
    refine zW_in rfl (Nat.le_of_ble_eq_true rfl) ?_
    refine r_lload (zW_mono _ _ _) rfl rfl ?_
    refine r_lload (zW_mono _ _ _) rfl rfl ?_
    refine r_lc_lt (X := a1.toInt) (Y := 0) (zW_mono _ _ _) rfl rfl (zi64 _) (by decide +kernel) (fun z2 => ?_) (fun q => by exfalso; omega)
    refine r_push (zW_mono _ _ _) rfl ?_
    refine r_iret (zW_mono _ _ _) rfl rfl (by decide +kernel) ?_
    refine r_iret (zW_mono _ _ _) rfl rfl (by decide +kernel) ?_
    refine r_if_eq (zW_mono _ _ _) rfl (fun _ => ?_) (fun q => absurd q (by decide +kernel))
    refine r_push (zW_mono _ _ _) rfl ?_
    refine r_iret (zW_mono _ _ _) rfl rfl rfl ?_
    first | rfl | exact congrArg some (by decide +kernel)
  · refine r_iload (zW_mono _ _ _) rfl rfl ?_
    refine r_aload (zW_mono _ _ _) rfl rfl ?_
    refine r_get (zW_mono _ _ _) rfl hx_36 rfl ?_
    refine r_ic_ge (X := a1.toInt) (Y := 0) (zW_mono _ _ _) rfl rfl (by decide +kernel) (fun z3 => ?_) (fun q => by exfalso; omega)
    refine r_push (zW_mono _ _ _) rfl ?_
    refine r_iret (zW_mono _ _ _) rfl rfl (by decide +kernel) ?_
    refine r_if_eq (zW_mono _ _ _) rfl (fun _ => ?_) (fun q => absurd q (by decide +kernel))
    refine r_push (zW_mono _ _ _) rfl ?_
    refine r_istore (zW_mono _ _ _) rfl (Nat.le_of_ble_eq_true rfl) ?_
    refine r_iload (zW_mono _ _ _) rfl rfl ?_
    refine r_if_eq (zW_mono _ _ _) rfl (fun _ => ?_) (fun q => absurd q (by decide +kernel))
    refine r_push (zW_mono _ _ _) rfl ?_
    refine r_iret (zW_mono _ _ _) rfl rfl rfl ?_
    refine ⟨_, rfl, ⟨_, hx_111⟩, ?_⟩
    refine zW_in rfl (Nat.le_of_ble_eq_true rfl) ?_
    refine r_aload (zW_mono _ _ _) rfl rfl ?_
    refine r_iload (zW_mono _ _ _) rfl rfl ?_
    refine r_virt1 (zW_mono _ _ _) rfl hx_111 (Nat.le_of_ble_eq_true rfl) rfl (Nat.le_of_ble_eq_true rfl) (Nat.le_of_ble_eq_true rfl) ?_
    refine zW_in rfl (Nat.le_of_ble_eq_true rfl) ?_
    refine r_iload (zW_mono _ _ _) rfl rfl ?_
    refine r_i2l (zW_mono _ _ _) rfl ?_
    refine r_push (zW_mono _ _ _) rfl ?_
    refine r_aload (zW_mono _ _ _) rfl rfl ?_
    refine r_get (zW_mono _ _ _) rfl hx_111 rfl ?_
    refine r_push (zW_mono _ _ _) rfl ?_
    refine r_isub (zW_mono _ _ _) rfl ?_
    refine r_i2l (zW_mono _ _ _) rfl ?_
    refine r_stat3 (zW_mono _ _ _) rfl (Nat.le_of_ble_eq_true rfl) rfl (Nat.le_of_ble_eq_true rfl) (Nat.le_of_ble_eq_true rfl) ?_
    refine zW_in rfl (Nat.le_of_ble_eq_true rfl) ?_
    refine r_lload (zW_mono _ _ _) rfl rfl ?_
    refine r_lload (zW_mono _ _ _) rfl rfl ?_
    refine r_lc_lt (X := a1.toInt) (Y := 0) (zW_mono _ _ _) rfl rfl (zi64 _) (by decide +kernel) (fun q => by exfalso; omega) (fun z4 => ?_)
    refine r_lload (zW_mono _ _ _) rfl rfl ?_
    refine r_lload (zW_mono _ _ _) rfl rfl ?_
    refine r_lc_gt (X := a1.toInt) (Y := (-1)) (zW_mono _ _ _) rfl rfl (zi64 _) (by decide +kernel) (fun z5 => ?_) (fun q => by exfalso; omega)
    refine r_push (zW_mono _ _ _) rfl ?_
    refine r_iret (zW_mono _ _ _) rfl rfl (by decide +kernel) ?_
    refine r_iret (zW_mono _ _ _) rfl rfl (by decide +kernel) ?_
    refine r_if_eq (zW_mono _ _ _) rfl (fun _ => ?_) (fun q => absurd q (by decide +kernel))
    refine r_push (zW_mono _ _ _) rfl ?_
    refine r_iret (zW_mono _ _ _) rfl rfl rfl ?_
    first | rfl | exact congrArg some (by decide +kernel)
set_option maxHeartbeats 4000000 in
set_option maxRecDepth 20000 in
theorem op_knewFails {G : zG} (hG : G.1 = zProg) (a1 a2 a3 : Int32) : zW zTt G 12 132 [.ref 0, .int a1, .int a2, .int a3] (dzH dH0) (fun w h => ∃ x : Int32, w = some (.int x) ∧ (∃ fs : List Value, h[111]? = some (.inr (12, fs))) ∧ zW zTt G 12 243 [.ref 111, .int a1, .int a2, .int a3] h (fun w2 _ => w2 = some (.int x))) := by
  obtain ⟨p9, t9⟩ := G
  have hG : p9 = zProg := hG
  subst hG
  refine zW_in rfl (Nat.le_of_ble_eq_true rfl) ?_
  refine r_aload (zW_mono _ _ _) rfl rfl ?_
  refine r_get (zW_mono _ _ _) rfl hx_0 rfl ?_
  refine r_iload (zW_mono _ _ _) rfl rfl ?_
  refine r_virt1 (zW_mono _ _ _) rfl hx_36 (Nat.le_of_ble_eq_true rfl) rfl (Nat.le_of_ble_eq_true rfl) (Nat.le_of_ble_eq_true rfl) ?_
  refine zW_in rfl (Nat.le_of_ble_eq_true rfl) ?_
  refine r_iload (zW_mono _ _ _) rfl rfl ?_
  refine r_i0_lt (X := a1.toInt) (zW_mono _ _ _) rfl rfl (fun z1 => ?_) (fun z1 => ?_)
  · refine r_push (zW_mono _ _ _) rfl ?_
    refine r_iret (zW_mono _ _ _) rfl rfl (by decide +kernel) ?_
    refine r_if_eq (zW_mono _ _ _) rfl (fun _ => ?_) (fun q => absurd q (by decide +kernel))
    refine r_push (zW_mono _ _ _) rfl ?_
    refine r_iret (zW_mono _ _ _) rfl rfl rfl ?_
    refine ⟨_, rfl, ⟨_, hx_111⟩, ?_⟩
    refine zW_in rfl (Nat.le_of_ble_eq_true rfl) ?_
    refine r_aload (zW_mono _ _ _) rfl rfl ?_
    refine r_iload (zW_mono _ _ _) rfl rfl ?_
    refine r_virt1 (zW_mono _ _ _) rfl hx_111 (Nat.le_of_ble_eq_true rfl) rfl (Nat.le_of_ble_eq_true rfl) (Nat.le_of_ble_eq_true rfl) ?_
    refine zW_in rfl (Nat.le_of_ble_eq_true rfl) ?_
    refine r_iload (zW_mono _ _ _) rfl rfl ?_
    refine r_i2l (zW_mono _ _ _) rfl ?_
    refine r_push (zW_mono _ _ _) rfl ?_
    refine r_aload (zW_mono _ _ _) rfl rfl ?_
    refine r_get (zW_mono _ _ _) rfl hx_111 rfl ?_
    refine r_push (zW_mono _ _ _) rfl ?_
    refine r_isub (zW_mono _ _ _) rfl ?_
    refine r_i2l (zW_mono _ _ _) rfl ?_
    refine r_stat3 (zW_mono _ _ _) rfl (Nat.le_of_ble_eq_true rfl) rfl (Nat.le_of_ble_eq_true rfl) (Nat.le_of_ble_eq_true rfl) ?_
    refine zW_in rfl (Nat.le_of_ble_eq_true rfl) ?_
    refine r_lload (zW_mono _ _ _) rfl rfl ?_
    refine r_lload (zW_mono _ _ _) rfl rfl ?_
    refine r_lc_lt (X := a1.toInt) (Y := 0) (zW_mono _ _ _) rfl rfl (zi64 _) (by decide +kernel) (fun z2 => ?_) (fun q => by exfalso; omega)
    refine r_push (zW_mono _ _ _) rfl ?_
    refine r_iret (zW_mono _ _ _) rfl rfl (by decide +kernel) ?_
    refine r_iret (zW_mono _ _ _) rfl rfl (by decide +kernel) ?_
    refine r_if_eq (zW_mono _ _ _) rfl (fun _ => ?_) (fun q => absurd q (by decide +kernel))
    refine r_push (zW_mono _ _ _) rfl ?_
    refine r_iret (zW_mono _ _ _) rfl rfl rfl ?_
    first | rfl | exact congrArg some (by decide +kernel)
  · refine r_iload (zW_mono _ _ _) rfl rfl ?_
    refine r_aload (zW_mono _ _ _) rfl rfl ?_
    refine r_get (zW_mono _ _ _) rfl hx_36 rfl ?_
    refine r_ic_ge (X := a1.toInt) (Y := 0) (zW_mono _ _ _) rfl rfl (by decide +kernel) (fun z3 => ?_) (fun q => by exfalso; omega)
    refine r_push (zW_mono _ _ _) rfl ?_
    refine r_iret (zW_mono _ _ _) rfl rfl (by decide +kernel) ?_
    refine r_if_eq (zW_mono _ _ _) rfl (fun _ => ?_) (fun q => absurd q (by decide +kernel))
    refine r_push (zW_mono _ _ _) rfl ?_
    refine r_iret (zW_mono _ _ _) rfl rfl rfl ?_
    refine ⟨_, rfl, ⟨_, hx_111⟩, ?_⟩
    refine zW_in rfl (Nat.le_of_ble_eq_true rfl) ?_
    refine r_aload (zW_mono _ _ _) rfl rfl ?_
    refine r_iload (zW_mono _ _ _) rfl rfl ?_
    refine r_virt1 (zW_mono _ _ _) rfl hx_111 (Nat.le_of_ble_eq_true rfl) rfl (Nat.le_of_ble_eq_true rfl) (Nat.le_of_ble_eq_true rfl) ?_
    refine zW_in rfl (Nat.le_of_ble_eq_true rfl) ?_
    refine r_iload (zW_mono _ _ _) rfl rfl ?_
    refine r_i2l (zW_mono _ _ _) rfl ?_
    refine r_push (zW_mono _ _ _) rfl ?_
    refine r_aload (zW_mono _ _ _) rfl rfl ?_
    refine r_get (zW_mono _ _ _) rfl hx_111 rfl ?_
    refine r_push (zW_mono _ _ _) rfl ?_
    refine r_isub (zW_mono _ _ _) rfl ?_
    refine r_i2l (zW_mono _ _ _) rfl ?_
    refine r_stat3 (zW_mono _ _ _) rfl (Nat.le_of_ble_eq_true rfl) rfl (Nat.le_of_ble_eq_true rfl) (Nat.le_of_ble_eq_true rfl) ?_
    refine zW_in rfl (Nat.le_of_ble_eq_true rfl) ?_
    refine r_lload (zW_mono _ _ _) rfl rfl ?_
    refine r_lload (zW_mono _ _ _) rfl rfl ?_
    refine r_lc_lt (X := a1.toInt) (Y := 0) (zW_mono _ _ _) rfl rfl (zi64 _) (by decide +kernel) (fun q => by exfalso; omega) (fun z4 => ?_)
    refine r_lload (zW_mono _ _ _) rfl rfl ?_
    refine r_lload (zW_mono _ _ _) rfl rfl ?_
    refine r_lc_gt (X := a1.toInt) (Y := (-1)) (zW_mono _ _ _) rfl rfl (zi64 _) (by decide +kernel) (fun z5 => ?_) (fun q => by exfalso; omega)
    refine r_push (zW_mono _ _ _) rfl ?_
    refine r_iret (zW_mono _ _ _) rfl rfl (by decide +kernel) ?_
    refine r_iret (zW_mono _ _ _) rfl rfl (by decide +kernel) ?_
    refine r_if_eq (zW_mono _ _ _) rfl (fun _ => ?_) (fun q => absurd q (by decide +kernel))
    refine r_push (zW_mono _ _ _) rfl ?_
    refine r_iret (zW_mono _ _ _) rfl rfl rfl ?_
    first | rfl | exact congrArg some (by decide +kernel)
