set_option maxHeartbeats 4000000 in
set_option maxRecDepth 20000 in
theorem op_crash {G : zG} (hG : G.1 = zProg) (a1 a2 a3 a4 a5 a6 a7 : Int32) : zW zTt G 12 133 [.ref 0, .int a1, .int a2, .int a3, .int a4, .int a5, .int a6, .int a7] (dzH dH0) (fun w h => ∃ x : Int32, w = some (.int x) ∧ (∃ fs : List Value, h[111]? = some (.inr (12, fs))) ∧ zW zTt G 12 244 [.ref 111, .int a1, .int a2, .int a3, .int a4, .int a5, .int a6, .int a7] h (fun w2 _ => w2 = some (.int x))) := by
  obtain ⟨p9, t9⟩ := G
  have hG : p9 = zProg := hG
  subst hG
  refine zW_in rfl (Nat.le_of_ble_eq_true rfl) ?_
  refine r_aload (zW_mono _ _ _) rfl rfl ?_
  refine r_get (zW_mono _ _ _) rfl hx_0 rfl ?_
  refine r_iload (zW_mono _ _ _) rfl rfl ?_
  refine r_virt1 (zW_mono _ _ _) rfl hx_36 (Nat.le_of_ble_eq_true rfl) rfl (Nat.le_of_ble_eq_true rfl) (Nat.le_of_ble_eq_true rfl) ?_
  refine zW_in rfl (Nat.le_of_ble_eq_true rfl) ?_
  refine r_iload (zW_mono _ _ _) rfl rfl ?_
  refine r_i0_lt (X := a1.toInt) (zW_mono _ _ _) rfl rfl (fun z1 => ?_) (fun z1 => ?_)
  · refine r_push (zW_mono _ _ _) rfl ?_
    refine r_nret (zW_mono _ _ _) rfl rfl rfl ?_
    refine r_astoreN (zW_mono _ _ _) rfl (Nat.le_of_ble_eq_true rfl) ?_
    refine r_aloadN (zW_mono _ _ _) rfl rfl ?_
    refine r_ifnullT (zW_mono _ _ _) rfl ?_
    refine r_push (zW_mono _ _ _) rfl ?_
    refine r_iret (zW_mono _ _ _) rfl rfl rfl ?_
    refine ⟨_, rfl, ⟨_, hx_111⟩, ?_⟩
    refine zW_in rfl (Nat.le_of_ble_eq_true rfl) ?_
    refine r_aload (zW_mono _ _ _) rfl rfl ?_
    refine r_get (zW_mono _ _ _) rfl hx_111 rfl ?_
    refine r_push (zW_mono _ _ _) rfl ?_
    refine r_icmp_eq (zW_mono _ _ _) rfl (fun q => absurd q (by decide +kernel)) (fun _ => ?_)
    refine r_aload (zW_mono _ _ _) rfl rfl ?_
    refine r_iload (zW_mono _ _ _) rfl rfl ?_
    refine r_virt1 (zW_mono _ _ _) rfl hx_111 (Nat.le_of_ble_eq_true rfl) rfl (Nat.le_of_ble_eq_true rfl) (Nat.le_of_ble_eq_true rfl) ?_
    refine zW_in rfl (Nat.le_of_ble_eq_true rfl) ?_
    refine r_iload (zW_mono _ _ _) rfl rfl ?_
    refine r_i2l (zW_mono _ _ _) rfl ?_
    refine r_push (zW_mono _ _ _) rfl ?_
    refine r_aload (zW_mono _ _ _) rfl rfl ?_
    refine r_get (zW_mono _ _ _) rfl hx_111 rfl ?_
    refine r_push (zW_mono _ _ _) rfl ?_
    refine r_isub (zW_mono _ _ _) rfl ?_
    refine r_i2l (zW_mono _ _ _) rfl ?_
    refine r_stat3 (zW_mono _ _ _) rfl (Nat.le_of_ble_eq_true rfl) rfl (Nat.le_of_ble_eq_true rfl) (Nat.le_of_ble_eq_true rfl) ?_
    refine zW_in rfl (Nat.le_of_ble_eq_true rfl) ?_
    refine r_lload (zW_mono _ _ _) rfl rfl ?_
    refine r_lload (zW_mono _ _ _) rfl rfl ?_
    refine r_lc_lt (X := a1.toInt) (Y := 0) (zW_mono _ _ _) rfl rfl (zi64 _) (by decide +kernel) (fun z2 => ?_) (fun q => by exfalso; omega)
    refine r_push (zW_mono _ _ _) rfl ?_
    refine r_iret (zW_mono _ _ _) rfl rfl (by decide +kernel) ?_
    refine r_iret (zW_mono _ _ _) rfl rfl (by decide +kernel) ?_
    refine r_if_eq (zW_mono _ _ _) rfl (fun _ => ?_) (fun q => absurd q (by decide +kernel))
    refine r_push (zW_mono _ _ _) rfl ?_
    refine r_iret (zW_mono _ _ _) rfl rfl rfl ?_
    first | rfl | exact congrArg some (by decide +kernel)
  · refine r_iload (zW_mono _ _ _) rfl rfl ?_
    refine r_aload (zW_mono _ _ _) rfl rfl ?_
    refine r_get (zW_mono _ _ _) rfl hx_36 rfl ?_
    refine r_ic_ge (X := a1.toInt) (Y := 0) (zW_mono _ _ _) rfl rfl (by decide +kernel) (fun z3 => ?_) (fun q => by exfalso; omega)
    refine r_push (zW_mono _ _ _) rfl ?_
    refine r_nret (zW_mono _ _ _) rfl rfl rfl ?_
    refine r_astoreN (zW_mono _ _ _) rfl (Nat.le_of_ble_eq_true rfl) ?_
    refine r_aloadN (zW_mono _ _ _) rfl rfl ?_
    refine r_ifnullT (zW_mono _ _ _) rfl ?_
    refine r_push (zW_mono _ _ _) rfl ?_
    refine r_iret (zW_mono _ _ _) rfl rfl rfl ?_
    refine ⟨_, rfl, ⟨_, hx_111⟩, ?_⟩
    refine zW_in rfl (Nat.le_of_ble_eq_true rfl) ?_
    refine r_aload (zW_mono _ _ _) rfl rfl ?_
    refine r_get (zW_mono _ _ _) rfl hx_111 rfl ?_
    refine r_push (zW_mono _ _ _) rfl ?_
    refine r_icmp_eq (zW_mono _ _ _) rfl (fun q => absurd q (by decide +kernel)) (fun _ => ?_)
    refine r_aload (zW_mono _ _ _) rfl rfl ?_
    refine r_iload (zW_mono _ _ _) rfl rfl ?_
    refine r_virt1 (zW_mono _ _ _) rfl hx_111 (Nat.le_of_ble_eq_true rfl) rfl (Nat.le_of_ble_eq_true rfl) (Nat.le_of_ble_eq_true rfl) ?_
    refine zW_in rfl (Nat.le_of_ble_eq_true rfl) ?_
    refine r_iload (zW_mono _ _ _) rfl rfl ?_
    refine r_i2l (zW_mono _ _ _) rfl ?_
    refine r_push (zW_mono _ _ _) rfl ?_
    refine r_aload (zW_mono _ _ _) rfl rfl ?_
    refine r_get (zW_mono _ _ _) rfl hx_111 rfl ?_
    refine r_push (zW_mono _ _ _) rfl ?_
    refine r_isub (zW_mono _ _ _) rfl ?_
    refine r_i2l (zW_mono _ _ _) rfl ?_
    refine r_stat3 (zW_mono _ _ _) rfl (Nat.le_of_ble_eq_true rfl) rfl (Nat.le_of_ble_eq_true rfl) (Nat.le_of_ble_eq_true rfl) ?_
    refine zW_in rfl (Nat.le_of_ble_eq_true rfl) ?_
    refine r_lload (zW_mono _ _ _) rfl rfl ?_
    refine r_lload (zW_mono _ _ _) rfl rfl ?_
    refine r_lc_lt (X := a1.toInt) (Y := 0) (zW_mono _ _ _) rfl rfl (zi64 _) (by decide +kernel) (fun q => by exfalso; omega) (fun z4 => ?_)
    refine r_lload (zW_mono _ _ _) rfl rfl ?_
    refine r_lload (zW_mono _ _ _) rfl rfl ?_
    refine r_lc_gt (X := a1.toInt) (Y := (-1)) (zW_mono _ _ _) rfl rfl (zi64 _) (by decide +kernel) (fun z5 => ?_) (fun q => by exfalso; omega)
    refine r_push (zW_mono _ _ _) rfl ?_
    refine r_iret (zW_mono _ _ _) rfl rfl (by decide +kernel) ?_
    refine r_iret (zW_mono _ _ _) rfl rfl (by decide +kernel) ?_
    refine r_if_eq (zW_mono _ _ _) rfl (fun _ => ?_) (fun q => absurd q (by decide +kernel))
    refine r_push (zW_mono _ _ _) rfl ?_
    refine r_iret (zW_mono _ _ _) rfl rfl rfl ?_
    first | rfl | exact congrArg some (by decide +kernel)
set_option maxHeartbeats 4000000 in
set_option maxRecDepth 20000 in
theorem op_odd {G : zG} (hG : G.1 = zProg) (a1 : Int32) : zW zTt G 12 134 [.ref 0, .int a1] (dzH dH0) (fun w h => ∃ x : Int32, w = some (.int x) ∧ (∃ fs : List Value, h[111]? = some (.inr (12, fs))) ∧ zW zTt G 12 245 [.ref 111, .int a1] h (fun w2 _ => w2 = some (.int x))) := by
  obtain ⟨p9, t9⟩ := G
  have hG : p9 = zProg := hG
  subst hG
  refine zW_in rfl (Nat.le_of_ble_eq_true rfl) ?_
  refine r_aload (zW_mono _ _ _) rfl rfl ?_
  refine r_get (zW_mono _ _ _) rfl hx_0 rfl ?_
  refine r_iload (zW_mono _ _ _) rfl rfl ?_
  refine r_virt1 (zW_mono _ _ _) rfl hx_63 (Nat.le_of_ble_eq_true rfl) rfl (Nat.le_of_ble_eq_true rfl) (Nat.le_of_ble_eq_true rfl) ?_
  refine zW_in rfl (Nat.le_of_ble_eq_true rfl) ?_
  refine r_iload (zW_mono _ _ _) rfl rfl ?_
  refine r_i0_lt (X := a1.toInt) (zW_mono _ _ _) rfl rfl (fun z1 => ?_) (fun z1 => ?_)
  · refine r_push (zW_mono _ _ _) rfl ?_
    refine r_iret (zW_mono _ _ _) rfl rfl (by decide +kernel) ?_
    refine r_if_ne (zW_mono _ _ _) rfl (fun q => absurd q (by decide +kernel)) (fun _ => ?_)
    refine r_push (zW_mono _ _ _) rfl ?_
    refine r_iret (zW_mono _ _ _) rfl rfl rfl ?_
    refine ⟨_, rfl, ⟨_, hx_111⟩, ?_⟩
    refine zW_in rfl (Nat.le_of_ble_eq_true rfl) ?_
    refine r_iload (zW_mono _ _ _) rfl rfl ?_
    refine r_i2l (zW_mono _ _ _) rfl ?_
    refine r_push (zW_mono _ _ _) rfl ?_
    refine r_aload (zW_mono _ _ _) rfl rfl ?_
    refine r_get (zW_mono _ _ _) rfl hx_111 rfl ?_
    refine r_push (zW_mono _ _ _) rfl ?_
    refine r_isub (zW_mono _ _ _) rfl ?_
    refine r_i2l (zW_mono _ _ _) rfl ?_
    refine r_stat3 (zW_mono _ _ _) rfl (Nat.le_of_ble_eq_true rfl) rfl (Nat.le_of_ble_eq_true rfl) (Nat.le_of_ble_eq_true rfl) ?_
    refine zW_in rfl (Nat.le_of_ble_eq_true rfl) ?_
    refine r_lload (zW_mono _ _ _) rfl rfl ?_
    refine r_lload (zW_mono _ _ _) rfl rfl ?_
    refine r_lc_lt (X := a1.toInt) (Y := 0) (zW_mono _ _ _) rfl rfl (zi64 _) (by decide +kernel) (fun z2 => ?_) (fun q => by exfalso; omega)
    refine r_push (zW_mono _ _ _) rfl ?_
    refine r_iret (zW_mono _ _ _) rfl rfl (by decide +kernel) ?_
    refine r_if_ne (zW_mono _ _ _) rfl (fun q => absurd q (by decide +kernel)) (fun _ => ?_)
    refine r_push (zW_mono _ _ _) rfl ?_
    refine r_iret (zW_mono _ _ _) rfl rfl rfl ?_
    first | rfl | exact congrArg some (by decide +kernel)
  · refine r_iload (zW_mono _ _ _) rfl rfl ?_
    refine r_aload (zW_mono _ _ _) rfl rfl ?_
    refine r_get (zW_mono _ _ _) rfl hx_63 rfl ?_
    refine r_ic_ge (X := a1.toInt) (Y := 0) (zW_mono _ _ _) rfl rfl (by decide +kernel) (fun z3 => ?_) (fun q => by exfalso; omega)
    refine r_push (zW_mono _ _ _) rfl ?_
    refine r_iret (zW_mono _ _ _) rfl rfl (by decide +kernel) ?_
    refine r_if_ne (zW_mono _ _ _) rfl (fun q => absurd q (by decide +kernel)) (fun _ => ?_)
    refine r_push (zW_mono _ _ _) rfl ?_
    refine r_iret (zW_mono _ _ _) rfl rfl rfl ?_
    refine ⟨_, rfl, ⟨_, hx_111⟩, ?_⟩
    refine zW_in rfl (Nat.le_of_ble_eq_true rfl) ?_
    refine r_iload (zW_mono _ _ _) rfl rfl ?_
    refine r_i2l (zW_mono _ _ _) rfl ?_
    refine r_push (zW_mono _ _ _) rfl ?_
    refine r_aload (zW_mono _ _ _) rfl rfl ?_
    refine r_get (zW_mono _ _ _) rfl hx_111 rfl ?_
    refine r_push (zW_mono _ _ _) rfl ?_
    refine r_isub (zW_mono _ _ _) rfl ?_
    refine r_i2l (zW_mono _ _ _) rfl ?_
    refine r_stat3 (zW_mono _ _ _) rfl (Nat.le_of_ble_eq_true rfl) rfl (Nat.le_of_ble_eq_true rfl) (Nat.le_of_ble_eq_true rfl) ?_
    refine zW_in rfl (Nat.le_of_ble_eq_true rfl) ?_
    refine r_lload (zW_mono _ _ _) rfl rfl ?_
    refine r_lload (zW_mono _ _ _) rfl rfl ?_
    refine r_lc_lt (X := a1.toInt) (Y := 0) (zW_mono _ _ _) rfl rfl (zi64 _) (by decide +kernel) (fun q => by exfalso; omega) (fun z4 => ?_)
    refine r_lload (zW_mono _ _ _) rfl rfl ?_
    refine r_lload (zW_mono _ _ _) rfl rfl ?_
    refine r_lc_gt (X := a1.toInt) (Y := (-1)) (zW_mono _ _ _) rfl rfl (zi64 _) (by decide +kernel) (fun z5 => ?_) (fun q => by exfalso; omega)
    refine r_push (zW_mono _ _ _) rfl ?_
    refine r_iret (zW_mono _ _ _) rfl rfl (by decide +kernel) ?_
    refine r_if_ne (zW_mono _ _ _) rfl (fun q => absurd q (by decide +kernel)) (fun _ => ?_)
    refine r_push (zW_mono _ _ _) rfl ?_
    refine r_iret (zW_mono _ _ _) rfl rfl rfl ?_
    first | rfl | exact congrArg some (by decide +kernel)
set_option maxHeartbeats 4000000 in
set_option maxRecDepth 20000 in
theorem op_expected {G : zG} (hG : G.1 = zProg) (a1 a2 a3 : Int32) : zW zTt G 12 135 [.ref 0, .int a1, .int a2, .int a3] (dzH dH0) (fun w h => ∃ x : Int64, w = some (.long x) ∧ (∃ fs : List Value, h[111]? = some (.inr (12, fs))) ∧ zW zTt G 12 247 [.ref 111, .int a1, .int a2, .int a3] h (fun w2 _ => w2 = some (.long x))) := by
  obtain ⟨p9, t9⟩ := G
  have hG : p9 = zProg := hG
  subst hG
  refine zW_in rfl (Nat.le_of_ble_eq_true rfl) ?_
  refine r_aload (zW_mono _ _ _) rfl rfl ?_
  refine r_get (zW_mono _ _ _) rfl hx_0 rfl ?_
  refine r_iload (zW_mono _ _ _) rfl rfl ?_
  refine r_virt1 (zW_mono _ _ _) rfl hx_1 (Nat.le_of_ble_eq_true rfl) rfl (Nat.le_of_ble_eq_true rfl) (Nat.le_of_ble_eq_true rfl) ?_
  refine zW_in rfl (Nat.le_of_ble_eq_true rfl) ?_
  refine r_iload (zW_mono _ _ _) rfl rfl ?_
  refine r_i0_lt (X := a1.toInt) (zW_mono _ _ _) rfl rfl (fun z1 => ?_) (fun z1 => ?_)
  · refine r_push (zW_mono _ _ _) rfl ?_
    refine r_iret (zW_mono _ _ _) rfl rfl (by decide +kernel) ?_
    refine r_if_eq (zW_mono _ _ _) rfl (fun _ => ?_) (fun q => absurd q (by decide +kernel))
    refine r_push (zW_mono _ _ _) rfl ?_
    refine r_lret (zW_mono _ _ _) rfl rfl ?_
    refine ⟨_, rfl, ⟨_, hx_111⟩, ?_⟩
    refine zW_in rfl (Nat.le_of_ble_eq_true rfl) ?_
    refine r_aload (zW_mono _ _ _) rfl rfl ?_
    refine r_iload (zW_mono _ _ _) rfl rfl ?_
    refine r_virt1 (zW_mono _ _ _) rfl hx_111 (Nat.le_of_ble_eq_true rfl) rfl (Nat.le_of_ble_eq_true rfl) (Nat.le_of_ble_eq_true rfl) ?_
    refine zW_in rfl (Nat.le_of_ble_eq_true rfl) ?_
    refine r_iload (zW_mono _ _ _) rfl rfl ?_
    refine r_i2l (zW_mono _ _ _) rfl ?_
    refine r_push (zW_mono _ _ _) rfl ?_
    refine r_aload (zW_mono _ _ _) rfl rfl ?_
    refine r_get (zW_mono _ _ _) rfl hx_111 rfl ?_
    refine r_push (zW_mono _ _ _) rfl ?_
    refine r_isub (zW_mono _ _ _) rfl ?_
    refine r_i2l (zW_mono _ _ _) rfl ?_
    refine r_stat3 (zW_mono _ _ _) rfl (Nat.le_of_ble_eq_true rfl) rfl (Nat.le_of_ble_eq_true rfl) (Nat.le_of_ble_eq_true rfl) ?_
    refine zW_in rfl (Nat.le_of_ble_eq_true rfl) ?_
    refine r_lload (zW_mono _ _ _) rfl rfl ?_
    refine r_lload (zW_mono _ _ _) rfl rfl ?_
    refine r_lc_lt (X := a1.toInt) (Y := 0) (zW_mono _ _ _) rfl rfl (zi64 _) (by decide +kernel) (fun z2 => ?_) (fun q => by exfalso; omega)
    refine r_push (zW_mono _ _ _) rfl ?_
    refine r_iret (zW_mono _ _ _) rfl rfl (by decide +kernel) ?_
    refine r_iret (zW_mono _ _ _) rfl rfl (by decide +kernel) ?_
    refine r_if_eq (zW_mono _ _ _) rfl (fun _ => ?_) (fun q => absurd q (by decide +kernel))
    refine r_push (zW_mono _ _ _) rfl ?_
    refine r_lret (zW_mono _ _ _) rfl rfl ?_
    first | rfl | exact congrArg some (by decide +kernel)
  · refine r_iload (zW_mono _ _ _) rfl rfl ?_
    refine r_aload (zW_mono _ _ _) rfl rfl ?_
    refine r_get (zW_mono _ _ _) rfl hx_1 rfl ?_
    refine r_ic_ge (X := a1.toInt) (Y := 0) (zW_mono _ _ _) rfl rfl (by decide +kernel) (fun z3 => ?_) (fun q => by exfalso; omega)
    refine r_push (zW_mono _ _ _) rfl ?_
    refine r_iret (zW_mono _ _ _) rfl rfl (by decide +kernel) ?_
    refine r_if_eq (zW_mono _ _ _) rfl (fun _ => ?_) (fun q => absurd q (by decide +kernel))
    refine r_push (zW_mono _ _ _) rfl ?_
    refine r_lret (zW_mono _ _ _) rfl rfl ?_
    refine ⟨_, rfl, ⟨_, hx_111⟩, ?_⟩
    refine zW_in rfl (Nat.le_of_ble_eq_true rfl) ?_
    refine r_aload (zW_mono _ _ _) rfl rfl ?_
    refine r_iload (zW_mono _ _ _) rfl rfl ?_
    refine r_virt1 (zW_mono _ _ _) rfl hx_111 (Nat.le_of_ble_eq_true rfl) rfl (Nat.le_of_ble_eq_true rfl) (Nat.le_of_ble_eq_true rfl) ?_
    refine zW_in rfl (Nat.le_of_ble_eq_true rfl) ?_
    refine r_iload (zW_mono _ _ _) rfl rfl ?_
    refine r_i2l (zW_mono _ _ _) rfl ?_
    refine r_push (zW_mono _ _ _) rfl ?_
    refine r_aload (zW_mono _ _ _) rfl rfl ?_
    refine r_get (zW_mono _ _ _) rfl hx_111 rfl ?_
    refine r_push (zW_mono _ _ _) rfl ?_
    refine r_isub (zW_mono _ _ _) rfl ?_
    refine r_i2l (zW_mono _ _ _) rfl ?_
    refine r_stat3 (zW_mono _ _ _) rfl (Nat.le_of_ble_eq_true rfl) rfl (Nat.le_of_ble_eq_true rfl) (Nat.le_of_ble_eq_true rfl) ?_
    refine zW_in rfl (Nat.le_of_ble_eq_true rfl) ?_
    refine r_lload (zW_mono _ _ _) rfl rfl ?_
    refine r_lload (zW_mono _ _ _) rfl rfl ?_
    refine r_lc_lt (X := a1.toInt) (Y := 0) (zW_mono _ _ _) rfl rfl (zi64 _) (by decide +kernel) (fun q => by exfalso; omega) (fun z4 => ?_)
    refine r_lload (zW_mono _ _ _) rfl rfl ?_
    refine r_lload (zW_mono _ _ _) rfl rfl ?_
    refine r_lc_gt (X := a1.toInt) (Y := (-1)) (zW_mono _ _ _) rfl rfl (zi64 _) (by decide +kernel) (fun z5 => ?_) (fun q => by exfalso; omega)
    refine r_push (zW_mono _ _ _) rfl ?_
    refine r_iret (zW_mono _ _ _) rfl rfl (by decide +kernel) ?_
    refine r_iret (zW_mono _ _ _) rfl rfl (by decide +kernel) ?_
    refine r_if_eq (zW_mono _ _ _) rfl (fun _ => ?_) (fun q => absurd q (by decide +kernel))
    refine r_push (zW_mono _ _ _) rfl ?_
    refine r_lret (zW_mono _ _ _) rfl rfl ?_
    first | rfl | exact congrArg some (by decide +kernel)
set_option maxHeartbeats 4000000 in
set_option maxRecDepth 20000 in
theorem op_memo {G : zG} (hG : G.1 = zProg) (a1 : Int32) : zW zTt G 12 136 [.ref 0, .int a1] (dzH dH0) (fun w h => ∃ x : Int32, w = some (.int x) ∧ (∃ fs : List Value, h[111]? = some (.inr (12, fs))) ∧ zW zTt G 12 248 [.ref 111, .int a1] h (fun w2 _ => w2 = some (.int x))) := by
  obtain ⟨p9, t9⟩ := G
  have hG : p9 = zProg := hG
  subst hG
  refine zW_in rfl (Nat.le_of_ble_eq_true rfl) ?_
  refine r_aload (zW_mono _ _ _) rfl rfl ?_
  refine r_get (zW_mono _ _ _) rfl hx_0 rfl ?_
  refine r_iload (zW_mono _ _ _) rfl rfl ?_
  refine r_virt1 (zW_mono _ _ _) rfl hx_36 (Nat.le_of_ble_eq_true rfl) rfl (Nat.le_of_ble_eq_true rfl) (Nat.le_of_ble_eq_true rfl) ?_
  refine zW_in rfl (Nat.le_of_ble_eq_true rfl) ?_
  refine r_iload (zW_mono _ _ _) rfl rfl ?_
  refine r_i0_lt (X := a1.toInt) (zW_mono _ _ _) rfl rfl (fun z1 => ?_) (fun z1 => ?_)
  · refine r_push (zW_mono _ _ _) rfl ?_
    refine r_iret (zW_mono _ _ _) rfl rfl (by decide +kernel) ?_
    refine r_if_eq (zW_mono _ _ _) rfl (fun _ => ?_) (fun q => absurd q (by decide +kernel))
    refine r_push (zW_mono _ _ _) rfl ?_
    refine r_iret (zW_mono _ _ _) rfl rfl rfl ?_
    refine ⟨_, rfl, ⟨_, hx_111⟩, ?_⟩
    refine zW_in rfl (Nat.le_of_ble_eq_true rfl) ?_
    refine r_aload (zW_mono _ _ _) rfl rfl ?_
    refine r_get (zW_mono _ _ _) rfl hx_111 rfl ?_
    refine r_push (zW_mono _ _ _) rfl ?_
    refine r_icmp_eq (zW_mono _ _ _) rfl (fun q => absurd q (by decide +kernel)) (fun _ => ?_)
    refine r_aload (zW_mono _ _ _) rfl rfl ?_
    refine r_iload (zW_mono _ _ _) rfl rfl ?_
    refine r_virt1 (zW_mono _ _ _) rfl hx_111 (Nat.le_of_ble_eq_true rfl) rfl (Nat.le_of_ble_eq_true rfl) (Nat.le_of_ble_eq_true rfl) ?_
    refine zW_in rfl (Nat.le_of_ble_eq_true rfl) ?_
    refine r_iload (zW_mono _ _ _) rfl rfl ?_
    refine r_i2l (zW_mono _ _ _) rfl ?_
    refine r_push (zW_mono _ _ _) rfl ?_
    refine r_aload (zW_mono _ _ _) rfl rfl ?_
    refine r_get (zW_mono _ _ _) rfl hx_111 rfl ?_
    refine r_push (zW_mono _ _ _) rfl ?_
    refine r_isub (zW_mono _ _ _) rfl ?_
    refine r_i2l (zW_mono _ _ _) rfl ?_
    refine r_stat3 (zW_mono _ _ _) rfl (Nat.le_of_ble_eq_true rfl) rfl (Nat.le_of_ble_eq_true rfl) (Nat.le_of_ble_eq_true rfl) ?_
    refine zW_in rfl (Nat.le_of_ble_eq_true rfl) ?_
    refine r_lload (zW_mono _ _ _) rfl rfl ?_
    refine r_lload (zW_mono _ _ _) rfl rfl ?_
    refine r_lc_lt (X := a1.toInt) (Y := 0) (zW_mono _ _ _) rfl rfl (zi64 _) (by decide +kernel) (fun z2 => ?_) (fun q => by exfalso; omega)
    refine r_push (zW_mono _ _ _) rfl ?_
    refine r_iret (zW_mono _ _ _) rfl rfl (by decide +kernel) ?_
    refine r_iret (zW_mono _ _ _) rfl rfl (by decide +kernel) ?_
    refine r_if_ne (zW_mono _ _ _) rfl (fun q => absurd q (by decide +kernel)) (fun _ => ?_)
    refine r_push (zW_mono _ _ _) rfl ?_
    refine r_iret (zW_mono _ _ _) rfl rfl rfl ?_
    first | rfl | exact congrArg some (by decide +kernel)
  · refine r_iload (zW_mono _ _ _) rfl rfl ?_
    refine r_aload (zW_mono _ _ _) rfl rfl ?_
    refine r_get (zW_mono _ _ _) rfl hx_36 rfl ?_
    refine r_ic_ge (X := a1.toInt) (Y := 0) (zW_mono _ _ _) rfl rfl (by decide +kernel) (fun z3 => ?_) (fun q => by exfalso; omega)
    refine r_push (zW_mono _ _ _) rfl ?_
    refine r_iret (zW_mono _ _ _) rfl rfl (by decide +kernel) ?_
    refine r_if_eq (zW_mono _ _ _) rfl (fun _ => ?_) (fun q => absurd q (by decide +kernel))
    refine r_push (zW_mono _ _ _) rfl ?_
    refine r_iret (zW_mono _ _ _) rfl rfl rfl ?_
    refine ⟨_, rfl, ⟨_, hx_111⟩, ?_⟩
    refine zW_in rfl (Nat.le_of_ble_eq_true rfl) ?_
    refine r_aload (zW_mono _ _ _) rfl rfl ?_
    refine r_get (zW_mono _ _ _) rfl hx_111 rfl ?_
    refine r_push (zW_mono _ _ _) rfl ?_
    refine r_icmp_eq (zW_mono _ _ _) rfl (fun q => absurd q (by decide +kernel)) (fun _ => ?_)
    refine r_aload (zW_mono _ _ _) rfl rfl ?_
    refine r_iload (zW_mono _ _ _) rfl rfl ?_
    refine r_virt1 (zW_mono _ _ _) rfl hx_111 (Nat.le_of_ble_eq_true rfl) rfl (Nat.le_of_ble_eq_true rfl) (Nat.le_of_ble_eq_true rfl) ?_
    refine zW_in rfl (Nat.le_of_ble_eq_true rfl) ?_
    refine r_iload (zW_mono _ _ _) rfl rfl ?_
    refine r_i2l (zW_mono _ _ _) rfl ?_
    refine r_push (zW_mono _ _ _) rfl ?_
    refine r_aload (zW_mono _ _ _) rfl rfl ?_
    refine r_get (zW_mono _ _ _) rfl hx_111 rfl ?_
    refine r_push (zW_mono _ _ _) rfl ?_
    refine r_isub (zW_mono _ _ _) rfl ?_
    refine r_i2l (zW_mono _ _ _) rfl ?_
    refine r_stat3 (zW_mono _ _ _) rfl (Nat.le_of_ble_eq_true rfl) rfl (Nat.le_of_ble_eq_true rfl) (Nat.le_of_ble_eq_true rfl) ?_
    refine zW_in rfl (Nat.le_of_ble_eq_true rfl) ?_
    refine r_lload (zW_mono _ _ _) rfl rfl ?_
    refine r_lload (zW_mono _ _ _) rfl rfl ?_
    refine r_lc_lt (X := a1.toInt) (Y := 0) (zW_mono _ _ _) rfl rfl (zi64 _) (by decide +kernel) (fun q => by exfalso; omega) (fun z4 => ?_)
    refine r_lload (zW_mono _ _ _) rfl rfl ?_
    refine r_lload (zW_mono _ _ _) rfl rfl ?_
    refine r_lc_gt (X := a1.toInt) (Y := (-1)) (zW_mono _ _ _) rfl rfl (zi64 _) (by decide +kernel) (fun z5 => ?_) (fun q => by exfalso; omega)
    refine r_push (zW_mono _ _ _) rfl ?_
    refine r_iret (zW_mono _ _ _) rfl rfl (by decide +kernel) ?_
    refine r_iret (zW_mono _ _ _) rfl rfl (by decide +kernel) ?_
    refine r_if_ne (zW_mono _ _ _) rfl (fun q => absurd q (by decide +kernel)) (fun _ => ?_)
    refine r_push (zW_mono _ _ _) rfl ?_
    refine r_iret (zW_mono _ _ _) rfl rfl rfl ?_
    first | rfl | exact congrArg some (by decide +kernel)
set_option maxHeartbeats 4000000 in
set_option maxRecDepth 20000 in
theorem op_row {G : zG} (hG : G.1 = zProg) (a1 a2 a3 a4 : Int32) : zW zTt G 12 137 [.ref 0, .int a1, .int a2, .int a3, .int a4] (dzH dH0) (fun w h => ∃ x : Int32, w = some (.int x) ∧ (∃ fs : List Value, h[111]? = some (.inr (12, fs))) ∧ zW zTt G 12 250 [.ref 111, .int a1, .int a2, .int a3, .int a4] h (fun w2 _ => w2 = some (.int x))) := by
  obtain ⟨p9, t9⟩ := G
  have hG : p9 = zProg := hG
  subst hG
  refine zW_in rfl (Nat.le_of_ble_eq_true rfl) ?_
  refine r_aload (zW_mono _ _ _) rfl rfl ?_
  refine r_get (zW_mono _ _ _) rfl hx_0 rfl ?_
  refine r_iload (zW_mono _ _ _) rfl rfl ?_
  refine r_virt1 (zW_mono _ _ _) rfl hx_76 (Nat.le_of_ble_eq_true rfl) rfl (Nat.le_of_ble_eq_true rfl) (Nat.le_of_ble_eq_true rfl) ?_
  refine zW_in rfl (Nat.le_of_ble_eq_true rfl) ?_
  refine r_iload (zW_mono _ _ _) rfl rfl ?_
  refine r_i0_lt (X := a1.toInt) (zW_mono _ _ _) rfl rfl (fun z1 => ?_) (fun z1 => ?_)
  · refine r_push (zW_mono _ _ _) rfl ?_
    refine r_iret (zW_mono _ _ _) rfl rfl (by decide +kernel) ?_
    refine r_if_eq (zW_mono _ _ _) rfl (fun _ => ?_) (fun q => absurd q (by decide +kernel))
    refine r_push (zW_mono _ _ _) rfl ?_
    refine r_istore (zW_mono _ _ _) rfl (Nat.le_of_ble_eq_true rfl) ?_
    refine r_iload (zW_mono _ _ _) rfl rfl ?_
    refine r_if_eq (zW_mono _ _ _) rfl (fun _ => ?_) (fun q => absurd q (by decide +kernel))
    refine r_push (zW_mono _ _ _) rfl ?_
    refine r_iret (zW_mono _ _ _) rfl rfl rfl ?_
    refine ⟨_, rfl, ⟨_, hx_111⟩, ?_⟩
    refine zW_in rfl (Nat.le_of_ble_eq_true rfl) ?_
    refine r_aload (zW_mono _ _ _) rfl rfl ?_
    refine r_iload (zW_mono _ _ _) rfl rfl ?_
    refine r_virt1 (zW_mono _ _ _) rfl hx_111 (Nat.le_of_ble_eq_true rfl) rfl (Nat.le_of_ble_eq_true rfl) (Nat.le_of_ble_eq_true rfl) ?_
    refine zW_in rfl (Nat.le_of_ble_eq_true rfl) ?_
    refine r_iload (zW_mono _ _ _) rfl rfl ?_
    refine r_i2l (zW_mono _ _ _) rfl ?_
    refine r_push (zW_mono _ _ _) rfl ?_
    refine r_aload (zW_mono _ _ _) rfl rfl ?_
    refine r_get (zW_mono _ _ _) rfl hx_111 rfl ?_
    refine r_push (zW_mono _ _ _) rfl ?_
    refine r_isub (zW_mono _ _ _) rfl ?_
    refine r_i2l (zW_mono _ _ _) rfl ?_
    refine r_stat3 (zW_mono _ _ _) rfl (Nat.le_of_ble_eq_true rfl) rfl (Nat.le_of_ble_eq_true rfl) (Nat.le_of_ble_eq_true rfl) ?_
    refine zW_in rfl (Nat.le_of_ble_eq_true rfl) ?_
    refine r_lload (zW_mono _ _ _) rfl rfl ?_
    refine r_lload (zW_mono _ _ _) rfl rfl ?_
    refine r_lc_lt (X := a1.toInt) (Y := 0) (zW_mono _ _ _) rfl rfl (zi64 _) (by decide +kernel) (fun z2 => ?_) (fun q => by exfalso; omega)
    refine r_push (zW_mono _ _ _) rfl ?_
    refine r_iret (zW_mono _ _ _) rfl rfl (by decide +kernel) ?_
    refine r_iret (zW_mono _ _ _) rfl rfl (by decide +kernel) ?_
    refine r_if_eq (zW_mono _ _ _) rfl (fun _ => ?_) (fun q => absurd q (by decide +kernel))
    refine r_push (zW_mono _ _ _) rfl ?_
    refine r_iret (zW_mono _ _ _) rfl rfl rfl ?_
    first | rfl | exact congrArg some (by decide +kernel)
  · refine r_iload (zW_mono _ _ _) rfl rfl ?_
    refine r_aload (zW_mono _ _ _) rfl rfl ?_
    refine r_get (zW_mono _ _ _) rfl hx_76 rfl ?_
    refine r_ic_ge (X := a1.toInt) (Y := 0) (zW_mono _ _ _) rfl rfl (by decide +kernel) (fun z3 => ?_) (fun q => by exfalso; omega)
    refine r_push (zW_mono _ _ _) rfl ?_
    refine r_iret (zW_mono _ _ _) rfl rfl (by decide +kernel) ?_
    refine r_if_eq (zW_mono _ _ _) rfl (fun _ => ?_) (fun q => absurd q (by decide +kernel))
    refine r_push (zW_mono _ _ _) rfl ?_
    refine r_istore (zW_mono _ _ _) rfl (Nat.le_of_ble_eq_true rfl) ?_
    refine r_iload (zW_mono _ _ _) rfl rfl ?_
    refine r_if_eq (zW_mono _ _ _) rfl (fun _ => ?_) (fun q => absurd q (by decide +kernel))
    refine r_push (zW_mono _ _ _) rfl ?_
    refine r_iret (zW_mono _ _ _) rfl rfl rfl ?_
    refine ⟨_, rfl, ⟨_, hx_111⟩, ?_⟩
    refine zW_in rfl (Nat.le_of_ble_eq_true rfl) ?_
    refine r_aload (zW_mono _ _ _) rfl rfl ?_
    refine r_iload (zW_mono _ _ _) rfl rfl ?_
    refine r_virt1 (zW_mono _ _ _) rfl hx_111 (Nat.le_of_ble_eq_true rfl) rfl (Nat.le_of_ble_eq_true rfl) (Nat.le_of_ble_eq_true rfl) ?_
    refine zW_in rfl (Nat.le_of_ble_eq_true rfl) ?_
    refine r_iload (zW_mono _ _ _) rfl rfl ?_
    refine r_i2l (zW_mono _ _ _) rfl ?_
    refine r_push (zW_mono _ _ _) rfl ?_
    refine r_aload (zW_mono _ _ _) rfl rfl ?_
    refine r_get (zW_mono _ _ _) rfl hx_111 rfl ?_
    refine r_push (zW_mono _ _ _) rfl ?_
    refine r_isub (zW_mono _ _ _) rfl ?_
    refine r_i2l (zW_mono _ _ _) rfl ?_
    refine r_stat3 (zW_mono _ _ _) rfl (Nat.le_of_ble_eq_true rfl) rfl (Nat.le_of_ble_eq_true rfl) (Nat.le_of_ble_eq_true rfl) ?_
    refine zW_in rfl (Nat.le_of_ble_eq_true rfl) ?_
    refine r_lload (zW_mono _ _ _) rfl rfl ?_
    refine r_lload (zW_mono _ _ _) rfl rfl ?_
    refine r_lc_lt (X := a1.toInt) (Y := 0) (zW_mono _ _ _) rfl rfl (zi64 _) (by decide +kernel) (fun q => by exfalso; omega) (fun z4 => ?_)
    refine r_lload (zW_mono _ _ _) rfl rfl ?_
    refine r_lload (zW_mono _ _ _) rfl rfl ?_
    refine r_lc_gt (X := a1.toInt) (Y := (-1)) (zW_mono _ _ _) rfl rfl (zi64 _) (by decide +kernel) (fun z5 => ?_) (fun q => by exfalso; omega)
    refine r_push (zW_mono _ _ _) rfl ?_
    refine r_iret (zW_mono _ _ _) rfl rfl (by decide +kernel) ?_
    refine r_iret (zW_mono _ _ _) rfl rfl (by decide +kernel) ?_
    refine r_if_eq (zW_mono _ _ _) rfl (fun _ => ?_) (fun q => absurd q (by decide +kernel))
    refine r_push (zW_mono _ _ _) rfl ?_
    refine r_iret (zW_mono _ _ _) rfl rfl rfl ?_
    first | rfl | exact congrArg some (by decide +kernel)
set_option maxHeartbeats 4000000 in
set_option maxRecDepth 20000 in
theorem op_memoSum {G : zG} (hG : G.1 = zProg) (a1 : Int32) : zW zTt G 12 138 [.ref 0, .int a1] (dzH dH0) (fun w h => ∃ x : Int64, w = some (.long x) ∧ (∃ fs : List Value, h[111]? = some (.inr (12, fs))) ∧ zW zTt G 12 252 [.ref 111, .int a1] h (fun w2 _ => w2 = some (.long x))) := by
  obtain ⟨p9, t9⟩ := G
  have hG : p9 = zProg := hG
  subst hG
  refine zW_in rfl (Nat.le_of_ble_eq_true rfl) ?_
  refine r_aload (zW_mono _ _ _) rfl rfl ?_
  refine r_get (zW_mono _ _ _) rfl hx_0 rfl ?_
  refine r_iload (zW_mono _ _ _) rfl rfl ?_
  refine r_virt1 (zW_mono _ _ _) rfl hx_76 (Nat.le_of_ble_eq_true rfl) rfl (Nat.le_of_ble_eq_true rfl) (Nat.le_of_ble_eq_true rfl) ?_
  refine zW_in rfl (Nat.le_of_ble_eq_true rfl) ?_
  refine r_iload (zW_mono _ _ _) rfl rfl ?_
  refine r_i0_lt (X := a1.toInt) (zW_mono _ _ _) rfl rfl (fun z1 => ?_) (fun z1 => ?_)
  · refine r_push (zW_mono _ _ _) rfl ?_
    refine r_iret (zW_mono _ _ _) rfl rfl (by decide +kernel) ?_
    refine r_if_eq (zW_mono _ _ _) rfl (fun _ => ?_) (fun q => absurd q (by decide +kernel))
    refine r_push (zW_mono _ _ _) rfl ?_
    refine r_lret (zW_mono _ _ _) rfl rfl ?_
    refine ⟨_, rfl, ⟨_, hx_111⟩, ?_⟩
    refine zW_in rfl (Nat.le_of_ble_eq_true rfl) ?_
    refine r_aload (zW_mono _ _ _) rfl rfl ?_
    refine r_iload (zW_mono _ _ _) rfl rfl ?_
    refine r_virt1 (zW_mono _ _ _) rfl hx_111 (Nat.le_of_ble_eq_true rfl) rfl (Nat.le_of_ble_eq_true rfl) (Nat.le_of_ble_eq_true rfl) ?_
    refine zW_in rfl (Nat.le_of_ble_eq_true rfl) ?_
    refine r_iload (zW_mono _ _ _) rfl rfl ?_
    refine r_i2l (zW_mono _ _ _) rfl ?_
    refine r_push (zW_mono _ _ _) rfl ?_
    refine r_aload (zW_mono _ _ _) rfl rfl ?_
    refine r_get (zW_mono _ _ _) rfl hx_111 rfl ?_
    refine r_push (zW_mono _ _ _) rfl ?_
    refine r_isub (zW_mono _ _ _) rfl ?_
    refine r_i2l (zW_mono _ _ _) rfl ?_
    refine r_stat3 (zW_mono _ _ _) rfl (Nat.le_of_ble_eq_true rfl) rfl (Nat.le_of_ble_eq_true rfl) (Nat.le_of_ble_eq_true rfl) ?_
    refine zW_in rfl (Nat.le_of_ble_eq_true rfl) ?_
    refine r_lload (zW_mono _ _ _) rfl rfl ?_
    refine r_lload (zW_mono _ _ _) rfl rfl ?_
    refine r_lc_lt (X := a1.toInt) (Y := 0) (zW_mono _ _ _) rfl rfl (zi64 _) (by decide +kernel) (fun z2 => ?_) (fun q => by exfalso; omega)
    refine r_push (zW_mono _ _ _) rfl ?_
    refine r_iret (zW_mono _ _ _) rfl rfl (by decide +kernel) ?_
    refine r_iret (zW_mono _ _ _) rfl rfl (by decide +kernel) ?_
    refine r_if_eq (zW_mono _ _ _) rfl (fun _ => ?_) (fun q => absurd q (by decide +kernel))
    refine r_push (zW_mono _ _ _) rfl ?_
    refine r_lret (zW_mono _ _ _) rfl rfl ?_
    first | rfl | exact congrArg some (by decide +kernel)
  · refine r_iload (zW_mono _ _ _) rfl rfl ?_
    refine r_aload (zW_mono _ _ _) rfl rfl ?_
    refine r_get (zW_mono _ _ _) rfl hx_76 rfl ?_
    refine r_ic_ge (X := a1.toInt) (Y := 0) (zW_mono _ _ _) rfl rfl (by decide +kernel) (fun z3 => ?_) (fun q => by exfalso; omega)
    refine r_push (zW_mono _ _ _) rfl ?_
    refine r_iret (zW_mono _ _ _) rfl rfl (by decide +kernel) ?_
    refine r_if_eq (zW_mono _ _ _) rfl (fun _ => ?_) (fun q => absurd q (by decide +kernel))
    refine r_push (zW_mono _ _ _) rfl ?_
    refine r_lret (zW_mono _ _ _) rfl rfl ?_
    refine ⟨_, rfl, ⟨_, hx_111⟩, ?_⟩
    refine zW_in rfl (Nat.le_of_ble_eq_true rfl) ?_
    refine r_aload (zW_mono _ _ _) rfl rfl ?_
    refine r_iload (zW_mono _ _ _) rfl rfl ?_
    refine r_virt1 (zW_mono _ _ _) rfl hx_111 (Nat.le_of_ble_eq_true rfl) rfl (Nat.le_of_ble_eq_true rfl) (Nat.le_of_ble_eq_true rfl) ?_
    refine zW_in rfl (Nat.le_of_ble_eq_true rfl) ?_
    refine r_iload (zW_mono _ _ _) rfl rfl ?_
    refine r_i2l (zW_mono _ _ _) rfl ?_
    refine r_push (zW_mono _ _ _) rfl ?_
    refine r_aload (zW_mono _ _ _) rfl rfl ?_
    refine r_get (zW_mono _ _ _) rfl hx_111 rfl ?_
    refine r_push (zW_mono _ _ _) rfl ?_
    refine r_isub (zW_mono _ _ _) rfl ?_
    refine r_i2l (zW_mono _ _ _) rfl ?_
    refine r_stat3 (zW_mono _ _ _) rfl (Nat.le_of_ble_eq_true rfl) rfl (Nat.le_of_ble_eq_true rfl) (Nat.le_of_ble_eq_true rfl) ?_
    refine zW_in rfl (Nat.le_of_ble_eq_true rfl) ?_
    refine r_lload (zW_mono _ _ _) rfl rfl ?_
    refine r_lload (zW_mono _ _ _) rfl rfl ?_
    refine r_lc_lt (X := a1.toInt) (Y := 0) (zW_mono _ _ _) rfl rfl (zi64 _) (by decide +kernel) (fun q => by exfalso; omega) (fun z4 => ?_)
    refine r_lload (zW_mono _ _ _) rfl rfl ?_
    refine r_lload (zW_mono _ _ _) rfl rfl ?_
    refine r_lc_gt (X := a1.toInt) (Y := (-1)) (zW_mono _ _ _) rfl rfl (zi64 _) (by decide +kernel) (fun z5 => ?_) (fun q => by exfalso; omega)
    refine r_push (zW_mono _ _ _) rfl ?_
    refine r_iret (zW_mono _ _ _) rfl rfl (by decide +kernel) ?_
    refine r_iret (zW_mono _ _ _) rfl rfl (by decide +kernel) ?_
    refine r_if_eq (zW_mono _ _ _) rfl (fun _ => ?_) (fun q => absurd q (by decide +kernel))
    refine r_push (zW_mono _ _ _) rfl ?_
    refine r_lret (zW_mono _ _ _) rfl rfl ?_
    first | rfl | exact congrArg some (by decide +kernel)
set_option maxHeartbeats 4000000 in
set_option maxRecDepth 20000 in
theorem op_turnsAt {G : zG} (hG : G.1 = zProg) (a1 a2 a3 : Int32) : zW zTt G 12 139 [.ref 0, .int a1, .int a2, .int a3] (dzH dH0) (fun w h => ∃ x : Int64, w = some (.long x) ∧ (∃ fs : List Value, h[111]? = some (.inr (12, fs))) ∧ zW zTt G 12 253 [.ref 111, .int a1, .int a2, .int a3] h (fun w2 _ => w2 = some (.long x))) := by
  obtain ⟨p9, t9⟩ := G
  have hG : p9 = zProg := hG
  subst hG
  refine zW_in rfl (Nat.le_of_ble_eq_true rfl) ?_
  refine r_aload (zW_mono _ _ _) rfl rfl ?_
  refine r_get (zW_mono _ _ _) rfl hx_0 rfl ?_
  refine r_iload (zW_mono _ _ _) rfl rfl ?_
  refine r_virt1 (zW_mono _ _ _) rfl hx_76 (Nat.le_of_ble_eq_true rfl) rfl (Nat.le_of_ble_eq_true rfl) (Nat.le_of_ble_eq_true rfl) ?_
  refine zW_in rfl (Nat.le_of_ble_eq_true rfl) ?_
  refine r_iload (zW_mono _ _ _) rfl rfl ?_
  refine r_i0_lt (X := a1.toInt) (zW_mono _ _ _) rfl rfl (fun z1 => ?_) (fun z1 => ?_)
  · refine r_push (zW_mono _ _ _) rfl ?_
    refine r_iret (zW_mono _ _ _) rfl rfl (by decide +kernel) ?_
    refine r_if_eq (zW_mono _ _ _) rfl (fun _ => ?_) (fun q => absurd q (by decide +kernel))
    refine r_push (zW_mono _ _ _) rfl ?_
    refine r_istore (zW_mono _ _ _) rfl (Nat.le_of_ble_eq_true rfl) ?_
    refine r_iload (zW_mono _ _ _) rfl rfl ?_
    refine r_if_eq (zW_mono _ _ _) rfl (fun _ => ?_) (fun q => absurd q (by decide +kernel))
    refine r_push (zW_mono _ _ _) rfl ?_
    refine r_lret (zW_mono _ _ _) rfl rfl ?_
    refine ⟨_, rfl, ⟨_, hx_111⟩, ?_⟩
    refine zW_in rfl (Nat.le_of_ble_eq_true rfl) ?_
    refine r_aload (zW_mono _ _ _) rfl rfl ?_
    refine r_iload (zW_mono _ _ _) rfl rfl ?_
    refine r_virt1 (zW_mono _ _ _) rfl hx_111 (Nat.le_of_ble_eq_true rfl) rfl (Nat.le_of_ble_eq_true rfl) (Nat.le_of_ble_eq_true rfl) ?_
    refine zW_in rfl (Nat.le_of_ble_eq_true rfl) ?_
    refine r_iload (zW_mono _ _ _) rfl rfl ?_
    refine r_i2l (zW_mono _ _ _) rfl ?_
    refine r_push (zW_mono _ _ _) rfl ?_
    refine r_aload (zW_mono _ _ _) rfl rfl ?_
    refine r_get (zW_mono _ _ _) rfl hx_111 rfl ?_
    refine r_push (zW_mono _ _ _) rfl ?_
    refine r_isub (zW_mono _ _ _) rfl ?_
    refine r_i2l (zW_mono _ _ _) rfl ?_
    refine r_stat3 (zW_mono _ _ _) rfl (Nat.le_of_ble_eq_true rfl) rfl (Nat.le_of_ble_eq_true rfl) (Nat.le_of_ble_eq_true rfl) ?_
    refine zW_in rfl (Nat.le_of_ble_eq_true rfl) ?_
    refine r_lload (zW_mono _ _ _) rfl rfl ?_
    refine r_lload (zW_mono _ _ _) rfl rfl ?_
    refine r_lc_lt (X := a1.toInt) (Y := 0) (zW_mono _ _ _) rfl rfl (zi64 _) (by decide +kernel) (fun z2 => ?_) (fun q => by exfalso; omega)
    refine r_push (zW_mono _ _ _) rfl ?_
    refine r_iret (zW_mono _ _ _) rfl rfl (by decide +kernel) ?_
    refine r_iret (zW_mono _ _ _) rfl rfl (by decide +kernel) ?_
    refine r_if_eq (zW_mono _ _ _) rfl (fun _ => ?_) (fun q => absurd q (by decide +kernel))
    refine r_push (zW_mono _ _ _) rfl ?_
    refine r_lret (zW_mono _ _ _) rfl rfl ?_
    first | rfl | exact congrArg some (by decide +kernel)
  · refine r_iload (zW_mono _ _ _) rfl rfl ?_
    refine r_aload (zW_mono _ _ _) rfl rfl ?_
    refine r_get (zW_mono _ _ _) rfl hx_76 rfl ?_
    refine r_ic_ge (X := a1.toInt) (Y := 0) (zW_mono _ _ _) rfl rfl (by decide +kernel) (fun z3 => ?_) (fun q => by exfalso; omega)
    refine r_push (zW_mono _ _ _) rfl ?_
    refine r_iret (zW_mono _ _ _) rfl rfl (by decide +kernel) ?_
    refine r_if_eq (zW_mono _ _ _) rfl (fun _ => ?_) (fun q => absurd q (by decide +kernel))
    refine r_push (zW_mono _ _ _) rfl ?_
    refine r_istore (zW_mono _ _ _) rfl (Nat.le_of_ble_eq_true rfl) ?_
    refine r_iload (zW_mono _ _ _) rfl rfl ?_
    refine r_if_eq (zW_mono _ _ _) rfl (fun _ => ?_) (fun q => absurd q (by decide +kernel))
    refine r_push (zW_mono _ _ _) rfl ?_
    refine r_lret (zW_mono _ _ _) rfl rfl ?_
    refine ⟨_, rfl, ⟨_, hx_111⟩, ?_⟩
    refine zW_in rfl (Nat.le_of_ble_eq_true rfl) ?_
    refine r_aload (zW_mono _ _ _) rfl rfl ?_
    refine r_iload (zW_mono _ _ _) rfl rfl ?_
    refine r_virt1 (zW_mono _ _ _) rfl hx_111 (Nat.le_of_ble_eq_true rfl) rfl (Nat.le_of_ble_eq_true rfl) (Nat.le_of_ble_eq_true rfl) ?_
    refine zW_in rfl (Nat.le_of_ble_eq_true rfl) ?_
    refine r_iload (zW_mono _ _ _) rfl rfl ?_
    refine r_i2l (zW_mono _ _ _) rfl ?_
    refine r_push (zW_mono _ _ _) rfl ?_
    refine r_aload (zW_mono _ _ _) rfl rfl ?_
    refine r_get (zW_mono _ _ _) rfl hx_111 rfl ?_
    refine r_push (zW_mono _ _ _) rfl ?_
    refine r_isub (zW_mono _ _ _) rfl ?_
    refine r_i2l (zW_mono _ _ _) rfl ?_
    refine r_stat3 (zW_mono _ _ _) rfl (Nat.le_of_ble_eq_true rfl) rfl (Nat.le_of_ble_eq_true rfl) (Nat.le_of_ble_eq_true rfl) ?_
    refine zW_in rfl (Nat.le_of_ble_eq_true rfl) ?_
    refine r_lload (zW_mono _ _ _) rfl rfl ?_
    refine r_lload (zW_mono _ _ _) rfl rfl ?_
    refine r_lc_lt (X := a1.toInt) (Y := 0) (zW_mono _ _ _) rfl rfl (zi64 _) (by decide +kernel) (fun q => by exfalso; omega) (fun z4 => ?_)
    refine r_lload (zW_mono _ _ _) rfl rfl ?_
    refine r_lload (zW_mono _ _ _) rfl rfl ?_
    refine r_lc_gt (X := a1.toInt) (Y := (-1)) (zW_mono _ _ _) rfl rfl (zi64 _) (by decide +kernel) (fun z5 => ?_) (fun q => by exfalso; omega)
    refine r_push (zW_mono _ _ _) rfl ?_
    refine r_iret (zW_mono _ _ _) rfl rfl (by decide +kernel) ?_
    refine r_iret (zW_mono _ _ _) rfl rfl (by decide +kernel) ?_
    refine r_if_eq (zW_mono _ _ _) rfl (fun _ => ?_) (fun q => absurd q (by decide +kernel))
    refine r_push (zW_mono _ _ _) rfl ?_
    refine r_lret (zW_mono _ _ _) rfl rfl ?_
    first | rfl | exact congrArg some (by decide +kernel)
set_option maxHeartbeats 4000000 in
set_option maxRecDepth 20000 in
theorem op_beside {G : zG} (hG : G.1 = zProg) (a1 a2 a3 : Int32) : zW zTt G 12 140 [.ref 0, .int a1, .int a2, .int a3] (dzH dH0) (fun w h => ∃ x : Int64, w = some (.long x) ∧ (∃ fs : List Value, h[111]? = some (.inr (12, fs))) ∧ zW zTt G 12 256 [.ref 111, .int a1, .int a2, .int a3] h (fun w2 _ => w2 = some (.long x))) := by
  obtain ⟨p9, t9⟩ := G
  have hG : p9 = zProg := hG
  subst hG
  refine zW_in rfl (Nat.le_of_ble_eq_true rfl) ?_
  refine r_aload (zW_mono _ _ _) rfl rfl ?_
  refine r_get (zW_mono _ _ _) rfl hx_0 rfl ?_
  refine r_iload (zW_mono _ _ _) rfl rfl ?_
  refine r_virt1 (zW_mono _ _ _) rfl hx_76 (Nat.le_of_ble_eq_true rfl) rfl (Nat.le_of_ble_eq_true rfl) (Nat.le_of_ble_eq_true rfl) ?_
  refine zW_in rfl (Nat.le_of_ble_eq_true rfl) ?_
  refine r_iload (zW_mono _ _ _) rfl rfl ?_
  refine r_i0_lt (X := a1.toInt) (zW_mono _ _ _) rfl rfl (fun z1 => ?_) (fun z1 => ?_)
  · refine r_push (zW_mono _ _ _) rfl ?_
    refine r_iret (zW_mono _ _ _) rfl rfl (by decide +kernel) ?_
    refine r_if_eq (zW_mono _ _ _) rfl (fun _ => ?_) (fun q => absurd q (by decide +kernel))
    refine r_push (zW_mono _ _ _) rfl ?_
    refine r_istore (zW_mono _ _ _) rfl (Nat.le_of_ble_eq_true rfl) ?_
    refine r_iload (zW_mono _ _ _) rfl rfl ?_
    refine r_if_eq (zW_mono _ _ _) rfl (fun _ => ?_) (fun q => absurd q (by decide +kernel))
    refine r_push (zW_mono _ _ _) rfl ?_
    refine r_lret (zW_mono _ _ _) rfl rfl ?_
    refine ⟨_, rfl, ⟨_, hx_111⟩, ?_⟩
    refine zW_in rfl (Nat.le_of_ble_eq_true rfl) ?_
    refine r_aload (zW_mono _ _ _) rfl rfl ?_
    refine r_iload (zW_mono _ _ _) rfl rfl ?_
    refine r_virt1 (zW_mono _ _ _) rfl hx_111 (Nat.le_of_ble_eq_true rfl) rfl (Nat.le_of_ble_eq_true rfl) (Nat.le_of_ble_eq_true rfl) ?_
    refine zW_in rfl (Nat.le_of_ble_eq_true rfl) ?_
    refine r_iload (zW_mono _ _ _) rfl rfl ?_
    refine r_i2l (zW_mono _ _ _) rfl ?_
    refine r_push (zW_mono _ _ _) rfl ?_
    refine r_aload (zW_mono _ _ _) rfl rfl ?_
    refine r_get (zW_mono _ _ _) rfl hx_111 rfl ?_
    refine r_push (zW_mono _ _ _) rfl ?_
    refine r_isub (zW_mono _ _ _) rfl ?_
    refine r_i2l (zW_mono _ _ _) rfl ?_
    refine r_stat3 (zW_mono _ _ _) rfl (Nat.le_of_ble_eq_true rfl) rfl (Nat.le_of_ble_eq_true rfl) (Nat.le_of_ble_eq_true rfl) ?_
    refine zW_in rfl (Nat.le_of_ble_eq_true rfl) ?_
    refine r_lload (zW_mono _ _ _) rfl rfl ?_
    refine r_lload (zW_mono _ _ _) rfl rfl ?_
    refine r_lc_lt (X := a1.toInt) (Y := 0) (zW_mono _ _ _) rfl rfl (zi64 _) (by decide +kernel) (fun z2 => ?_) (fun q => by exfalso; omega)
    refine r_push (zW_mono _ _ _) rfl ?_
    refine r_iret (zW_mono _ _ _) rfl rfl (by decide +kernel) ?_
    refine r_iret (zW_mono _ _ _) rfl rfl (by decide +kernel) ?_
    refine r_if_eq (zW_mono _ _ _) rfl (fun _ => ?_) (fun q => absurd q (by decide +kernel))
    refine r_push (zW_mono _ _ _) rfl ?_
    refine r_lret (zW_mono _ _ _) rfl rfl ?_
    first | rfl | exact congrArg some (by decide +kernel)
  · refine r_iload (zW_mono _ _ _) rfl rfl ?_
    refine r_aload (zW_mono _ _ _) rfl rfl ?_
    refine r_get (zW_mono _ _ _) rfl hx_76 rfl ?_
    refine r_ic_ge (X := a1.toInt) (Y := 0) (zW_mono _ _ _) rfl rfl (by decide +kernel) (fun z3 => ?_) (fun q => by exfalso; omega)
    refine r_push (zW_mono _ _ _) rfl ?_
    refine r_iret (zW_mono _ _ _) rfl rfl (by decide +kernel) ?_
    refine r_if_eq (zW_mono _ _ _) rfl (fun _ => ?_) (fun q => absurd q (by decide +kernel))
    refine r_push (zW_mono _ _ _) rfl ?_
    refine r_istore (zW_mono _ _ _) rfl (Nat.le_of_ble_eq_true rfl) ?_
    refine r_iload (zW_mono _ _ _) rfl rfl ?_
    refine r_if_eq (zW_mono _ _ _) rfl (fun _ => ?_) (fun q => absurd q (by decide +kernel))
    refine r_push (zW_mono _ _ _) rfl ?_
    refine r_lret (zW_mono _ _ _) rfl rfl ?_
    refine ⟨_, rfl, ⟨_, hx_111⟩, ?_⟩
    refine zW_in rfl (Nat.le_of_ble_eq_true rfl) ?_
    refine r_aload (zW_mono _ _ _) rfl rfl ?_
    refine r_iload (zW_mono _ _ _) rfl rfl ?_
    refine r_virt1 (zW_mono _ _ _) rfl hx_111 (Nat.le_of_ble_eq_true rfl) rfl (Nat.le_of_ble_eq_true rfl) (Nat.le_of_ble_eq_true rfl) ?_
    refine zW_in rfl (Nat.le_of_ble_eq_true rfl) ?_
    refine r_iload (zW_mono _ _ _) rfl rfl ?_
    refine r_i2l (zW_mono _ _ _) rfl ?_
    refine r_push (zW_mono _ _ _) rfl ?_
    refine r_aload (zW_mono _ _ _) rfl rfl ?_
    refine r_get (zW_mono _ _ _) rfl hx_111 rfl ?_
    refine r_push (zW_mono _ _ _) rfl ?_
    refine r_isub (zW_mono _ _ _) rfl ?_
    refine r_i2l (zW_mono _ _ _) rfl ?_
    refine r_stat3 (zW_mono _ _ _) rfl (Nat.le_of_ble_eq_true rfl) rfl (Nat.le_of_ble_eq_true rfl) (Nat.le_of_ble_eq_true rfl) ?_
    refine zW_in rfl (Nat.le_of_ble_eq_true rfl) ?_
    refine r_lload (zW_mono _ _ _) rfl rfl ?_
    refine r_lload (zW_mono _ _ _) rfl rfl ?_
    refine r_lc_lt (X := a1.toInt) (Y := 0) (zW_mono _ _ _) rfl rfl (zi64 _) (by decide +kernel) (fun q => by exfalso; omega) (fun z4 => ?_)
    refine r_lload (zW_mono _ _ _) rfl rfl ?_
    refine r_lload (zW_mono _ _ _) rfl rfl ?_
    refine r_lc_gt (X := a1.toInt) (Y := (-1)) (zW_mono _ _ _) rfl rfl (zi64 _) (by decide +kernel) (fun z5 => ?_) (fun q => by exfalso; omega)
    refine r_push (zW_mono _ _ _) rfl ?_
    refine r_iret (zW_mono _ _ _) rfl rfl (by decide +kernel) ?_
    refine r_iret (zW_mono _ _ _) rfl rfl (by decide +kernel) ?_
    refine r_if_eq (zW_mono _ _ _) rfl (fun _ => ?_) (fun q => absurd q (by decide +kernel))
    refine r_push (zW_mono _ _ _) rfl ?_
    refine r_lret (zW_mono _ _ _) rfl rfl ?_
    first | rfl | exact congrArg some (by decide +kernel)
set_option maxHeartbeats 4000000 in
set_option maxRecDepth 20000 in
theorem op_step {G : zG} (hG : G.1 = zProg) (a1 a2 a3 a4 : Int32) : zW zTt G 12 141 [.ref 0, .int a1, .int a2, .int a3, .int a4] (dzH dH0) (fun w h => ∃ x : Int32, w = some (.int x) ∧ (∃ fs : List Value, h[111]? = some (.inr (12, fs))) ∧ zW zTt G 12 257 [.ref 111, .int a1, .int a2, .int a3, .int a4] h (fun w2 _ => w2 = some (.int x))) := by
  obtain ⟨p9, t9⟩ := G
  have hG : p9 = zProg := hG
  subst hG
  refine zW_in rfl (Nat.le_of_ble_eq_true rfl) ?_
  refine r_iload (zW_mono _ _ _) rfl rfl ?_
  refine r_push (zW_mono _ _ _) rfl ?_
  refine r_push (zW_mono _ _ _) rfl ?_
  refine r_stat3 (zW_mono _ _ _) rfl (Nat.le_of_ble_eq_true rfl) rfl (Nat.le_of_ble_eq_true rfl) (Nat.le_of_ble_eq_true rfl) ?_
  refine zW_in rfl (Nat.le_of_ble_eq_true rfl) ?_
  refine r_iload (zW_mono _ _ _) rfl rfl ?_
  refine r_iload (zW_mono _ _ _) rfl rfl ?_
  refine r_ic_lt (X := a1.toInt) (Y := 0) (zW_mono _ _ _) rfl rfl (by decide +kernel) (fun z1 => ?_) (fun z1 => ?_)
  · refine r_push (zW_mono _ _ _) rfl ?_
    refine r_iret (zW_mono _ _ _) rfl rfl (by decide +kernel) ?_
    refine r_if_eq (zW_mono _ _ _) rfl (fun _ => ?_) (fun q => absurd q (by decide +kernel))
    refine r_push (zW_mono _ _ _) rfl ?_
    refine r_istore (zW_mono _ _ _) rfl (Nat.le_of_ble_eq_true rfl) ?_
    refine r_iload (zW_mono _ _ _) rfl rfl ?_
    refine r_if_eq (zW_mono _ _ _) rfl (fun _ => ?_) (fun q => absurd q (by decide +kernel))
    refine r_push (zW_mono _ _ _) rfl ?_
    refine r_iret (zW_mono _ _ _) rfl rfl rfl ?_
    refine ⟨_, rfl, ⟨_, hx_111⟩, ?_⟩
    refine zW_in rfl (Nat.le_of_ble_eq_true rfl) ?_
    refine r_aload (zW_mono _ _ _) rfl rfl ?_
    refine r_get (zW_mono _ _ _) rfl hx_111 rfl ?_
    refine r_push (zW_mono _ _ _) rfl ?_
    refine r_icmp_eq (zW_mono _ _ _) rfl (fun q => absurd q (by decide +kernel)) (fun _ => ?_)
    refine r_iload (zW_mono _ _ _) rfl rfl ?_
    refine r_i2l (zW_mono _ _ _) rfl ?_
    refine r_push (zW_mono _ _ _) rfl ?_
    refine r_push (zW_mono _ _ _) rfl ?_
    refine r_stat3 (zW_mono _ _ _) rfl (Nat.le_of_ble_eq_true rfl) rfl (Nat.le_of_ble_eq_true rfl) (Nat.le_of_ble_eq_true rfl) ?_
    refine zW_in rfl (Nat.le_of_ble_eq_true rfl) ?_
    refine r_lload (zW_mono _ _ _) rfl rfl ?_
    refine r_lload (zW_mono _ _ _) rfl rfl ?_
    refine r_lc_lt (X := a1.toInt) (Y := 0) (zW_mono _ _ _) rfl rfl (zi64 _) (by decide +kernel) (fun z2 => ?_) (fun q => by exfalso; omega)
    refine r_push (zW_mono _ _ _) rfl ?_
    refine r_iret (zW_mono _ _ _) rfl rfl (by decide +kernel) ?_
    refine r_if_eq (zW_mono _ _ _) rfl (fun _ => ?_) (fun q => absurd q (by decide +kernel))
    refine r_push (zW_mono _ _ _) rfl ?_
    refine r_iret (zW_mono _ _ _) rfl rfl rfl ?_
    first | rfl | exact congrArg some (by decide +kernel)
  · refine r_iload (zW_mono _ _ _) rfl rfl ?_
    refine r_iload (zW_mono _ _ _) rfl rfl ?_
    refine r_ic_gt (X := a1.toInt) (Y := 99) (zW_mono _ _ _) rfl rfl (by decide +kernel) (fun z3 => ?_) (fun z3 => ?_)
    · refine r_push (zW_mono _ _ _) rfl ?_
      refine r_iret (zW_mono _ _ _) rfl rfl (by decide +kernel) ?_
      refine r_if_eq (zW_mono _ _ _) rfl (fun _ => ?_) (fun q => absurd q (by decide +kernel))
      refine r_push (zW_mono _ _ _) rfl ?_
      refine r_istore (zW_mono _ _ _) rfl (Nat.le_of_ble_eq_true rfl) ?_
      refine r_iload (zW_mono _ _ _) rfl rfl ?_
      refine r_if_eq (zW_mono _ _ _) rfl (fun _ => ?_) (fun q => absurd q (by decide +kernel))
      refine r_push (zW_mono _ _ _) rfl ?_
      refine r_iret (zW_mono _ _ _) rfl rfl rfl ?_
      refine ⟨_, rfl, ⟨_, hx_111⟩, ?_⟩
      refine zW_in rfl (Nat.le_of_ble_eq_true rfl) ?_
      refine r_aload (zW_mono _ _ _) rfl rfl ?_
      refine r_get (zW_mono _ _ _) rfl hx_111 rfl ?_
      refine r_push (zW_mono _ _ _) rfl ?_
      refine r_icmp_eq (zW_mono _ _ _) rfl (fun q => absurd q (by decide +kernel)) (fun _ => ?_)
      refine r_iload (zW_mono _ _ _) rfl rfl ?_
      refine r_i2l (zW_mono _ _ _) rfl ?_
      refine r_push (zW_mono _ _ _) rfl ?_
      refine r_push (zW_mono _ _ _) rfl ?_
      refine r_stat3 (zW_mono _ _ _) rfl (Nat.le_of_ble_eq_true rfl) rfl (Nat.le_of_ble_eq_true rfl) (Nat.le_of_ble_eq_true rfl) ?_
      refine zW_in rfl (Nat.le_of_ble_eq_true rfl) ?_
      refine r_lload (zW_mono _ _ _) rfl rfl ?_
      refine r_lload (zW_mono _ _ _) rfl rfl ?_
      refine r_lc_lt (X := a1.toInt) (Y := 0) (zW_mono _ _ _) rfl rfl (zi64 _) (by decide +kernel) (fun q => by exfalso; omega) (fun z4 => ?_)
      refine r_lload (zW_mono _ _ _) rfl rfl ?_
      refine r_lload (zW_mono _ _ _) rfl rfl ?_
      refine r_lc_gt (X := a1.toInt) (Y := 99) (zW_mono _ _ _) rfl rfl (zi64 _) (by decide +kernel) (fun z5 => ?_) (fun q => by exfalso; omega)
      refine r_push (zW_mono _ _ _) rfl ?_
      refine r_iret (zW_mono _ _ _) rfl rfl (by decide +kernel) ?_
      refine r_if_eq (zW_mono _ _ _) rfl (fun _ => ?_) (fun q => absurd q (by decide +kernel))
      refine r_push (zW_mono _ _ _) rfl ?_
      refine r_iret (zW_mono _ _ _) rfl rfl rfl ?_
      first | rfl | exact congrArg some (by decide +kernel)
    · refine r_push (zW_mono _ _ _) rfl ?_
      refine r_goto (zW_mono _ _ _) rfl ?_
      refine r_iret (zW_mono _ _ _) rfl rfl (by decide +kernel) ?_
      refine r_if_eq (zW_mono _ _ _) rfl (fun q => absurd q (by decide +kernel)) (fun _ => ?_)
      refine r_iload (zW_mono _ _ _) rfl rfl ?_
      refine r_push (zW_mono _ _ _) rfl ?_
      refine r_ic_eq (X := a2.toInt) (Y := (-1)) (zW_mono _ _ _) rfl rfl (by decide +kernel) (fun z6 => ?_) (fun z6 => ?_)
      · refine r_aload (zW_mono _ _ _) rfl rfl ?_
        refine r_get (zW_mono _ _ _) rfl hx_0 rfl ?_
        refine r_iload (zW_mono _ _ _) rfl rfl ?_
        refine r_virt1 (zW_mono _ _ _) rfl hx_81 (Nat.le_of_ble_eq_true rfl) rfl (Nat.le_of_ble_eq_true rfl) (Nat.le_of_ble_eq_true rfl) ?_
        refine zW_in rfl (Nat.le_of_ble_eq_true rfl) ?_
        refine r_iload (zW_mono _ _ _) rfl rfl ?_
        refine r_i0_lt (X := a3.toInt) (zW_mono _ _ _) rfl rfl (fun z7 => ?_) (fun z7 => ?_)
        · refine r_push (zW_mono _ _ _) rfl ?_
          refine r_iret (zW_mono _ _ _) rfl rfl (by decide +kernel) ?_
          refine r_if_eq (zW_mono _ _ _) rfl (fun _ => ?_) (fun q => absurd q (by decide +kernel))
          refine r_push (zW_mono _ _ _) rfl ?_
          refine r_istore (zW_mono _ _ _) rfl (Nat.le_of_ble_eq_true rfl) ?_
          refine r_iload (zW_mono _ _ _) rfl rfl ?_
          refine r_if_eq (zW_mono _ _ _) rfl (fun _ => ?_) (fun q => absurd q (by decide +kernel))
          refine r_push (zW_mono _ _ _) rfl ?_
          refine r_iret (zW_mono _ _ _) rfl rfl rfl ?_
          refine ⟨_, rfl, ⟨_, hx_111⟩, ?_⟩
          refine zW_in rfl (Nat.le_of_ble_eq_true rfl) ?_
          refine r_aload (zW_mono _ _ _) rfl rfl ?_
          refine r_get (zW_mono _ _ _) rfl hx_111 rfl ?_
          refine r_push (zW_mono _ _ _) rfl ?_
          refine r_icmp_eq (zW_mono _ _ _) rfl (fun q => absurd q (by decide +kernel)) (fun _ => ?_)
          refine r_iload (zW_mono _ _ _) rfl rfl ?_
          refine r_i2l (zW_mono _ _ _) rfl ?_
          refine r_push (zW_mono _ _ _) rfl ?_
          refine r_push (zW_mono _ _ _) rfl ?_
          refine r_stat3 (zW_mono _ _ _) rfl (Nat.le_of_ble_eq_true rfl) rfl (Nat.le_of_ble_eq_true rfl) (Nat.le_of_ble_eq_true rfl) ?_
          refine zW_in rfl (Nat.le_of_ble_eq_true rfl) ?_
          refine r_lload (zW_mono _ _ _) rfl rfl ?_
          refine r_lload (zW_mono _ _ _) rfl rfl ?_
          refine r_lc_lt (X := a1.toInt) (Y := 0) (zW_mono _ _ _) rfl rfl (zi64 _) (by decide +kernel) (fun q => by exfalso; omega) (fun z8 => ?_)
          refine r_lload (zW_mono _ _ _) rfl rfl ?_
          refine r_lload (zW_mono _ _ _) rfl rfl ?_
          refine r_lc_gt (X := a1.toInt) (Y := 99) (zW_mono _ _ _) rfl rfl (zi64 _) (by decide +kernel) (fun q => by exfalso; omega) (fun z9 => ?_)
          refine r_push (zW_mono _ _ _) rfl ?_
          refine r_goto (zW_mono _ _ _) rfl ?_
          refine r_iret (zW_mono _ _ _) rfl rfl (by decide +kernel) ?_
          refine r_if_eq (zW_mono _ _ _) rfl (fun q => absurd q (by decide +kernel)) (fun _ => ?_)
          refine r_iload (zW_mono _ _ _) rfl rfl ?_
          refine r_i2l (zW_mono _ _ _) rfl ?_
          refine r_push (zW_mono _ _ _) rfl ?_
          refine r_push (zW_mono _ _ _) rfl ?_
          refine r_stat3 (zW_mono _ _ _) rfl (Nat.le_of_ble_eq_true rfl) rfl (Nat.le_of_ble_eq_true rfl) (Nat.le_of_ble_eq_true rfl) ?_
          refine zW_in rfl (Nat.le_of_ble_eq_true rfl) ?_
          refine r_lload (zW_mono _ _ _) rfl rfl ?_
          refine r_lload (zW_mono _ _ _) rfl rfl ?_
          refine r_lc_lt (X := a2.toInt) (Y := (-1)) (zW_mono _ _ _) rfl rfl (zi64 _) (by decide +kernel) (fun q => by exfalso; omega) (fun z10 => ?_)
          refine r_lload (zW_mono _ _ _) rfl rfl ?_
          refine r_lload (zW_mono _ _ _) rfl rfl ?_
          refine r_lc_gt (X := a2.toInt) (Y := 3) (zW_mono _ _ _) rfl rfl (zi64 _) (by decide +kernel) (fun q => by exfalso; omega) (fun z11 => ?_)
          refine r_push (zW_mono _ _ _) rfl ?_
          refine r_goto (zW_mono _ _ _) rfl ?_
          refine r_iret (zW_mono _ _ _) rfl rfl (by decide +kernel) ?_
          refine r_if_eq (zW_mono _ _ _) rfl (fun q => absurd q (by decide +kernel)) (fun _ => ?_)
          refine r_iload (zW_mono _ _ _) rfl rfl ?_
          refine r_aload (zW_mono _ _ _) rfl rfl ?_
          refine r_get (zW_mono _ _ _) rfl hx_111 rfl ?_
          refine r_ishr (zW_mono _ _ _) rfl ?_
          refine r_i0_ne (X := a3.toInt) (zW_mono _ _ _) rfl (zshr0 _) (fun z12 => ?_) (fun q => by exfalso; omega)
          refine r_push (zW_mono _ _ _) rfl ?_
          refine r_iret (zW_mono _ _ _) rfl rfl rfl ?_
          first | rfl | exact congrArg some (by decide +kernel)
        · refine r_iload (zW_mono _ _ _) rfl rfl ?_
          refine r_aload (zW_mono _ _ _) rfl rfl ?_
          refine r_get (zW_mono _ _ _) rfl hx_81 rfl ?_
          refine r_ishr (zW_mono _ _ _) rfl ?_
          refine r_i0_ne (X := a3.toInt) (zW_mono _ _ _) rfl (zshr0 _) (fun z13 => ?_) (fun z13 => ?_)
          · refine r_push (zW_mono _ _ _) rfl ?_
            refine r_iret (zW_mono _ _ _) rfl rfl (by decide +kernel) ?_
            refine r_if_eq (zW_mono _ _ _) rfl (fun _ => ?_) (fun q => absurd q (by decide +kernel))
            refine r_push (zW_mono _ _ _) rfl ?_
            refine r_istore (zW_mono _ _ _) rfl (Nat.le_of_ble_eq_true rfl) ?_
            refine r_iload (zW_mono _ _ _) rfl rfl ?_
            refine r_if_eq (zW_mono _ _ _) rfl (fun _ => ?_) (fun q => absurd q (by decide +kernel))
            refine r_push (zW_mono _ _ _) rfl ?_
            refine r_iret (zW_mono _ _ _) rfl rfl rfl ?_
            refine ⟨_, rfl, ⟨_, hx_111⟩, ?_⟩
            refine zW_in rfl (Nat.le_of_ble_eq_true rfl) ?_
            refine r_aload (zW_mono _ _ _) rfl rfl ?_
            refine r_get (zW_mono _ _ _) rfl hx_111 rfl ?_
            refine r_push (zW_mono _ _ _) rfl ?_
            refine r_icmp_eq (zW_mono _ _ _) rfl (fun q => absurd q (by decide +kernel)) (fun _ => ?_)
            refine r_iload (zW_mono _ _ _) rfl rfl ?_
            refine r_i2l (zW_mono _ _ _) rfl ?_
            refine r_push (zW_mono _ _ _) rfl ?_
            refine r_push (zW_mono _ _ _) rfl ?_
            refine r_stat3 (zW_mono _ _ _) rfl (Nat.le_of_ble_eq_true rfl) rfl (Nat.le_of_ble_eq_true rfl) (Nat.le_of_ble_eq_true rfl) ?_
            refine zW_in rfl (Nat.le_of_ble_eq_true rfl) ?_
            refine r_lload (zW_mono _ _ _) rfl rfl ?_
            refine r_lload (zW_mono _ _ _) rfl rfl ?_
            refine r_lc_lt (X := a1.toInt) (Y := 0) (zW_mono _ _ _) rfl rfl (zi64 _) (by decide +kernel) (fun q => by exfalso; omega) (fun z14 => ?_)
            refine r_lload (zW_mono _ _ _) rfl rfl ?_
            refine r_lload (zW_mono _ _ _) rfl rfl ?_
            refine r_lc_gt (X := a1.toInt) (Y := 99) (zW_mono _ _ _) rfl rfl (zi64 _) (by decide +kernel) (fun q => by exfalso; omega) (fun z15 => ?_)
            refine r_push (zW_mono _ _ _) rfl ?_
            refine r_goto (zW_mono _ _ _) rfl ?_
            refine r_iret (zW_mono _ _ _) rfl rfl (by decide +kernel) ?_
            refine r_if_eq (zW_mono _ _ _) rfl (fun q => absurd q (by decide +kernel)) (fun _ => ?_)
            refine r_iload (zW_mono _ _ _) rfl rfl ?_
            refine r_i2l (zW_mono _ _ _) rfl ?_
            refine r_push (zW_mono _ _ _) rfl ?_
            refine r_push (zW_mono _ _ _) rfl ?_
            refine r_stat3 (zW_mono _ _ _) rfl (Nat.le_of_ble_eq_true rfl) rfl (Nat.le_of_ble_eq_true rfl) (Nat.le_of_ble_eq_true rfl) ?_
            refine zW_in rfl (Nat.le_of_ble_eq_true rfl) ?_
            refine r_lload (zW_mono _ _ _) rfl rfl ?_
            refine r_lload (zW_mono _ _ _) rfl rfl ?_
            refine r_lc_lt (X := a2.toInt) (Y := (-1)) (zW_mono _ _ _) rfl rfl (zi64 _) (by decide +kernel) (fun q => by exfalso; omega) (fun z16 => ?_)
            refine r_lload (zW_mono _ _ _) rfl rfl ?_
            refine r_lload (zW_mono _ _ _) rfl rfl ?_
            refine r_lc_gt (X := a2.toInt) (Y := 3) (zW_mono _ _ _) rfl rfl (zi64 _) (by decide +kernel) (fun q => by exfalso; omega) (fun z17 => ?_)
            refine r_push (zW_mono _ _ _) rfl ?_
            refine r_goto (zW_mono _ _ _) rfl ?_
            refine r_iret (zW_mono _ _ _) rfl rfl (by decide +kernel) ?_
            refine r_if_eq (zW_mono _ _ _) rfl (fun q => absurd q (by decide +kernel)) (fun _ => ?_)
            refine r_iload (zW_mono _ _ _) rfl rfl ?_
            refine r_aload (zW_mono _ _ _) rfl rfl ?_
            refine r_get (zW_mono _ _ _) rfl hx_111 rfl ?_
            refine r_ishr (zW_mono _ _ _) rfl ?_
            refine r_i0_ne (X := a3.toInt) (zW_mono _ _ _) rfl (zshr0 _) (fun z18 => ?_) (fun q => by exfalso; omega)
            refine r_push (zW_mono _ _ _) rfl ?_
            refine r_iret (zW_mono _ _ _) rfl rfl rfl ?_
            first | rfl | exact congrArg some (by decide +kernel)
          · refine r_push (zW_mono _ _ _) rfl ?_
            refine r_goto (zW_mono _ _ _) rfl ?_
            refine r_iret (zW_mono _ _ _) rfl rfl (by decide +kernel) ?_
            refine r_if_eq (zW_mono _ _ _) rfl (fun q => absurd q (by decide +kernel)) (fun _ => ?_)
            refine r_iload (zW_mono _ _ _) rfl rfl ?_
            refine r_push (zW_mono _ _ _) rfl ?_
            refine r_push (zW_mono _ _ _) rfl ?_
            refine r_stat3 (zW_mono _ _ _) rfl (Nat.le_of_ble_eq_true rfl) rfl (Nat.le_of_ble_eq_true rfl) (Nat.le_of_ble_eq_true rfl) ?_
            refine zW_in rfl (Nat.le_of_ble_eq_true rfl) ?_
            refine r_iload (zW_mono _ _ _) rfl rfl ?_
            refine r_iload (zW_mono _ _ _) rfl rfl ?_
            refine r_ic_lt (X := a4.toInt) (Y := 0) (zW_mono _ _ _) rfl rfl (by decide +kernel) (fun z19 => ?_) (fun z19 => ?_)
            · refine r_push (zW_mono _ _ _) rfl ?_
              refine r_iret (zW_mono _ _ _) rfl rfl (by decide +kernel) ?_
              refine r_if_eq (zW_mono _ _ _) rfl (fun _ => ?_) (fun q => absurd q (by decide +kernel))
              refine r_push (zW_mono _ _ _) rfl ?_
              refine r_istore (zW_mono _ _ _) rfl (Nat.le_of_ble_eq_true rfl) ?_
              refine r_iload (zW_mono _ _ _) rfl rfl ?_
              refine r_if_eq (zW_mono _ _ _) rfl (fun _ => ?_) (fun q => absurd q (by decide +kernel))
              refine r_push (zW_mono _ _ _) rfl ?_
              refine r_iret (zW_mono _ _ _) rfl rfl rfl ?_
              refine ⟨_, rfl, ⟨_, hx_111⟩, ?_⟩
              refine zW_in rfl (Nat.le_of_ble_eq_true rfl) ?_
              refine r_aload (zW_mono _ _ _) rfl rfl ?_
              refine r_get (zW_mono _ _ _) rfl hx_111 rfl ?_
              refine r_push (zW_mono _ _ _) rfl ?_
              refine r_icmp_eq (zW_mono _ _ _) rfl (fun q => absurd q (by decide +kernel)) (fun _ => ?_)
              refine r_iload (zW_mono _ _ _) rfl rfl ?_
              refine r_i2l (zW_mono _ _ _) rfl ?_
              refine r_push (zW_mono _ _ _) rfl ?_
              refine r_push (zW_mono _ _ _) rfl ?_
              refine r_stat3 (zW_mono _ _ _) rfl (Nat.le_of_ble_eq_true rfl) rfl (Nat.le_of_ble_eq_true rfl) (Nat.le_of_ble_eq_true rfl) ?_
              refine zW_in rfl (Nat.le_of_ble_eq_true rfl) ?_
              refine r_lload (zW_mono _ _ _) rfl rfl ?_
              refine r_lload (zW_mono _ _ _) rfl rfl ?_
              refine r_lc_lt (X := a1.toInt) (Y := 0) (zW_mono _ _ _) rfl rfl (zi64 _) (by decide +kernel) (fun q => by exfalso; omega) (fun z20 => ?_)
              refine r_lload (zW_mono _ _ _) rfl rfl ?_
              refine r_lload (zW_mono _ _ _) rfl rfl ?_
              refine r_lc_gt (X := a1.toInt) (Y := 99) (zW_mono _ _ _) rfl rfl (zi64 _) (by decide +kernel) (fun q => by exfalso; omega) (fun z21 => ?_)
              refine r_push (zW_mono _ _ _) rfl ?_
              refine r_goto (zW_mono _ _ _) rfl ?_
              refine r_iret (zW_mono _ _ _) rfl rfl (by decide +kernel) ?_
              refine r_if_eq (zW_mono _ _ _) rfl (fun q => absurd q (by decide +kernel)) (fun _ => ?_)
              refine r_iload (zW_mono _ _ _) rfl rfl ?_
              refine r_i2l (zW_mono _ _ _) rfl ?_
              refine r_push (zW_mono _ _ _) rfl ?_
              refine r_push (zW_mono _ _ _) rfl ?_
              refine r_stat3 (zW_mono _ _ _) rfl (Nat.le_of_ble_eq_true rfl) rfl (Nat.le_of_ble_eq_true rfl) (Nat.le_of_ble_eq_true rfl) ?_
              refine zW_in rfl (Nat.le_of_ble_eq_true rfl) ?_
              refine r_lload (zW_mono _ _ _) rfl rfl ?_
              refine r_lload (zW_mono _ _ _) rfl rfl ?_
              refine r_lc_lt (X := a2.toInt) (Y := (-1)) (zW_mono _ _ _) rfl rfl (zi64 _) (by decide +kernel) (fun q => by exfalso; omega) (fun z22 => ?_)
              refine r_lload (zW_mono _ _ _) rfl rfl ?_
              refine r_lload (zW_mono _ _ _) rfl rfl ?_
              refine r_lc_gt (X := a2.toInt) (Y := 3) (zW_mono _ _ _) rfl rfl (zi64 _) (by decide +kernel) (fun q => by exfalso; omega) (fun z23 => ?_)
              refine r_push (zW_mono _ _ _) rfl ?_
              refine r_goto (zW_mono _ _ _) rfl ?_
              refine r_iret (zW_mono _ _ _) rfl rfl (by decide +kernel) ?_
              refine r_if_eq (zW_mono _ _ _) rfl (fun q => absurd q (by decide +kernel)) (fun _ => ?_)
              refine r_iload (zW_mono _ _ _) rfl rfl ?_
              refine r_aload (zW_mono _ _ _) rfl rfl ?_
              refine r_get (zW_mono _ _ _) rfl hx_111 rfl ?_
              refine r_ishr (zW_mono _ _ _) rfl ?_
              refine r_i0_ne (X := a3.toInt) (zW_mono _ _ _) rfl (zshr0 _) (fun q => by exfalso; omega) (fun z24 => ?_)
              refine r_iload (zW_mono _ _ _) rfl rfl ?_
              refine r_i2l (zW_mono _ _ _) rfl ?_
              refine r_push (zW_mono _ _ _) rfl ?_
              refine r_push (zW_mono _ _ _) rfl ?_
              refine r_stat3 (zW_mono _ _ _) rfl (Nat.le_of_ble_eq_true rfl) rfl (Nat.le_of_ble_eq_true rfl) (Nat.le_of_ble_eq_true rfl) ?_
              refine zW_in rfl (Nat.le_of_ble_eq_true rfl) ?_
              refine r_lload (zW_mono _ _ _) rfl rfl ?_
              refine r_lload (zW_mono _ _ _) rfl rfl ?_
              refine r_lc_lt (X := a4.toInt) (Y := 0) (zW_mono _ _ _) rfl rfl (zi64 _) (by decide +kernel) (fun z25 => ?_) (fun q => by exfalso; omega)
              refine r_push (zW_mono _ _ _) rfl ?_
              refine r_iret (zW_mono _ _ _) rfl rfl (by decide +kernel) ?_
              refine r_if_ne (zW_mono _ _ _) rfl (fun q => absurd q (by decide +kernel)) (fun _ => ?_)
              refine r_push (zW_mono _ _ _) rfl ?_
              refine r_iret (zW_mono _ _ _) rfl rfl rfl ?_
              first | rfl | exact congrArg some (by decide +kernel)
            · refine r_iload (zW_mono _ _ _) rfl rfl ?_
              refine r_iload (zW_mono _ _ _) rfl rfl ?_
              refine r_ic_gt (X := a4.toInt) (Y := 9999) (zW_mono _ _ _) rfl rfl (by decide +kernel) (fun z26 => ?_) (fun z26 => ?_)
              · refine r_push (zW_mono _ _ _) rfl ?_
                refine r_iret (zW_mono _ _ _) rfl rfl (by decide +kernel) ?_
                refine r_if_eq (zW_mono _ _ _) rfl (fun _ => ?_) (fun q => absurd q (by decide +kernel))
                refine r_push (zW_mono _ _ _) rfl ?_
                refine r_istore (zW_mono _ _ _) rfl (Nat.le_of_ble_eq_true rfl) ?_
                refine r_iload (zW_mono _ _ _) rfl rfl ?_
                refine r_if_eq (zW_mono _ _ _) rfl (fun _ => ?_) (fun q => absurd q (by decide +kernel))
                refine r_push (zW_mono _ _ _) rfl ?_
                refine r_iret (zW_mono _ _ _) rfl rfl rfl ?_
                refine ⟨_, rfl, ⟨_, hx_111⟩, ?_⟩
                refine zW_in rfl (Nat.le_of_ble_eq_true rfl) ?_
                refine r_aload (zW_mono _ _ _) rfl rfl ?_
                refine r_get (zW_mono _ _ _) rfl hx_111 rfl ?_
                refine r_push (zW_mono _ _ _) rfl ?_
                refine r_icmp_eq (zW_mono _ _ _) rfl (fun q => absurd q (by decide +kernel)) (fun _ => ?_)
                refine r_iload (zW_mono _ _ _) rfl rfl ?_
                refine r_i2l (zW_mono _ _ _) rfl ?_
                refine r_push (zW_mono _ _ _) rfl ?_
                refine r_push (zW_mono _ _ _) rfl ?_
                refine r_stat3 (zW_mono _ _ _) rfl (Nat.le_of_ble_eq_true rfl) rfl (Nat.le_of_ble_eq_true rfl) (Nat.le_of_ble_eq_true rfl) ?_
                refine zW_in rfl (Nat.le_of_ble_eq_true rfl) ?_
                refine r_lload (zW_mono _ _ _) rfl rfl ?_
                refine r_lload (zW_mono _ _ _) rfl rfl ?_
                refine r_lc_lt (X := a1.toInt) (Y := 0) (zW_mono _ _ _) rfl rfl (zi64 _) (by decide +kernel) (fun q => by exfalso; omega) (fun z27 => ?_)
                refine r_lload (zW_mono _ _ _) rfl rfl ?_
                refine r_lload (zW_mono _ _ _) rfl rfl ?_
                refine r_lc_gt (X := a1.toInt) (Y := 99) (zW_mono _ _ _) rfl rfl (zi64 _) (by decide +kernel) (fun q => by exfalso; omega) (fun z28 => ?_)
                refine r_push (zW_mono _ _ _) rfl ?_
                refine r_goto (zW_mono _ _ _) rfl ?_
                refine r_iret (zW_mono _ _ _) rfl rfl (by decide +kernel) ?_
                refine r_if_eq (zW_mono _ _ _) rfl (fun q => absurd q (by decide +kernel)) (fun _ => ?_)
                refine r_iload (zW_mono _ _ _) rfl rfl ?_
                refine r_i2l (zW_mono _ _ _) rfl ?_
                refine r_push (zW_mono _ _ _) rfl ?_
                refine r_push (zW_mono _ _ _) rfl ?_
                refine r_stat3 (zW_mono _ _ _) rfl (Nat.le_of_ble_eq_true rfl) rfl (Nat.le_of_ble_eq_true rfl) (Nat.le_of_ble_eq_true rfl) ?_
                refine zW_in rfl (Nat.le_of_ble_eq_true rfl) ?_
                refine r_lload (zW_mono _ _ _) rfl rfl ?_
                refine r_lload (zW_mono _ _ _) rfl rfl ?_
                refine r_lc_lt (X := a2.toInt) (Y := (-1)) (zW_mono _ _ _) rfl rfl (zi64 _) (by decide +kernel) (fun q => by exfalso; omega) (fun z29 => ?_)
                refine r_lload (zW_mono _ _ _) rfl rfl ?_
                refine r_lload (zW_mono _ _ _) rfl rfl ?_
                refine r_lc_gt (X := a2.toInt) (Y := 3) (zW_mono _ _ _) rfl rfl (zi64 _) (by decide +kernel) (fun q => by exfalso; omega) (fun z30 => ?_)
                refine r_push (zW_mono _ _ _) rfl ?_
                refine r_goto (zW_mono _ _ _) rfl ?_
                refine r_iret (zW_mono _ _ _) rfl rfl (by decide +kernel) ?_
                refine r_if_eq (zW_mono _ _ _) rfl (fun q => absurd q (by decide +kernel)) (fun _ => ?_)
                refine r_iload (zW_mono _ _ _) rfl rfl ?_
                refine r_aload (zW_mono _ _ _) rfl rfl ?_
                refine r_get (zW_mono _ _ _) rfl hx_111 rfl ?_
                refine r_ishr (zW_mono _ _ _) rfl ?_
                refine r_i0_ne (X := a3.toInt) (zW_mono _ _ _) rfl (zshr0 _) (fun q => by exfalso; omega) (fun z31 => ?_)
                refine r_iload (zW_mono _ _ _) rfl rfl ?_
                refine r_i2l (zW_mono _ _ _) rfl ?_
                refine r_push (zW_mono _ _ _) rfl ?_
                refine r_push (zW_mono _ _ _) rfl ?_
                refine r_stat3 (zW_mono _ _ _) rfl (Nat.le_of_ble_eq_true rfl) rfl (Nat.le_of_ble_eq_true rfl) (Nat.le_of_ble_eq_true rfl) ?_
                refine zW_in rfl (Nat.le_of_ble_eq_true rfl) ?_
                refine r_lload (zW_mono _ _ _) rfl rfl ?_
                refine r_lload (zW_mono _ _ _) rfl rfl ?_
                refine r_lc_lt (X := a4.toInt) (Y := 0) (zW_mono _ _ _) rfl rfl (zi64 _) (by decide +kernel) (fun q => by exfalso; omega) (fun z32 => ?_)
                refine r_lload (zW_mono _ _ _) rfl rfl ?_
                refine r_lload (zW_mono _ _ _) rfl rfl ?_
                refine r_lc_gt (X := a4.toInt) (Y := 9999) (zW_mono _ _ _) rfl rfl (zi64 _) (by decide +kernel) (fun z33 => ?_) (fun q => by exfalso; omega)
                refine r_push (zW_mono _ _ _) rfl ?_
                refine r_iret (zW_mono _ _ _) rfl rfl (by decide +kernel) ?_
                refine r_if_ne (zW_mono _ _ _) rfl (fun q => absurd q (by decide +kernel)) (fun _ => ?_)
                refine r_push (zW_mono _ _ _) rfl ?_
                refine r_iret (zW_mono _ _ _) rfl rfl rfl ?_
                first | rfl | exact congrArg some (by decide +kernel)
              · refine r_push (zW_mono _ _ _) rfl ?_
                refine r_goto (zW_mono _ _ _) rfl ?_
                refine r_iret (zW_mono _ _ _) rfl rfl (by decide +kernel) ?_
                refine r_if_eq (zW_mono _ _ _) rfl (fun q => absurd q (by decide +kernel)) (fun _ => ?_)
                refine r_push (zW_mono _ _ _) rfl ?_
                refine r_goto (zW_mono _ _ _) rfl ?_
                refine r_istore (zW_mono _ _ _) rfl (Nat.le_of_ble_eq_true rfl) ?_
                refine r_iload (zW_mono _ _ _) rfl rfl ?_
                refine r_if_eq (zW_mono _ _ _) rfl (fun q => absurd q (by decide +kernel)) (fun _ => ?_)
                refine r_aload (zW_mono _ _ _) rfl rfl ?_
                refine r_get (zW_mono _ _ _) rfl hx_0 rfl ?_
                refine r_iload (zW_mono _ _ _) rfl rfl ?_
                refine r_iload (zW_mono _ _ _) rfl rfl ?_
                refine r_iload (zW_mono _ _ _) rfl rfl ?_
                refine r_iload (zW_mono _ _ _) rfl rfl ?_
                refine r_virt4 (zW_mono _ _ _) rfl hx_81 (Nat.le_of_ble_eq_true rfl) rfl (Nat.le_of_ble_eq_true rfl) (Nat.le_of_ble_eq_true rfl) ?_
                refine zW_in rfl (Nat.le_of_ble_eq_true rfl) ?_
                refine r_aload (zW_mono _ _ _) rfl rfl ?_
                refine r_get (zW_mono _ _ _) rfl hx_81 rfl ?_
                refine r_push (zW_mono _ _ _) rfl ?_
                refine r_icmp_ne (zW_mono _ _ _) rfl (fun _ => ?_) (fun q => absurd q (by decide +kernel))
                refine r_aload (zW_mono _ _ _) rfl rfl ?_
                refine r_get (zW_mono _ _ _) rfl hx_81 rfl ?_
                refine r_aload (zW_mono _ _ _) rfl rfl ?_
                refine r_get (zW_mono _ _ _) rfl hx_81 rfl ?_
                refine r_iload (zW_mono _ _ _) rfl rfl ?_
                refine r_iast (zW_mono _ _ _) rfl hx_82 (vp_in_iff.mpr ⟨(by decide +kernel), (by decide +kernel)⟩) ?_
                refine zR_nm (fun h1 e1 => ?_)
                have g1 := zgs e1 hx_82
                refine r_aload (zW_mono _ _ _) rfl rfl ?_
                have f2 := (zgn e1 (by decide) hx_81)
                refine r_get (zW_mono _ _ _) rfl f2 rfl ?_
                refine r_aload (zW_mono _ _ _) rfl rfl ?_
                refine r_get (zW_mono _ _ _) rfl f2 rfl ?_
                refine r_iload (zW_mono _ _ _) rfl rfl ?_
                have f3 := (zgn e1 (by decide) hx_83)
                refine r_iast (zW_mono _ _ _) rfl f3 (vp_in_iff.mpr ⟨(by decide +kernel), (by decide +kernel)⟩) ?_
                refine zR_nm (fun h4 e4 => ?_)
                have g4 := zgs e4 f3
                refine r_aload (zW_mono _ _ _) rfl rfl ?_
                have f5 := (zgn e4 (by decide) f2)
                refine r_get (zW_mono _ _ _) rfl f5 rfl ?_
                refine r_aload (zW_mono _ _ _) rfl rfl ?_
                refine r_get (zW_mono _ _ _) rfl f5 rfl ?_
                refine r_iload (zW_mono _ _ _) rfl rfl ?_
                have f6 := (zgn e4 (by decide) (zgn e1 (by decide) hx_84))
                refine r_iast (zW_mono _ _ _) rfl f6 (vp_in_iff.mpr ⟨(by decide +kernel), (by decide +kernel)⟩) ?_
                refine zR_nm (fun h7 e7 => ?_)
                have g7 := zgs e7 f6
                refine r_aload (zW_mono _ _ _) rfl rfl ?_
                have f8 := (zgn e7 (by decide) f5)
                refine r_get (zW_mono _ _ _) rfl f8 rfl ?_
                refine r_aload (zW_mono _ _ _) rfl rfl ?_
                refine r_get (zW_mono _ _ _) rfl f8 rfl ?_
                refine r_iload (zW_mono _ _ _) rfl rfl ?_
                have f9 := (zgn e7 (by decide) (zgn e4 (by decide) (zgn e1 (by decide) hx_85)))
                refine r_iast (zW_mono _ _ _) rfl f9 (vp_in_iff.mpr ⟨(by decide +kernel), (by decide +kernel)⟩) ?_
                refine zR_nm (fun h10 e10 => ?_)
                have g10 := zgs e10 f9
                refine r_aload (zW_mono _ _ _) rfl rfl ?_
                have f11 := (zgn e10 (by decide) f8)
                refine r_get (zW_mono _ _ _) rfl f11 rfl ?_
                refine r_aload (zW_mono _ _ _) rfl rfl ?_
                refine r_get (zW_mono _ _ _) rfl f11 rfl ?_
                refine r_aload (zW_mono _ _ _) rfl rfl ?_
                refine r_aload (zW_mono _ _ _) rfl rfl ?_
                refine r_get (zW_mono _ _ _) rfl f11 rfl ?_
                refine r_aload (zW_mono _ _ _) rfl rfl ?_
                refine r_get (zW_mono _ _ _) rfl f11 rfl ?_
                refine r_virt2 (zW_mono _ _ _) rfl f11 (Nat.le_of_ble_eq_true rfl) rfl (Nat.le_of_ble_eq_true rfl) (Nat.le_of_ble_eq_true rfl) ?_
                refine zW_in rfl (Nat.le_of_ble_eq_true rfl) ?_
                refine r_push (zW_mono _ _ _) rfl ?_
                refine r_istore (zW_mono _ _ _) rfl (Nat.le_of_ble_eq_true rfl) ?_
                refine r_push (zW_mono _ _ _) rfl ?_
                refine r_istore (zW_mono _ _ _) rfl (Nat.le_of_ble_eq_true rfl) ?_
                refine r_iload (zW_mono _ _ _) rfl rfl ?_
                refine r_iload (zW_mono _ _ _) rfl rfl ?_
                refine r_icmp_ge (zW_mono _ _ _) rfl (fun _ => ?_) (fun q => absurd q (by decide +kernel))
                refine r_iload (zW_mono _ _ _) rfl rfl ?_
                refine r_iret (zW_mono _ _ _) rfl rfl rfl ?_
                have f12 := (zgn e10 (by decide) (zgn e7 (by decide) (zgn e4 (by decide) (zgn e1 (by decide) hx_86))))
                refine r_iast (zW_mono _ _ _) rfl f12 (vp_in_iff.mpr ⟨(by decide +kernel), (by decide +kernel)⟩) ?_
                refine zR_nm (fun h13 e13 => ?_)
                have g13 := zgs e13 f12
                refine r_aload (zW_mono _ _ _) rfl rfl ?_
                have f14 := (zgn e13 (by decide) f11)
                refine r_get (zW_mono _ _ _) rfl f14 rfl ?_
                refine r_aload (zW_mono _ _ _) rfl rfl ?_
                refine r_get (zW_mono _ _ _) rfl f14 rfl ?_
                refine r_aload (zW_mono _ _ _) rfl rfl ?_
                refine r_get (zW_mono _ _ _) rfl f14 rfl ?_
                refine r_aload (zW_mono _ _ _) rfl rfl ?_
                refine r_get (zW_mono _ _ _) rfl f14 rfl ?_
                refine r_iald (zW_mono _ _ _) rfl g13 (vp_in_iff.mpr ⟨(by decide +kernel), (by decide +kernel)⟩) ?_
                refine r_iload (zW_mono _ _ _) rfl rfl ?_
                refine r_iadd (zW_mono _ _ _) rfl ?_
                have f15 := (zgn e13 (by decide) (zgn e10 (by decide) (zgn e7 (by decide) (zgn e4 (by decide) (zgn e1 (by decide) hx_87)))))
                refine r_iast (zW_mono _ _ _) rfl f15 (vp_in_iff.mpr ⟨(by decide +kernel), (by decide +kernel)⟩) ?_
                refine zR_nm (fun h16 e16 => ?_)
                have g16 := zgs e16 f15
                refine r_aload (zW_mono _ _ _) rfl rfl ?_
                refine r_dup (zW_mono _ _ _) rfl rfl ?_
                have f17 := (zgn e16 (by decide) f14)
                refine r_get (zW_mono _ _ _) rfl f17 rfl ?_
                refine r_dup_x1 (zW_mono _ _ _) rfl rfl rfl ?_
                refine r_push (zW_mono _ _ _) rfl ?_
                refine r_iadd (zW_mono _ _ _) rfl ?_
                refine r_put (zW_mono _ _ _) rfl f17 (Nat.le_of_ble_eq_true rfl) rfl rfl rfl ?_
                refine zR_nm (fun h18 e18 => ?_)
                have g18 := zgs e18 f17
                refine r_iret (zW_mono _ _ _) rfl rfl rfl ?_
                refine r_goto (zW_mono _ _ _) rfl ?_
                refine r_iret (zW_mono _ _ _) rfl rfl rfl ?_
                have f19 := (zgn e18 (by decide) (zgn e16 (by decide) (zgn e13 (by decide) (zgn e10 (by decide) (zgn e7 (by decide) (zgn e4 (by decide) (zgn e1 (by decide) hx_111)))))))
                refine ⟨_, rfl, ⟨_, f19⟩, ?_⟩
                refine zW_in rfl (Nat.le_of_ble_eq_true rfl) ?_
                refine r_aload (zW_mono _ _ _) rfl rfl ?_
                refine r_get (zW_mono _ _ _) rfl f19 rfl ?_
                refine r_push (zW_mono _ _ _) rfl ?_
                refine r_icmp_eq (zW_mono _ _ _) rfl (fun q => absurd q (by decide +kernel)) (fun _ => ?_)
                refine r_iload (zW_mono _ _ _) rfl rfl ?_
                refine r_i2l (zW_mono _ _ _) rfl ?_
                refine r_push (zW_mono _ _ _) rfl ?_
                refine r_push (zW_mono _ _ _) rfl ?_
                refine r_stat3 (zW_mono _ _ _) rfl (Nat.le_of_ble_eq_true rfl) rfl (Nat.le_of_ble_eq_true rfl) (Nat.le_of_ble_eq_true rfl) ?_
                refine zW_in rfl (Nat.le_of_ble_eq_true rfl) ?_
                refine r_lload (zW_mono _ _ _) rfl rfl ?_
                refine r_lload (zW_mono _ _ _) rfl rfl ?_
                refine r_lc_lt (X := a1.toInt) (Y := 0) (zW_mono _ _ _) rfl rfl (zi64 _) (by decide +kernel) (fun q => by exfalso; omega) (fun z34 => ?_)
                refine r_lload (zW_mono _ _ _) rfl rfl ?_
                refine r_lload (zW_mono _ _ _) rfl rfl ?_
                refine r_lc_gt (X := a1.toInt) (Y := 99) (zW_mono _ _ _) rfl rfl (zi64 _) (by decide +kernel) (fun q => by exfalso; omega) (fun z35 => ?_)
                refine r_push (zW_mono _ _ _) rfl ?_
                refine r_goto (zW_mono _ _ _) rfl ?_
                refine r_iret (zW_mono _ _ _) rfl rfl (by decide +kernel) ?_
                refine r_if_eq (zW_mono _ _ _) rfl (fun q => absurd q (by decide +kernel)) (fun _ => ?_)
                refine r_iload (zW_mono _ _ _) rfl rfl ?_
                refine r_i2l (zW_mono _ _ _) rfl ?_
                refine r_push (zW_mono _ _ _) rfl ?_
                refine r_push (zW_mono _ _ _) rfl ?_
                refine r_stat3 (zW_mono _ _ _) rfl (Nat.le_of_ble_eq_true rfl) rfl (Nat.le_of_ble_eq_true rfl) (Nat.le_of_ble_eq_true rfl) ?_
                refine zW_in rfl (Nat.le_of_ble_eq_true rfl) ?_
                refine r_lload (zW_mono _ _ _) rfl rfl ?_
                refine r_lload (zW_mono _ _ _) rfl rfl ?_
                refine r_lc_lt (X := a2.toInt) (Y := (-1)) (zW_mono _ _ _) rfl rfl (zi64 _) (by decide +kernel) (fun q => by exfalso; omega) (fun z36 => ?_)
                refine r_lload (zW_mono _ _ _) rfl rfl ?_
                refine r_lload (zW_mono _ _ _) rfl rfl ?_
                refine r_lc_gt (X := a2.toInt) (Y := 3) (zW_mono _ _ _) rfl rfl (zi64 _) (by decide +kernel) (fun q => by exfalso; omega) (fun z37 => ?_)
                refine r_push (zW_mono _ _ _) rfl ?_
                refine r_goto (zW_mono _ _ _) rfl ?_
                refine r_iret (zW_mono _ _ _) rfl rfl (by decide +kernel) ?_
                refine r_if_eq (zW_mono _ _ _) rfl (fun q => absurd q (by decide +kernel)) (fun _ => ?_)
                refine r_iload (zW_mono _ _ _) rfl rfl ?_
                refine r_aload (zW_mono _ _ _) rfl rfl ?_
                refine r_get (zW_mono _ _ _) rfl f19 rfl ?_
                refine r_ishr (zW_mono _ _ _) rfl ?_
                refine r_i0_ne (X := a3.toInt) (zW_mono _ _ _) rfl (zshr0 _) (fun q => by exfalso; omega) (fun z38 => ?_)
                refine r_iload (zW_mono _ _ _) rfl rfl ?_
                refine r_i2l (zW_mono _ _ _) rfl ?_
                refine r_push (zW_mono _ _ _) rfl ?_
                refine r_push (zW_mono _ _ _) rfl ?_
                refine r_stat3 (zW_mono _ _ _) rfl (Nat.le_of_ble_eq_true rfl) rfl (Nat.le_of_ble_eq_true rfl) (Nat.le_of_ble_eq_true rfl) ?_
                refine zW_in rfl (Nat.le_of_ble_eq_true rfl) ?_
                refine r_lload (zW_mono _ _ _) rfl rfl ?_
                refine r_lload (zW_mono _ _ _) rfl rfl ?_
                refine r_lc_lt (X := a4.toInt) (Y := 0) (zW_mono _ _ _) rfl rfl (zi64 _) (by decide +kernel) (fun q => by exfalso; omega) (fun z39 => ?_)
                refine r_lload (zW_mono _ _ _) rfl rfl ?_
                refine r_lload (zW_mono _ _ _) rfl rfl ?_
                refine r_lc_gt (X := a4.toInt) (Y := 9999) (zW_mono _ _ _) rfl rfl (zi64 _) (by decide +kernel) (fun q => by exfalso; omega) (fun z40 => ?_)
                refine r_push (zW_mono _ _ _) rfl ?_
                refine r_goto (zW_mono _ _ _) rfl ?_
                refine r_iret (zW_mono _ _ _) rfl rfl (by decide +kernel) ?_
                refine r_if_ne (zW_mono _ _ _) rfl (fun _ => ?_) (fun q => absurd q (by decide +kernel))
                refine r_aload (zW_mono _ _ _) rfl rfl ?_
                refine r_get (zW_mono _ _ _) rfl f19 rfl ?_
                refine r_aload (zW_mono _ _ _) rfl rfl ?_
                refine r_get (zW_mono _ _ _) rfl f19 rfl ?_
                refine r_iload (zW_mono _ _ _) rfl rfl ?_
                have f20 := (zgn e18 (by decide) (zgn e16 (by decide) (zgn e13 (by decide) (zgn e10 (by decide) (zgn e7 (by decide) (zgn e4 (by decide) (zgn e1 (by decide) hx_167)))))))
                refine r_iast (zW_mono _ _ _) rfl f20 (vp_in_iff.mpr ⟨(by decide +kernel), (by decide +kernel)⟩) ?_
                refine zR_nm (fun h21 e21 => ?_)
                have g21 := zgs e21 f20
                refine r_aload (zW_mono _ _ _) rfl rfl ?_
                have f22 := (zgn e21 (by decide) f19)
                refine r_get (zW_mono _ _ _) rfl f22 rfl ?_
                refine r_aload (zW_mono _ _ _) rfl rfl ?_
                refine r_get (zW_mono _ _ _) rfl f22 rfl ?_
                refine r_iload (zW_mono _ _ _) rfl rfl ?_
                have f23 := (zgn e21 (by decide) (zgn e18 (by decide) (zgn e16 (by decide) (zgn e13 (by decide) (zgn e10 (by decide) (zgn e7 (by decide) (zgn e4 (by decide) (zgn e1 (by decide) hx_168))))))))
                refine r_iast (zW_mono _ _ _) rfl f23 (vp_in_iff.mpr ⟨(by decide +kernel), (by decide +kernel)⟩) ?_
                refine zR_nm (fun h24 e24 => ?_)
                have g24 := zgs e24 f23
                refine r_aload (zW_mono _ _ _) rfl rfl ?_
                have f25 := (zgn e24 (by decide) f22)
                refine r_get (zW_mono _ _ _) rfl f25 rfl ?_
                refine r_aload (zW_mono _ _ _) rfl rfl ?_
                refine r_get (zW_mono _ _ _) rfl f25 rfl ?_
                refine r_iload (zW_mono _ _ _) rfl rfl ?_
                have f26 := (zgn e24 (by decide) (zgn e21 (by decide) (zgn e18 (by decide) (zgn e16 (by decide) (zgn e13 (by decide) (zgn e10 (by decide) (zgn e7 (by decide) (zgn e4 (by decide) (zgn e1 (by decide) hx_169)))))))))
                refine r_iast (zW_mono _ _ _) rfl f26 (vp_in_iff.mpr ⟨(by decide +kernel), (by decide +kernel)⟩) ?_
                refine zR_nm (fun h27 e27 => ?_)
                have g27 := zgs e27 f26
                refine r_aload (zW_mono _ _ _) rfl rfl ?_
                have f28 := (zgn e27 (by decide) f25)
                refine r_get (zW_mono _ _ _) rfl f28 rfl ?_
                refine r_aload (zW_mono _ _ _) rfl rfl ?_
                refine r_get (zW_mono _ _ _) rfl f28 rfl ?_
                refine r_iload (zW_mono _ _ _) rfl rfl ?_
                have f29 := (zgn e27 (by decide) (zgn e24 (by decide) (zgn e21 (by decide) (zgn e18 (by decide) (zgn e16 (by decide) (zgn e13 (by decide) (zgn e10 (by decide) (zgn e7 (by decide) (zgn e4 (by decide) (zgn e1 (by decide) hx_170))))))))))
                refine r_iast (zW_mono _ _ _) rfl f29 (vp_in_iff.mpr ⟨(by decide +kernel), (by decide +kernel)⟩) ?_
                refine zR_nm (fun h30 e30 => ?_)
                have g30 := zgs e30 f29
                refine r_aload (zW_mono _ _ _) rfl rfl ?_
                refine r_dup (zW_mono _ _ _) rfl rfl ?_
                have f31 := (zgn e30 (by decide) f28)
                refine r_get (zW_mono _ _ _) rfl f31 rfl ?_
                refine r_push (zW_mono _ _ _) rfl ?_
                refine r_iadd (zW_mono _ _ _) rfl ?_
                refine r_put (zW_mono _ _ _) rfl f31 (Nat.le_of_ble_eq_true rfl) rfl rfl rfl ?_
                refine zR_nm (fun h32 e32 => ?_)
                have g32 := zgs e32 f31
                refine r_aload (zW_mono _ _ _) rfl rfl ?_
                refine r_get (zW_mono _ _ _) rfl g32 rfl ?_
                refine r_push (zW_mono _ _ _) rfl ?_
                refine r_isub (zW_mono _ _ _) rfl ?_
                refine r_iret (zW_mono _ _ _) rfl rfl rfl ?_
                first | rfl | exact congrArg some (by decide +kernel)
      · refine r_iload (zW_mono _ _ _) rfl rfl ?_
        refine r_stat1 (zW_mono _ _ _) rfl (Nat.le_of_ble_eq_true rfl) rfl (Nat.le_of_ble_eq_true rfl) (Nat.le_of_ble_eq_true rfl) ?_
        refine zW_in rfl (Nat.le_of_ble_eq_true rfl) ?_
        refine r_iload (zW_mono _ _ _) rfl rfl ?_
        refine r_push (zW_mono _ _ _) rfl ?_
        refine r_push (zW_mono _ _ _) rfl ?_
        refine r_stat3 (zW_mono _ _ _) rfl (Nat.le_of_ble_eq_true rfl) rfl (Nat.le_of_ble_eq_true rfl) (Nat.le_of_ble_eq_true rfl) ?_
        refine zW_in rfl (Nat.le_of_ble_eq_true rfl) ?_
        refine r_iload (zW_mono _ _ _) rfl rfl ?_
        refine r_iload (zW_mono _ _ _) rfl rfl ?_
        refine r_ic_lt (X := a2.toInt) (Y := 0) (zW_mono _ _ _) rfl rfl (by decide +kernel) (fun z41 => ?_) (fun z41 => ?_)
        · refine r_push (zW_mono _ _ _) rfl ?_
          refine r_iret (zW_mono _ _ _) rfl rfl (by decide +kernel) ?_
          refine r_iret (zW_mono _ _ _) rfl rfl (by decide +kernel) ?_
          refine r_if_eq (zW_mono _ _ _) rfl (fun _ => ?_) (fun q => absurd q (by decide +kernel))
          refine r_push (zW_mono _ _ _) rfl ?_
          refine r_istore (zW_mono _ _ _) rfl (Nat.le_of_ble_eq_true rfl) ?_
          refine r_iload (zW_mono _ _ _) rfl rfl ?_
          refine r_if_eq (zW_mono _ _ _) rfl (fun _ => ?_) (fun q => absurd q (by decide +kernel))
          refine r_push (zW_mono _ _ _) rfl ?_
          refine r_iret (zW_mono _ _ _) rfl rfl rfl ?_
          refine ⟨_, rfl, ⟨_, hx_111⟩, ?_⟩
          refine zW_in rfl (Nat.le_of_ble_eq_true rfl) ?_
          refine r_aload (zW_mono _ _ _) rfl rfl ?_
          refine r_get (zW_mono _ _ _) rfl hx_111 rfl ?_
          refine r_push (zW_mono _ _ _) rfl ?_
          refine r_icmp_eq (zW_mono _ _ _) rfl (fun q => absurd q (by decide +kernel)) (fun _ => ?_)
          refine r_iload (zW_mono _ _ _) rfl rfl ?_
          refine r_i2l (zW_mono _ _ _) rfl ?_
          refine r_push (zW_mono _ _ _) rfl ?_
          refine r_push (zW_mono _ _ _) rfl ?_
          refine r_stat3 (zW_mono _ _ _) rfl (Nat.le_of_ble_eq_true rfl) rfl (Nat.le_of_ble_eq_true rfl) (Nat.le_of_ble_eq_true rfl) ?_
          refine zW_in rfl (Nat.le_of_ble_eq_true rfl) ?_
          refine r_lload (zW_mono _ _ _) rfl rfl ?_
          refine r_lload (zW_mono _ _ _) rfl rfl ?_
          refine r_lc_lt (X := a1.toInt) (Y := 0) (zW_mono _ _ _) rfl rfl (zi64 _) (by decide +kernel) (fun q => by exfalso; omega) (fun z42 => ?_)
          refine r_lload (zW_mono _ _ _) rfl rfl ?_
          refine r_lload (zW_mono _ _ _) rfl rfl ?_
          refine r_lc_gt (X := a1.toInt) (Y := 99) (zW_mono _ _ _) rfl rfl (zi64 _) (by decide +kernel) (fun q => by exfalso; omega) (fun z43 => ?_)
          refine r_push (zW_mono _ _ _) rfl ?_
          refine r_goto (zW_mono _ _ _) rfl ?_
          refine r_iret (zW_mono _ _ _) rfl rfl (by decide +kernel) ?_
          refine r_if_eq (zW_mono _ _ _) rfl (fun q => absurd q (by decide +kernel)) (fun _ => ?_)
          refine r_iload (zW_mono _ _ _) rfl rfl ?_
          refine r_i2l (zW_mono _ _ _) rfl ?_
          refine r_push (zW_mono _ _ _) rfl ?_
          refine r_push (zW_mono _ _ _) rfl ?_
          refine r_stat3 (zW_mono _ _ _) rfl (Nat.le_of_ble_eq_true rfl) rfl (Nat.le_of_ble_eq_true rfl) (Nat.le_of_ble_eq_true rfl) ?_
          refine zW_in rfl (Nat.le_of_ble_eq_true rfl) ?_
          refine r_lload (zW_mono _ _ _) rfl rfl ?_
          refine r_lload (zW_mono _ _ _) rfl rfl ?_
          refine r_lc_lt (X := a2.toInt) (Y := (-1)) (zW_mono _ _ _) rfl rfl (zi64 _) (by decide +kernel) (fun z44 => ?_) (fun q => by exfalso; omega)
          refine r_push (zW_mono _ _ _) rfl ?_
          refine r_iret (zW_mono _ _ _) rfl rfl (by decide +kernel) ?_
          refine r_if_eq (zW_mono _ _ _) rfl (fun _ => ?_) (fun q => absurd q (by decide +kernel))
          refine r_push (zW_mono _ _ _) rfl ?_
          refine r_iret (zW_mono _ _ _) rfl rfl rfl ?_
          first | rfl | exact congrArg some (by decide +kernel)
        · refine r_iload (zW_mono _ _ _) rfl rfl ?_
          refine r_iload (zW_mono _ _ _) rfl rfl ?_
          refine r_ic_gt (X := a2.toInt) (Y := 3) (zW_mono _ _ _) rfl rfl (by decide +kernel) (fun z45 => ?_) (fun z45 => ?_)
          · refine r_push (zW_mono _ _ _) rfl ?_
            refine r_iret (zW_mono _ _ _) rfl rfl (by decide +kernel) ?_
            refine r_iret (zW_mono _ _ _) rfl rfl (by decide +kernel) ?_
            refine r_if_eq (zW_mono _ _ _) rfl (fun _ => ?_) (fun q => absurd q (by decide +kernel))
            refine r_push (zW_mono _ _ _) rfl ?_
            refine r_istore (zW_mono _ _ _) rfl (Nat.le_of_ble_eq_true rfl) ?_
            refine r_iload (zW_mono _ _ _) rfl rfl ?_
            refine r_if_eq (zW_mono _ _ _) rfl (fun _ => ?_) (fun q => absurd q (by decide +kernel))
            refine r_push (zW_mono _ _ _) rfl ?_
            refine r_iret (zW_mono _ _ _) rfl rfl rfl ?_
            refine ⟨_, rfl, ⟨_, hx_111⟩, ?_⟩
            refine zW_in rfl (Nat.le_of_ble_eq_true rfl) ?_
            refine r_aload (zW_mono _ _ _) rfl rfl ?_
            refine r_get (zW_mono _ _ _) rfl hx_111 rfl ?_
            refine r_push (zW_mono _ _ _) rfl ?_
            refine r_icmp_eq (zW_mono _ _ _) rfl (fun q => absurd q (by decide +kernel)) (fun _ => ?_)
            refine r_iload (zW_mono _ _ _) rfl rfl ?_
            refine r_i2l (zW_mono _ _ _) rfl ?_
            refine r_push (zW_mono _ _ _) rfl ?_
            refine r_push (zW_mono _ _ _) rfl ?_
            refine r_stat3 (zW_mono _ _ _) rfl (Nat.le_of_ble_eq_true rfl) rfl (Nat.le_of_ble_eq_true rfl) (Nat.le_of_ble_eq_true rfl) ?_
            refine zW_in rfl (Nat.le_of_ble_eq_true rfl) ?_
            refine r_lload (zW_mono _ _ _) rfl rfl ?_
            refine r_lload (zW_mono _ _ _) rfl rfl ?_
            refine r_lc_lt (X := a1.toInt) (Y := 0) (zW_mono _ _ _) rfl rfl (zi64 _) (by decide +kernel) (fun q => by exfalso; omega) (fun z46 => ?_)
            refine r_lload (zW_mono _ _ _) rfl rfl ?_
            refine r_lload (zW_mono _ _ _) rfl rfl ?_
            refine r_lc_gt (X := a1.toInt) (Y := 99) (zW_mono _ _ _) rfl rfl (zi64 _) (by decide +kernel) (fun q => by exfalso; omega) (fun z47 => ?_)
            refine r_push (zW_mono _ _ _) rfl ?_
            refine r_goto (zW_mono _ _ _) rfl ?_
            refine r_iret (zW_mono _ _ _) rfl rfl (by decide +kernel) ?_
            refine r_if_eq (zW_mono _ _ _) rfl (fun q => absurd q (by decide +kernel)) (fun _ => ?_)
            refine r_iload (zW_mono _ _ _) rfl rfl ?_
            refine r_i2l (zW_mono _ _ _) rfl ?_
            refine r_push (zW_mono _ _ _) rfl ?_
            refine r_push (zW_mono _ _ _) rfl ?_
            refine r_stat3 (zW_mono _ _ _) rfl (Nat.le_of_ble_eq_true rfl) rfl (Nat.le_of_ble_eq_true rfl) (Nat.le_of_ble_eq_true rfl) ?_
            refine zW_in rfl (Nat.le_of_ble_eq_true rfl) ?_
            refine r_lload (zW_mono _ _ _) rfl rfl ?_
            refine r_lload (zW_mono _ _ _) rfl rfl ?_
            refine r_lc_lt (X := a2.toInt) (Y := (-1)) (zW_mono _ _ _) rfl rfl (zi64 _) (by decide +kernel) (fun q => by exfalso; omega) (fun z48 => ?_)
            refine r_lload (zW_mono _ _ _) rfl rfl ?_
            refine r_lload (zW_mono _ _ _) rfl rfl ?_
            refine r_lc_gt (X := a2.toInt) (Y := 3) (zW_mono _ _ _) rfl rfl (zi64 _) (by decide +kernel) (fun z49 => ?_) (fun q => by exfalso; omega)
            refine r_push (zW_mono _ _ _) rfl ?_
            refine r_iret (zW_mono _ _ _) rfl rfl (by decide +kernel) ?_
            refine r_if_eq (zW_mono _ _ _) rfl (fun _ => ?_) (fun q => absurd q (by decide +kernel))
            refine r_push (zW_mono _ _ _) rfl ?_
            refine r_iret (zW_mono _ _ _) rfl rfl rfl ?_
            first | rfl | exact congrArg some (by decide +kernel)
          · refine r_push (zW_mono _ _ _) rfl ?_
            refine r_goto (zW_mono _ _ _) rfl ?_
            refine r_iret (zW_mono _ _ _) rfl rfl (by decide +kernel) ?_
            refine r_iret (zW_mono _ _ _) rfl rfl (by decide +kernel) ?_
            refine r_if_eq (zW_mono _ _ _) rfl (fun q => absurd q (by decide +kernel)) (fun _ => ?_)
            refine r_aload (zW_mono _ _ _) rfl rfl ?_
            refine r_get (zW_mono _ _ _) rfl hx_0 rfl ?_
            refine r_iload (zW_mono _ _ _) rfl rfl ?_
            refine r_virt1 (zW_mono _ _ _) rfl hx_81 (Nat.le_of_ble_eq_true rfl) rfl (Nat.le_of_ble_eq_true rfl) (Nat.le_of_ble_eq_true rfl) ?_
            refine zW_in rfl (Nat.le_of_ble_eq_true rfl) ?_
            refine r_iload (zW_mono _ _ _) rfl rfl ?_
            refine r_i0_lt (X := a3.toInt) (zW_mono _ _ _) rfl rfl (fun z50 => ?_) (fun z50 => ?_)
            · refine r_push (zW_mono _ _ _) rfl ?_
              refine r_iret (zW_mono _ _ _) rfl rfl (by decide +kernel) ?_
              refine r_if_eq (zW_mono _ _ _) rfl (fun _ => ?_) (fun q => absurd q (by decide +kernel))
              refine r_push (zW_mono _ _ _) rfl ?_
              refine r_istore (zW_mono _ _ _) rfl (Nat.le_of_ble_eq_true rfl) ?_
              refine r_iload (zW_mono _ _ _) rfl rfl ?_
              refine r_if_eq (zW_mono _ _ _) rfl (fun _ => ?_) (fun q => absurd q (by decide +kernel))
              refine r_push (zW_mono _ _ _) rfl ?_
              refine r_iret (zW_mono _ _ _) rfl rfl rfl ?_
              refine ⟨_, rfl, ⟨_, hx_111⟩, ?_⟩
              refine zW_in rfl (Nat.le_of_ble_eq_true rfl) ?_
              refine r_aload (zW_mono _ _ _) rfl rfl ?_
              refine r_get (zW_mono _ _ _) rfl hx_111 rfl ?_
              refine r_push (zW_mono _ _ _) rfl ?_
              refine r_icmp_eq (zW_mono _ _ _) rfl (fun q => absurd q (by decide +kernel)) (fun _ => ?_)
              refine r_iload (zW_mono _ _ _) rfl rfl ?_
              refine r_i2l (zW_mono _ _ _) rfl ?_
              refine r_push (zW_mono _ _ _) rfl ?_
              refine r_push (zW_mono _ _ _) rfl ?_
              refine r_stat3 (zW_mono _ _ _) rfl (Nat.le_of_ble_eq_true rfl) rfl (Nat.le_of_ble_eq_true rfl) (Nat.le_of_ble_eq_true rfl) ?_
              refine zW_in rfl (Nat.le_of_ble_eq_true rfl) ?_
              refine r_lload (zW_mono _ _ _) rfl rfl ?_
              refine r_lload (zW_mono _ _ _) rfl rfl ?_
              refine r_lc_lt (X := a1.toInt) (Y := 0) (zW_mono _ _ _) rfl rfl (zi64 _) (by decide +kernel) (fun q => by exfalso; omega) (fun z51 => ?_)
              refine r_lload (zW_mono _ _ _) rfl rfl ?_
              refine r_lload (zW_mono _ _ _) rfl rfl ?_
              refine r_lc_gt (X := a1.toInt) (Y := 99) (zW_mono _ _ _) rfl rfl (zi64 _) (by decide +kernel) (fun q => by exfalso; omega) (fun z52 => ?_)
              refine r_push (zW_mono _ _ _) rfl ?_
              refine r_goto (zW_mono _ _ _) rfl ?_
              refine r_iret (zW_mono _ _ _) rfl rfl (by decide +kernel) ?_
              refine r_if_eq (zW_mono _ _ _) rfl (fun q => absurd q (by decide +kernel)) (fun _ => ?_)
              refine r_iload (zW_mono _ _ _) rfl rfl ?_
              refine r_i2l (zW_mono _ _ _) rfl ?_
              refine r_push (zW_mono _ _ _) rfl ?_
              refine r_push (zW_mono _ _ _) rfl ?_
              refine r_stat3 (zW_mono _ _ _) rfl (Nat.le_of_ble_eq_true rfl) rfl (Nat.le_of_ble_eq_true rfl) (Nat.le_of_ble_eq_true rfl) ?_
              refine zW_in rfl (Nat.le_of_ble_eq_true rfl) ?_
              refine r_lload (zW_mono _ _ _) rfl rfl ?_
              refine r_lload (zW_mono _ _ _) rfl rfl ?_
              refine r_lc_lt (X := a2.toInt) (Y := (-1)) (zW_mono _ _ _) rfl rfl (zi64 _) (by decide +kernel) (fun q => by exfalso; omega) (fun z53 => ?_)
              refine r_lload (zW_mono _ _ _) rfl rfl ?_
              refine r_lload (zW_mono _ _ _) rfl rfl ?_
              refine r_lc_gt (X := a2.toInt) (Y := 3) (zW_mono _ _ _) rfl rfl (zi64 _) (by decide +kernel) (fun q => by exfalso; omega) (fun z54 => ?_)
              refine r_push (zW_mono _ _ _) rfl ?_
              refine r_goto (zW_mono _ _ _) rfl ?_
              refine r_iret (zW_mono _ _ _) rfl rfl (by decide +kernel) ?_
              refine r_if_eq (zW_mono _ _ _) rfl (fun q => absurd q (by decide +kernel)) (fun _ => ?_)
              refine r_iload (zW_mono _ _ _) rfl rfl ?_
              refine r_aload (zW_mono _ _ _) rfl rfl ?_
              refine r_get (zW_mono _ _ _) rfl hx_111 rfl ?_
              refine r_ishr (zW_mono _ _ _) rfl ?_
              refine r_i0_ne (X := a3.toInt) (zW_mono _ _ _) rfl (zshr0 _) (fun z55 => ?_) (fun q => by exfalso; omega)
              refine r_push (zW_mono _ _ _) rfl ?_
              refine r_iret (zW_mono _ _ _) rfl rfl rfl ?_
              first | rfl | exact congrArg some (by decide +kernel)
            · refine r_iload (zW_mono _ _ _) rfl rfl ?_
              refine r_aload (zW_mono _ _ _) rfl rfl ?_
              refine r_get (zW_mono _ _ _) rfl hx_81 rfl ?_
              refine r_ishr (zW_mono _ _ _) rfl ?_
              refine r_i0_ne (X := a3.toInt) (zW_mono _ _ _) rfl (zshr0 _) (fun z56 => ?_) (fun z56 => ?_)
              · refine r_push (zW_mono _ _ _) rfl ?_
                refine r_iret (zW_mono _ _ _) rfl rfl (by decide +kernel) ?_
                refine r_if_eq (zW_mono _ _ _) rfl (fun _ => ?_) (fun q => absurd q (by decide +kernel))
                refine r_push (zW_mono _ _ _) rfl ?_
                refine r_istore (zW_mono _ _ _) rfl (Nat.le_of_ble_eq_true rfl) ?_
                refine r_iload (zW_mono _ _ _) rfl rfl ?_
                refine r_if_eq (zW_mono _ _ _) rfl (fun _ => ?_) (fun q => absurd q (by decide +kernel))
                refine r_push (zW_mono _ _ _) rfl ?_
                refine r_iret (zW_mono _ _ _) rfl rfl rfl ?_
                refine ⟨_, rfl, ⟨_, hx_111⟩, ?_⟩
                refine zW_in rfl (Nat.le_of_ble_eq_true rfl) ?_
                refine r_aload (zW_mono _ _ _) rfl rfl ?_
                refine r_get (zW_mono _ _ _) rfl hx_111 rfl ?_
                refine r_push (zW_mono _ _ _) rfl ?_
                refine r_icmp_eq (zW_mono _ _ _) rfl (fun q => absurd q (by decide +kernel)) (fun _ => ?_)
                refine r_iload (zW_mono _ _ _) rfl rfl ?_
                refine r_i2l (zW_mono _ _ _) rfl ?_
                refine r_push (zW_mono _ _ _) rfl ?_
                refine r_push (zW_mono _ _ _) rfl ?_
                refine r_stat3 (zW_mono _ _ _) rfl (Nat.le_of_ble_eq_true rfl) rfl (Nat.le_of_ble_eq_true rfl) (Nat.le_of_ble_eq_true rfl) ?_
                refine zW_in rfl (Nat.le_of_ble_eq_true rfl) ?_
                refine r_lload (zW_mono _ _ _) rfl rfl ?_
                refine r_lload (zW_mono _ _ _) rfl rfl ?_
                refine r_lc_lt (X := a1.toInt) (Y := 0) (zW_mono _ _ _) rfl rfl (zi64 _) (by decide +kernel) (fun q => by exfalso; omega) (fun z57 => ?_)
                refine r_lload (zW_mono _ _ _) rfl rfl ?_
                refine r_lload (zW_mono _ _ _) rfl rfl ?_
                refine r_lc_gt (X := a1.toInt) (Y := 99) (zW_mono _ _ _) rfl rfl (zi64 _) (by decide +kernel) (fun q => by exfalso; omega) (fun z58 => ?_)
                refine r_push (zW_mono _ _ _) rfl ?_
                refine r_goto (zW_mono _ _ _) rfl ?_
                refine r_iret (zW_mono _ _ _) rfl rfl (by decide +kernel) ?_
                refine r_if_eq (zW_mono _ _ _) rfl (fun q => absurd q (by decide +kernel)) (fun _ => ?_)
                refine r_iload (zW_mono _ _ _) rfl rfl ?_
                refine r_i2l (zW_mono _ _ _) rfl ?_
                refine r_push (zW_mono _ _ _) rfl ?_
                refine r_push (zW_mono _ _ _) rfl ?_
                refine r_stat3 (zW_mono _ _ _) rfl (Nat.le_of_ble_eq_true rfl) rfl (Nat.le_of_ble_eq_true rfl) (Nat.le_of_ble_eq_true rfl) ?_
                refine zW_in rfl (Nat.le_of_ble_eq_true rfl) ?_
                refine r_lload (zW_mono _ _ _) rfl rfl ?_
                refine r_lload (zW_mono _ _ _) rfl rfl ?_
                refine r_lc_lt (X := a2.toInt) (Y := (-1)) (zW_mono _ _ _) rfl rfl (zi64 _) (by decide +kernel) (fun q => by exfalso; omega) (fun z59 => ?_)
                refine r_lload (zW_mono _ _ _) rfl rfl ?_
                refine r_lload (zW_mono _ _ _) rfl rfl ?_
                refine r_lc_gt (X := a2.toInt) (Y := 3) (zW_mono _ _ _) rfl rfl (zi64 _) (by decide +kernel) (fun q => by exfalso; omega) (fun z60 => ?_)
                refine r_push (zW_mono _ _ _) rfl ?_
                refine r_goto (zW_mono _ _ _) rfl ?_
                refine r_iret (zW_mono _ _ _) rfl rfl (by decide +kernel) ?_
                refine r_if_eq (zW_mono _ _ _) rfl (fun q => absurd q (by decide +kernel)) (fun _ => ?_)
                refine r_iload (zW_mono _ _ _) rfl rfl ?_
                refine r_aload (zW_mono _ _ _) rfl rfl ?_
                refine r_get (zW_mono _ _ _) rfl hx_111 rfl ?_
                refine r_ishr (zW_mono _ _ _) rfl ?_
                refine r_i0_ne (X := a3.toInt) (zW_mono _ _ _) rfl (zshr0 _) (fun z61 => ?_) (fun q => by exfalso; omega)
                refine r_push (zW_mono _ _ _) rfl ?_
                refine r_iret (zW_mono _ _ _) rfl rfl rfl ?_
                first | rfl | exact congrArg some (by decide +kernel)
              · refine r_push (zW_mono _ _ _) rfl ?_
                refine r_goto (zW_mono _ _ _) rfl ?_
                refine r_iret (zW_mono _ _ _) rfl rfl (by decide +kernel) ?_
                refine r_if_eq (zW_mono _ _ _) rfl (fun q => absurd q (by decide +kernel)) (fun _ => ?_)
                refine r_iload (zW_mono _ _ _) rfl rfl ?_
                refine r_push (zW_mono _ _ _) rfl ?_
                refine r_push (zW_mono _ _ _) rfl ?_
                refine r_stat3 (zW_mono _ _ _) rfl (Nat.le_of_ble_eq_true rfl) rfl (Nat.le_of_ble_eq_true rfl) (Nat.le_of_ble_eq_true rfl) ?_
                refine zW_in rfl (Nat.le_of_ble_eq_true rfl) ?_
                refine r_iload (zW_mono _ _ _) rfl rfl ?_
                refine r_iload (zW_mono _ _ _) rfl rfl ?_
                refine r_ic_lt (X := a4.toInt) (Y := 0) (zW_mono _ _ _) rfl rfl (by decide +kernel) (fun z62 => ?_) (fun z62 => ?_)
                · refine r_push (zW_mono _ _ _) rfl ?_
                  refine r_iret (zW_mono _ _ _) rfl rfl (by decide +kernel) ?_
                  refine r_if_eq (zW_mono _ _ _) rfl (fun _ => ?_) (fun q => absurd q (by decide +kernel))
                  refine r_push (zW_mono _ _ _) rfl ?_
                  refine r_istore (zW_mono _ _ _) rfl (Nat.le_of_ble_eq_true rfl) ?_
                  refine r_iload (zW_mono _ _ _) rfl rfl ?_
                  refine r_if_eq (zW_mono _ _ _) rfl (fun _ => ?_) (fun q => absurd q (by decide +kernel))
                  refine r_push (zW_mono _ _ _) rfl ?_
                  refine r_iret (zW_mono _ _ _) rfl rfl rfl ?_
                  refine ⟨_, rfl, ⟨_, hx_111⟩, ?_⟩
                  refine zW_in rfl (Nat.le_of_ble_eq_true rfl) ?_
                  refine r_aload (zW_mono _ _ _) rfl rfl ?_
                  refine r_get (zW_mono _ _ _) rfl hx_111 rfl ?_
                  refine r_push (zW_mono _ _ _) rfl ?_
                  refine r_icmp_eq (zW_mono _ _ _) rfl (fun q => absurd q (by decide +kernel)) (fun _ => ?_)
                  refine r_iload (zW_mono _ _ _) rfl rfl ?_
                  refine r_i2l (zW_mono _ _ _) rfl ?_
                  refine r_push (zW_mono _ _ _) rfl ?_
                  refine r_push (zW_mono _ _ _) rfl ?_
                  refine r_stat3 (zW_mono _ _ _) rfl (Nat.le_of_ble_eq_true rfl) rfl (Nat.le_of_ble_eq_true rfl) (Nat.le_of_ble_eq_true rfl) ?_
                  refine zW_in rfl (Nat.le_of_ble_eq_true rfl) ?_
                  refine r_lload (zW_mono _ _ _) rfl rfl ?_
                  refine r_lload (zW_mono _ _ _) rfl rfl ?_
                  refine r_lc_lt (X := a1.toInt) (Y := 0) (zW_mono _ _ _) rfl rfl (zi64 _) (by decide +kernel) (fun q => by exfalso; omega) (fun z63 => ?_)
                  refine r_lload (zW_mono _ _ _) rfl rfl ?_
                  refine r_lload (zW_mono _ _ _) rfl rfl ?_
                  refine r_lc_gt (X := a1.toInt) (Y := 99) (zW_mono _ _ _) rfl rfl (zi64 _) (by decide +kernel) (fun q => by exfalso; omega) (fun z64 => ?_)
                  refine r_push (zW_mono _ _ _) rfl ?_
                  refine r_goto (zW_mono _ _ _) rfl ?_
                  refine r_iret (zW_mono _ _ _) rfl rfl (by decide +kernel) ?_
                  refine r_if_eq (zW_mono _ _ _) rfl (fun q => absurd q (by decide +kernel)) (fun _ => ?_)
                  refine r_iload (zW_mono _ _ _) rfl rfl ?_
                  refine r_i2l (zW_mono _ _ _) rfl ?_
                  refine r_push (zW_mono _ _ _) rfl ?_
                  refine r_push (zW_mono _ _ _) rfl ?_
                  refine r_stat3 (zW_mono _ _ _) rfl (Nat.le_of_ble_eq_true rfl) rfl (Nat.le_of_ble_eq_true rfl) (Nat.le_of_ble_eq_true rfl) ?_
                  refine zW_in rfl (Nat.le_of_ble_eq_true rfl) ?_
                  refine r_lload (zW_mono _ _ _) rfl rfl ?_
                  refine r_lload (zW_mono _ _ _) rfl rfl ?_
                  refine r_lc_lt (X := a2.toInt) (Y := (-1)) (zW_mono _ _ _) rfl rfl (zi64 _) (by decide +kernel) (fun q => by exfalso; omega) (fun z65 => ?_)
                  refine r_lload (zW_mono _ _ _) rfl rfl ?_
                  refine r_lload (zW_mono _ _ _) rfl rfl ?_
                  refine r_lc_gt (X := a2.toInt) (Y := 3) (zW_mono _ _ _) rfl rfl (zi64 _) (by decide +kernel) (fun q => by exfalso; omega) (fun z66 => ?_)
                  refine r_push (zW_mono _ _ _) rfl ?_
                  refine r_goto (zW_mono _ _ _) rfl ?_
                  refine r_iret (zW_mono _ _ _) rfl rfl (by decide +kernel) ?_
                  refine r_if_eq (zW_mono _ _ _) rfl (fun q => absurd q (by decide +kernel)) (fun _ => ?_)
                  refine r_iload (zW_mono _ _ _) rfl rfl ?_
                  refine r_aload (zW_mono _ _ _) rfl rfl ?_
                  refine r_get (zW_mono _ _ _) rfl hx_111 rfl ?_
                  refine r_ishr (zW_mono _ _ _) rfl ?_
                  refine r_i0_ne (X := a3.toInt) (zW_mono _ _ _) rfl (zshr0 _) (fun q => by exfalso; omega) (fun z67 => ?_)
                  refine r_iload (zW_mono _ _ _) rfl rfl ?_
                  refine r_i2l (zW_mono _ _ _) rfl ?_
                  refine r_push (zW_mono _ _ _) rfl ?_
                  refine r_push (zW_mono _ _ _) rfl ?_
                  refine r_stat3 (zW_mono _ _ _) rfl (Nat.le_of_ble_eq_true rfl) rfl (Nat.le_of_ble_eq_true rfl) (Nat.le_of_ble_eq_true rfl) ?_
                  refine zW_in rfl (Nat.le_of_ble_eq_true rfl) ?_
                  refine r_lload (zW_mono _ _ _) rfl rfl ?_
                  refine r_lload (zW_mono _ _ _) rfl rfl ?_
                  refine r_lc_lt (X := a4.toInt) (Y := 0) (zW_mono _ _ _) rfl rfl (zi64 _) (by decide +kernel) (fun z68 => ?_) (fun q => by exfalso; omega)
                  refine r_push (zW_mono _ _ _) rfl ?_
                  refine r_iret (zW_mono _ _ _) rfl rfl (by decide +kernel) ?_
                  refine r_if_ne (zW_mono _ _ _) rfl (fun q => absurd q (by decide +kernel)) (fun _ => ?_)
                  refine r_push (zW_mono _ _ _) rfl ?_
                  refine r_iret (zW_mono _ _ _) rfl rfl rfl ?_
                  first | rfl | exact congrArg some (by decide +kernel)
                · refine r_iload (zW_mono _ _ _) rfl rfl ?_
                  refine r_iload (zW_mono _ _ _) rfl rfl ?_
                  refine r_ic_gt (X := a4.toInt) (Y := 9999) (zW_mono _ _ _) rfl rfl (by decide +kernel) (fun z69 => ?_) (fun z69 => ?_)
                  · refine r_push (zW_mono _ _ _) rfl ?_
                    refine r_iret (zW_mono _ _ _) rfl rfl (by decide +kernel) ?_
                    refine r_if_eq (zW_mono _ _ _) rfl (fun _ => ?_) (fun q => absurd q (by decide +kernel))
                    refine r_push (zW_mono _ _ _) rfl ?_
                    refine r_istore (zW_mono _ _ _) rfl (Nat.le_of_ble_eq_true rfl) ?_
                    refine r_iload (zW_mono _ _ _) rfl rfl ?_
                    refine r_if_eq (zW_mono _ _ _) rfl (fun _ => ?_) (fun q => absurd q (by decide +kernel))
                    refine r_push (zW_mono _ _ _) rfl ?_
                    refine r_iret (zW_mono _ _ _) rfl rfl rfl ?_
                    refine ⟨_, rfl, ⟨_, hx_111⟩, ?_⟩
                    refine zW_in rfl (Nat.le_of_ble_eq_true rfl) ?_
                    refine r_aload (zW_mono _ _ _) rfl rfl ?_
                    refine r_get (zW_mono _ _ _) rfl hx_111 rfl ?_
                    refine r_push (zW_mono _ _ _) rfl ?_
                    refine r_icmp_eq (zW_mono _ _ _) rfl (fun q => absurd q (by decide +kernel)) (fun _ => ?_)
                    refine r_iload (zW_mono _ _ _) rfl rfl ?_
                    refine r_i2l (zW_mono _ _ _) rfl ?_
                    refine r_push (zW_mono _ _ _) rfl ?_
                    refine r_push (zW_mono _ _ _) rfl ?_
                    refine r_stat3 (zW_mono _ _ _) rfl (Nat.le_of_ble_eq_true rfl) rfl (Nat.le_of_ble_eq_true rfl) (Nat.le_of_ble_eq_true rfl) ?_
                    refine zW_in rfl (Nat.le_of_ble_eq_true rfl) ?_
                    refine r_lload (zW_mono _ _ _) rfl rfl ?_
                    refine r_lload (zW_mono _ _ _) rfl rfl ?_
                    refine r_lc_lt (X := a1.toInt) (Y := 0) (zW_mono _ _ _) rfl rfl (zi64 _) (by decide +kernel) (fun q => by exfalso; omega) (fun z70 => ?_)
                    refine r_lload (zW_mono _ _ _) rfl rfl ?_
                    refine r_lload (zW_mono _ _ _) rfl rfl ?_
                    refine r_lc_gt (X := a1.toInt) (Y := 99) (zW_mono _ _ _) rfl rfl (zi64 _) (by decide +kernel) (fun q => by exfalso; omega) (fun z71 => ?_)
                    refine r_push (zW_mono _ _ _) rfl ?_
                    refine r_goto (zW_mono _ _ _) rfl ?_
                    refine r_iret (zW_mono _ _ _) rfl rfl (by decide +kernel) ?_
                    refine r_if_eq (zW_mono _ _ _) rfl (fun q => absurd q (by decide +kernel)) (fun _ => ?_)
                    refine r_iload (zW_mono _ _ _) rfl rfl ?_
                    refine r_i2l (zW_mono _ _ _) rfl ?_
                    refine r_push (zW_mono _ _ _) rfl ?_
                    refine r_push (zW_mono _ _ _) rfl ?_
                    refine r_stat3 (zW_mono _ _ _) rfl (Nat.le_of_ble_eq_true rfl) rfl (Nat.le_of_ble_eq_true rfl) (Nat.le_of_ble_eq_true rfl) ?_
                    refine zW_in rfl (Nat.le_of_ble_eq_true rfl) ?_
                    refine r_lload (zW_mono _ _ _) rfl rfl ?_
                    refine r_lload (zW_mono _ _ _) rfl rfl ?_
                    refine r_lc_lt (X := a2.toInt) (Y := (-1)) (zW_mono _ _ _) rfl rfl (zi64 _) (by decide +kernel) (fun q => by exfalso; omega) (fun z72 => ?_)
                    refine r_lload (zW_mono _ _ _) rfl rfl ?_
                    refine r_lload (zW_mono _ _ _) rfl rfl ?_
                    refine r_lc_gt (X := a2.toInt) (Y := 3) (zW_mono _ _ _) rfl rfl (zi64 _) (by decide +kernel) (fun q => by exfalso; omega) (fun z73 => ?_)
                    refine r_push (zW_mono _ _ _) rfl ?_
                    refine r_goto (zW_mono _ _ _) rfl ?_
                    refine r_iret (zW_mono _ _ _) rfl rfl (by decide +kernel) ?_
                    refine r_if_eq (zW_mono _ _ _) rfl (fun q => absurd q (by decide +kernel)) (fun _ => ?_)
                    refine r_iload (zW_mono _ _ _) rfl rfl ?_
                    refine r_aload (zW_mono _ _ _) rfl rfl ?_
                    refine r_get (zW_mono _ _ _) rfl hx_111 rfl ?_
                    refine r_ishr (zW_mono _ _ _) rfl ?_
                    refine r_i0_ne (X := a3.toInt) (zW_mono _ _ _) rfl (zshr0 _) (fun q => by exfalso; omega) (fun z74 => ?_)
                    refine r_iload (zW_mono _ _ _) rfl rfl ?_
                    refine r_i2l (zW_mono _ _ _) rfl ?_
                    refine r_push (zW_mono _ _ _) rfl ?_
                    refine r_push (zW_mono _ _ _) rfl ?_
                    refine r_stat3 (zW_mono _ _ _) rfl (Nat.le_of_ble_eq_true rfl) rfl (Nat.le_of_ble_eq_true rfl) (Nat.le_of_ble_eq_true rfl) ?_
                    refine zW_in rfl (Nat.le_of_ble_eq_true rfl) ?_
                    refine r_lload (zW_mono _ _ _) rfl rfl ?_
                    refine r_lload (zW_mono _ _ _) rfl rfl ?_
                    refine r_lc_lt (X := a4.toInt) (Y := 0) (zW_mono _ _ _) rfl rfl (zi64 _) (by decide +kernel) (fun q => by exfalso; omega) (fun z75 => ?_)
                    refine r_lload (zW_mono _ _ _) rfl rfl ?_
                    refine r_lload (zW_mono _ _ _) rfl rfl ?_
                    refine r_lc_gt (X := a4.toInt) (Y := 9999) (zW_mono _ _ _) rfl rfl (zi64 _) (by decide +kernel) (fun z76 => ?_) (fun q => by exfalso; omega)
                    refine r_push (zW_mono _ _ _) rfl ?_
                    refine r_iret (zW_mono _ _ _) rfl rfl (by decide +kernel) ?_
                    refine r_if_ne (zW_mono _ _ _) rfl (fun q => absurd q (by decide +kernel)) (fun _ => ?_)
                    refine r_push (zW_mono _ _ _) rfl ?_
                    refine r_iret (zW_mono _ _ _) rfl rfl rfl ?_
                    first | rfl | exact congrArg some (by decide +kernel)
                  · refine r_push (zW_mono _ _ _) rfl ?_
                    refine r_goto (zW_mono _ _ _) rfl ?_
                    refine r_iret (zW_mono _ _ _) rfl rfl (by decide +kernel) ?_
                    refine r_if_eq (zW_mono _ _ _) rfl (fun q => absurd q (by decide +kernel)) (fun _ => ?_)
                    refine r_push (zW_mono _ _ _) rfl ?_
                    refine r_goto (zW_mono _ _ _) rfl ?_
                    refine r_istore (zW_mono _ _ _) rfl (Nat.le_of_ble_eq_true rfl) ?_
                    refine r_iload (zW_mono _ _ _) rfl rfl ?_
                    refine r_if_eq (zW_mono _ _ _) rfl (fun q => absurd q (by decide +kernel)) (fun _ => ?_)
                    refine r_aload (zW_mono _ _ _) rfl rfl ?_
                    refine r_get (zW_mono _ _ _) rfl hx_0 rfl ?_
                    refine r_iload (zW_mono _ _ _) rfl rfl ?_
                    refine r_iload (zW_mono _ _ _) rfl rfl ?_
                    refine r_iload (zW_mono _ _ _) rfl rfl ?_
                    refine r_iload (zW_mono _ _ _) rfl rfl ?_
                    refine r_virt4 (zW_mono _ _ _) rfl hx_81 (Nat.le_of_ble_eq_true rfl) rfl (Nat.le_of_ble_eq_true rfl) (Nat.le_of_ble_eq_true rfl) ?_
                    refine zW_in rfl (Nat.le_of_ble_eq_true rfl) ?_
                    refine r_aload (zW_mono _ _ _) rfl rfl ?_
                    refine r_get (zW_mono _ _ _) rfl hx_81 rfl ?_
                    refine r_push (zW_mono _ _ _) rfl ?_
                    refine r_icmp_ne (zW_mono _ _ _) rfl (fun _ => ?_) (fun q => absurd q (by decide +kernel))
                    refine r_aload (zW_mono _ _ _) rfl rfl ?_
                    refine r_get (zW_mono _ _ _) rfl hx_81 rfl ?_
                    refine r_aload (zW_mono _ _ _) rfl rfl ?_
                    refine r_get (zW_mono _ _ _) rfl hx_81 rfl ?_
                    refine r_iload (zW_mono _ _ _) rfl rfl ?_
                    refine r_iast (zW_mono _ _ _) rfl hx_82 (vp_in_iff.mpr ⟨(by decide +kernel), (by decide +kernel)⟩) ?_
                    refine zR_nm (fun h33 e33 => ?_)
                    have g33 := zgs e33 hx_82
                    refine r_aload (zW_mono _ _ _) rfl rfl ?_
                    have f34 := (zgn e33 (by decide) hx_81)
                    refine r_get (zW_mono _ _ _) rfl f34 rfl ?_
                    refine r_aload (zW_mono _ _ _) rfl rfl ?_
                    refine r_get (zW_mono _ _ _) rfl f34 rfl ?_
                    refine r_iload (zW_mono _ _ _) rfl rfl ?_
                    have f35 := (zgn e33 (by decide) hx_83)
                    refine r_iast (zW_mono _ _ _) rfl f35 (vp_in_iff.mpr ⟨(by decide +kernel), (by decide +kernel)⟩) ?_
                    refine zR_nm (fun h36 e36 => ?_)
                    have g36 := zgs e36 f35
                    refine r_aload (zW_mono _ _ _) rfl rfl ?_
                    have f37 := (zgn e36 (by decide) f34)
                    refine r_get (zW_mono _ _ _) rfl f37 rfl ?_
                    refine r_aload (zW_mono _ _ _) rfl rfl ?_
                    refine r_get (zW_mono _ _ _) rfl f37 rfl ?_
                    refine r_iload (zW_mono _ _ _) rfl rfl ?_
                    have f38 := (zgn e36 (by decide) (zgn e33 (by decide) hx_84))
                    refine r_iast (zW_mono _ _ _) rfl f38 (vp_in_iff.mpr ⟨(by decide +kernel), (by decide +kernel)⟩) ?_
                    refine zR_nm (fun h39 e39 => ?_)
                    have g39 := zgs e39 f38
                    refine r_aload (zW_mono _ _ _) rfl rfl ?_
                    have f40 := (zgn e39 (by decide) f37)
                    refine r_get (zW_mono _ _ _) rfl f40 rfl ?_
                    refine r_aload (zW_mono _ _ _) rfl rfl ?_
                    refine r_get (zW_mono _ _ _) rfl f40 rfl ?_
                    refine r_iload (zW_mono _ _ _) rfl rfl ?_
                    have f41 := (zgn e39 (by decide) (zgn e36 (by decide) (zgn e33 (by decide) hx_85)))
                    refine r_iast (zW_mono _ _ _) rfl f41 (vp_in_iff.mpr ⟨(by decide +kernel), (by decide +kernel)⟩) ?_
                    refine zR_nm (fun h42 e42 => ?_)
                    have g42 := zgs e42 f41
                    refine r_aload (zW_mono _ _ _) rfl rfl ?_
                    have f43 := (zgn e42 (by decide) f40)
                    refine r_get (zW_mono _ _ _) rfl f43 rfl ?_
                    refine r_aload (zW_mono _ _ _) rfl rfl ?_
                    refine r_get (zW_mono _ _ _) rfl f43 rfl ?_
                    refine r_aload (zW_mono _ _ _) rfl rfl ?_
                    refine r_aload (zW_mono _ _ _) rfl rfl ?_
                    refine r_get (zW_mono _ _ _) rfl f43 rfl ?_
                    refine r_aload (zW_mono _ _ _) rfl rfl ?_
                    refine r_get (zW_mono _ _ _) rfl f43 rfl ?_
                    refine r_virt2 (zW_mono _ _ _) rfl f43 (Nat.le_of_ble_eq_true rfl) rfl (Nat.le_of_ble_eq_true rfl) (Nat.le_of_ble_eq_true rfl) ?_
                    refine zW_in rfl (Nat.le_of_ble_eq_true rfl) ?_
                    refine r_push (zW_mono _ _ _) rfl ?_
                    refine r_istore (zW_mono _ _ _) rfl (Nat.le_of_ble_eq_true rfl) ?_
                    refine r_push (zW_mono _ _ _) rfl ?_
                    refine r_istore (zW_mono _ _ _) rfl (Nat.le_of_ble_eq_true rfl) ?_
                    refine r_iload (zW_mono _ _ _) rfl rfl ?_
                    refine r_iload (zW_mono _ _ _) rfl rfl ?_
                    refine r_icmp_ge (zW_mono _ _ _) rfl (fun _ => ?_) (fun q => absurd q (by decide +kernel))
                    refine r_iload (zW_mono _ _ _) rfl rfl ?_
                    refine r_iret (zW_mono _ _ _) rfl rfl rfl ?_
                    have f44 := (zgn e42 (by decide) (zgn e39 (by decide) (zgn e36 (by decide) (zgn e33 (by decide) hx_86))))
                    refine r_iast (zW_mono _ _ _) rfl f44 (vp_in_iff.mpr ⟨(by decide +kernel), (by decide +kernel)⟩) ?_
                    refine zR_nm (fun h45 e45 => ?_)
                    have g45 := zgs e45 f44
                    refine r_aload (zW_mono _ _ _) rfl rfl ?_
                    have f46 := (zgn e45 (by decide) f43)
                    refine r_get (zW_mono _ _ _) rfl f46 rfl ?_
                    refine r_aload (zW_mono _ _ _) rfl rfl ?_
                    refine r_get (zW_mono _ _ _) rfl f46 rfl ?_
                    refine r_aload (zW_mono _ _ _) rfl rfl ?_
                    refine r_get (zW_mono _ _ _) rfl f46 rfl ?_
                    refine r_aload (zW_mono _ _ _) rfl rfl ?_
                    refine r_get (zW_mono _ _ _) rfl f46 rfl ?_
                    refine r_iald (zW_mono _ _ _) rfl g45 (vp_in_iff.mpr ⟨(by decide +kernel), (by decide +kernel)⟩) ?_
                    refine r_iload (zW_mono _ _ _) rfl rfl ?_
                    refine r_iadd (zW_mono _ _ _) rfl ?_
                    have f47 := (zgn e45 (by decide) (zgn e42 (by decide) (zgn e39 (by decide) (zgn e36 (by decide) (zgn e33 (by decide) hx_87)))))
                    refine r_iast (zW_mono _ _ _) rfl f47 (vp_in_iff.mpr ⟨(by decide +kernel), (by decide +kernel)⟩) ?_
                    refine zR_nm (fun h48 e48 => ?_)
                    have g48 := zgs e48 f47
                    refine r_aload (zW_mono _ _ _) rfl rfl ?_
                    refine r_dup (zW_mono _ _ _) rfl rfl ?_
                    have f49 := (zgn e48 (by decide) f46)
                    refine r_get (zW_mono _ _ _) rfl f49 rfl ?_
                    refine r_dup_x1 (zW_mono _ _ _) rfl rfl rfl ?_
                    refine r_push (zW_mono _ _ _) rfl ?_
                    refine r_iadd (zW_mono _ _ _) rfl ?_
                    refine r_put (zW_mono _ _ _) rfl f49 (Nat.le_of_ble_eq_true rfl) rfl rfl rfl ?_
                    refine zR_nm (fun h50 e50 => ?_)
                    have g50 := zgs e50 f49
                    refine r_iret (zW_mono _ _ _) rfl rfl rfl ?_
                    refine r_goto (zW_mono _ _ _) rfl ?_
                    refine r_iret (zW_mono _ _ _) rfl rfl rfl ?_
                    have f51 := (zgn e50 (by decide) (zgn e48 (by decide) (zgn e45 (by decide) (zgn e42 (by decide) (zgn e39 (by decide) (zgn e36 (by decide) (zgn e33 (by decide) hx_111)))))))
                    refine ⟨_, rfl, ⟨_, f51⟩, ?_⟩
                    refine zW_in rfl (Nat.le_of_ble_eq_true rfl) ?_
                    refine r_aload (zW_mono _ _ _) rfl rfl ?_
                    refine r_get (zW_mono _ _ _) rfl f51 rfl ?_
                    refine r_push (zW_mono _ _ _) rfl ?_
                    refine r_icmp_eq (zW_mono _ _ _) rfl (fun q => absurd q (by decide +kernel)) (fun _ => ?_)
                    refine r_iload (zW_mono _ _ _) rfl rfl ?_
                    refine r_i2l (zW_mono _ _ _) rfl ?_
                    refine r_push (zW_mono _ _ _) rfl ?_
                    refine r_push (zW_mono _ _ _) rfl ?_
                    refine r_stat3 (zW_mono _ _ _) rfl (Nat.le_of_ble_eq_true rfl) rfl (Nat.le_of_ble_eq_true rfl) (Nat.le_of_ble_eq_true rfl) ?_
                    refine zW_in rfl (Nat.le_of_ble_eq_true rfl) ?_
                    refine r_lload (zW_mono _ _ _) rfl rfl ?_
                    refine r_lload (zW_mono _ _ _) rfl rfl ?_
                    refine r_lc_lt (X := a1.toInt) (Y := 0) (zW_mono _ _ _) rfl rfl (zi64 _) (by decide +kernel) (fun q => by exfalso; omega) (fun z77 => ?_)
                    refine r_lload (zW_mono _ _ _) rfl rfl ?_
                    refine r_lload (zW_mono _ _ _) rfl rfl ?_
                    refine r_lc_gt (X := a1.toInt) (Y := 99) (zW_mono _ _ _) rfl rfl (zi64 _) (by decide +kernel) (fun q => by exfalso; omega) (fun z78 => ?_)
                    refine r_push (zW_mono _ _ _) rfl ?_
                    refine r_goto (zW_mono _ _ _) rfl ?_
                    refine r_iret (zW_mono _ _ _) rfl rfl (by decide +kernel) ?_
                    refine r_if_eq (zW_mono _ _ _) rfl (fun q => absurd q (by decide +kernel)) (fun _ => ?_)
                    refine r_iload (zW_mono _ _ _) rfl rfl ?_
                    refine r_i2l (zW_mono _ _ _) rfl ?_
                    refine r_push (zW_mono _ _ _) rfl ?_
                    refine r_push (zW_mono _ _ _) rfl ?_
                    refine r_stat3 (zW_mono _ _ _) rfl (Nat.le_of_ble_eq_true rfl) rfl (Nat.le_of_ble_eq_true rfl) (Nat.le_of_ble_eq_true rfl) ?_
                    refine zW_in rfl (Nat.le_of_ble_eq_true rfl) ?_
                    refine r_lload (zW_mono _ _ _) rfl rfl ?_
                    refine r_lload (zW_mono _ _ _) rfl rfl ?_
                    refine r_lc_lt (X := a2.toInt) (Y := (-1)) (zW_mono _ _ _) rfl rfl (zi64 _) (by decide +kernel) (fun q => by exfalso; omega) (fun z79 => ?_)
                    refine r_lload (zW_mono _ _ _) rfl rfl ?_
                    refine r_lload (zW_mono _ _ _) rfl rfl ?_
                    refine r_lc_gt (X := a2.toInt) (Y := 3) (zW_mono _ _ _) rfl rfl (zi64 _) (by decide +kernel) (fun q => by exfalso; omega) (fun z80 => ?_)
                    refine r_push (zW_mono _ _ _) rfl ?_
                    refine r_goto (zW_mono _ _ _) rfl ?_
                    refine r_iret (zW_mono _ _ _) rfl rfl (by decide +kernel) ?_
                    refine r_if_eq (zW_mono _ _ _) rfl (fun q => absurd q (by decide +kernel)) (fun _ => ?_)
                    refine r_iload (zW_mono _ _ _) rfl rfl ?_
                    refine r_aload (zW_mono _ _ _) rfl rfl ?_
                    refine r_get (zW_mono _ _ _) rfl f51 rfl ?_
                    refine r_ishr (zW_mono _ _ _) rfl ?_
                    refine r_i0_ne (X := a3.toInt) (zW_mono _ _ _) rfl (zshr0 _) (fun q => by exfalso; omega) (fun z81 => ?_)
                    refine r_iload (zW_mono _ _ _) rfl rfl ?_
                    refine r_i2l (zW_mono _ _ _) rfl ?_
                    refine r_push (zW_mono _ _ _) rfl ?_
                    refine r_push (zW_mono _ _ _) rfl ?_
                    refine r_stat3 (zW_mono _ _ _) rfl (Nat.le_of_ble_eq_true rfl) rfl (Nat.le_of_ble_eq_true rfl) (Nat.le_of_ble_eq_true rfl) ?_
                    refine zW_in rfl (Nat.le_of_ble_eq_true rfl) ?_
                    refine r_lload (zW_mono _ _ _) rfl rfl ?_
                    refine r_lload (zW_mono _ _ _) rfl rfl ?_
                    refine r_lc_lt (X := a4.toInt) (Y := 0) (zW_mono _ _ _) rfl rfl (zi64 _) (by decide +kernel) (fun q => by exfalso; omega) (fun z82 => ?_)
                    refine r_lload (zW_mono _ _ _) rfl rfl ?_
                    refine r_lload (zW_mono _ _ _) rfl rfl ?_
                    refine r_lc_gt (X := a4.toInt) (Y := 9999) (zW_mono _ _ _) rfl rfl (zi64 _) (by decide +kernel) (fun q => by exfalso; omega) (fun z83 => ?_)
                    refine r_push (zW_mono _ _ _) rfl ?_
                    refine r_goto (zW_mono _ _ _) rfl ?_
                    refine r_iret (zW_mono _ _ _) rfl rfl (by decide +kernel) ?_
                    refine r_if_ne (zW_mono _ _ _) rfl (fun _ => ?_) (fun q => absurd q (by decide +kernel))
                    refine r_aload (zW_mono _ _ _) rfl rfl ?_
                    refine r_get (zW_mono _ _ _) rfl f51 rfl ?_
                    refine r_aload (zW_mono _ _ _) rfl rfl ?_
                    refine r_get (zW_mono _ _ _) rfl f51 rfl ?_
                    refine r_iload (zW_mono _ _ _) rfl rfl ?_
                    have f52 := (zgn e50 (by decide) (zgn e48 (by decide) (zgn e45 (by decide) (zgn e42 (by decide) (zgn e39 (by decide) (zgn e36 (by decide) (zgn e33 (by decide) hx_167)))))))
                    refine r_iast (zW_mono _ _ _) rfl f52 (vp_in_iff.mpr ⟨(by decide +kernel), (by decide +kernel)⟩) ?_
                    refine zR_nm (fun h53 e53 => ?_)
                    have g53 := zgs e53 f52
                    refine r_aload (zW_mono _ _ _) rfl rfl ?_
                    have f54 := (zgn e53 (by decide) f51)
                    refine r_get (zW_mono _ _ _) rfl f54 rfl ?_
                    refine r_aload (zW_mono _ _ _) rfl rfl ?_
                    refine r_get (zW_mono _ _ _) rfl f54 rfl ?_
                    refine r_iload (zW_mono _ _ _) rfl rfl ?_
                    have f55 := (zgn e53 (by decide) (zgn e50 (by decide) (zgn e48 (by decide) (zgn e45 (by decide) (zgn e42 (by decide) (zgn e39 (by decide) (zgn e36 (by decide) (zgn e33 (by decide) hx_168))))))))
                    refine r_iast (zW_mono _ _ _) rfl f55 (vp_in_iff.mpr ⟨(by decide +kernel), (by decide +kernel)⟩) ?_
                    refine zR_nm (fun h56 e56 => ?_)
                    have g56 := zgs e56 f55
                    refine r_aload (zW_mono _ _ _) rfl rfl ?_
                    have f57 := (zgn e56 (by decide) f54)
                    refine r_get (zW_mono _ _ _) rfl f57 rfl ?_
                    refine r_aload (zW_mono _ _ _) rfl rfl ?_
                    refine r_get (zW_mono _ _ _) rfl f57 rfl ?_
                    refine r_iload (zW_mono _ _ _) rfl rfl ?_
                    have f58 := (zgn e56 (by decide) (zgn e53 (by decide) (zgn e50 (by decide) (zgn e48 (by decide) (zgn e45 (by decide) (zgn e42 (by decide) (zgn e39 (by decide) (zgn e36 (by decide) (zgn e33 (by decide) hx_169)))))))))
                    refine r_iast (zW_mono _ _ _) rfl f58 (vp_in_iff.mpr ⟨(by decide +kernel), (by decide +kernel)⟩) ?_
                    refine zR_nm (fun h59 e59 => ?_)
                    have g59 := zgs e59 f58
                    refine r_aload (zW_mono _ _ _) rfl rfl ?_
                    have f60 := (zgn e59 (by decide) f57)
                    refine r_get (zW_mono _ _ _) rfl f60 rfl ?_
                    refine r_aload (zW_mono _ _ _) rfl rfl ?_
                    refine r_get (zW_mono _ _ _) rfl f60 rfl ?_
                    refine r_iload (zW_mono _ _ _) rfl rfl ?_
                    have f61 := (zgn e59 (by decide) (zgn e56 (by decide) (zgn e53 (by decide) (zgn e50 (by decide) (zgn e48 (by decide) (zgn e45 (by decide) (zgn e42 (by decide) (zgn e39 (by decide) (zgn e36 (by decide) (zgn e33 (by decide) hx_170))))))))))
                    refine r_iast (zW_mono _ _ _) rfl f61 (vp_in_iff.mpr ⟨(by decide +kernel), (by decide +kernel)⟩) ?_
                    refine zR_nm (fun h62 e62 => ?_)
                    have g62 := zgs e62 f61
                    refine r_aload (zW_mono _ _ _) rfl rfl ?_
                    refine r_dup (zW_mono _ _ _) rfl rfl ?_
                    have f63 := (zgn e62 (by decide) f60)
                    refine r_get (zW_mono _ _ _) rfl f63 rfl ?_
                    refine r_push (zW_mono _ _ _) rfl ?_
                    refine r_iadd (zW_mono _ _ _) rfl ?_
                    refine r_put (zW_mono _ _ _) rfl f63 (Nat.le_of_ble_eq_true rfl) rfl rfl rfl ?_
                    refine zR_nm (fun h64 e64 => ?_)
                    have g64 := zgs e64 f63
                    refine r_aload (zW_mono _ _ _) rfl rfl ?_
                    refine r_get (zW_mono _ _ _) rfl g64 rfl ?_
                    refine r_push (zW_mono _ _ _) rfl ?_
                    refine r_isub (zW_mono _ _ _) rfl ?_
                    refine r_iret (zW_mono _ _ _) rfl rfl rfl ?_
                    first | rfl | exact congrArg some (by decide +kernel)
set_option maxHeartbeats 4000000 in
set_option maxRecDepth 20000 in
theorem op_steps {G : zG} (hG : G.1 = zProg) (a1 a2 : Int32) : zW zTt G 12 142 [.ref 0, .int a1, .int a2] (dzH dH0) (fun w h => ∃ x : Int32, w = some (.int x) ∧ (∃ fs : List Value, h[111]? = some (.inr (12, fs))) ∧ zW zTt G 12 260 [.ref 111, .int a1, .int a2] h (fun w2 _ => w2 = some (.int x))) := by
  obtain ⟨p9, t9⟩ := G
  have hG : p9 = zProg := hG
  subst hG
  refine zW_in rfl (Nat.le_of_ble_eq_true rfl) ?_
  refine r_aload (zW_mono _ _ _) rfl rfl ?_
  refine r_get (zW_mono _ _ _) rfl hx_0 rfl ?_
  refine r_iload (zW_mono _ _ _) rfl rfl ?_
  refine r_virt1 (zW_mono _ _ _) rfl hx_81 (Nat.le_of_ble_eq_true rfl) rfl (Nat.le_of_ble_eq_true rfl) (Nat.le_of_ble_eq_true rfl) ?_
  refine zW_in rfl (Nat.le_of_ble_eq_true rfl) ?_
  refine r_iload (zW_mono _ _ _) rfl rfl ?_
  refine r_i0_lt (X := a1.toInt) (zW_mono _ _ _) rfl rfl (fun z1 => ?_) (fun z1 => ?_)
  · refine r_push (zW_mono _ _ _) rfl ?_
    refine r_iret (zW_mono _ _ _) rfl rfl (by decide +kernel) ?_
    refine r_if_ne (zW_mono _ _ _) rfl (fun q => absurd q (by decide +kernel)) (fun _ => ?_)
    refine r_push (zW_mono _ _ _) rfl ?_
    refine r_iret (zW_mono _ _ _) rfl rfl rfl ?_
    refine ⟨_, rfl, ⟨_, hx_111⟩, ?_⟩
    refine zW_in rfl (Nat.le_of_ble_eq_true rfl) ?_
    refine r_iload (zW_mono _ _ _) rfl rfl ?_
    refine r_i2l (zW_mono _ _ _) rfl ?_
    refine r_push (zW_mono _ _ _) rfl ?_
    refine r_aload (zW_mono _ _ _) rfl rfl ?_
    refine r_get (zW_mono _ _ _) rfl hx_111 rfl ?_
    refine r_push (zW_mono _ _ _) rfl ?_
    refine r_isub (zW_mono _ _ _) rfl ?_
    refine r_i2l (zW_mono _ _ _) rfl ?_
    refine r_stat3 (zW_mono _ _ _) rfl (Nat.le_of_ble_eq_true rfl) rfl (Nat.le_of_ble_eq_true rfl) (Nat.le_of_ble_eq_true rfl) ?_
    refine zW_in rfl (Nat.le_of_ble_eq_true rfl) ?_
    refine r_lload (zW_mono _ _ _) rfl rfl ?_
    refine r_lload (zW_mono _ _ _) rfl rfl ?_
    refine r_lc_lt (X := a1.toInt) (Y := 0) (zW_mono _ _ _) rfl rfl (zi64 _) (by decide +kernel) (fun z2 => ?_) (fun q => by exfalso; omega)
    refine r_push (zW_mono _ _ _) rfl ?_
    refine r_iret (zW_mono _ _ _) rfl rfl (by decide +kernel) ?_
    refine r_if_eq (zW_mono _ _ _) rfl (fun _ => ?_) (fun q => absurd q (by decide +kernel))
    refine r_push (zW_mono _ _ _) rfl ?_
    refine r_iret (zW_mono _ _ _) rfl rfl rfl ?_
    first | rfl | exact congrArg some (by decide +kernel)
  · refine r_iload (zW_mono _ _ _) rfl rfl ?_
    refine r_aload (zW_mono _ _ _) rfl rfl ?_
    refine r_get (zW_mono _ _ _) rfl hx_81 rfl ?_
    refine r_ic_ge (X := a1.toInt) (Y := 0) (zW_mono _ _ _) rfl rfl (by decide +kernel) (fun z3 => ?_) (fun q => by exfalso; omega)
    refine r_push (zW_mono _ _ _) rfl ?_
    refine r_iret (zW_mono _ _ _) rfl rfl (by decide +kernel) ?_
    refine r_if_ne (zW_mono _ _ _) rfl (fun q => absurd q (by decide +kernel)) (fun _ => ?_)
    refine r_push (zW_mono _ _ _) rfl ?_
    refine r_iret (zW_mono _ _ _) rfl rfl rfl ?_
    refine ⟨_, rfl, ⟨_, hx_111⟩, ?_⟩
    refine zW_in rfl (Nat.le_of_ble_eq_true rfl) ?_
    refine r_iload (zW_mono _ _ _) rfl rfl ?_
    refine r_i2l (zW_mono _ _ _) rfl ?_
    refine r_push (zW_mono _ _ _) rfl ?_
    refine r_aload (zW_mono _ _ _) rfl rfl ?_
    refine r_get (zW_mono _ _ _) rfl hx_111 rfl ?_
    refine r_push (zW_mono _ _ _) rfl ?_
    refine r_isub (zW_mono _ _ _) rfl ?_
    refine r_i2l (zW_mono _ _ _) rfl ?_
    refine r_stat3 (zW_mono _ _ _) rfl (Nat.le_of_ble_eq_true rfl) rfl (Nat.le_of_ble_eq_true rfl) (Nat.le_of_ble_eq_true rfl) ?_
    refine zW_in rfl (Nat.le_of_ble_eq_true rfl) ?_
    refine r_lload (zW_mono _ _ _) rfl rfl ?_
    refine r_lload (zW_mono _ _ _) rfl rfl ?_
    refine r_lc_lt (X := a1.toInt) (Y := 0) (zW_mono _ _ _) rfl rfl (zi64 _) (by decide +kernel) (fun q => by exfalso; omega) (fun z4 => ?_)
    refine r_lload (zW_mono _ _ _) rfl rfl ?_
    refine r_lload (zW_mono _ _ _) rfl rfl ?_
    refine r_lc_gt (X := a1.toInt) (Y := (-1)) (zW_mono _ _ _) rfl rfl (zi64 _) (by decide +kernel) (fun z5 => ?_) (fun q => by exfalso; omega)
    refine r_push (zW_mono _ _ _) rfl ?_
    refine r_iret (zW_mono _ _ _) rfl rfl (by decide +kernel) ?_
    refine r_if_eq (zW_mono _ _ _) rfl (fun _ => ?_) (fun q => absurd q (by decide +kernel))
    refine r_push (zW_mono _ _ _) rfl ?_
    refine r_iret (zW_mono _ _ _) rfl rfl rfl ?_
    first | rfl | exact congrArg some (by decide +kernel)
set_option maxHeartbeats 4000000 in
set_option maxRecDepth 20000 in
theorem op_putOff {G : zG} (hG : G.1 = zProg) (a1 : Int32) : zW zTt G 12 143 [.ref 0, .int a1] (dzH dH0) (fun w h => ∃ x : Int32, w = some (.int x) ∧ (∃ fs : List Value, h[111]? = some (.inr (12, fs))) ∧ zW zTt G 12 261 [.ref 111, .int a1] h (fun w2 _ => w2 = some (.int x))) := by
  obtain ⟨p9, t9⟩ := G
  have hG : p9 = zProg := hG
  subst hG
  refine zW_in rfl (Nat.le_of_ble_eq_true rfl) ?_
  refine r_iload (zW_mono _ _ _) rfl rfl ?_
  refine r_stat1 (zW_mono _ _ _) rfl (Nat.le_of_ble_eq_true rfl) rfl (Nat.le_of_ble_eq_true rfl) (Nat.le_of_ble_eq_true rfl) ?_
  refine zW_in rfl (Nat.le_of_ble_eq_true rfl) ?_
  refine r_iload (zW_mono _ _ _) rfl rfl ?_
  refine r_push (zW_mono _ _ _) rfl ?_
  refine r_push (zW_mono _ _ _) rfl ?_
  refine r_stat3 (zW_mono _ _ _) rfl (Nat.le_of_ble_eq_true rfl) rfl (Nat.le_of_ble_eq_true rfl) (Nat.le_of_ble_eq_true rfl) ?_
  refine zW_in rfl (Nat.le_of_ble_eq_true rfl) ?_
  refine r_iload (zW_mono _ _ _) rfl rfl ?_
  refine r_iload (zW_mono _ _ _) rfl rfl ?_
  refine r_ic_lt (X := a1.toInt) (Y := 0) (zW_mono _ _ _) rfl rfl (by decide +kernel) (fun z1 => ?_) (fun z1 => ?_)
  · refine r_push (zW_mono _ _ _) rfl ?_
    refine r_iret (zW_mono _ _ _) rfl rfl (by decide +kernel) ?_
    refine r_iret (zW_mono _ _ _) rfl rfl (by decide +kernel) ?_
    refine r_if_eq (zW_mono _ _ _) rfl (fun _ => ?_) (fun q => absurd q (by decide +kernel))
    refine r_push (zW_mono _ _ _) rfl ?_
    refine r_iret (zW_mono _ _ _) rfl rfl rfl ?_
    refine ⟨_, rfl, ⟨_, hx_111⟩, ?_⟩
    refine zW_in rfl (Nat.le_of_ble_eq_true rfl) ?_
    refine r_iload (zW_mono _ _ _) rfl rfl ?_
    refine r_i2l (zW_mono _ _ _) rfl ?_
    refine r_push (zW_mono _ _ _) rfl ?_
    refine r_push (zW_mono _ _ _) rfl ?_
    refine r_stat3 (zW_mono _ _ _) rfl (Nat.le_of_ble_eq_true rfl) rfl (Nat.le_of_ble_eq_true rfl) (Nat.le_of_ble_eq_true rfl) ?_
    refine zW_in rfl (Nat.le_of_ble_eq_true rfl) ?_
    refine r_lload (zW_mono _ _ _) rfl rfl ?_
    refine r_lload (zW_mono _ _ _) rfl rfl ?_
    refine r_lc_lt (X := a1.toInt) (Y := 0) (zW_mono _ _ _) rfl rfl (zi64 _) (by decide +kernel) (fun z2 => ?_) (fun q => by exfalso; omega)
    refine r_push (zW_mono _ _ _) rfl ?_
    refine r_iret (zW_mono _ _ _) rfl rfl (by decide +kernel) ?_
    refine r_if_eq (zW_mono _ _ _) rfl (fun _ => ?_) (fun q => absurd q (by decide +kernel))
    refine r_push (zW_mono _ _ _) rfl ?_
    refine r_iret (zW_mono _ _ _) rfl rfl rfl ?_
    first | rfl | exact congrArg some (by decide +kernel)
  · refine r_iload (zW_mono _ _ _) rfl rfl ?_
    refine r_iload (zW_mono _ _ _) rfl rfl ?_
    refine r_ic_gt (X := a1.toInt) (Y := 3) (zW_mono _ _ _) rfl rfl (by decide +kernel) (fun z3 => ?_) (fun z3 => ?_)
    · refine r_push (zW_mono _ _ _) rfl ?_
      refine r_iret (zW_mono _ _ _) rfl rfl (by decide +kernel) ?_
      refine r_iret (zW_mono _ _ _) rfl rfl (by decide +kernel) ?_
      refine r_if_eq (zW_mono _ _ _) rfl (fun _ => ?_) (fun q => absurd q (by decide +kernel))
      refine r_push (zW_mono _ _ _) rfl ?_
      refine r_iret (zW_mono _ _ _) rfl rfl rfl ?_
      refine ⟨_, rfl, ⟨_, hx_111⟩, ?_⟩
      refine zW_in rfl (Nat.le_of_ble_eq_true rfl) ?_
      refine r_iload (zW_mono _ _ _) rfl rfl ?_
      refine r_i2l (zW_mono _ _ _) rfl ?_
      refine r_push (zW_mono _ _ _) rfl ?_
      refine r_push (zW_mono _ _ _) rfl ?_
      refine r_stat3 (zW_mono _ _ _) rfl (Nat.le_of_ble_eq_true rfl) rfl (Nat.le_of_ble_eq_true rfl) (Nat.le_of_ble_eq_true rfl) ?_
      refine zW_in rfl (Nat.le_of_ble_eq_true rfl) ?_
      refine r_lload (zW_mono _ _ _) rfl rfl ?_
      refine r_lload (zW_mono _ _ _) rfl rfl ?_
      refine r_lc_lt (X := a1.toInt) (Y := 0) (zW_mono _ _ _) rfl rfl (zi64 _) (by decide +kernel) (fun q => by exfalso; omega) (fun z4 => ?_)
      refine r_lload (zW_mono _ _ _) rfl rfl ?_
      refine r_lload (zW_mono _ _ _) rfl rfl ?_
      refine r_lc_gt (X := a1.toInt) (Y := 3) (zW_mono _ _ _) rfl rfl (zi64 _) (by decide +kernel) (fun z5 => ?_) (fun q => by exfalso; omega)
      refine r_push (zW_mono _ _ _) rfl ?_
      refine r_iret (zW_mono _ _ _) rfl rfl (by decide +kernel) ?_
      refine r_if_eq (zW_mono _ _ _) rfl (fun _ => ?_) (fun q => absurd q (by decide +kernel))
      refine r_push (zW_mono _ _ _) rfl ?_
      refine r_iret (zW_mono _ _ _) rfl rfl rfl ?_
      first | rfl | exact congrArg some (by decide +kernel)
    · refine r_push (zW_mono _ _ _) rfl ?_
      refine r_goto (zW_mono _ _ _) rfl ?_
      refine r_iret (zW_mono _ _ _) rfl rfl (by decide +kernel) ?_
      refine r_iret (zW_mono _ _ _) rfl rfl (by decide +kernel) ?_
      refine r_if_eq (zW_mono _ _ _) rfl (fun q => absurd q (by decide +kernel)) (fun _ => ?_)
      refine r_aload (zW_mono _ _ _) rfl rfl ?_
      refine r_get (zW_mono _ _ _) rfl hx_0 rfl ?_
      refine r_get (zW_mono _ _ _) rfl hx_81 rfl ?_
      refine r_if_le (zW_mono _ _ _) rfl (fun _ => ?_) (fun q => absurd q (by decide +kernel))
      refine r_push (zW_mono _ _ _) rfl ?_
      refine r_iret (zW_mono _ _ _) rfl rfl rfl ?_
      refine ⟨_, rfl, ⟨_, hx_111⟩, ?_⟩
      refine zW_in rfl (Nat.le_of_ble_eq_true rfl) ?_
      refine r_iload (zW_mono _ _ _) rfl rfl ?_
      refine r_i2l (zW_mono _ _ _) rfl ?_
      refine r_push (zW_mono _ _ _) rfl ?_
      refine r_push (zW_mono _ _ _) rfl ?_
      refine r_stat3 (zW_mono _ _ _) rfl (Nat.le_of_ble_eq_true rfl) rfl (Nat.le_of_ble_eq_true rfl) (Nat.le_of_ble_eq_true rfl) ?_
      refine zW_in rfl (Nat.le_of_ble_eq_true rfl) ?_
      refine r_lload (zW_mono _ _ _) rfl rfl ?_
      refine r_lload (zW_mono _ _ _) rfl rfl ?_
      refine r_lc_lt (X := a1.toInt) (Y := 0) (zW_mono _ _ _) rfl rfl (zi64 _) (by decide +kernel) (fun q => by exfalso; omega) (fun z6 => ?_)
      refine r_lload (zW_mono _ _ _) rfl rfl ?_
      refine r_lload (zW_mono _ _ _) rfl rfl ?_
      refine r_lc_gt (X := a1.toInt) (Y := 3) (zW_mono _ _ _) rfl rfl (zi64 _) (by decide +kernel) (fun q => by exfalso; omega) (fun z7 => ?_)
      refine r_push (zW_mono _ _ _) rfl ?_
      refine r_goto (zW_mono _ _ _) rfl ?_
      refine r_iret (zW_mono _ _ _) rfl rfl (by decide +kernel) ?_
      refine r_if_eq (zW_mono _ _ _) rfl (fun q => absurd q (by decide +kernel)) (fun _ => ?_)
      refine r_aload (zW_mono _ _ _) rfl rfl ?_
      refine r_get (zW_mono _ _ _) rfl hx_111 rfl ?_
      refine r_if_le (zW_mono _ _ _) rfl (fun _ => ?_) (fun q => absurd q (by decide +kernel))
      refine r_push (zW_mono _ _ _) rfl ?_
      refine r_iret (zW_mono _ _ _) rfl rfl rfl ?_
      first | rfl | exact congrArg some (by decide +kernel)
set_option maxHeartbeats 4000000 in
set_option maxRecDepth 20000 in
theorem op_change {G : zG} (hG : G.1 = zProg) (a1 a2 : Int32) : zW zTt G 12 144 [.ref 0, .int a1, .int a2] (dzH dH0) (fun w h => ∃ x : Int32, w = some (.int x) ∧ (∃ fs : List Value, h[111]? = some (.inr (12, fs))) ∧ zW zTt G 12 263 [.ref 111, .int a1, .int a2] h (fun w2 _ => w2 = some (.int x))) := by
  obtain ⟨p9, t9⟩ := G
  have hG : p9 = zProg := hG
  subst hG
  refine zW_in rfl (Nat.le_of_ble_eq_true rfl) ?_
  refine r_aload (zW_mono _ _ _) rfl rfl ?_
  refine r_get (zW_mono _ _ _) rfl hx_0 rfl ?_
  refine r_iload (zW_mono _ _ _) rfl rfl ?_
  refine r_virt1 (zW_mono _ _ _) rfl hx_81 (Nat.le_of_ble_eq_true rfl) rfl (Nat.le_of_ble_eq_true rfl) (Nat.le_of_ble_eq_true rfl) ?_
  refine zW_in rfl (Nat.le_of_ble_eq_true rfl) ?_
  refine r_iload (zW_mono _ _ _) rfl rfl ?_
  refine r_i0_lt (X := a1.toInt) (zW_mono _ _ _) rfl rfl (fun z1 => ?_) (fun z1 => ?_)
  · refine r_push (zW_mono _ _ _) rfl ?_
    refine r_iret (zW_mono _ _ _) rfl rfl (by decide +kernel) ?_
    refine r_if_eq (zW_mono _ _ _) rfl (fun _ => ?_) (fun q => absurd q (by decide +kernel))
    refine r_push (zW_mono _ _ _) rfl ?_
    refine r_iret (zW_mono _ _ _) rfl rfl rfl ?_
    refine ⟨_, rfl, ⟨_, hx_111⟩, ?_⟩
    refine zW_in rfl (Nat.le_of_ble_eq_true rfl) ?_
    refine r_iload (zW_mono _ _ _) rfl rfl ?_
    refine r_i2l (zW_mono _ _ _) rfl ?_
    refine r_push (zW_mono _ _ _) rfl ?_
    refine r_aload (zW_mono _ _ _) rfl rfl ?_
    refine r_get (zW_mono _ _ _) rfl hx_111 rfl ?_
    refine r_push (zW_mono _ _ _) rfl ?_
    refine r_isub (zW_mono _ _ _) rfl ?_
    refine r_i2l (zW_mono _ _ _) rfl ?_
    refine r_stat3 (zW_mono _ _ _) rfl (Nat.le_of_ble_eq_true rfl) rfl (Nat.le_of_ble_eq_true rfl) (Nat.le_of_ble_eq_true rfl) ?_
    refine zW_in rfl (Nat.le_of_ble_eq_true rfl) ?_
    refine r_lload (zW_mono _ _ _) rfl rfl ?_
    refine r_lload (zW_mono _ _ _) rfl rfl ?_
    refine r_lc_lt (X := a1.toInt) (Y := 0) (zW_mono _ _ _) rfl rfl (zi64 _) (by decide +kernel) (fun z2 => ?_) (fun q => by exfalso; omega)
    refine r_push (zW_mono _ _ _) rfl ?_
    refine r_iret (zW_mono _ _ _) rfl rfl (by decide +kernel) ?_
    refine r_if_eq (zW_mono _ _ _) rfl (fun _ => ?_) (fun q => absurd q (by decide +kernel))
    refine r_push (zW_mono _ _ _) rfl ?_
    refine r_iret (zW_mono _ _ _) rfl rfl rfl ?_
    first | rfl | exact congrArg some (by decide +kernel)
  · refine r_iload (zW_mono _ _ _) rfl rfl ?_
    refine r_aload (zW_mono _ _ _) rfl rfl ?_
    refine r_get (zW_mono _ _ _) rfl hx_81 rfl ?_
    refine r_ic_ge (X := a1.toInt) (Y := 0) (zW_mono _ _ _) rfl rfl (by decide +kernel) (fun z3 => ?_) (fun q => by exfalso; omega)
    refine r_push (zW_mono _ _ _) rfl ?_
    refine r_iret (zW_mono _ _ _) rfl rfl (by decide +kernel) ?_
    refine r_if_eq (zW_mono _ _ _) rfl (fun _ => ?_) (fun q => absurd q (by decide +kernel))
    refine r_push (zW_mono _ _ _) rfl ?_
    refine r_iret (zW_mono _ _ _) rfl rfl rfl ?_
    refine ⟨_, rfl, ⟨_, hx_111⟩, ?_⟩
    refine zW_in rfl (Nat.le_of_ble_eq_true rfl) ?_
    refine r_iload (zW_mono _ _ _) rfl rfl ?_
    refine r_i2l (zW_mono _ _ _) rfl ?_
    refine r_push (zW_mono _ _ _) rfl ?_
    refine r_aload (zW_mono _ _ _) rfl rfl ?_
    refine r_get (zW_mono _ _ _) rfl hx_111 rfl ?_
    refine r_push (zW_mono _ _ _) rfl ?_
    refine r_isub (zW_mono _ _ _) rfl ?_
    refine r_i2l (zW_mono _ _ _) rfl ?_
    refine r_stat3 (zW_mono _ _ _) rfl (Nat.le_of_ble_eq_true rfl) rfl (Nat.le_of_ble_eq_true rfl) (Nat.le_of_ble_eq_true rfl) ?_
    refine zW_in rfl (Nat.le_of_ble_eq_true rfl) ?_
    refine r_lload (zW_mono _ _ _) rfl rfl ?_
    refine r_lload (zW_mono _ _ _) rfl rfl ?_
    refine r_lc_lt (X := a1.toInt) (Y := 0) (zW_mono _ _ _) rfl rfl (zi64 _) (by decide +kernel) (fun q => by exfalso; omega) (fun z4 => ?_)
    refine r_lload (zW_mono _ _ _) rfl rfl ?_
    refine r_lload (zW_mono _ _ _) rfl rfl ?_
    refine r_lc_gt (X := a1.toInt) (Y := (-1)) (zW_mono _ _ _) rfl rfl (zi64 _) (by decide +kernel) (fun z5 => ?_) (fun q => by exfalso; omega)
    refine r_push (zW_mono _ _ _) rfl ?_
    refine r_iret (zW_mono _ _ _) rfl rfl (by decide +kernel) ?_
    refine r_if_eq (zW_mono _ _ _) rfl (fun _ => ?_) (fun q => absurd q (by decide +kernel))
    refine r_push (zW_mono _ _ _) rfl ?_
    refine r_iret (zW_mono _ _ _) rfl rfl rfl ?_
    first | rfl | exact congrArg some (by decide +kernel)
set_option maxHeartbeats 4000000 in
set_option maxRecDepth 20000 in
theorem op_cheap {G : zG} (hG : G.1 = zProg) (a1 a2 : Int32) : zW zTt G 12 145 [.ref 0, .int a1, .int a2] (dzH dH0) (fun w h => ∃ x : Int32, w = some (.int x) ∧ (∃ fs : List Value, h[111]? = some (.inr (12, fs))) ∧ zW zTt G 12 264 [.ref 111, .int a1, .int a2] h (fun w2 _ => w2 = some (.int x))) := by
  obtain ⟨p9, t9⟩ := G
  have hG : p9 = zProg := hG
  subst hG
  refine zW_in rfl (Nat.le_of_ble_eq_true rfl) ?_
  refine r_aload (zW_mono _ _ _) rfl rfl ?_
  refine r_get (zW_mono _ _ _) rfl hx_0 rfl ?_
  refine r_iload (zW_mono _ _ _) rfl rfl ?_
  refine r_virt1 (zW_mono _ _ _) rfl hx_81 (Nat.le_of_ble_eq_true rfl) rfl (Nat.le_of_ble_eq_true rfl) (Nat.le_of_ble_eq_true rfl) ?_
  refine zW_in rfl (Nat.le_of_ble_eq_true rfl) ?_
  refine r_iload (zW_mono _ _ _) rfl rfl ?_
  refine r_i0_lt (X := a1.toInt) (zW_mono _ _ _) rfl rfl (fun z1 => ?_) (fun z1 => ?_)
  · refine r_push (zW_mono _ _ _) rfl ?_
    refine r_iret (zW_mono _ _ _) rfl rfl (by decide +kernel) ?_
    refine r_if_eq (zW_mono _ _ _) rfl (fun _ => ?_) (fun q => absurd q (by decide +kernel))
    refine r_push (zW_mono _ _ _) rfl ?_
    refine r_iret (zW_mono _ _ _) rfl rfl rfl ?_
    refine ⟨_, rfl, ⟨_, hx_111⟩, ?_⟩
    refine zW_in rfl (Nat.le_of_ble_eq_true rfl) ?_
    refine r_iload (zW_mono _ _ _) rfl rfl ?_
    refine r_i2l (zW_mono _ _ _) rfl ?_
    refine r_push (zW_mono _ _ _) rfl ?_
    refine r_aload (zW_mono _ _ _) rfl rfl ?_
    refine r_get (zW_mono _ _ _) rfl hx_111 rfl ?_
    refine r_push (zW_mono _ _ _) rfl ?_
    refine r_isub (zW_mono _ _ _) rfl ?_
    refine r_i2l (zW_mono _ _ _) rfl ?_
    refine r_stat3 (zW_mono _ _ _) rfl (Nat.le_of_ble_eq_true rfl) rfl (Nat.le_of_ble_eq_true rfl) (Nat.le_of_ble_eq_true rfl) ?_
    refine zW_in rfl (Nat.le_of_ble_eq_true rfl) ?_
    refine r_lload (zW_mono _ _ _) rfl rfl ?_
    refine r_lload (zW_mono _ _ _) rfl rfl ?_
    refine r_lc_lt (X := a1.toInt) (Y := 0) (zW_mono _ _ _) rfl rfl (zi64 _) (by decide +kernel) (fun z2 => ?_) (fun q => by exfalso; omega)
    refine r_push (zW_mono _ _ _) rfl ?_
    refine r_iret (zW_mono _ _ _) rfl rfl (by decide +kernel) ?_
    refine r_if_eq (zW_mono _ _ _) rfl (fun _ => ?_) (fun q => absurd q (by decide +kernel))
    refine r_push (zW_mono _ _ _) rfl ?_
    refine r_iret (zW_mono _ _ _) rfl rfl rfl ?_
    first | rfl | exact congrArg some (by decide +kernel)
  · refine r_iload (zW_mono _ _ _) rfl rfl ?_
    refine r_aload (zW_mono _ _ _) rfl rfl ?_
    refine r_get (zW_mono _ _ _) rfl hx_81 rfl ?_
    refine r_ic_ge (X := a1.toInt) (Y := 0) (zW_mono _ _ _) rfl rfl (by decide +kernel) (fun z3 => ?_) (fun q => by exfalso; omega)
    refine r_push (zW_mono _ _ _) rfl ?_
    refine r_iret (zW_mono _ _ _) rfl rfl (by decide +kernel) ?_
    refine r_if_eq (zW_mono _ _ _) rfl (fun _ => ?_) (fun q => absurd q (by decide +kernel))
    refine r_push (zW_mono _ _ _) rfl ?_
    refine r_iret (zW_mono _ _ _) rfl rfl rfl ?_
    refine ⟨_, rfl, ⟨_, hx_111⟩, ?_⟩
    refine zW_in rfl (Nat.le_of_ble_eq_true rfl) ?_
    refine r_iload (zW_mono _ _ _) rfl rfl ?_
    refine r_i2l (zW_mono _ _ _) rfl ?_
    refine r_push (zW_mono _ _ _) rfl ?_
    refine r_aload (zW_mono _ _ _) rfl rfl ?_
    refine r_get (zW_mono _ _ _) rfl hx_111 rfl ?_
    refine r_push (zW_mono _ _ _) rfl ?_
    refine r_isub (zW_mono _ _ _) rfl ?_
    refine r_i2l (zW_mono _ _ _) rfl ?_
    refine r_stat3 (zW_mono _ _ _) rfl (Nat.le_of_ble_eq_true rfl) rfl (Nat.le_of_ble_eq_true rfl) (Nat.le_of_ble_eq_true rfl) ?_
    refine zW_in rfl (Nat.le_of_ble_eq_true rfl) ?_
    refine r_lload (zW_mono _ _ _) rfl rfl ?_
    refine r_lload (zW_mono _ _ _) rfl rfl ?_
    refine r_lc_lt (X := a1.toInt) (Y := 0) (zW_mono _ _ _) rfl rfl (zi64 _) (by decide +kernel) (fun q => by exfalso; omega) (fun z4 => ?_)
    refine r_lload (zW_mono _ _ _) rfl rfl ?_
    refine r_lload (zW_mono _ _ _) rfl rfl ?_
    refine r_lc_gt (X := a1.toInt) (Y := (-1)) (zW_mono _ _ _) rfl rfl (zi64 _) (by decide +kernel) (fun z5 => ?_) (fun q => by exfalso; omega)
    refine r_push (zW_mono _ _ _) rfl ?_
    refine r_iret (zW_mono _ _ _) rfl rfl (by decide +kernel) ?_
    refine r_if_eq (zW_mono _ _ _) rfl (fun _ => ?_) (fun q => absurd q (by decide +kernel))
    refine r_push (zW_mono _ _ _) rfl ?_
    refine r_iret (zW_mono _ _ _) rfl rfl rfl ?_
    first | rfl | exact congrArg some (by decide +kernel)
set_option maxHeartbeats 4000000 in
set_option maxRecDepth 20000 in
theorem op_call {G : zG} (hG : G.1 = zProg) (a1 a2 a3 a4 : Int32) : zW zTt G 12 146 [.ref 0, .int a1, .int a2, .int a3, .int a4] (dzH dH0) (fun w h => ∃ x : Int32, w = some (.int x) ∧ (∃ fs : List Value, h[111]? = some (.inr (12, fs))) ∧ zW zTt G 12 265 [.ref 111, .int a1, .int a2, .int a3, .int a4] h (fun w2 _ => w2 = some (.int x))) := by
  obtain ⟨p9, t9⟩ := G
  have hG : p9 = zProg := hG
  subst hG
  refine zW_in rfl (Nat.le_of_ble_eq_true rfl) ?_
  refine r_aload (zW_mono _ _ _) rfl rfl ?_
  refine r_get (zW_mono _ _ _) rfl hx_0 rfl ?_
  refine r_iload (zW_mono _ _ _) rfl rfl ?_
  refine r_virt1 (zW_mono _ _ _) rfl hx_1 (Nat.le_of_ble_eq_true rfl) rfl (Nat.le_of_ble_eq_true rfl) (Nat.le_of_ble_eq_true rfl) ?_
  refine zW_in rfl (Nat.le_of_ble_eq_true rfl) ?_
  refine r_iload (zW_mono _ _ _) rfl rfl ?_
  refine r_i0_lt (X := a1.toInt) (zW_mono _ _ _) rfl rfl (fun z1 => ?_) (fun z1 => ?_)
  · refine r_push (zW_mono _ _ _) rfl ?_
    refine r_iret (zW_mono _ _ _) rfl rfl (by decide +kernel) ?_
    refine r_if_eq (zW_mono _ _ _) rfl (fun _ => ?_) (fun q => absurd q (by decide +kernel))
    refine r_push (zW_mono _ _ _) rfl ?_
    refine r_istore (zW_mono _ _ _) rfl (Nat.le_of_ble_eq_true rfl) ?_
    refine r_iload (zW_mono _ _ _) rfl rfl ?_
    refine r_if_eq (zW_mono _ _ _) rfl (fun _ => ?_) (fun q => absurd q (by decide +kernel))
    refine r_push (zW_mono _ _ _) rfl ?_
    refine r_iret (zW_mono _ _ _) rfl rfl rfl ?_
    refine ⟨_, rfl, ⟨_, hx_111⟩, ?_⟩
    refine zW_in rfl (Nat.le_of_ble_eq_true rfl) ?_
    refine r_aload (zW_mono _ _ _) rfl rfl ?_
    refine r_get (zW_mono _ _ _) rfl hx_111 rfl ?_
    refine r_push (zW_mono _ _ _) rfl ?_
    refine r_icmp_eq (zW_mono _ _ _) rfl (fun q => absurd q (by decide +kernel)) (fun _ => ?_)
    refine r_aload (zW_mono _ _ _) rfl rfl ?_
    refine r_iload (zW_mono _ _ _) rfl rfl ?_
    refine r_virt1 (zW_mono _ _ _) rfl hx_111 (Nat.le_of_ble_eq_true rfl) rfl (Nat.le_of_ble_eq_true rfl) (Nat.le_of_ble_eq_true rfl) ?_
    refine zW_in rfl (Nat.le_of_ble_eq_true rfl) ?_
    refine r_iload (zW_mono _ _ _) rfl rfl ?_
    refine r_i2l (zW_mono _ _ _) rfl ?_
    refine r_push (zW_mono _ _ _) rfl ?_
    refine r_aload (zW_mono _ _ _) rfl rfl ?_
    refine r_get (zW_mono _ _ _) rfl hx_111 rfl ?_
    refine r_push (zW_mono _ _ _) rfl ?_
    refine r_isub (zW_mono _ _ _) rfl ?_
    refine r_i2l (zW_mono _ _ _) rfl ?_
    refine r_stat3 (zW_mono _ _ _) rfl (Nat.le_of_ble_eq_true rfl) rfl (Nat.le_of_ble_eq_true rfl) (Nat.le_of_ble_eq_true rfl) ?_
    refine zW_in rfl (Nat.le_of_ble_eq_true rfl) ?_
    refine r_lload (zW_mono _ _ _) rfl rfl ?_
    refine r_lload (zW_mono _ _ _) rfl rfl ?_
    refine r_lc_lt (X := a1.toInt) (Y := 0) (zW_mono _ _ _) rfl rfl (zi64 _) (by decide +kernel) (fun z2 => ?_) (fun q => by exfalso; omega)
    refine r_push (zW_mono _ _ _) rfl ?_
    refine r_iret (zW_mono _ _ _) rfl rfl (by decide +kernel) ?_
    refine r_iret (zW_mono _ _ _) rfl rfl (by decide +kernel) ?_
    refine r_if_eq (zW_mono _ _ _) rfl (fun _ => ?_) (fun q => absurd q (by decide +kernel))
    refine r_push (zW_mono _ _ _) rfl ?_
    refine r_iret (zW_mono _ _ _) rfl rfl rfl ?_
    first | rfl | exact congrArg some (by decide +kernel)
  · refine r_iload (zW_mono _ _ _) rfl rfl ?_
    refine r_aload (zW_mono _ _ _) rfl rfl ?_
    refine r_get (zW_mono _ _ _) rfl hx_1 rfl ?_
    refine r_ic_ge (X := a1.toInt) (Y := 0) (zW_mono _ _ _) rfl rfl (by decide +kernel) (fun z3 => ?_) (fun q => by exfalso; omega)
    refine r_push (zW_mono _ _ _) rfl ?_
    refine r_iret (zW_mono _ _ _) rfl rfl (by decide +kernel) ?_
    refine r_if_eq (zW_mono _ _ _) rfl (fun _ => ?_) (fun q => absurd q (by decide +kernel))
    refine r_push (zW_mono _ _ _) rfl ?_
    refine r_istore (zW_mono _ _ _) rfl (Nat.le_of_ble_eq_true rfl) ?_
    refine r_iload (zW_mono _ _ _) rfl rfl ?_
    refine r_if_eq (zW_mono _ _ _) rfl (fun _ => ?_) (fun q => absurd q (by decide +kernel))
    refine r_push (zW_mono _ _ _) rfl ?_
    refine r_iret (zW_mono _ _ _) rfl rfl rfl ?_
    refine ⟨_, rfl, ⟨_, hx_111⟩, ?_⟩
    refine zW_in rfl (Nat.le_of_ble_eq_true rfl) ?_
    refine r_aload (zW_mono _ _ _) rfl rfl ?_
    refine r_get (zW_mono _ _ _) rfl hx_111 rfl ?_
    refine r_push (zW_mono _ _ _) rfl ?_
    refine r_icmp_eq (zW_mono _ _ _) rfl (fun q => absurd q (by decide +kernel)) (fun _ => ?_)
    refine r_aload (zW_mono _ _ _) rfl rfl ?_
    refine r_iload (zW_mono _ _ _) rfl rfl ?_
    refine r_virt1 (zW_mono _ _ _) rfl hx_111 (Nat.le_of_ble_eq_true rfl) rfl (Nat.le_of_ble_eq_true rfl) (Nat.le_of_ble_eq_true rfl) ?_
    refine zW_in rfl (Nat.le_of_ble_eq_true rfl) ?_
    refine r_iload (zW_mono _ _ _) rfl rfl ?_
    refine r_i2l (zW_mono _ _ _) rfl ?_
    refine r_push (zW_mono _ _ _) rfl ?_
    refine r_aload (zW_mono _ _ _) rfl rfl ?_
    refine r_get (zW_mono _ _ _) rfl hx_111 rfl ?_
    refine r_push (zW_mono _ _ _) rfl ?_
    refine r_isub (zW_mono _ _ _) rfl ?_
    refine r_i2l (zW_mono _ _ _) rfl ?_
    refine r_stat3 (zW_mono _ _ _) rfl (Nat.le_of_ble_eq_true rfl) rfl (Nat.le_of_ble_eq_true rfl) (Nat.le_of_ble_eq_true rfl) ?_
    refine zW_in rfl (Nat.le_of_ble_eq_true rfl) ?_
    refine r_lload (zW_mono _ _ _) rfl rfl ?_
    refine r_lload (zW_mono _ _ _) rfl rfl ?_
    refine r_lc_lt (X := a1.toInt) (Y := 0) (zW_mono _ _ _) rfl rfl (zi64 _) (by decide +kernel) (fun q => by exfalso; omega) (fun z4 => ?_)
    refine r_lload (zW_mono _ _ _) rfl rfl ?_
    refine r_lload (zW_mono _ _ _) rfl rfl ?_
    refine r_lc_gt (X := a1.toInt) (Y := (-1)) (zW_mono _ _ _) rfl rfl (zi64 _) (by decide +kernel) (fun z5 => ?_) (fun q => by exfalso; omega)
    refine r_push (zW_mono _ _ _) rfl ?_
    refine r_iret (zW_mono _ _ _) rfl rfl (by decide +kernel) ?_
    refine r_iret (zW_mono _ _ _) rfl rfl (by decide +kernel) ?_
    refine r_if_eq (zW_mono _ _ _) rfl (fun _ => ?_) (fun q => absurd q (by decide +kernel))
    refine r_push (zW_mono _ _ _) rfl ?_
    refine r_iret (zW_mono _ _ _) rfl rfl rfl ?_
    first | rfl | exact congrArg some (by decide +kernel)
set_option maxHeartbeats 4000000 in
set_option maxRecDepth 20000 in
theorem op_letters {G : zG} (hG : G.1 = zProg) (a1 : Int32) : zW zTt G 12 147 [.ref 0, .int a1] (dzH dH0) (fun w h => ∃ x : Int32, w = some (.int x) ∧ (∃ fs : List Value, h[111]? = some (.inr (12, fs))) ∧ zW zTt G 12 269 [.ref 111, .int a1] h (fun w2 _ => w2 = some (.int x))) := by
  obtain ⟨p9, t9⟩ := G
  have hG : p9 = zProg := hG
  subst hG
  refine zW_in rfl (Nat.le_of_ble_eq_true rfl) ?_
  refine r_aload (zW_mono _ _ _) rfl rfl ?_
  refine r_get (zW_mono _ _ _) rfl hx_0 rfl ?_
  refine r_iload (zW_mono _ _ _) rfl rfl ?_
  refine r_virt1 (zW_mono _ _ _) rfl hx_89 (Nat.le_of_ble_eq_true rfl) rfl (Nat.le_of_ble_eq_true rfl) (Nat.le_of_ble_eq_true rfl) ?_
  refine zW_in rfl (Nat.le_of_ble_eq_true rfl) ?_
  refine r_iload (zW_mono _ _ _) rfl rfl ?_
  refine r_i0_lt (X := a1.toInt) (zW_mono _ _ _) rfl rfl (fun z1 => ?_) (fun z1 => ?_)
  · refine r_push (zW_mono _ _ _) rfl ?_
    refine r_iret (zW_mono _ _ _) rfl rfl (by decide +kernel) ?_
    refine r_if_eq (zW_mono _ _ _) rfl (fun _ => ?_) (fun q => absurd q (by decide +kernel))
    refine r_push (zW_mono _ _ _) rfl ?_
    refine r_iret (zW_mono _ _ _) rfl rfl rfl ?_
    refine ⟨_, rfl, ⟨_, hx_111⟩, ?_⟩
    refine zW_in rfl (Nat.le_of_ble_eq_true rfl) ?_
    refine r_aload (zW_mono _ _ _) rfl rfl ?_
    refine r_iload (zW_mono _ _ _) rfl rfl ?_
    refine r_virt1 (zW_mono _ _ _) rfl hx_111 (Nat.le_of_ble_eq_true rfl) rfl (Nat.le_of_ble_eq_true rfl) (Nat.le_of_ble_eq_true rfl) ?_
    refine zW_in rfl (Nat.le_of_ble_eq_true rfl) ?_
    refine r_iload (zW_mono _ _ _) rfl rfl ?_
    refine r_i2l (zW_mono _ _ _) rfl ?_
    refine r_push (zW_mono _ _ _) rfl ?_
    refine r_aload (zW_mono _ _ _) rfl rfl ?_
    refine r_get (zW_mono _ _ _) rfl hx_111 rfl ?_
    refine r_push (zW_mono _ _ _) rfl ?_
    refine r_isub (zW_mono _ _ _) rfl ?_
    refine r_i2l (zW_mono _ _ _) rfl ?_
    refine r_stat3 (zW_mono _ _ _) rfl (Nat.le_of_ble_eq_true rfl) rfl (Nat.le_of_ble_eq_true rfl) (Nat.le_of_ble_eq_true rfl) ?_
    refine zW_in rfl (Nat.le_of_ble_eq_true rfl) ?_
    refine r_lload (zW_mono _ _ _) rfl rfl ?_
    refine r_lload (zW_mono _ _ _) rfl rfl ?_
    refine r_lc_lt (X := a1.toInt) (Y := 0) (zW_mono _ _ _) rfl rfl (zi64 _) (by decide +kernel) (fun z2 => ?_) (fun q => by exfalso; omega)
    refine r_push (zW_mono _ _ _) rfl ?_
    refine r_iret (zW_mono _ _ _) rfl rfl (by decide +kernel) ?_
    refine r_iret (zW_mono _ _ _) rfl rfl (by decide +kernel) ?_
    refine r_if_ne (zW_mono _ _ _) rfl (fun q => absurd q (by decide +kernel)) (fun _ => ?_)
    refine r_push (zW_mono _ _ _) rfl ?_
    refine r_iret (zW_mono _ _ _) rfl rfl rfl ?_
    first | rfl | exact congrArg some (by decide +kernel)
  · refine r_iload (zW_mono _ _ _) rfl rfl ?_
    refine r_aload (zW_mono _ _ _) rfl rfl ?_
    refine r_get (zW_mono _ _ _) rfl hx_89 rfl ?_
    refine r_ic_ge (X := a1.toInt) (Y := 0) (zW_mono _ _ _) rfl rfl (by decide +kernel) (fun z3 => ?_) (fun q => by exfalso; omega)
    refine r_push (zW_mono _ _ _) rfl ?_
    refine r_iret (zW_mono _ _ _) rfl rfl (by decide +kernel) ?_
    refine r_if_eq (zW_mono _ _ _) rfl (fun _ => ?_) (fun q => absurd q (by decide +kernel))
    refine r_push (zW_mono _ _ _) rfl ?_
    refine r_iret (zW_mono _ _ _) rfl rfl rfl ?_
    refine ⟨_, rfl, ⟨_, hx_111⟩, ?_⟩
    refine zW_in rfl (Nat.le_of_ble_eq_true rfl) ?_
    refine r_aload (zW_mono _ _ _) rfl rfl ?_
    refine r_iload (zW_mono _ _ _) rfl rfl ?_
    refine r_virt1 (zW_mono _ _ _) rfl hx_111 (Nat.le_of_ble_eq_true rfl) rfl (Nat.le_of_ble_eq_true rfl) (Nat.le_of_ble_eq_true rfl) ?_
    refine zW_in rfl (Nat.le_of_ble_eq_true rfl) ?_
    refine r_iload (zW_mono _ _ _) rfl rfl ?_
    refine r_i2l (zW_mono _ _ _) rfl ?_
    refine r_push (zW_mono _ _ _) rfl ?_
    refine r_aload (zW_mono _ _ _) rfl rfl ?_
    refine r_get (zW_mono _ _ _) rfl hx_111 rfl ?_
    refine r_push (zW_mono _ _ _) rfl ?_
    refine r_isub (zW_mono _ _ _) rfl ?_
    refine r_i2l (zW_mono _ _ _) rfl ?_
    refine r_stat3 (zW_mono _ _ _) rfl (Nat.le_of_ble_eq_true rfl) rfl (Nat.le_of_ble_eq_true rfl) (Nat.le_of_ble_eq_true rfl) ?_
    refine zW_in rfl (Nat.le_of_ble_eq_true rfl) ?_
    refine r_lload (zW_mono _ _ _) rfl rfl ?_
    refine r_lload (zW_mono _ _ _) rfl rfl ?_
    refine r_lc_lt (X := a1.toInt) (Y := 0) (zW_mono _ _ _) rfl rfl (zi64 _) (by decide +kernel) (fun q => by exfalso; omega) (fun z4 => ?_)
    refine r_lload (zW_mono _ _ _) rfl rfl ?_
    refine r_lload (zW_mono _ _ _) rfl rfl ?_
    refine r_lc_gt (X := a1.toInt) (Y := (-1)) (zW_mono _ _ _) rfl rfl (zi64 _) (by decide +kernel) (fun z5 => ?_) (fun q => by exfalso; omega)
    refine r_push (zW_mono _ _ _) rfl ?_
    refine r_iret (zW_mono _ _ _) rfl rfl (by decide +kernel) ?_
    refine r_iret (zW_mono _ _ _) rfl rfl (by decide +kernel) ?_
    refine r_if_ne (zW_mono _ _ _) rfl (fun q => absurd q (by decide +kernel)) (fun _ => ?_)
    refine r_push (zW_mono _ _ _) rfl ?_
    refine r_iret (zW_mono _ _ _) rfl rfl rfl ?_
    first | rfl | exact congrArg some (by decide +kernel)
set_option maxHeartbeats 4000000 in
set_option maxRecDepth 20000 in
theorem op_reached {G : zG} (hG : G.1 = zProg) (a1 a2 : Int32) : zW zTt G 12 148 [.ref 0, .int a1, .int a2] (dzH dH0) (fun w h => ∃ x : Int32, w = some (.int x) ∧ (∃ fs : List Value, h[111]? = some (.inr (12, fs))) ∧ zW zTt G 12 270 [.ref 111, .int a1, .int a2] h (fun w2 _ => w2 = some (.int x))) := by
  obtain ⟨p9, t9⟩ := G
  have hG : p9 = zProg := hG
  subst hG
  refine zW_in rfl (Nat.le_of_ble_eq_true rfl) ?_
  refine r_aload (zW_mono _ _ _) rfl rfl ?_
  refine r_get (zW_mono _ _ _) rfl hx_0 rfl ?_
  refine r_iload (zW_mono _ _ _) rfl rfl ?_
  refine r_virt1 (zW_mono _ _ _) rfl hx_36 (Nat.le_of_ble_eq_true rfl) rfl (Nat.le_of_ble_eq_true rfl) (Nat.le_of_ble_eq_true rfl) ?_
  refine zW_in rfl (Nat.le_of_ble_eq_true rfl) ?_
  refine r_iload (zW_mono _ _ _) rfl rfl ?_
  refine r_i0_lt (X := a2.toInt) (zW_mono _ _ _) rfl rfl (fun z1 => ?_) (fun z1 => ?_)
  · refine r_push (zW_mono _ _ _) rfl ?_
    refine r_nret (zW_mono _ _ _) rfl rfl rfl ?_
    refine r_astoreN (zW_mono _ _ _) rfl (Nat.le_of_ble_eq_true rfl) ?_
    refine r_aload (zW_mono _ _ _) rfl rfl ?_
    refine r_get (zW_mono _ _ _) rfl hx_0 rfl ?_
    refine r_iload (zW_mono _ _ _) rfl rfl ?_
    refine r_virt1 (zW_mono _ _ _) rfl hx_89 (Nat.le_of_ble_eq_true rfl) rfl (Nat.le_of_ble_eq_true rfl) (Nat.le_of_ble_eq_true rfl) ?_
    refine zW_in rfl (Nat.le_of_ble_eq_true rfl) ?_
    refine r_iload (zW_mono _ _ _) rfl rfl ?_
    refine r_i0_lt (X := a1.toInt) (zW_mono _ _ _) rfl rfl (fun z2 => ?_) (fun z2 => ?_)
    · refine r_push (zW_mono _ _ _) rfl ?_
      refine r_iret (zW_mono _ _ _) rfl rfl (by decide +kernel) ?_
      refine r_if_eq (zW_mono _ _ _) rfl (fun _ => ?_) (fun q => absurd q (by decide +kernel))
      refine r_push (zW_mono _ _ _) rfl ?_
      refine r_iret (zW_mono _ _ _) rfl rfl rfl ?_
      refine ⟨_, rfl, ⟨_, hx_111⟩, ?_⟩
      refine zW_in rfl (Nat.le_of_ble_eq_true rfl) ?_
      refine r_aload (zW_mono _ _ _) rfl rfl ?_
      refine r_iload (zW_mono _ _ _) rfl rfl ?_
      refine r_virt1 (zW_mono _ _ _) rfl hx_111 (Nat.le_of_ble_eq_true rfl) rfl (Nat.le_of_ble_eq_true rfl) (Nat.le_of_ble_eq_true rfl) ?_
      refine zW_in rfl (Nat.le_of_ble_eq_true rfl) ?_
      refine r_iload (zW_mono _ _ _) rfl rfl ?_
      refine r_i2l (zW_mono _ _ _) rfl ?_
      refine r_push (zW_mono _ _ _) rfl ?_
      refine r_aload (zW_mono _ _ _) rfl rfl ?_
      refine r_get (zW_mono _ _ _) rfl hx_111 rfl ?_
      refine r_push (zW_mono _ _ _) rfl ?_
      refine r_isub (zW_mono _ _ _) rfl ?_
      refine r_i2l (zW_mono _ _ _) rfl ?_
      refine r_stat3 (zW_mono _ _ _) rfl (Nat.le_of_ble_eq_true rfl) rfl (Nat.le_of_ble_eq_true rfl) (Nat.le_of_ble_eq_true rfl) ?_
      refine zW_in rfl (Nat.le_of_ble_eq_true rfl) ?_
      refine r_lload (zW_mono _ _ _) rfl rfl ?_
      refine r_lload (zW_mono _ _ _) rfl rfl ?_
      refine r_lc_lt (X := a1.toInt) (Y := 0) (zW_mono _ _ _) rfl rfl (zi64 _) (by decide +kernel) (fun z3 => ?_) (fun q => by exfalso; omega)
      refine r_push (zW_mono _ _ _) rfl ?_
      refine r_iret (zW_mono _ _ _) rfl rfl (by decide +kernel) ?_
      refine r_iret (zW_mono _ _ _) rfl rfl (by decide +kernel) ?_
      refine r_if_eq (zW_mono _ _ _) rfl (fun _ => ?_) (fun q => absurd q (by decide +kernel))
      refine r_push (zW_mono _ _ _) rfl ?_
      refine r_iret (zW_mono _ _ _) rfl rfl rfl ?_
      first | rfl | exact congrArg some (by decide +kernel)
    · refine r_iload (zW_mono _ _ _) rfl rfl ?_
      refine r_aload (zW_mono _ _ _) rfl rfl ?_
      refine r_get (zW_mono _ _ _) rfl hx_89 rfl ?_
      refine r_ic_ge (X := a1.toInt) (Y := 0) (zW_mono _ _ _) rfl rfl (by decide +kernel) (fun z4 => ?_) (fun q => by exfalso; omega)
      refine r_push (zW_mono _ _ _) rfl ?_
      refine r_iret (zW_mono _ _ _) rfl rfl (by decide +kernel) ?_
      refine r_if_eq (zW_mono _ _ _) rfl (fun _ => ?_) (fun q => absurd q (by decide +kernel))
      refine r_push (zW_mono _ _ _) rfl ?_
      refine r_iret (zW_mono _ _ _) rfl rfl rfl ?_
      refine ⟨_, rfl, ⟨_, hx_111⟩, ?_⟩
      refine zW_in rfl (Nat.le_of_ble_eq_true rfl) ?_
      refine r_aload (zW_mono _ _ _) rfl rfl ?_
      refine r_iload (zW_mono _ _ _) rfl rfl ?_
      refine r_virt1 (zW_mono _ _ _) rfl hx_111 (Nat.le_of_ble_eq_true rfl) rfl (Nat.le_of_ble_eq_true rfl) (Nat.le_of_ble_eq_true rfl) ?_
      refine zW_in rfl (Nat.le_of_ble_eq_true rfl) ?_
      refine r_iload (zW_mono _ _ _) rfl rfl ?_
      refine r_i2l (zW_mono _ _ _) rfl ?_
      refine r_push (zW_mono _ _ _) rfl ?_
      refine r_aload (zW_mono _ _ _) rfl rfl ?_
      refine r_get (zW_mono _ _ _) rfl hx_111 rfl ?_
      refine r_push (zW_mono _ _ _) rfl ?_
      refine r_isub (zW_mono _ _ _) rfl ?_
      refine r_i2l (zW_mono _ _ _) rfl ?_
      refine r_stat3 (zW_mono _ _ _) rfl (Nat.le_of_ble_eq_true rfl) rfl (Nat.le_of_ble_eq_true rfl) (Nat.le_of_ble_eq_true rfl) ?_
      refine zW_in rfl (Nat.le_of_ble_eq_true rfl) ?_
      refine r_lload (zW_mono _ _ _) rfl rfl ?_
      refine r_lload (zW_mono _ _ _) rfl rfl ?_
      refine r_lc_lt (X := a1.toInt) (Y := 0) (zW_mono _ _ _) rfl rfl (zi64 _) (by decide +kernel) (fun q => by exfalso; omega) (fun z5 => ?_)
      refine r_lload (zW_mono _ _ _) rfl rfl ?_
      refine r_lload (zW_mono _ _ _) rfl rfl ?_
      refine r_lc_gt (X := a1.toInt) (Y := (-1)) (zW_mono _ _ _) rfl rfl (zi64 _) (by decide +kernel) (fun z6 => ?_) (fun q => by exfalso; omega)
      refine r_push (zW_mono _ _ _) rfl ?_
      refine r_iret (zW_mono _ _ _) rfl rfl (by decide +kernel) ?_
      refine r_iret (zW_mono _ _ _) rfl rfl (by decide +kernel) ?_
      refine r_if_eq (zW_mono _ _ _) rfl (fun _ => ?_) (fun q => absurd q (by decide +kernel))
      refine r_push (zW_mono _ _ _) rfl ?_
      refine r_iret (zW_mono _ _ _) rfl rfl rfl ?_
      first | rfl | exact congrArg some (by decide +kernel)
  · refine r_iload (zW_mono _ _ _) rfl rfl ?_
    refine r_aload (zW_mono _ _ _) rfl rfl ?_
    refine r_get (zW_mono _ _ _) rfl hx_36 rfl ?_
    refine r_ic_ge (X := a2.toInt) (Y := 0) (zW_mono _ _ _) rfl rfl (by decide +kernel) (fun z7 => ?_) (fun q => by exfalso; omega)
    refine r_push (zW_mono _ _ _) rfl ?_
    refine r_nret (zW_mono _ _ _) rfl rfl rfl ?_
    refine r_astoreN (zW_mono _ _ _) rfl (Nat.le_of_ble_eq_true rfl) ?_
    refine r_aload (zW_mono _ _ _) rfl rfl ?_
    refine r_get (zW_mono _ _ _) rfl hx_0 rfl ?_
    refine r_iload (zW_mono _ _ _) rfl rfl ?_
    refine r_virt1 (zW_mono _ _ _) rfl hx_89 (Nat.le_of_ble_eq_true rfl) rfl (Nat.le_of_ble_eq_true rfl) (Nat.le_of_ble_eq_true rfl) ?_
    refine zW_in rfl (Nat.le_of_ble_eq_true rfl) ?_
    refine r_iload (zW_mono _ _ _) rfl rfl ?_
    refine r_i0_lt (X := a1.toInt) (zW_mono _ _ _) rfl rfl (fun z8 => ?_) (fun z8 => ?_)
    · refine r_push (zW_mono _ _ _) rfl ?_
      refine r_iret (zW_mono _ _ _) rfl rfl (by decide +kernel) ?_
      refine r_if_eq (zW_mono _ _ _) rfl (fun _ => ?_) (fun q => absurd q (by decide +kernel))
      refine r_push (zW_mono _ _ _) rfl ?_
      refine r_iret (zW_mono _ _ _) rfl rfl rfl ?_
      refine ⟨_, rfl, ⟨_, hx_111⟩, ?_⟩
      refine zW_in rfl (Nat.le_of_ble_eq_true rfl) ?_
      refine r_aload (zW_mono _ _ _) rfl rfl ?_
      refine r_iload (zW_mono _ _ _) rfl rfl ?_
      refine r_virt1 (zW_mono _ _ _) rfl hx_111 (Nat.le_of_ble_eq_true rfl) rfl (Nat.le_of_ble_eq_true rfl) (Nat.le_of_ble_eq_true rfl) ?_
      refine zW_in rfl (Nat.le_of_ble_eq_true rfl) ?_
      refine r_iload (zW_mono _ _ _) rfl rfl ?_
      refine r_i2l (zW_mono _ _ _) rfl ?_
      refine r_push (zW_mono _ _ _) rfl ?_
      refine r_aload (zW_mono _ _ _) rfl rfl ?_
      refine r_get (zW_mono _ _ _) rfl hx_111 rfl ?_
      refine r_push (zW_mono _ _ _) rfl ?_
      refine r_isub (zW_mono _ _ _) rfl ?_
      refine r_i2l (zW_mono _ _ _) rfl ?_
      refine r_stat3 (zW_mono _ _ _) rfl (Nat.le_of_ble_eq_true rfl) rfl (Nat.le_of_ble_eq_true rfl) (Nat.le_of_ble_eq_true rfl) ?_
      refine zW_in rfl (Nat.le_of_ble_eq_true rfl) ?_
      refine r_lload (zW_mono _ _ _) rfl rfl ?_
      refine r_lload (zW_mono _ _ _) rfl rfl ?_
      refine r_lc_lt (X := a1.toInt) (Y := 0) (zW_mono _ _ _) rfl rfl (zi64 _) (by decide +kernel) (fun z9 => ?_) (fun q => by exfalso; omega)
      refine r_push (zW_mono _ _ _) rfl ?_
      refine r_iret (zW_mono _ _ _) rfl rfl (by decide +kernel) ?_
      refine r_iret (zW_mono _ _ _) rfl rfl (by decide +kernel) ?_
      refine r_if_eq (zW_mono _ _ _) rfl (fun _ => ?_) (fun q => absurd q (by decide +kernel))
      refine r_push (zW_mono _ _ _) rfl ?_
      refine r_iret (zW_mono _ _ _) rfl rfl rfl ?_
      first | rfl | exact congrArg some (by decide +kernel)
    · refine r_iload (zW_mono _ _ _) rfl rfl ?_
      refine r_aload (zW_mono _ _ _) rfl rfl ?_
      refine r_get (zW_mono _ _ _) rfl hx_89 rfl ?_
      refine r_ic_ge (X := a1.toInt) (Y := 0) (zW_mono _ _ _) rfl rfl (by decide +kernel) (fun z10 => ?_) (fun q => by exfalso; omega)
      refine r_push (zW_mono _ _ _) rfl ?_
      refine r_iret (zW_mono _ _ _) rfl rfl (by decide +kernel) ?_
      refine r_if_eq (zW_mono _ _ _) rfl (fun _ => ?_) (fun q => absurd q (by decide +kernel))
      refine r_push (zW_mono _ _ _) rfl ?_
      refine r_iret (zW_mono _ _ _) rfl rfl rfl ?_
      refine ⟨_, rfl, ⟨_, hx_111⟩, ?_⟩
      refine zW_in rfl (Nat.le_of_ble_eq_true rfl) ?_
      refine r_aload (zW_mono _ _ _) rfl rfl ?_
      refine r_iload (zW_mono _ _ _) rfl rfl ?_
      refine r_virt1 (zW_mono _ _ _) rfl hx_111 (Nat.le_of_ble_eq_true rfl) rfl (Nat.le_of_ble_eq_true rfl) (Nat.le_of_ble_eq_true rfl) ?_
      refine zW_in rfl (Nat.le_of_ble_eq_true rfl) ?_
      refine r_iload (zW_mono _ _ _) rfl rfl ?_
      refine r_i2l (zW_mono _ _ _) rfl ?_
      refine r_push (zW_mono _ _ _) rfl ?_
      refine r_aload (zW_mono _ _ _) rfl rfl ?_
      refine r_get (zW_mono _ _ _) rfl hx_111 rfl ?_
      refine r_push (zW_mono _ _ _) rfl ?_
      refine r_isub (zW_mono _ _ _) rfl ?_
      refine r_i2l (zW_mono _ _ _) rfl ?_
      refine r_stat3 (zW_mono _ _ _) rfl (Nat.le_of_ble_eq_true rfl) rfl (Nat.le_of_ble_eq_true rfl) (Nat.le_of_ble_eq_true rfl) ?_
      refine zW_in rfl (Nat.le_of_ble_eq_true rfl) ?_
      refine r_lload (zW_mono _ _ _) rfl rfl ?_
      refine r_lload (zW_mono _ _ _) rfl rfl ?_
      refine r_lc_lt (X := a1.toInt) (Y := 0) (zW_mono _ _ _) rfl rfl (zi64 _) (by decide +kernel) (fun q => by exfalso; omega) (fun z11 => ?_)
      refine r_lload (zW_mono _ _ _) rfl rfl ?_
      refine r_lload (zW_mono _ _ _) rfl rfl ?_
      refine r_lc_gt (X := a1.toInt) (Y := (-1)) (zW_mono _ _ _) rfl rfl (zi64 _) (by decide +kernel) (fun z12 => ?_) (fun q => by exfalso; omega)
      refine r_push (zW_mono _ _ _) rfl ?_
      refine r_iret (zW_mono _ _ _) rfl rfl (by decide +kernel) ?_
      refine r_iret (zW_mono _ _ _) rfl rfl (by decide +kernel) ?_
      refine r_if_eq (zW_mono _ _ _) rfl (fun _ => ?_) (fun q => absurd q (by decide +kernel))
      refine r_push (zW_mono _ _ _) rfl ?_
      refine r_iret (zW_mono _ _ _) rfl rfl rfl ?_
      first | rfl | exact congrArg some (by decide +kernel)
set_option maxHeartbeats 4000000 in
set_option maxRecDepth 20000 in
theorem op_mend {G : zG} (hG : G.1 = zProg) (a1 a2 : Int32) : zW zTt G 12 149 [.ref 0, .int a1, .int a2] (dzH dH0) (fun w h => ∃ x : Int32, w = some (.int x) ∧ (∃ fs : List Value, h[111]? = some (.inr (12, fs))) ∧ zW zTt G 12 271 [.ref 111, .int a1, .int a2] h (fun w2 _ => w2 = some (.int x))) := by
  obtain ⟨p9, t9⟩ := G
  have hG : p9 = zProg := hG
  subst hG
  refine zW_in rfl (Nat.le_of_ble_eq_true rfl) ?_
  refine r_aload (zW_mono _ _ _) rfl rfl ?_
  refine r_get (zW_mono _ _ _) rfl hx_0 rfl ?_
  refine r_iload (zW_mono _ _ _) rfl rfl ?_
  refine r_virt1 (zW_mono _ _ _) rfl hx_36 (Nat.le_of_ble_eq_true rfl) rfl (Nat.le_of_ble_eq_true rfl) (Nat.le_of_ble_eq_true rfl) ?_
  refine zW_in rfl (Nat.le_of_ble_eq_true rfl) ?_
  refine r_iload (zW_mono _ _ _) rfl rfl ?_
  refine r_i0_lt (X := a2.toInt) (zW_mono _ _ _) rfl rfl (fun z1 => ?_) (fun z1 => ?_)
  · refine r_push (zW_mono _ _ _) rfl ?_
    refine r_nret (zW_mono _ _ _) rfl rfl rfl ?_
    refine r_astoreN (zW_mono _ _ _) rfl (Nat.le_of_ble_eq_true rfl) ?_
    refine r_aload (zW_mono _ _ _) rfl rfl ?_
    refine r_get (zW_mono _ _ _) rfl hx_0 rfl ?_
    refine r_iload (zW_mono _ _ _) rfl rfl ?_
    refine r_virt1 (zW_mono _ _ _) rfl hx_89 (Nat.le_of_ble_eq_true rfl) rfl (Nat.le_of_ble_eq_true rfl) (Nat.le_of_ble_eq_true rfl) ?_
    refine zW_in rfl (Nat.le_of_ble_eq_true rfl) ?_
    refine r_iload (zW_mono _ _ _) rfl rfl ?_
    refine r_i0_lt (X := a1.toInt) (zW_mono _ _ _) rfl rfl (fun z2 => ?_) (fun z2 => ?_)
    · refine r_push (zW_mono _ _ _) rfl ?_
      refine r_iret (zW_mono _ _ _) rfl rfl (by decide +kernel) ?_
      refine r_if_eq (zW_mono _ _ _) rfl (fun _ => ?_) (fun q => absurd q (by decide +kernel))
      refine r_push (zW_mono _ _ _) rfl ?_
      refine r_iret (zW_mono _ _ _) rfl rfl (by decide +kernel) ?_
      refine ⟨_, rfl, ⟨_, hx_111⟩, ?_⟩
      refine zW_in rfl (Nat.le_of_ble_eq_true rfl) ?_
      refine r_aload (zW_mono _ _ _) rfl rfl ?_
      refine r_iload (zW_mono _ _ _) rfl rfl ?_
      refine r_virt1 (zW_mono _ _ _) rfl hx_111 (Nat.le_of_ble_eq_true rfl) rfl (Nat.le_of_ble_eq_true rfl) (Nat.le_of_ble_eq_true rfl) ?_
      refine zW_in rfl (Nat.le_of_ble_eq_true rfl) ?_
      refine r_iload (zW_mono _ _ _) rfl rfl ?_
      refine r_i2l (zW_mono _ _ _) rfl ?_
      refine r_push (zW_mono _ _ _) rfl ?_
      refine r_aload (zW_mono _ _ _) rfl rfl ?_
      refine r_get (zW_mono _ _ _) rfl hx_111 rfl ?_
      refine r_push (zW_mono _ _ _) rfl ?_
      refine r_isub (zW_mono _ _ _) rfl ?_
      refine r_i2l (zW_mono _ _ _) rfl ?_
      refine r_stat3 (zW_mono _ _ _) rfl (Nat.le_of_ble_eq_true rfl) rfl (Nat.le_of_ble_eq_true rfl) (Nat.le_of_ble_eq_true rfl) ?_
      refine zW_in rfl (Nat.le_of_ble_eq_true rfl) ?_
      refine r_lload (zW_mono _ _ _) rfl rfl ?_
      refine r_lload (zW_mono _ _ _) rfl rfl ?_
      refine r_lc_lt (X := a1.toInt) (Y := 0) (zW_mono _ _ _) rfl rfl (zi64 _) (by decide +kernel) (fun z3 => ?_) (fun q => by exfalso; omega)
      refine r_push (zW_mono _ _ _) rfl ?_
      refine r_iret (zW_mono _ _ _) rfl rfl (by decide +kernel) ?_
      refine r_iret (zW_mono _ _ _) rfl rfl (by decide +kernel) ?_
      refine r_if_eq (zW_mono _ _ _) rfl (fun _ => ?_) (fun q => absurd q (by decide +kernel))
      refine r_push (zW_mono _ _ _) rfl ?_
      refine r_iret (zW_mono _ _ _) rfl rfl (by decide +kernel) ?_
      first | rfl | exact congrArg some (by decide +kernel)
    · refine r_iload (zW_mono _ _ _) rfl rfl ?_
      refine r_aload (zW_mono _ _ _) rfl rfl ?_
      refine r_get (zW_mono _ _ _) rfl hx_89 rfl ?_
      refine r_ic_ge (X := a1.toInt) (Y := 0) (zW_mono _ _ _) rfl rfl (by decide +kernel) (fun z4 => ?_) (fun q => by exfalso; omega)
      refine r_push (zW_mono _ _ _) rfl ?_
      refine r_iret (zW_mono _ _ _) rfl rfl (by decide +kernel) ?_
      refine r_if_eq (zW_mono _ _ _) rfl (fun _ => ?_) (fun q => absurd q (by decide +kernel))
      refine r_push (zW_mono _ _ _) rfl ?_
      refine r_iret (zW_mono _ _ _) rfl rfl (by decide +kernel) ?_
      refine ⟨_, rfl, ⟨_, hx_111⟩, ?_⟩
      refine zW_in rfl (Nat.le_of_ble_eq_true rfl) ?_
      refine r_aload (zW_mono _ _ _) rfl rfl ?_
      refine r_iload (zW_mono _ _ _) rfl rfl ?_
      refine r_virt1 (zW_mono _ _ _) rfl hx_111 (Nat.le_of_ble_eq_true rfl) rfl (Nat.le_of_ble_eq_true rfl) (Nat.le_of_ble_eq_true rfl) ?_
      refine zW_in rfl (Nat.le_of_ble_eq_true rfl) ?_
      refine r_iload (zW_mono _ _ _) rfl rfl ?_
      refine r_i2l (zW_mono _ _ _) rfl ?_
      refine r_push (zW_mono _ _ _) rfl ?_
      refine r_aload (zW_mono _ _ _) rfl rfl ?_
      refine r_get (zW_mono _ _ _) rfl hx_111 rfl ?_
      refine r_push (zW_mono _ _ _) rfl ?_
      refine r_isub (zW_mono _ _ _) rfl ?_
      refine r_i2l (zW_mono _ _ _) rfl ?_
      refine r_stat3 (zW_mono _ _ _) rfl (Nat.le_of_ble_eq_true rfl) rfl (Nat.le_of_ble_eq_true rfl) (Nat.le_of_ble_eq_true rfl) ?_
      refine zW_in rfl (Nat.le_of_ble_eq_true rfl) ?_
      refine r_lload (zW_mono _ _ _) rfl rfl ?_
      refine r_lload (zW_mono _ _ _) rfl rfl ?_
      refine r_lc_lt (X := a1.toInt) (Y := 0) (zW_mono _ _ _) rfl rfl (zi64 _) (by decide +kernel) (fun q => by exfalso; omega) (fun z5 => ?_)
      refine r_lload (zW_mono _ _ _) rfl rfl ?_
      refine r_lload (zW_mono _ _ _) rfl rfl ?_
      refine r_lc_gt (X := a1.toInt) (Y := (-1)) (zW_mono _ _ _) rfl rfl (zi64 _) (by decide +kernel) (fun z6 => ?_) (fun q => by exfalso; omega)
      refine r_push (zW_mono _ _ _) rfl ?_
      refine r_iret (zW_mono _ _ _) rfl rfl (by decide +kernel) ?_
      refine r_iret (zW_mono _ _ _) rfl rfl (by decide +kernel) ?_
      refine r_if_eq (zW_mono _ _ _) rfl (fun _ => ?_) (fun q => absurd q (by decide +kernel))
      refine r_push (zW_mono _ _ _) rfl ?_
      refine r_iret (zW_mono _ _ _) rfl rfl (by decide +kernel) ?_
      first | rfl | exact congrArg some (by decide +kernel)
  · refine r_iload (zW_mono _ _ _) rfl rfl ?_
    refine r_aload (zW_mono _ _ _) rfl rfl ?_
    refine r_get (zW_mono _ _ _) rfl hx_36 rfl ?_
    refine r_ic_ge (X := a2.toInt) (Y := 0) (zW_mono _ _ _) rfl rfl (by decide +kernel) (fun z7 => ?_) (fun q => by exfalso; omega)
    refine r_push (zW_mono _ _ _) rfl ?_
    refine r_nret (zW_mono _ _ _) rfl rfl rfl ?_
    refine r_astoreN (zW_mono _ _ _) rfl (Nat.le_of_ble_eq_true rfl) ?_
    refine r_aload (zW_mono _ _ _) rfl rfl ?_
    refine r_get (zW_mono _ _ _) rfl hx_0 rfl ?_
    refine r_iload (zW_mono _ _ _) rfl rfl ?_
    refine r_virt1 (zW_mono _ _ _) rfl hx_89 (Nat.le_of_ble_eq_true rfl) rfl (Nat.le_of_ble_eq_true rfl) (Nat.le_of_ble_eq_true rfl) ?_
    refine zW_in rfl (Nat.le_of_ble_eq_true rfl) ?_
    refine r_iload (zW_mono _ _ _) rfl rfl ?_
    refine r_i0_lt (X := a1.toInt) (zW_mono _ _ _) rfl rfl (fun z8 => ?_) (fun z8 => ?_)
    · refine r_push (zW_mono _ _ _) rfl ?_
      refine r_iret (zW_mono _ _ _) rfl rfl (by decide +kernel) ?_
      refine r_if_eq (zW_mono _ _ _) rfl (fun _ => ?_) (fun q => absurd q (by decide +kernel))
      refine r_push (zW_mono _ _ _) rfl ?_
      refine r_iret (zW_mono _ _ _) rfl rfl (by decide +kernel) ?_
      refine ⟨_, rfl, ⟨_, hx_111⟩, ?_⟩
      refine zW_in rfl (Nat.le_of_ble_eq_true rfl) ?_
      refine r_aload (zW_mono _ _ _) rfl rfl ?_
      refine r_iload (zW_mono _ _ _) rfl rfl ?_
      refine r_virt1 (zW_mono _ _ _) rfl hx_111 (Nat.le_of_ble_eq_true rfl) rfl (Nat.le_of_ble_eq_true rfl) (Nat.le_of_ble_eq_true rfl) ?_
      refine zW_in rfl (Nat.le_of_ble_eq_true rfl) ?_
      refine r_iload (zW_mono _ _ _) rfl rfl ?_
      refine r_i2l (zW_mono _ _ _) rfl ?_
      refine r_push (zW_mono _ _ _) rfl ?_
      refine r_aload (zW_mono _ _ _) rfl rfl ?_
      refine r_get (zW_mono _ _ _) rfl hx_111 rfl ?_
      refine r_push (zW_mono _ _ _) rfl ?_
      refine r_isub (zW_mono _ _ _) rfl ?_
      refine r_i2l (zW_mono _ _ _) rfl ?_
      refine r_stat3 (zW_mono _ _ _) rfl (Nat.le_of_ble_eq_true rfl) rfl (Nat.le_of_ble_eq_true rfl) (Nat.le_of_ble_eq_true rfl) ?_
      refine zW_in rfl (Nat.le_of_ble_eq_true rfl) ?_
      refine r_lload (zW_mono _ _ _) rfl rfl ?_
      refine r_lload (zW_mono _ _ _) rfl rfl ?_
      refine r_lc_lt (X := a1.toInt) (Y := 0) (zW_mono _ _ _) rfl rfl (zi64 _) (by decide +kernel) (fun z9 => ?_) (fun q => by exfalso; omega)
      refine r_push (zW_mono _ _ _) rfl ?_
      refine r_iret (zW_mono _ _ _) rfl rfl (by decide +kernel) ?_
      refine r_iret (zW_mono _ _ _) rfl rfl (by decide +kernel) ?_
      refine r_if_eq (zW_mono _ _ _) rfl (fun _ => ?_) (fun q => absurd q (by decide +kernel))
      refine r_push (zW_mono _ _ _) rfl ?_
      refine r_iret (zW_mono _ _ _) rfl rfl (by decide +kernel) ?_
      first | rfl | exact congrArg some (by decide +kernel)
    · refine r_iload (zW_mono _ _ _) rfl rfl ?_
      refine r_aload (zW_mono _ _ _) rfl rfl ?_
      refine r_get (zW_mono _ _ _) rfl hx_89 rfl ?_
      refine r_ic_ge (X := a1.toInt) (Y := 0) (zW_mono _ _ _) rfl rfl (by decide +kernel) (fun z10 => ?_) (fun q => by exfalso; omega)
      refine r_push (zW_mono _ _ _) rfl ?_
      refine r_iret (zW_mono _ _ _) rfl rfl (by decide +kernel) ?_
      refine r_if_eq (zW_mono _ _ _) rfl (fun _ => ?_) (fun q => absurd q (by decide +kernel))
      refine r_push (zW_mono _ _ _) rfl ?_
      refine r_iret (zW_mono _ _ _) rfl rfl (by decide +kernel) ?_
      refine ⟨_, rfl, ⟨_, hx_111⟩, ?_⟩
      refine zW_in rfl (Nat.le_of_ble_eq_true rfl) ?_
      refine r_aload (zW_mono _ _ _) rfl rfl ?_
      refine r_iload (zW_mono _ _ _) rfl rfl ?_
      refine r_virt1 (zW_mono _ _ _) rfl hx_111 (Nat.le_of_ble_eq_true rfl) rfl (Nat.le_of_ble_eq_true rfl) (Nat.le_of_ble_eq_true rfl) ?_
      refine zW_in rfl (Nat.le_of_ble_eq_true rfl) ?_
      refine r_iload (zW_mono _ _ _) rfl rfl ?_
      refine r_i2l (zW_mono _ _ _) rfl ?_
      refine r_push (zW_mono _ _ _) rfl ?_
      refine r_aload (zW_mono _ _ _) rfl rfl ?_
      refine r_get (zW_mono _ _ _) rfl hx_111 rfl ?_
      refine r_push (zW_mono _ _ _) rfl ?_
      refine r_isub (zW_mono _ _ _) rfl ?_
      refine r_i2l (zW_mono _ _ _) rfl ?_
      refine r_stat3 (zW_mono _ _ _) rfl (Nat.le_of_ble_eq_true rfl) rfl (Nat.le_of_ble_eq_true rfl) (Nat.le_of_ble_eq_true rfl) ?_
      refine zW_in rfl (Nat.le_of_ble_eq_true rfl) ?_
      refine r_lload (zW_mono _ _ _) rfl rfl ?_
      refine r_lload (zW_mono _ _ _) rfl rfl ?_
      refine r_lc_lt (X := a1.toInt) (Y := 0) (zW_mono _ _ _) rfl rfl (zi64 _) (by decide +kernel) (fun q => by exfalso; omega) (fun z11 => ?_)
      refine r_lload (zW_mono _ _ _) rfl rfl ?_
      refine r_lload (zW_mono _ _ _) rfl rfl ?_
      refine r_lc_gt (X := a1.toInt) (Y := (-1)) (zW_mono _ _ _) rfl rfl (zi64 _) (by decide +kernel) (fun z12 => ?_) (fun q => by exfalso; omega)
      refine r_push (zW_mono _ _ _) rfl ?_
      refine r_iret (zW_mono _ _ _) rfl rfl (by decide +kernel) ?_
      refine r_iret (zW_mono _ _ _) rfl rfl (by decide +kernel) ?_
      refine r_if_eq (zW_mono _ _ _) rfl (fun _ => ?_) (fun q => absurd q (by decide +kernel))
      refine r_push (zW_mono _ _ _) rfl ?_
      refine r_iret (zW_mono _ _ _) rfl rfl (by decide +kernel) ?_
      first | rfl | exact congrArg some (by decide +kernel)
