set_option maxHeartbeats 4000000 in
set_option maxRecDepth 20000 in
theorem op_left {G : zG} (hG : G.1 = zProg) (a1 a2 : Int32) : zW zTt G 12 150 [.ref 0, .int a1, .int a2] (dzH dH0) (fun w h => ∃ x : Int32, w = some (.int x) ∧ (∃ fs : List Value, h[111]? = some (.inr (12, fs))) ∧ zW zTt G 12 272 [.ref 111, .int a1, .int a2] h (fun w2 _ => w2 = some (.int x))) := by
  obtain ⟨p9, t9⟩ := G
  have hG : p9 = zProg := hG
  subst hG
  refine zW_in rfl (Nat.le_of_ble_eq_true rfl) ?_
  refine r_aload (zW_mono _ _ _) rfl rfl ?_
  refine r_get (zW_mono _ _ _) rfl hx_0 rfl ?_
  refine r_iload (zW_mono _ _ _) rfl rfl ?_
  refine r_virt1 (zW_mono _ _ _) rfl hx_89 (Nat.le_of_ble_eq_true rfl) rfl (Nat.le_of_ble_eq_true rfl) (Nat.le_of_ble_eq_true rfl) ?_
  refine zW_in rfl (Nat.le_of_ble_eq_true rfl) ?_
  refine r_iload (zW_mono _ _ _) rfl rfl ?_
  refine r_i0_lt (X := a1.toInt) (zW_mono _ _ _) rfl rfl (fun z1 => ?_) (fun z1 => ?_)
  · refine r_push (zW_mono _ _ _) rfl ?_
    refine r_iret (zW_mono _ _ _) rfl rfl (by decide +kernel) ?_
    refine r_if_ne (zW_mono _ _ _) rfl (fun q => absurd q (by decide +kernel)) (fun _ => ?_)
    refine r_push (zW_mono _ _ _) rfl ?_
    refine r_iret (zW_mono _ _ _) rfl rfl rfl ?_
    refine ⟨_, rfl, ⟨_, hx_111⟩, ?_⟩
    refine zW_in rfl (Nat.le_of_ble_eq_true rfl) ?_
    refine r_aload (zW_mono _ _ _) rfl rfl ?_
    refine r_iload (zW_mono _ _ _) rfl rfl ?_
    refine r_virt1 (zW_mono _ _ _) rfl hx_111 (Nat.le_of_ble_eq_true rfl) rfl (Nat.le_of_ble_eq_true rfl) (Nat.le_of_ble_eq_true rfl) ?_
    refine zW_in rfl (Nat.le_of_ble_eq_true rfl) ?_
    refine r_iload (zW_mono _ _ _) rfl rfl ?_
    refine r_i2l (zW_mono _ _ _) rfl ?_
    refine r_push (zW_mono _ _ _) rfl ?_
    refine r_aload (zW_mono _ _ _) rfl rfl ?_
    refine r_get (zW_mono _ _ _) rfl hx_111 rfl ?_
    refine r_push (zW_mono _ _ _) rfl ?_
    refine r_isub (zW_mono _ _ _) rfl ?_
    refine r_i2l (zW_mono _ _ _) rfl ?_
    refine r_stat3 (zW_mono _ _ _) rfl (Nat.le_of_ble_eq_true rfl) rfl (Nat.le_of_ble_eq_true rfl) (Nat.le_of_ble_eq_true rfl) ?_
    refine zW_in rfl (Nat.le_of_ble_eq_true rfl) ?_
    refine r_lload (zW_mono _ _ _) rfl rfl ?_
    refine r_lload (zW_mono _ _ _) rfl rfl ?_
    refine r_lc_lt (X := a1.toInt) (Y := 0) (zW_mono _ _ _) rfl rfl (zi64 _) (by decide +kernel) (fun z2 => ?_) (fun q => by exfalso; omega)
    refine r_push (zW_mono _ _ _) rfl ?_
    refine r_iret (zW_mono _ _ _) rfl rfl (by decide +kernel) ?_
    refine r_iret (zW_mono _ _ _) rfl rfl (by decide +kernel) ?_
    refine r_if_ne (zW_mono _ _ _) rfl (fun q => absurd q (by decide +kernel)) (fun _ => ?_)
    refine r_push (zW_mono _ _ _) rfl ?_
    refine r_iret (zW_mono _ _ _) rfl rfl rfl ?_
    first | rfl | exact congrArg some (by decide +kernel)
  · refine r_iload (zW_mono _ _ _) rfl rfl ?_
    refine r_aload (zW_mono _ _ _) rfl rfl ?_
    refine r_get (zW_mono _ _ _) rfl hx_89 rfl ?_
    refine r_ic_ge (X := a1.toInt) (Y := 0) (zW_mono _ _ _) rfl rfl (by decide +kernel) (fun z3 => ?_) (fun q => by exfalso; omega)
    refine r_push (zW_mono _ _ _) rfl ?_
    refine r_iret (zW_mono _ _ _) rfl rfl (by decide +kernel) ?_
    refine r_if_ne (zW_mono _ _ _) rfl (fun q => absurd q (by decide +kernel)) (fun _ => ?_)
    refine r_push (zW_mono _ _ _) rfl ?_
    refine r_iret (zW_mono _ _ _) rfl rfl rfl ?_
    refine ⟨_, rfl, ⟨_, hx_111⟩, ?_⟩
    refine zW_in rfl (Nat.le_of_ble_eq_true rfl) ?_
    refine r_aload (zW_mono _ _ _) rfl rfl ?_
    refine r_iload (zW_mono _ _ _) rfl rfl ?_
    refine r_virt1 (zW_mono _ _ _) rfl hx_111 (Nat.le_of_ble_eq_true rfl) rfl (Nat.le_of_ble_eq_true rfl) (Nat.le_of_ble_eq_true rfl) ?_
    refine zW_in rfl (Nat.le_of_ble_eq_true rfl) ?_
    refine r_iload (zW_mono _ _ _) rfl rfl ?_
    refine r_i2l (zW_mono _ _ _) rfl ?_
    refine r_push (zW_mono _ _ _) rfl ?_
    refine r_aload (zW_mono _ _ _) rfl rfl ?_
    refine r_get (zW_mono _ _ _) rfl hx_111 rfl ?_
    refine r_push (zW_mono _ _ _) rfl ?_
    refine r_isub (zW_mono _ _ _) rfl ?_
    refine r_i2l (zW_mono _ _ _) rfl ?_
    refine r_stat3 (zW_mono _ _ _) rfl (Nat.le_of_ble_eq_true rfl) rfl (Nat.le_of_ble_eq_true rfl) (Nat.le_of_ble_eq_true rfl) ?_
    refine zW_in rfl (Nat.le_of_ble_eq_true rfl) ?_
    refine r_lload (zW_mono _ _ _) rfl rfl ?_
    refine r_lload (zW_mono _ _ _) rfl rfl ?_
    refine r_lc_lt (X := a1.toInt) (Y := 0) (zW_mono _ _ _) rfl rfl (zi64 _) (by decide +kernel) (fun q => by exfalso; omega) (fun z4 => ?_)
    refine r_lload (zW_mono _ _ _) rfl rfl ?_
    refine r_lload (zW_mono _ _ _) rfl rfl ?_
    refine r_lc_gt (X := a1.toInt) (Y := (-1)) (zW_mono _ _ _) rfl rfl (zi64 _) (by decide +kernel) (fun z5 => ?_) (fun q => by exfalso; omega)
    refine r_push (zW_mono _ _ _) rfl ?_
    refine r_iret (zW_mono _ _ _) rfl rfl (by decide +kernel) ?_
    refine r_iret (zW_mono _ _ _) rfl rfl (by decide +kernel) ?_
    refine r_if_ne (zW_mono _ _ _) rfl (fun q => absurd q (by decide +kernel)) (fun _ => ?_)
    refine r_push (zW_mono _ _ _) rfl ?_
    refine r_iret (zW_mono _ _ _) rfl rfl rfl ?_
    first | rfl | exact congrArg some (by decide +kernel)
set_option maxHeartbeats 4000000 in
set_option maxRecDepth 20000 in
theorem op_moves {G : zG} (hG : G.1 = zProg) (a1 a2 : Int32) : zW zTt G 12 151 [.ref 0, .int a1, .int a2] (dzH dH0) (fun w h => ∃ x : Int32, w = some (.int x) ∧ (∃ fs : List Value, h[111]? = some (.inr (12, fs))) ∧ zW zTt G 12 273 [.ref 111, .int a1, .int a2] h (fun w2 _ => w2 = some (.int x))) := by
  obtain ⟨p9, t9⟩ := G
  have hG : p9 = zProg := hG
  subst hG
  refine zW_in rfl (Nat.le_of_ble_eq_true rfl) ?_
  refine r_aload (zW_mono _ _ _) rfl rfl ?_
  refine r_get (zW_mono _ _ _) rfl hx_0 rfl ?_
  refine r_iload (zW_mono _ _ _) rfl rfl ?_
  refine r_virt1 (zW_mono _ _ _) rfl hx_36 (Nat.le_of_ble_eq_true rfl) rfl (Nat.le_of_ble_eq_true rfl) (Nat.le_of_ble_eq_true rfl) ?_
  refine zW_in rfl (Nat.le_of_ble_eq_true rfl) ?_
  refine r_iload (zW_mono _ _ _) rfl rfl ?_
  refine r_i0_lt (X := a1.toInt) (zW_mono _ _ _) rfl rfl (fun z1 => ?_) (fun z1 => ?_)
  · refine r_push (zW_mono _ _ _) rfl ?_
    refine r_iret (zW_mono _ _ _) rfl rfl (by decide +kernel) ?_
    refine r_if_eq (zW_mono _ _ _) rfl (fun _ => ?_) (fun q => absurd q (by decide +kernel))
    refine r_push (zW_mono _ _ _) rfl ?_
    refine r_iret (zW_mono _ _ _) rfl rfl (by decide +kernel) ?_
    refine ⟨_, rfl, ⟨_, hx_111⟩, ?_⟩
    refine zW_in rfl (Nat.le_of_ble_eq_true rfl) ?_
    refine r_aload (zW_mono _ _ _) rfl rfl ?_
    refine r_iload (zW_mono _ _ _) rfl rfl ?_
    refine r_virt1 (zW_mono _ _ _) rfl hx_111 (Nat.le_of_ble_eq_true rfl) rfl (Nat.le_of_ble_eq_true rfl) (Nat.le_of_ble_eq_true rfl) ?_
    refine zW_in rfl (Nat.le_of_ble_eq_true rfl) ?_
    refine r_iload (zW_mono _ _ _) rfl rfl ?_
    refine r_i2l (zW_mono _ _ _) rfl ?_
    refine r_push (zW_mono _ _ _) rfl ?_
    refine r_aload (zW_mono _ _ _) rfl rfl ?_
    refine r_get (zW_mono _ _ _) rfl hx_111 rfl ?_
    refine r_push (zW_mono _ _ _) rfl ?_
    refine r_isub (zW_mono _ _ _) rfl ?_
    refine r_i2l (zW_mono _ _ _) rfl ?_
    refine r_stat3 (zW_mono _ _ _) rfl (Nat.le_of_ble_eq_true rfl) rfl (Nat.le_of_ble_eq_true rfl) (Nat.le_of_ble_eq_true rfl) ?_
    refine zW_in rfl (Nat.le_of_ble_eq_true rfl) ?_
    refine r_lload (zW_mono _ _ _) rfl rfl ?_
    refine r_lload (zW_mono _ _ _) rfl rfl ?_
    refine r_lc_lt (X := a1.toInt) (Y := 0) (zW_mono _ _ _) rfl rfl (zi64 _) (by decide +kernel) (fun z2 => ?_) (fun q => by exfalso; omega)
    refine r_push (zW_mono _ _ _) rfl ?_
    refine r_iret (zW_mono _ _ _) rfl rfl (by decide +kernel) ?_
    refine r_iret (zW_mono _ _ _) rfl rfl (by decide +kernel) ?_
    refine r_if_eq (zW_mono _ _ _) rfl (fun _ => ?_) (fun q => absurd q (by decide +kernel))
    refine r_push (zW_mono _ _ _) rfl ?_
    refine r_iret (zW_mono _ _ _) rfl rfl (by decide +kernel) ?_
    first | rfl | exact congrArg some (by decide +kernel)
  · refine r_iload (zW_mono _ _ _) rfl rfl ?_
    refine r_aload (zW_mono _ _ _) rfl rfl ?_
    refine r_get (zW_mono _ _ _) rfl hx_36 rfl ?_
    refine r_ic_ge (X := a1.toInt) (Y := 0) (zW_mono _ _ _) rfl rfl (by decide +kernel) (fun z3 => ?_) (fun q => by exfalso; omega)
    refine r_push (zW_mono _ _ _) rfl ?_
    refine r_iret (zW_mono _ _ _) rfl rfl (by decide +kernel) ?_
    refine r_if_eq (zW_mono _ _ _) rfl (fun _ => ?_) (fun q => absurd q (by decide +kernel))
    refine r_push (zW_mono _ _ _) rfl ?_
    refine r_iret (zW_mono _ _ _) rfl rfl (by decide +kernel) ?_
    refine ⟨_, rfl, ⟨_, hx_111⟩, ?_⟩
    refine zW_in rfl (Nat.le_of_ble_eq_true rfl) ?_
    refine r_aload (zW_mono _ _ _) rfl rfl ?_
    refine r_iload (zW_mono _ _ _) rfl rfl ?_
    refine r_virt1 (zW_mono _ _ _) rfl hx_111 (Nat.le_of_ble_eq_true rfl) rfl (Nat.le_of_ble_eq_true rfl) (Nat.le_of_ble_eq_true rfl) ?_
    refine zW_in rfl (Nat.le_of_ble_eq_true rfl) ?_
    refine r_iload (zW_mono _ _ _) rfl rfl ?_
    refine r_i2l (zW_mono _ _ _) rfl ?_
    refine r_push (zW_mono _ _ _) rfl ?_
    refine r_aload (zW_mono _ _ _) rfl rfl ?_
    refine r_get (zW_mono _ _ _) rfl hx_111 rfl ?_
    refine r_push (zW_mono _ _ _) rfl ?_
    refine r_isub (zW_mono _ _ _) rfl ?_
    refine r_i2l (zW_mono _ _ _) rfl ?_
    refine r_stat3 (zW_mono _ _ _) rfl (Nat.le_of_ble_eq_true rfl) rfl (Nat.le_of_ble_eq_true rfl) (Nat.le_of_ble_eq_true rfl) ?_
    refine zW_in rfl (Nat.le_of_ble_eq_true rfl) ?_
    refine r_lload (zW_mono _ _ _) rfl rfl ?_
    refine r_lload (zW_mono _ _ _) rfl rfl ?_
    refine r_lc_lt (X := a1.toInt) (Y := 0) (zW_mono _ _ _) rfl rfl (zi64 _) (by decide +kernel) (fun q => by exfalso; omega) (fun z4 => ?_)
    refine r_lload (zW_mono _ _ _) rfl rfl ?_
    refine r_lload (zW_mono _ _ _) rfl rfl ?_
    refine r_lc_gt (X := a1.toInt) (Y := (-1)) (zW_mono _ _ _) rfl rfl (zi64 _) (by decide +kernel) (fun z5 => ?_) (fun q => by exfalso; omega)
    refine r_push (zW_mono _ _ _) rfl ?_
    refine r_iret (zW_mono _ _ _) rfl rfl (by decide +kernel) ?_
    refine r_iret (zW_mono _ _ _) rfl rfl (by decide +kernel) ?_
    refine r_if_eq (zW_mono _ _ _) rfl (fun _ => ?_) (fun q => absurd q (by decide +kernel))
    refine r_push (zW_mono _ _ _) rfl ?_
    refine r_iret (zW_mono _ _ _) rfl rfl (by decide +kernel) ?_
    first | rfl | exact congrArg some (by decide +kernel)
set_option maxHeartbeats 4000000 in
set_option maxRecDepth 20000 in
theorem op_jury {G : zG} (hG : G.1 = zProg) (a1 : Int32) : zW zTt G 12 152 [.ref 0, .int a1] (dzH dH0) (fun w h => ∃ x : Int64, w = some (.long x) ∧ (∃ fs : List Value, h[111]? = some (.inr (12, fs))) ∧ zW zTt G 12 274 [.ref 111, .int a1] h (fun w2 _ => w2 = some (.long x))) := by
  obtain ⟨p9, t9⟩ := G
  have hG : p9 = zProg := hG
  subst hG
  refine zW_in rfl (Nat.le_of_ble_eq_true rfl) ?_
  refine r_aload (zW_mono _ _ _) rfl rfl ?_
  refine r_get (zW_mono _ _ _) rfl hx_0 rfl ?_
  refine r_iload (zW_mono _ _ _) rfl rfl ?_
  refine r_virt1 (zW_mono _ _ _) rfl hx_63 (Nat.le_of_ble_eq_true rfl) rfl (Nat.le_of_ble_eq_true rfl) (Nat.le_of_ble_eq_true rfl) ?_
  refine zW_in rfl (Nat.le_of_ble_eq_true rfl) ?_
  refine r_iload (zW_mono _ _ _) rfl rfl ?_
  refine r_i0_lt (X := a1.toInt) (zW_mono _ _ _) rfl rfl (fun z1 => ?_) (fun z1 => ?_)
  · refine r_push (zW_mono _ _ _) rfl ?_
    refine r_iret (zW_mono _ _ _) rfl rfl (by decide +kernel) ?_
    refine r_if_eq (zW_mono _ _ _) rfl (fun _ => ?_) (fun q => absurd q (by decide +kernel))
    refine r_push (zW_mono _ _ _) rfl ?_
    refine r_lret (zW_mono _ _ _) rfl rfl ?_
    refine ⟨_, rfl, ⟨_, hx_111⟩, ?_⟩
    refine zW_in rfl (Nat.le_of_ble_eq_true rfl) ?_
    refine r_iload (zW_mono _ _ _) rfl rfl ?_
    refine r_i2l (zW_mono _ _ _) rfl ?_
    refine r_push (zW_mono _ _ _) rfl ?_
    refine r_aload (zW_mono _ _ _) rfl rfl ?_
    refine r_get (zW_mono _ _ _) rfl hx_111 rfl ?_
    refine r_push (zW_mono _ _ _) rfl ?_
    refine r_isub (zW_mono _ _ _) rfl ?_
    refine r_i2l (zW_mono _ _ _) rfl ?_
    refine r_stat3 (zW_mono _ _ _) rfl (Nat.le_of_ble_eq_true rfl) rfl (Nat.le_of_ble_eq_true rfl) (Nat.le_of_ble_eq_true rfl) ?_
    refine zW_in rfl (Nat.le_of_ble_eq_true rfl) ?_
    refine r_lload (zW_mono _ _ _) rfl rfl ?_
    refine r_lload (zW_mono _ _ _) rfl rfl ?_
    refine r_lc_lt (X := a1.toInt) (Y := 0) (zW_mono _ _ _) rfl rfl (zi64 _) (by decide +kernel) (fun z2 => ?_) (fun q => by exfalso; omega)
    refine r_push (zW_mono _ _ _) rfl ?_
    refine r_iret (zW_mono _ _ _) rfl rfl (by decide +kernel) ?_
    refine r_if_eq (zW_mono _ _ _) rfl (fun _ => ?_) (fun q => absurd q (by decide +kernel))
    refine r_push (zW_mono _ _ _) rfl ?_
    refine r_lret (zW_mono _ _ _) rfl rfl ?_
    first | rfl | exact congrArg some (by decide +kernel)
  · refine r_iload (zW_mono _ _ _) rfl rfl ?_
    refine r_aload (zW_mono _ _ _) rfl rfl ?_
    refine r_get (zW_mono _ _ _) rfl hx_63 rfl ?_
    refine r_ic_ge (X := a1.toInt) (Y := 0) (zW_mono _ _ _) rfl rfl (by decide +kernel) (fun z3 => ?_) (fun q => by exfalso; omega)
    refine r_push (zW_mono _ _ _) rfl ?_
    refine r_iret (zW_mono _ _ _) rfl rfl (by decide +kernel) ?_
    refine r_if_eq (zW_mono _ _ _) rfl (fun _ => ?_) (fun q => absurd q (by decide +kernel))
    refine r_push (zW_mono _ _ _) rfl ?_
    refine r_lret (zW_mono _ _ _) rfl rfl ?_
    refine ⟨_, rfl, ⟨_, hx_111⟩, ?_⟩
    refine zW_in rfl (Nat.le_of_ble_eq_true rfl) ?_
    refine r_iload (zW_mono _ _ _) rfl rfl ?_
    refine r_i2l (zW_mono _ _ _) rfl ?_
    refine r_push (zW_mono _ _ _) rfl ?_
    refine r_aload (zW_mono _ _ _) rfl rfl ?_
    refine r_get (zW_mono _ _ _) rfl hx_111 rfl ?_
    refine r_push (zW_mono _ _ _) rfl ?_
    refine r_isub (zW_mono _ _ _) rfl ?_
    refine r_i2l (zW_mono _ _ _) rfl ?_
    refine r_stat3 (zW_mono _ _ _) rfl (Nat.le_of_ble_eq_true rfl) rfl (Nat.le_of_ble_eq_true rfl) (Nat.le_of_ble_eq_true rfl) ?_
    refine zW_in rfl (Nat.le_of_ble_eq_true rfl) ?_
    refine r_lload (zW_mono _ _ _) rfl rfl ?_
    refine r_lload (zW_mono _ _ _) rfl rfl ?_
    refine r_lc_lt (X := a1.toInt) (Y := 0) (zW_mono _ _ _) rfl rfl (zi64 _) (by decide +kernel) (fun q => by exfalso; omega) (fun z4 => ?_)
    refine r_lload (zW_mono _ _ _) rfl rfl ?_
    refine r_lload (zW_mono _ _ _) rfl rfl ?_
    refine r_lc_gt (X := a1.toInt) (Y := (-1)) (zW_mono _ _ _) rfl rfl (zi64 _) (by decide +kernel) (fun z5 => ?_) (fun q => by exfalso; omega)
    refine r_push (zW_mono _ _ _) rfl ?_
    refine r_iret (zW_mono _ _ _) rfl rfl (by decide +kernel) ?_
    refine r_if_eq (zW_mono _ _ _) rfl (fun _ => ?_) (fun q => absurd q (by decide +kernel))
    refine r_push (zW_mono _ _ _) rfl ?_
    refine r_lret (zW_mono _ _ _) rfl rfl ?_
    first | rfl | exact congrArg some (by decide +kernel)
set_option maxHeartbeats 4000000 in
set_option maxRecDepth 20000 in
theorem op_saver {G : zG} (hG : G.1 = zProg) (a1 a2 : Int32) : zW zTt G 12 153 [.ref 0, .int a1, .int a2] (dzH dH0) (fun w h => ∃ x : Int32, w = some (.int x) ∧ (∃ fs : List Value, h[111]? = some (.inr (12, fs))) ∧ zW zTt G 12 275 [.ref 111, .int a1, .int a2] h (fun w2 _ => w2 = some (.int x))) := by
  obtain ⟨p9, t9⟩ := G
  have hG : p9 = zProg := hG
  subst hG
  refine zW_in rfl (Nat.le_of_ble_eq_true rfl) ?_
  refine r_iload (zW_mono _ _ _) rfl rfl ?_
  refine r_push (zW_mono _ _ _) rfl ?_
  refine r_push (zW_mono _ _ _) rfl ?_
  refine r_stat3 (zW_mono _ _ _) rfl (Nat.le_of_ble_eq_true rfl) rfl (Nat.le_of_ble_eq_true rfl) (Nat.le_of_ble_eq_true rfl) ?_
  refine zW_in rfl (Nat.le_of_ble_eq_true rfl) ?_
  refine r_iload (zW_mono _ _ _) rfl rfl ?_
  refine r_iload (zW_mono _ _ _) rfl rfl ?_
  refine r_ic_lt (X := a1.toInt) (Y := 0) (zW_mono _ _ _) rfl rfl (by decide +kernel) (fun z1 => ?_) (fun z1 => ?_)
  · refine r_push (zW_mono _ _ _) rfl ?_
    refine r_iret (zW_mono _ _ _) rfl rfl (by decide +kernel) ?_
    refine r_if_eq (zW_mono _ _ _) rfl (fun _ => ?_) (fun q => absurd q (by decide +kernel))
    refine r_push (zW_mono _ _ _) rfl ?_
    refine r_iret (zW_mono _ _ _) rfl rfl rfl ?_
    refine ⟨_, rfl, ⟨_, hx_111⟩, ?_⟩
    refine zW_in rfl (Nat.le_of_ble_eq_true rfl) ?_
    refine r_aload (zW_mono _ _ _) rfl rfl ?_
    refine r_get (zW_mono _ _ _) rfl hx_111 rfl ?_
    refine r_push (zW_mono _ _ _) rfl ?_
    refine r_icmp_eq (zW_mono _ _ _) rfl (fun q => absurd q (by decide +kernel)) (fun _ => ?_)
    refine r_iload (zW_mono _ _ _) rfl rfl ?_
    refine r_i2l (zW_mono _ _ _) rfl ?_
    refine r_push (zW_mono _ _ _) rfl ?_
    refine r_push (zW_mono _ _ _) rfl ?_
    refine r_stat3 (zW_mono _ _ _) rfl (Nat.le_of_ble_eq_true rfl) rfl (Nat.le_of_ble_eq_true rfl) (Nat.le_of_ble_eq_true rfl) ?_
    refine zW_in rfl (Nat.le_of_ble_eq_true rfl) ?_
    refine r_lload (zW_mono _ _ _) rfl rfl ?_
    refine r_lload (zW_mono _ _ _) rfl rfl ?_
    refine r_lc_lt (X := a1.toInt) (Y := 0) (zW_mono _ _ _) rfl rfl (zi64 _) (by decide +kernel) (fun z2 => ?_) (fun q => by exfalso; omega)
    refine r_push (zW_mono _ _ _) rfl ?_
    refine r_iret (zW_mono _ _ _) rfl rfl (by decide +kernel) ?_
    refine r_if_eq (zW_mono _ _ _) rfl (fun _ => ?_) (fun q => absurd q (by decide +kernel))
    refine r_push (zW_mono _ _ _) rfl ?_
    refine r_iret (zW_mono _ _ _) rfl rfl rfl ?_
    first | rfl | exact congrArg some (by decide +kernel)
  · refine r_iload (zW_mono _ _ _) rfl rfl ?_
    refine r_iload (zW_mono _ _ _) rfl rfl ?_
    refine r_ic_gt (X := a1.toInt) (Y := 99999) (zW_mono _ _ _) rfl rfl (by decide +kernel) (fun z3 => ?_) (fun z3 => ?_)
    · refine r_push (zW_mono _ _ _) rfl ?_
      refine r_iret (zW_mono _ _ _) rfl rfl (by decide +kernel) ?_
      refine r_if_eq (zW_mono _ _ _) rfl (fun _ => ?_) (fun q => absurd q (by decide +kernel))
      refine r_push (zW_mono _ _ _) rfl ?_
      refine r_iret (zW_mono _ _ _) rfl rfl rfl ?_
      refine ⟨_, rfl, ⟨_, hx_111⟩, ?_⟩
      refine zW_in rfl (Nat.le_of_ble_eq_true rfl) ?_
      refine r_aload (zW_mono _ _ _) rfl rfl ?_
      refine r_get (zW_mono _ _ _) rfl hx_111 rfl ?_
      refine r_push (zW_mono _ _ _) rfl ?_
      refine r_icmp_eq (zW_mono _ _ _) rfl (fun q => absurd q (by decide +kernel)) (fun _ => ?_)
      refine r_iload (zW_mono _ _ _) rfl rfl ?_
      refine r_i2l (zW_mono _ _ _) rfl ?_
      refine r_push (zW_mono _ _ _) rfl ?_
      refine r_push (zW_mono _ _ _) rfl ?_
      refine r_stat3 (zW_mono _ _ _) rfl (Nat.le_of_ble_eq_true rfl) rfl (Nat.le_of_ble_eq_true rfl) (Nat.le_of_ble_eq_true rfl) ?_
      refine zW_in rfl (Nat.le_of_ble_eq_true rfl) ?_
      refine r_lload (zW_mono _ _ _) rfl rfl ?_
      refine r_lload (zW_mono _ _ _) rfl rfl ?_
      refine r_lc_lt (X := a1.toInt) (Y := 0) (zW_mono _ _ _) rfl rfl (zi64 _) (by decide +kernel) (fun q => by exfalso; omega) (fun z4 => ?_)
      refine r_lload (zW_mono _ _ _) rfl rfl ?_
      refine r_lload (zW_mono _ _ _) rfl rfl ?_
      refine r_lc_gt (X := a1.toInt) (Y := 99999) (zW_mono _ _ _) rfl rfl (zi64 _) (by decide +kernel) (fun z5 => ?_) (fun q => by exfalso; omega)
      refine r_push (zW_mono _ _ _) rfl ?_
      refine r_iret (zW_mono _ _ _) rfl rfl (by decide +kernel) ?_
      refine r_if_eq (zW_mono _ _ _) rfl (fun _ => ?_) (fun q => absurd q (by decide +kernel))
      refine r_push (zW_mono _ _ _) rfl ?_
      refine r_iret (zW_mono _ _ _) rfl rfl rfl ?_
      first | rfl | exact congrArg some (by decide +kernel)
    · refine r_push (zW_mono _ _ _) rfl ?_
      refine r_goto (zW_mono _ _ _) rfl ?_
      refine r_iret (zW_mono _ _ _) rfl rfl (by decide +kernel) ?_
      refine r_if_eq (zW_mono _ _ _) rfl (fun q => absurd q (by decide +kernel)) (fun _ => ?_)
      refine r_iload (zW_mono _ _ _) rfl rfl ?_
      refine r_push (zW_mono _ _ _) rfl ?_
      refine r_push (zW_mono _ _ _) rfl ?_
      refine r_stat3 (zW_mono _ _ _) rfl (Nat.le_of_ble_eq_true rfl) rfl (Nat.le_of_ble_eq_true rfl) (Nat.le_of_ble_eq_true rfl) ?_
      refine zW_in rfl (Nat.le_of_ble_eq_true rfl) ?_
      refine r_iload (zW_mono _ _ _) rfl rfl ?_
      refine r_iload (zW_mono _ _ _) rfl rfl ?_
      refine r_ic_lt (X := a2.toInt) (Y := 0) (zW_mono _ _ _) rfl rfl (by decide +kernel) (fun z6 => ?_) (fun z6 => ?_)
      · refine r_push (zW_mono _ _ _) rfl ?_
        refine r_iret (zW_mono _ _ _) rfl rfl (by decide +kernel) ?_
        refine r_if_eq (zW_mono _ _ _) rfl (fun _ => ?_) (fun q => absurd q (by decide +kernel))
        refine r_push (zW_mono _ _ _) rfl ?_
        refine r_iret (zW_mono _ _ _) rfl rfl rfl ?_
        refine ⟨_, rfl, ⟨_, hx_111⟩, ?_⟩
        refine zW_in rfl (Nat.le_of_ble_eq_true rfl) ?_
        refine r_aload (zW_mono _ _ _) rfl rfl ?_
        refine r_get (zW_mono _ _ _) rfl hx_111 rfl ?_
        refine r_push (zW_mono _ _ _) rfl ?_
        refine r_icmp_eq (zW_mono _ _ _) rfl (fun q => absurd q (by decide +kernel)) (fun _ => ?_)
        refine r_iload (zW_mono _ _ _) rfl rfl ?_
        refine r_i2l (zW_mono _ _ _) rfl ?_
        refine r_push (zW_mono _ _ _) rfl ?_
        refine r_push (zW_mono _ _ _) rfl ?_
        refine r_stat3 (zW_mono _ _ _) rfl (Nat.le_of_ble_eq_true rfl) rfl (Nat.le_of_ble_eq_true rfl) (Nat.le_of_ble_eq_true rfl) ?_
        refine zW_in rfl (Nat.le_of_ble_eq_true rfl) ?_
        refine r_lload (zW_mono _ _ _) rfl rfl ?_
        refine r_lload (zW_mono _ _ _) rfl rfl ?_
        refine r_lc_lt (X := a1.toInt) (Y := 0) (zW_mono _ _ _) rfl rfl (zi64 _) (by decide +kernel) (fun q => by exfalso; omega) (fun z7 => ?_)
        refine r_lload (zW_mono _ _ _) rfl rfl ?_
        refine r_lload (zW_mono _ _ _) rfl rfl ?_
        refine r_lc_gt (X := a1.toInt) (Y := 99999) (zW_mono _ _ _) rfl rfl (zi64 _) (by decide +kernel) (fun q => by exfalso; omega) (fun z8 => ?_)
        refine r_push (zW_mono _ _ _) rfl ?_
        refine r_goto (zW_mono _ _ _) rfl ?_
        refine r_iret (zW_mono _ _ _) rfl rfl (by decide +kernel) ?_
        refine r_if_eq (zW_mono _ _ _) rfl (fun q => absurd q (by decide +kernel)) (fun _ => ?_)
        refine r_iload (zW_mono _ _ _) rfl rfl ?_
        refine r_i2l (zW_mono _ _ _) rfl ?_
        refine r_push (zW_mono _ _ _) rfl ?_
        refine r_push (zW_mono _ _ _) rfl ?_
        refine r_stat3 (zW_mono _ _ _) rfl (Nat.le_of_ble_eq_true rfl) rfl (Nat.le_of_ble_eq_true rfl) (Nat.le_of_ble_eq_true rfl) ?_
        refine zW_in rfl (Nat.le_of_ble_eq_true rfl) ?_
        refine r_lload (zW_mono _ _ _) rfl rfl ?_
        refine r_lload (zW_mono _ _ _) rfl rfl ?_
        refine r_lc_lt (X := a2.toInt) (Y := 0) (zW_mono _ _ _) rfl rfl (zi64 _) (by decide +kernel) (fun z9 => ?_) (fun q => by exfalso; omega)
        refine r_push (zW_mono _ _ _) rfl ?_
        refine r_iret (zW_mono _ _ _) rfl rfl (by decide +kernel) ?_
        refine r_if_ne (zW_mono _ _ _) rfl (fun q => absurd q (by decide +kernel)) (fun _ => ?_)
        refine r_push (zW_mono _ _ _) rfl ?_
        refine r_iret (zW_mono _ _ _) rfl rfl rfl ?_
        first | rfl | exact congrArg some (by decide +kernel)
      · refine r_iload (zW_mono _ _ _) rfl rfl ?_
        refine r_iload (zW_mono _ _ _) rfl rfl ?_
        refine r_ic_gt (X := a2.toInt) (Y := 999) (zW_mono _ _ _) rfl rfl (by decide +kernel) (fun z10 => ?_) (fun z10 => ?_)
        · refine r_push (zW_mono _ _ _) rfl ?_
          refine r_iret (zW_mono _ _ _) rfl rfl (by decide +kernel) ?_
          refine r_if_eq (zW_mono _ _ _) rfl (fun _ => ?_) (fun q => absurd q (by decide +kernel))
          refine r_push (zW_mono _ _ _) rfl ?_
          refine r_iret (zW_mono _ _ _) rfl rfl rfl ?_
          refine ⟨_, rfl, ⟨_, hx_111⟩, ?_⟩
          refine zW_in rfl (Nat.le_of_ble_eq_true rfl) ?_
          refine r_aload (zW_mono _ _ _) rfl rfl ?_
          refine r_get (zW_mono _ _ _) rfl hx_111 rfl ?_
          refine r_push (zW_mono _ _ _) rfl ?_
          refine r_icmp_eq (zW_mono _ _ _) rfl (fun q => absurd q (by decide +kernel)) (fun _ => ?_)
          refine r_iload (zW_mono _ _ _) rfl rfl ?_
          refine r_i2l (zW_mono _ _ _) rfl ?_
          refine r_push (zW_mono _ _ _) rfl ?_
          refine r_push (zW_mono _ _ _) rfl ?_
          refine r_stat3 (zW_mono _ _ _) rfl (Nat.le_of_ble_eq_true rfl) rfl (Nat.le_of_ble_eq_true rfl) (Nat.le_of_ble_eq_true rfl) ?_
          refine zW_in rfl (Nat.le_of_ble_eq_true rfl) ?_
          refine r_lload (zW_mono _ _ _) rfl rfl ?_
          refine r_lload (zW_mono _ _ _) rfl rfl ?_
          refine r_lc_lt (X := a1.toInt) (Y := 0) (zW_mono _ _ _) rfl rfl (zi64 _) (by decide +kernel) (fun q => by exfalso; omega) (fun z11 => ?_)
          refine r_lload (zW_mono _ _ _) rfl rfl ?_
          refine r_lload (zW_mono _ _ _) rfl rfl ?_
          refine r_lc_gt (X := a1.toInt) (Y := 99999) (zW_mono _ _ _) rfl rfl (zi64 _) (by decide +kernel) (fun q => by exfalso; omega) (fun z12 => ?_)
          refine r_push (zW_mono _ _ _) rfl ?_
          refine r_goto (zW_mono _ _ _) rfl ?_
          refine r_iret (zW_mono _ _ _) rfl rfl (by decide +kernel) ?_
          refine r_if_eq (zW_mono _ _ _) rfl (fun q => absurd q (by decide +kernel)) (fun _ => ?_)
          refine r_iload (zW_mono _ _ _) rfl rfl ?_
          refine r_i2l (zW_mono _ _ _) rfl ?_
          refine r_push (zW_mono _ _ _) rfl ?_
          refine r_push (zW_mono _ _ _) rfl ?_
          refine r_stat3 (zW_mono _ _ _) rfl (Nat.le_of_ble_eq_true rfl) rfl (Nat.le_of_ble_eq_true rfl) (Nat.le_of_ble_eq_true rfl) ?_
          refine zW_in rfl (Nat.le_of_ble_eq_true rfl) ?_
          refine r_lload (zW_mono _ _ _) rfl rfl ?_
          refine r_lload (zW_mono _ _ _) rfl rfl ?_
          refine r_lc_lt (X := a2.toInt) (Y := 0) (zW_mono _ _ _) rfl rfl (zi64 _) (by decide +kernel) (fun q => by exfalso; omega) (fun z13 => ?_)
          refine r_lload (zW_mono _ _ _) rfl rfl ?_
          refine r_lload (zW_mono _ _ _) rfl rfl ?_
          refine r_lc_gt (X := a2.toInt) (Y := 999) (zW_mono _ _ _) rfl rfl (zi64 _) (by decide +kernel) (fun z14 => ?_) (fun q => by exfalso; omega)
          refine r_push (zW_mono _ _ _) rfl ?_
          refine r_iret (zW_mono _ _ _) rfl rfl (by decide +kernel) ?_
          refine r_if_ne (zW_mono _ _ _) rfl (fun q => absurd q (by decide +kernel)) (fun _ => ?_)
          refine r_push (zW_mono _ _ _) rfl ?_
          refine r_iret (zW_mono _ _ _) rfl rfl rfl ?_
          first | rfl | exact congrArg some (by decide +kernel)
        · refine r_push (zW_mono _ _ _) rfl ?_
          refine r_goto (zW_mono _ _ _) rfl ?_
          refine r_iret (zW_mono _ _ _) rfl rfl (by decide +kernel) ?_
          refine r_if_eq (zW_mono _ _ _) rfl (fun q => absurd q (by decide +kernel)) (fun _ => ?_)
          refine r_aload (zW_mono _ _ _) rfl rfl ?_
          refine r_get (zW_mono _ _ _) rfl hx_0 rfl ?_
          refine r_iload (zW_mono _ _ _) rfl rfl ?_
          refine r_iload (zW_mono _ _ _) rfl rfl ?_
          refine r_virt2 (zW_mono _ _ _) rfl hx_94 (Nat.le_of_ble_eq_true rfl) rfl (Nat.le_of_ble_eq_true rfl) (Nat.le_of_ble_eq_true rfl) ?_
          refine zW_in rfl (Nat.le_of_ble_eq_true rfl) ?_
          refine r_aload (zW_mono _ _ _) rfl rfl ?_
          refine r_get (zW_mono _ _ _) rfl hx_94 rfl ?_
          refine r_push (zW_mono _ _ _) rfl ?_
          refine r_icmp_ne (zW_mono _ _ _) rfl (fun _ => ?_) (fun q => absurd q (by decide +kernel))
          refine r_aload (zW_mono _ _ _) rfl rfl ?_
          refine r_get (zW_mono _ _ _) rfl hx_94 rfl ?_
          refine r_aload (zW_mono _ _ _) rfl rfl ?_
          refine r_get (zW_mono _ _ _) rfl hx_94 rfl ?_
          refine r_iload (zW_mono _ _ _) rfl rfl ?_
          refine r_iast (zW_mono _ _ _) rfl hx_95 (vp_in_iff.mpr ⟨(by decide +kernel), (by decide +kernel)⟩) ?_
          refine zR_nm (fun h1 e1 => ?_)
          have g1 := zgs e1 hx_95
          refine r_aload (zW_mono _ _ _) rfl rfl ?_
          have f2 := (zgn e1 (by decide) hx_94)
          refine r_get (zW_mono _ _ _) rfl f2 rfl ?_
          refine r_aload (zW_mono _ _ _) rfl rfl ?_
          refine r_get (zW_mono _ _ _) rfl f2 rfl ?_
          refine r_iload (zW_mono _ _ _) rfl rfl ?_
          have f3 := (zgn e1 (by decide) hx_96)
          refine r_iast (zW_mono _ _ _) rfl f3 (vp_in_iff.mpr ⟨(by decide +kernel), (by decide +kernel)⟩) ?_
          refine zR_nm (fun h4 e4 => ?_)
          have g4 := zgs e4 f3
          refine r_aload (zW_mono _ _ _) rfl rfl ?_
          refine r_dup (zW_mono _ _ _) rfl rfl ?_
          have f5 := (zgn e4 (by decide) f2)
          refine r_get (zW_mono _ _ _) rfl f5 rfl ?_
          refine r_dup_x1 (zW_mono _ _ _) rfl rfl rfl ?_
          refine r_push (zW_mono _ _ _) rfl ?_
          refine r_iadd (zW_mono _ _ _) rfl ?_
          refine r_put (zW_mono _ _ _) rfl f5 (Nat.le_of_ble_eq_true rfl) rfl rfl rfl ?_
          refine zR_nm (fun h6 e6 => ?_)
          have g6 := zgs e6 f5
          refine r_iret (zW_mono _ _ _) rfl rfl rfl ?_
          refine r_goto (zW_mono _ _ _) rfl ?_
          refine r_iret (zW_mono _ _ _) rfl rfl rfl ?_
          have f7 := (zgn e6 (by decide) (zgn e4 (by decide) (zgn e1 (by decide) hx_111)))
          refine ⟨_, rfl, ⟨_, f7⟩, ?_⟩
          refine zW_in rfl (Nat.le_of_ble_eq_true rfl) ?_
          refine r_aload (zW_mono _ _ _) rfl rfl ?_
          refine r_get (zW_mono _ _ _) rfl f7 rfl ?_
          refine r_push (zW_mono _ _ _) rfl ?_
          refine r_icmp_eq (zW_mono _ _ _) rfl (fun q => absurd q (by decide +kernel)) (fun _ => ?_)
          refine r_iload (zW_mono _ _ _) rfl rfl ?_
          refine r_i2l (zW_mono _ _ _) rfl ?_
          refine r_push (zW_mono _ _ _) rfl ?_
          refine r_push (zW_mono _ _ _) rfl ?_
          refine r_stat3 (zW_mono _ _ _) rfl (Nat.le_of_ble_eq_true rfl) rfl (Nat.le_of_ble_eq_true rfl) (Nat.le_of_ble_eq_true rfl) ?_
          refine zW_in rfl (Nat.le_of_ble_eq_true rfl) ?_
          refine r_lload (zW_mono _ _ _) rfl rfl ?_
          refine r_lload (zW_mono _ _ _) rfl rfl ?_
          refine r_lc_lt (X := a1.toInt) (Y := 0) (zW_mono _ _ _) rfl rfl (zi64 _) (by decide +kernel) (fun q => by exfalso; omega) (fun z15 => ?_)
          refine r_lload (zW_mono _ _ _) rfl rfl ?_
          refine r_lload (zW_mono _ _ _) rfl rfl ?_
          refine r_lc_gt (X := a1.toInt) (Y := 99999) (zW_mono _ _ _) rfl rfl (zi64 _) (by decide +kernel) (fun q => by exfalso; omega) (fun z16 => ?_)
          refine r_push (zW_mono _ _ _) rfl ?_
          refine r_goto (zW_mono _ _ _) rfl ?_
          refine r_iret (zW_mono _ _ _) rfl rfl (by decide +kernel) ?_
          refine r_if_eq (zW_mono _ _ _) rfl (fun q => absurd q (by decide +kernel)) (fun _ => ?_)
          refine r_iload (zW_mono _ _ _) rfl rfl ?_
          refine r_i2l (zW_mono _ _ _) rfl ?_
          refine r_push (zW_mono _ _ _) rfl ?_
          refine r_push (zW_mono _ _ _) rfl ?_
          refine r_stat3 (zW_mono _ _ _) rfl (Nat.le_of_ble_eq_true rfl) rfl (Nat.le_of_ble_eq_true rfl) (Nat.le_of_ble_eq_true rfl) ?_
          refine zW_in rfl (Nat.le_of_ble_eq_true rfl) ?_
          refine r_lload (zW_mono _ _ _) rfl rfl ?_
          refine r_lload (zW_mono _ _ _) rfl rfl ?_
          refine r_lc_lt (X := a2.toInt) (Y := 0) (zW_mono _ _ _) rfl rfl (zi64 _) (by decide +kernel) (fun q => by exfalso; omega) (fun z17 => ?_)
          refine r_lload (zW_mono _ _ _) rfl rfl ?_
          refine r_lload (zW_mono _ _ _) rfl rfl ?_
          refine r_lc_gt (X := a2.toInt) (Y := 999) (zW_mono _ _ _) rfl rfl (zi64 _) (by decide +kernel) (fun q => by exfalso; omega) (fun z18 => ?_)
          refine r_push (zW_mono _ _ _) rfl ?_
          refine r_goto (zW_mono _ _ _) rfl ?_
          refine r_iret (zW_mono _ _ _) rfl rfl (by decide +kernel) ?_
          refine r_if_ne (zW_mono _ _ _) rfl (fun _ => ?_) (fun q => absurd q (by decide +kernel))
          refine r_aload (zW_mono _ _ _) rfl rfl ?_
          refine r_get (zW_mono _ _ _) rfl f7 rfl ?_
          refine r_aload (zW_mono _ _ _) rfl rfl ?_
          refine r_get (zW_mono _ _ _) rfl f7 rfl ?_
          refine r_iload (zW_mono _ _ _) rfl rfl ?_
          have f8 := (zgn e6 (by decide) (zgn e4 (by decide) (zgn e1 (by decide) hx_179)))
          refine r_iast (zW_mono _ _ _) rfl f8 (vp_in_iff.mpr ⟨(by decide +kernel), (by decide +kernel)⟩) ?_
          refine zR_nm (fun h9 e9 => ?_)
          have g9 := zgs e9 f8
          refine r_aload (zW_mono _ _ _) rfl rfl ?_
          have f10 := (zgn e9 (by decide) f7)
          refine r_get (zW_mono _ _ _) rfl f10 rfl ?_
          refine r_aload (zW_mono _ _ _) rfl rfl ?_
          refine r_get (zW_mono _ _ _) rfl f10 rfl ?_
          refine r_iload (zW_mono _ _ _) rfl rfl ?_
          have f11 := (zgn e9 (by decide) (zgn e6 (by decide) (zgn e4 (by decide) (zgn e1 (by decide) hx_180))))
          refine r_iast (zW_mono _ _ _) rfl f11 (vp_in_iff.mpr ⟨(by decide +kernel), (by decide +kernel)⟩) ?_
          refine zR_nm (fun h12 e12 => ?_)
          have g12 := zgs e12 f11
          refine r_aload (zW_mono _ _ _) rfl rfl ?_
          refine r_dup (zW_mono _ _ _) rfl rfl ?_
          have f13 := (zgn e12 (by decide) f10)
          refine r_get (zW_mono _ _ _) rfl f13 rfl ?_
          refine r_push (zW_mono _ _ _) rfl ?_
          refine r_iadd (zW_mono _ _ _) rfl ?_
          refine r_put (zW_mono _ _ _) rfl f13 (Nat.le_of_ble_eq_true rfl) rfl rfl rfl ?_
          refine zR_nm (fun h14 e14 => ?_)
          have g14 := zgs e14 f13
          refine r_aload (zW_mono _ _ _) rfl rfl ?_
          refine r_get (zW_mono _ _ _) rfl g14 rfl ?_
          refine r_push (zW_mono _ _ _) rfl ?_
          refine r_isub (zW_mono _ _ _) rfl ?_
          refine r_iret (zW_mono _ _ _) rfl rfl rfl ?_
          first | rfl | exact congrArg some (by decide +kernel)
set_option maxHeartbeats 4000000 in
set_option maxRecDepth 20000 in
theorem op_overlap {G : zG} (hG : G.1 = zProg) (a1 a2 a3 : Int32) : zW zTt G 12 154 [.ref 0, .int a1, .int a2, .int a3] (dzH dH0) (fun w h => ∃ x : Int32, w = some (.int x) ∧ (∃ fs : List Value, h[111]? = some (.inr (12, fs))) ∧ zW zTt G 12 276 [.ref 111, .int a1, .int a2, .int a3] h (fun w2 _ => w2 = some (.int x))) := by
  obtain ⟨p9, t9⟩ := G
  have hG : p9 = zProg := hG
  subst hG
  refine zW_in rfl (Nat.le_of_ble_eq_true rfl) ?_
  refine r_aload (zW_mono _ _ _) rfl rfl ?_
  refine r_get (zW_mono _ _ _) rfl hx_0 rfl ?_
  refine r_iload (zW_mono _ _ _) rfl rfl ?_
  refine r_virt1 (zW_mono _ _ _) rfl hx_94 (Nat.le_of_ble_eq_true rfl) rfl (Nat.le_of_ble_eq_true rfl) (Nat.le_of_ble_eq_true rfl) ?_
  refine zW_in rfl (Nat.le_of_ble_eq_true rfl) ?_
  refine r_iload (zW_mono _ _ _) rfl rfl ?_
  refine r_i0_lt (X := a1.toInt) (zW_mono _ _ _) rfl rfl (fun z1 => ?_) (fun z1 => ?_)
  · refine r_push (zW_mono _ _ _) rfl ?_
    refine r_iret (zW_mono _ _ _) rfl rfl (by decide +kernel) ?_
    refine r_if_eq (zW_mono _ _ _) rfl (fun _ => ?_) (fun q => absurd q (by decide +kernel))
    refine r_push (zW_mono _ _ _) rfl ?_
    refine r_istore (zW_mono _ _ _) rfl (Nat.le_of_ble_eq_true rfl) ?_
    refine r_iload (zW_mono _ _ _) rfl rfl ?_
    refine r_if_eq (zW_mono _ _ _) rfl (fun _ => ?_) (fun q => absurd q (by decide +kernel))
    refine r_push (zW_mono _ _ _) rfl ?_
    refine r_iret (zW_mono _ _ _) rfl rfl rfl ?_
    refine ⟨_, rfl, ⟨_, hx_111⟩, ?_⟩
    refine zW_in rfl (Nat.le_of_ble_eq_true rfl) ?_
    refine r_iload (zW_mono _ _ _) rfl rfl ?_
    refine r_i2l (zW_mono _ _ _) rfl ?_
    refine r_push (zW_mono _ _ _) rfl ?_
    refine r_aload (zW_mono _ _ _) rfl rfl ?_
    refine r_get (zW_mono _ _ _) rfl hx_111 rfl ?_
    refine r_push (zW_mono _ _ _) rfl ?_
    refine r_isub (zW_mono _ _ _) rfl ?_
    refine r_i2l (zW_mono _ _ _) rfl ?_
    refine r_stat3 (zW_mono _ _ _) rfl (Nat.le_of_ble_eq_true rfl) rfl (Nat.le_of_ble_eq_true rfl) (Nat.le_of_ble_eq_true rfl) ?_
    refine zW_in rfl (Nat.le_of_ble_eq_true rfl) ?_
    refine r_lload (zW_mono _ _ _) rfl rfl ?_
    refine r_lload (zW_mono _ _ _) rfl rfl ?_
    refine r_lc_lt (X := a1.toInt) (Y := 0) (zW_mono _ _ _) rfl rfl (zi64 _) (by decide +kernel) (fun z2 => ?_) (fun q => by exfalso; omega)
    refine r_push (zW_mono _ _ _) rfl ?_
    refine r_iret (zW_mono _ _ _) rfl rfl (by decide +kernel) ?_
    refine r_if_eq (zW_mono _ _ _) rfl (fun _ => ?_) (fun q => absurd q (by decide +kernel))
    refine r_push (zW_mono _ _ _) rfl ?_
    refine r_iret (zW_mono _ _ _) rfl rfl rfl ?_
    first | rfl | exact congrArg some (by decide +kernel)
  · refine r_iload (zW_mono _ _ _) rfl rfl ?_
    refine r_aload (zW_mono _ _ _) rfl rfl ?_
    refine r_get (zW_mono _ _ _) rfl hx_94 rfl ?_
    refine r_ic_ge (X := a1.toInt) (Y := 0) (zW_mono _ _ _) rfl rfl (by decide +kernel) (fun z3 => ?_) (fun q => by exfalso; omega)
    refine r_push (zW_mono _ _ _) rfl ?_
    refine r_iret (zW_mono _ _ _) rfl rfl (by decide +kernel) ?_
    refine r_if_eq (zW_mono _ _ _) rfl (fun _ => ?_) (fun q => absurd q (by decide +kernel))
    refine r_push (zW_mono _ _ _) rfl ?_
    refine r_istore (zW_mono _ _ _) rfl (Nat.le_of_ble_eq_true rfl) ?_
    refine r_iload (zW_mono _ _ _) rfl rfl ?_
    refine r_if_eq (zW_mono _ _ _) rfl (fun _ => ?_) (fun q => absurd q (by decide +kernel))
    refine r_push (zW_mono _ _ _) rfl ?_
    refine r_iret (zW_mono _ _ _) rfl rfl rfl ?_
    refine ⟨_, rfl, ⟨_, hx_111⟩, ?_⟩
    refine zW_in rfl (Nat.le_of_ble_eq_true rfl) ?_
    refine r_iload (zW_mono _ _ _) rfl rfl ?_
    refine r_i2l (zW_mono _ _ _) rfl ?_
    refine r_push (zW_mono _ _ _) rfl ?_
    refine r_aload (zW_mono _ _ _) rfl rfl ?_
    refine r_get (zW_mono _ _ _) rfl hx_111 rfl ?_
    refine r_push (zW_mono _ _ _) rfl ?_
    refine r_isub (zW_mono _ _ _) rfl ?_
    refine r_i2l (zW_mono _ _ _) rfl ?_
    refine r_stat3 (zW_mono _ _ _) rfl (Nat.le_of_ble_eq_true rfl) rfl (Nat.le_of_ble_eq_true rfl) (Nat.le_of_ble_eq_true rfl) ?_
    refine zW_in rfl (Nat.le_of_ble_eq_true rfl) ?_
    refine r_lload (zW_mono _ _ _) rfl rfl ?_
    refine r_lload (zW_mono _ _ _) rfl rfl ?_
    refine r_lc_lt (X := a1.toInt) (Y := 0) (zW_mono _ _ _) rfl rfl (zi64 _) (by decide +kernel) (fun q => by exfalso; omega) (fun z4 => ?_)
    refine r_lload (zW_mono _ _ _) rfl rfl ?_
    refine r_lload (zW_mono _ _ _) rfl rfl ?_
    refine r_lc_gt (X := a1.toInt) (Y := (-1)) (zW_mono _ _ _) rfl rfl (zi64 _) (by decide +kernel) (fun z5 => ?_) (fun q => by exfalso; omega)
    refine r_push (zW_mono _ _ _) rfl ?_
    refine r_iret (zW_mono _ _ _) rfl rfl (by decide +kernel) ?_
    refine r_if_eq (zW_mono _ _ _) rfl (fun _ => ?_) (fun q => absurd q (by decide +kernel))
    refine r_push (zW_mono _ _ _) rfl ?_
    refine r_iret (zW_mono _ _ _) rfl rfl rfl ?_
    first | rfl | exact congrArg some (by decide +kernel)
set_option maxHeartbeats 4000000 in
set_option maxRecDepth 20000 in
theorem op_best {G : zG} (hG : G.1 = zProg) (a1 : Int32) : zW zTt G 12 155 [.ref 0, .int a1] (dzH dH0) (fun w h => ∃ x : Int32, w = some (.int x) ∧ (∃ fs : List Value, h[111]? = some (.inr (12, fs))) ∧ zW zTt G 12 277 [.ref 111, .int a1] h (fun w2 _ => w2 = some (.int x))) := by
  obtain ⟨p9, t9⟩ := G
  have hG : p9 = zProg := hG
  subst hG
  refine zW_in rfl (Nat.le_of_ble_eq_true rfl) ?_
  refine r_iload (zW_mono _ _ _) rfl rfl ?_
  refine r_push (zW_mono _ _ _) rfl ?_
  refine r_push (zW_mono _ _ _) rfl ?_
  refine r_stat3 (zW_mono _ _ _) rfl (Nat.le_of_ble_eq_true rfl) rfl (Nat.le_of_ble_eq_true rfl) (Nat.le_of_ble_eq_true rfl) ?_
  refine zW_in rfl (Nat.le_of_ble_eq_true rfl) ?_
  refine r_iload (zW_mono _ _ _) rfl rfl ?_
  refine r_iload (zW_mono _ _ _) rfl rfl ?_
  refine r_ic_lt (X := a1.toInt) (Y := 0) (zW_mono _ _ _) rfl rfl (by decide +kernel) (fun z1 => ?_) (fun z1 => ?_)
  · refine r_push (zW_mono _ _ _) rfl ?_
    refine r_iret (zW_mono _ _ _) rfl rfl (by decide +kernel) ?_
    refine r_if_eq (zW_mono _ _ _) rfl (fun _ => ?_) (fun q => absurd q (by decide +kernel))
    refine r_push (zW_mono _ _ _) rfl ?_
    refine r_iret (zW_mono _ _ _) rfl rfl rfl ?_
    refine ⟨_, rfl, ⟨_, hx_111⟩, ?_⟩
    refine zW_in rfl (Nat.le_of_ble_eq_true rfl) ?_
    refine r_iload (zW_mono _ _ _) rfl rfl ?_
    refine r_i2l (zW_mono _ _ _) rfl ?_
    refine r_push (zW_mono _ _ _) rfl ?_
    refine r_push (zW_mono _ _ _) rfl ?_
    refine r_stat3 (zW_mono _ _ _) rfl (Nat.le_of_ble_eq_true rfl) rfl (Nat.le_of_ble_eq_true rfl) (Nat.le_of_ble_eq_true rfl) ?_
    refine zW_in rfl (Nat.le_of_ble_eq_true rfl) ?_
    refine r_lload (zW_mono _ _ _) rfl rfl ?_
    refine r_lload (zW_mono _ _ _) rfl rfl ?_
    refine r_lc_lt (X := a1.toInt) (Y := 0) (zW_mono _ _ _) rfl rfl (zi64 _) (by decide +kernel) (fun z2 => ?_) (fun q => by exfalso; omega)
    refine r_push (zW_mono _ _ _) rfl ?_
    refine r_iret (zW_mono _ _ _) rfl rfl (by decide +kernel) ?_
    refine r_if_ne (zW_mono _ _ _) rfl (fun q => absurd q (by decide +kernel)) (fun _ => ?_)
    refine r_push (zW_mono _ _ _) rfl ?_
    refine r_iret (zW_mono _ _ _) rfl rfl rfl ?_
    first | rfl | exact congrArg some (by decide +kernel)
  · refine r_iload (zW_mono _ _ _) rfl rfl ?_
    refine r_iload (zW_mono _ _ _) rfl rfl ?_
    refine r_ic_gt (X := a1.toInt) (Y := 999999) (zW_mono _ _ _) rfl rfl (by decide +kernel) (fun z3 => ?_) (fun z3 => ?_)
    · refine r_push (zW_mono _ _ _) rfl ?_
      refine r_iret (zW_mono _ _ _) rfl rfl (by decide +kernel) ?_
      refine r_if_eq (zW_mono _ _ _) rfl (fun _ => ?_) (fun q => absurd q (by decide +kernel))
      refine r_push (zW_mono _ _ _) rfl ?_
      refine r_iret (zW_mono _ _ _) rfl rfl rfl ?_
      refine ⟨_, rfl, ⟨_, hx_111⟩, ?_⟩
      refine zW_in rfl (Nat.le_of_ble_eq_true rfl) ?_
      refine r_iload (zW_mono _ _ _) rfl rfl ?_
      refine r_i2l (zW_mono _ _ _) rfl ?_
      refine r_push (zW_mono _ _ _) rfl ?_
      refine r_push (zW_mono _ _ _) rfl ?_
      refine r_stat3 (zW_mono _ _ _) rfl (Nat.le_of_ble_eq_true rfl) rfl (Nat.le_of_ble_eq_true rfl) (Nat.le_of_ble_eq_true rfl) ?_
      refine zW_in rfl (Nat.le_of_ble_eq_true rfl) ?_
      refine r_lload (zW_mono _ _ _) rfl rfl ?_
      refine r_lload (zW_mono _ _ _) rfl rfl ?_
      refine r_lc_lt (X := a1.toInt) (Y := 0) (zW_mono _ _ _) rfl rfl (zi64 _) (by decide +kernel) (fun q => by exfalso; omega) (fun z4 => ?_)
      refine r_lload (zW_mono _ _ _) rfl rfl ?_
      refine r_lload (zW_mono _ _ _) rfl rfl ?_
      refine r_lc_gt (X := a1.toInt) (Y := 999999) (zW_mono _ _ _) rfl rfl (zi64 _) (by decide +kernel) (fun z5 => ?_) (fun q => by exfalso; omega)
      refine r_push (zW_mono _ _ _) rfl ?_
      refine r_iret (zW_mono _ _ _) rfl rfl (by decide +kernel) ?_
      refine r_if_ne (zW_mono _ _ _) rfl (fun q => absurd q (by decide +kernel)) (fun _ => ?_)
      refine r_push (zW_mono _ _ _) rfl ?_
      refine r_iret (zW_mono _ _ _) rfl rfl rfl ?_
      first | rfl | exact congrArg some (by decide +kernel)
    · refine r_push (zW_mono _ _ _) rfl ?_
      refine r_goto (zW_mono _ _ _) rfl ?_
      refine r_iret (zW_mono _ _ _) rfl rfl (by decide +kernel) ?_
      refine r_if_eq (zW_mono _ _ _) rfl (fun q => absurd q (by decide +kernel)) (fun _ => ?_)
      refine r_aload (zW_mono _ _ _) rfl rfl ?_
      refine r_get (zW_mono _ _ _) rfl hx_0 rfl ?_
      refine r_iload (zW_mono _ _ _) rfl rfl ?_
      refine r_virt1 (zW_mono _ _ _) rfl hx_94 (Nat.le_of_ble_eq_true rfl) rfl (Nat.le_of_ble_eq_true rfl) (Nat.le_of_ble_eq_true rfl) ?_
      refine zW_in rfl (Nat.le_of_ble_eq_true rfl) ?_
      refine r_push (zW_mono _ _ _) rfl ?_
      refine r_istore (zW_mono _ _ _) rfl (Nat.le_of_ble_eq_true rfl) ?_
      refine r_aload (zW_mono _ _ _) rfl rfl ?_
      refine r_push (zW_mono _ _ _) rfl ?_
      refine r_put (zW_mono _ _ _) rfl hx_94 (Nat.le_of_ble_eq_true rfl) rfl rfl rfl ?_
      refine zR_nm (fun h1 e1 => ?_)
      have g1 := zgs e1 hx_94
      refine r_aload (zW_mono _ _ _) rfl rfl ?_
      refine r_push (zW_mono _ _ _) rfl ?_
      refine r_put (zW_mono _ _ _) rfl g1 (Nat.le_of_ble_eq_true rfl) rfl rfl rfl ?_
      refine zR_nm (fun h2 e2 => ?_)
      have g2 := zgs e2 g1
      refine r_push (zW_mono _ _ _) rfl ?_
      refine r_istore (zW_mono _ _ _) rfl (Nat.le_of_ble_eq_true rfl) ?_
      refine r_iload (zW_mono _ _ _) rfl rfl ?_
      refine r_push (zW_mono _ _ _) rfl ?_
      refine r_aload (zW_mono _ _ _) rfl rfl ?_
      refine r_get (zW_mono _ _ _) rfl g2 rfl ?_
      refine r_ishl (zW_mono _ _ _) rfl ?_
      refine r_icmp_ge (zW_mono _ _ _) rfl (fun _ => ?_) (fun q => absurd q (by decide +kernel))
      refine r_iload (zW_mono _ _ _) rfl rfl ?_
      refine r_iret (zW_mono _ _ _) rfl rfl rfl ?_
      refine r_goto (zW_mono _ _ _) rfl ?_
      refine r_iret (zW_mono _ _ _) rfl rfl rfl ?_
      have f3 := (zgn e2 (by decide) (zgn e1 (by decide) hx_111))
      refine ⟨_, rfl, ⟨_, f3⟩, ?_⟩
      refine zW_in rfl (Nat.le_of_ble_eq_true rfl) ?_
      refine r_iload (zW_mono _ _ _) rfl rfl ?_
      refine r_i2l (zW_mono _ _ _) rfl ?_
      refine r_push (zW_mono _ _ _) rfl ?_
      refine r_push (zW_mono _ _ _) rfl ?_
      refine r_stat3 (zW_mono _ _ _) rfl (Nat.le_of_ble_eq_true rfl) rfl (Nat.le_of_ble_eq_true rfl) (Nat.le_of_ble_eq_true rfl) ?_
      refine zW_in rfl (Nat.le_of_ble_eq_true rfl) ?_
      refine r_lload (zW_mono _ _ _) rfl rfl ?_
      refine r_lload (zW_mono _ _ _) rfl rfl ?_
      refine r_lc_lt (X := a1.toInt) (Y := 0) (zW_mono _ _ _) rfl rfl (zi64 _) (by decide +kernel) (fun q => by exfalso; omega) (fun z6 => ?_)
      refine r_lload (zW_mono _ _ _) rfl rfl ?_
      refine r_lload (zW_mono _ _ _) rfl rfl ?_
      refine r_lc_gt (X := a1.toInt) (Y := 999999) (zW_mono _ _ _) rfl rfl (zi64 _) (by decide +kernel) (fun q => by exfalso; omega) (fun z7 => ?_)
      refine r_push (zW_mono _ _ _) rfl ?_
      refine r_goto (zW_mono _ _ _) rfl ?_
      refine r_iret (zW_mono _ _ _) rfl rfl (by decide +kernel) ?_
      refine r_if_ne (zW_mono _ _ _) rfl (fun _ => ?_) (fun q => absurd q (by decide +kernel))
      refine r_push (zW_mono _ _ _) rfl ?_
      refine r_istore (zW_mono _ _ _) rfl (Nat.le_of_ble_eq_true rfl) ?_
      refine r_aload (zW_mono _ _ _) rfl rfl ?_
      refine r_push (zW_mono _ _ _) rfl ?_
      refine r_put (zW_mono _ _ _) rfl f3 (Nat.le_of_ble_eq_true rfl) rfl rfl rfl ?_
      refine zR_nm (fun h4 e4 => ?_)
      have g4 := zgs e4 f3
      refine r_aload (zW_mono _ _ _) rfl rfl ?_
      refine r_push (zW_mono _ _ _) rfl ?_
      refine r_put (zW_mono _ _ _) rfl g4 (Nat.le_of_ble_eq_true rfl) rfl rfl rfl ?_
      refine zR_nm (fun h5 e5 => ?_)
      have g5 := zgs e5 g4
      refine r_push (zW_mono _ _ _) rfl ?_
      refine r_istore (zW_mono _ _ _) rfl (Nat.le_of_ble_eq_true rfl) ?_
      refine r_iload (zW_mono _ _ _) rfl rfl ?_
      refine r_push (zW_mono _ _ _) rfl ?_
      refine r_aload (zW_mono _ _ _) rfl rfl ?_
      refine r_get (zW_mono _ _ _) rfl g5 rfl ?_
      refine r_ishl (zW_mono _ _ _) rfl ?_
      refine r_icmp_ge (zW_mono _ _ _) rfl (fun _ => ?_) (fun q => absurd q (by decide +kernel))
      refine r_iload (zW_mono _ _ _) rfl rfl ?_
      refine r_iret (zW_mono _ _ _) rfl rfl rfl ?_
      first | rfl | exact congrArg some (by decide +kernel)
set_option maxHeartbeats 4000000 in
set_option maxRecDepth 20000 in
theorem op_bests {G : zG} (hG : G.1 = zProg) (a1 : Int32) : zW zTt G 12 156 [.ref 0, .int a1] (dzH dH0) (fun w h => ∃ x : Int32, w = some (.int x) ∧ (∃ fs : List Value, h[111]? = some (.inr (12, fs))) ∧ zW zTt G 12 278 [.ref 111, .int a1] h (fun w2 _ => w2 = some (.int x))) := by
  obtain ⟨p9, t9⟩ := G
  have hG : p9 = zProg := hG
  subst hG
  by_cases s0 : a1.toInt < 0
  · refine zW_in rfl (Nat.le_of_ble_eq_true rfl) ?_
    refine r_iload (zW_mono _ _ _) rfl rfl ?_
    refine r_lookup (zW_mono _ _ _) rfl ?_
    rw [show Op.lookupswitch.offset _ _ a1.toInt = (44 : Int) from by simp only [Op.lookupswitch.offset]; rw [if_neg (by omega), if_neg (by omega)]]
    refine r_push (zW_mono _ _ _) rfl ?_
    refine r_iret (zW_mono _ _ _) rfl rfl rfl ?_
    refine ⟨_, rfl, ⟨_, hx_111⟩, ?_⟩
    refine zW_in rfl (Nat.le_of_ble_eq_true rfl) ?_
    refine r_aload (zW_mono _ _ _) rfl rfl ?_
    refine r_get (zW_mono _ _ _) rfl hx_111 rfl ?_
    refine r_push (zW_mono _ _ _) rfl ?_
    refine r_icmp_ne (zW_mono _ _ _) rfl (fun q => absurd q (by decide +kernel)) (fun _ => ?_)
    refine r_push (zW_mono _ _ _) rfl ?_
    refine r_goto (zW_mono _ _ _) rfl ?_
    refine r_iret (zW_mono _ _ _) rfl rfl rfl ?_
    first | rfl | exact congrArg some (by decide +kernel)
  by_cases s1 : 1 < a1.toInt
  · refine zW_in rfl (Nat.le_of_ble_eq_true rfl) ?_
    refine r_iload (zW_mono _ _ _) rfl rfl ?_
    refine r_lookup (zW_mono _ _ _) rfl ?_
    rw [show Op.lookupswitch.offset _ _ a1.toInt = (44 : Int) from by simp only [Op.lookupswitch.offset]; rw [if_neg (by omega), if_neg (by omega)]]
    refine r_push (zW_mono _ _ _) rfl ?_
    refine r_iret (zW_mono _ _ _) rfl rfl rfl ?_
    refine ⟨_, rfl, ⟨_, hx_111⟩, ?_⟩
    refine zW_in rfl (Nat.le_of_ble_eq_true rfl) ?_
    refine r_aload (zW_mono _ _ _) rfl rfl ?_
    refine r_get (zW_mono _ _ _) rfl hx_111 rfl ?_
    refine r_push (zW_mono _ _ _) rfl ?_
    refine r_icmp_ne (zW_mono _ _ _) rfl (fun q => absurd q (by decide +kernel)) (fun _ => ?_)
    refine r_push (zW_mono _ _ _) rfl ?_
    refine r_goto (zW_mono _ _ _) rfl ?_
    refine r_iret (zW_mono _ _ _) rfl rfl rfl ?_
    first | rfl | exact congrArg some (by decide +kernel)
  rcases (by omega : a1.toInt = 0 ∨ a1.toInt = 1) with q9 | q9
  · have e9 : a1 = (0 : Int32) := Int32.toInt_inj.mp (by rw [q9]; decide)
    subst e9
    refine zW_in rfl (Nat.le_of_ble_eq_true rfl) ?_
    refine r_iload (zW_mono _ _ _) rfl rfl ?_
    refine r_lookup (zW_mono _ _ _) rfl ?_
    refine r_aload (zW_mono _ _ _) rfl rfl ?_
    refine r_get (zW_mono _ _ _) rfl hx_0 rfl ?_
    refine r_get (zW_mono _ _ _) rfl hx_94 rfl ?_
    refine r_iret (zW_mono _ _ _) rfl rfl rfl ?_
    refine ⟨_, rfl, ⟨_, hx_111⟩, ?_⟩
    refine zW_in rfl (Nat.le_of_ble_eq_true rfl) ?_
    refine r_aload (zW_mono _ _ _) rfl rfl ?_
    refine r_get (zW_mono _ _ _) rfl hx_111 rfl ?_
    refine r_push (zW_mono _ _ _) rfl ?_
    refine r_icmp_ne (zW_mono _ _ _) rfl (fun q => absurd q (by decide +kernel)) (fun _ => ?_)
    refine r_push (zW_mono _ _ _) rfl ?_
    refine r_goto (zW_mono _ _ _) rfl ?_
    refine r_iret (zW_mono _ _ _) rfl rfl rfl ?_
    first | rfl | exact congrArg some (by decide +kernel)
  · have e9 : a1 = (1 : Int32) := Int32.toInt_inj.mp (by rw [q9]; decide)
    subst e9
    refine zW_in rfl (Nat.le_of_ble_eq_true rfl) ?_
    refine r_iload (zW_mono _ _ _) rfl rfl ?_
    refine r_lookup (zW_mono _ _ _) rfl ?_
    refine r_aload (zW_mono _ _ _) rfl rfl ?_
    refine r_get (zW_mono _ _ _) rfl hx_0 rfl ?_
    refine r_get (zW_mono _ _ _) rfl hx_94 rfl ?_
    refine r_iret (zW_mono _ _ _) rfl rfl rfl ?_
    refine ⟨_, rfl, ⟨_, hx_111⟩, ?_⟩
    refine zW_in rfl (Nat.le_of_ble_eq_true rfl) ?_
    refine r_aload (zW_mono _ _ _) rfl rfl ?_
    refine r_get (zW_mono _ _ _) rfl hx_111 rfl ?_
    refine r_push (zW_mono _ _ _) rfl ?_
    refine r_icmp_ne (zW_mono _ _ _) rfl (fun q => absurd q (by decide +kernel)) (fun _ => ?_)
    refine r_push (zW_mono _ _ _) rfl ?_
    refine r_goto (zW_mono _ _ _) rfl ?_
    refine r_iret (zW_mono _ _ _) rfl rfl rfl ?_
    first | rfl | exact congrArg some (by decide +kernel)
set_option maxHeartbeats 4000000 in
set_option maxRecDepth 20000 in
theorem op_count {G : zG} (hG : G.1 = zProg) (a1 : Int32) : zW zTt G 12 157 [.ref 0, .int a1] (dzH dH0) (fun w h => ∃ x : Int32, w = some (.int x) ∧ (∃ fs : List Value, h[111]? = some (.inr (12, fs))) ∧ zW zTt G 12 279 [.ref 111, .int a1] h (fun w2 _ => w2 = some (.int x))) := by
  obtain ⟨p9, t9⟩ := G
  have hG : p9 = zProg := hG
  subst hG
  by_cases s0 : a1.toInt < 0
  · refine zW_in rfl (Nat.le_of_ble_eq_true rfl) ?_
    refine r_iload (zW_mono _ _ _) rfl rfl ?_
    refine r_table (zW_mono _ _ _) rfl (fun _ => ?_) (fun q1 q2 => absurd q1 (by omega))
    refine r_push (zW_mono _ _ _) rfl ?_
    refine r_iret (zW_mono _ _ _) rfl rfl rfl ?_
    refine ⟨_, rfl, ⟨_, hx_111⟩, ?_⟩
    refine zW_in rfl (Nat.le_of_ble_eq_true rfl) ?_
    refine r_iload (zW_mono _ _ _) rfl rfl ?_
    refine r_table (zW_mono _ _ _) rfl (fun _ => ?_) (fun q1 q2 => absurd q1 (by omega))
    refine r_push (zW_mono _ _ _) rfl ?_
    refine r_iret (zW_mono _ _ _) rfl rfl rfl ?_
    first | rfl | exact congrArg some (by decide +kernel)
  by_cases s1 : 11 < a1.toInt
  · refine zW_in rfl (Nat.le_of_ble_eq_true rfl) ?_
    refine r_iload (zW_mono _ _ _) rfl rfl ?_
    refine r_table (zW_mono _ _ _) rfl (fun _ => ?_) (fun q1 q2 => absurd q2 (by omega))
    refine r_push (zW_mono _ _ _) rfl ?_
    refine r_iret (zW_mono _ _ _) rfl rfl rfl ?_
    refine ⟨_, rfl, ⟨_, hx_111⟩, ?_⟩
    refine zW_in rfl (Nat.le_of_ble_eq_true rfl) ?_
    refine r_iload (zW_mono _ _ _) rfl rfl ?_
    refine r_table (zW_mono _ _ _) rfl (fun _ => ?_) (fun q1 q2 => absurd q2 (by omega))
    refine r_push (zW_mono _ _ _) rfl ?_
    refine r_iret (zW_mono _ _ _) rfl rfl rfl ?_
    first | rfl | exact congrArg some (by decide +kernel)
  rcases (by omega : a1.toInt = 0 ∨ a1.toInt = 1 ∨ a1.toInt = 2 ∨ a1.toInt = 3 ∨ a1.toInt = 4 ∨ a1.toInt = 5 ∨ a1.toInt = 6 ∨ a1.toInt = 7 ∨ a1.toInt = 8 ∨ a1.toInt = 9 ∨ a1.toInt = 10 ∨ a1.toInt = 11) with q9 | q9 | q9 | q9 | q9 | q9 | q9 | q9 | q9 | q9 | q9 | q9
  · have e9 : a1 = (0 : Int32) := Int32.toInt_inj.mp (by rw [q9]; decide)
    subst e9
    refine zW_in rfl (Nat.le_of_ble_eq_true rfl) ?_
    refine r_iload (zW_mono _ _ _) rfl rfl ?_
    refine r_table (zW_mono _ _ _) rfl (fun q => absurd q (by decide +kernel)) (fun _ _ => ⟨_, rfl, ?_⟩)
    refine r_aload (zW_mono _ _ _) rfl rfl ?_
    refine r_get (zW_mono _ _ _) rfl hx_0 rfl ?_
    refine r_iret (zW_mono _ _ _) rfl rfl rfl ?_
    refine ⟨_, rfl, ⟨_, hx_111⟩, ?_⟩
    refine zW_in rfl (Nat.le_of_ble_eq_true rfl) ?_
    refine r_iload (zW_mono _ _ _) rfl rfl ?_
    refine r_table (zW_mono _ _ _) rfl (fun q => absurd q (by decide +kernel)) (fun _ _ => ⟨_, rfl, ?_⟩)
    refine r_aload (zW_mono _ _ _) rfl rfl ?_
    refine r_get (zW_mono _ _ _) rfl hx_111 rfl ?_
    refine r_iret (zW_mono _ _ _) rfl rfl rfl ?_
    first | rfl | exact congrArg some (by decide +kernel)
  · have e9 : a1 = (1 : Int32) := Int32.toInt_inj.mp (by rw [q9]; decide)
    subst e9
    refine zW_in rfl (Nat.le_of_ble_eq_true rfl) ?_
    refine r_iload (zW_mono _ _ _) rfl rfl ?_
    refine r_table (zW_mono _ _ _) rfl (fun q => absurd q (by decide +kernel)) (fun _ _ => ⟨_, rfl, ?_⟩)
    refine r_aload (zW_mono _ _ _) rfl rfl ?_
    refine r_get (zW_mono _ _ _) rfl hx_0 rfl ?_
    refine r_get (zW_mono _ _ _) rfl hx_36 rfl ?_
    refine r_iret (zW_mono _ _ _) rfl rfl rfl ?_
    refine ⟨_, rfl, ⟨_, hx_111⟩, ?_⟩
    refine zW_in rfl (Nat.le_of_ble_eq_true rfl) ?_
    refine r_iload (zW_mono _ _ _) rfl rfl ?_
    refine r_table (zW_mono _ _ _) rfl (fun q => absurd q (by decide +kernel)) (fun _ _ => ⟨_, rfl, ?_⟩)
    refine r_aload (zW_mono _ _ _) rfl rfl ?_
    refine r_get (zW_mono _ _ _) rfl hx_111 rfl ?_
    refine r_iret (zW_mono _ _ _) rfl rfl rfl ?_
    first | rfl | exact congrArg some (by decide +kernel)
  · have e9 : a1 = (2 : Int32) := Int32.toInt_inj.mp (by rw [q9]; decide)
    subst e9
    refine zW_in rfl (Nat.le_of_ble_eq_true rfl) ?_
    refine r_iload (zW_mono _ _ _) rfl rfl ?_
    refine r_table (zW_mono _ _ _) rfl (fun q => absurd q (by decide +kernel)) (fun _ _ => ⟨_, rfl, ?_⟩)
    refine r_aload (zW_mono _ _ _) rfl rfl ?_
    refine r_get (zW_mono _ _ _) rfl hx_0 rfl ?_
    refine r_get (zW_mono _ _ _) rfl hx_1 rfl ?_
    refine r_iret (zW_mono _ _ _) rfl rfl rfl ?_
    refine ⟨_, rfl, ⟨_, hx_111⟩, ?_⟩
    refine zW_in rfl (Nat.le_of_ble_eq_true rfl) ?_
    refine r_iload (zW_mono _ _ _) rfl rfl ?_
    refine r_table (zW_mono _ _ _) rfl (fun q => absurd q (by decide +kernel)) (fun _ _ => ⟨_, rfl, ?_⟩)
    refine r_aload (zW_mono _ _ _) rfl rfl ?_
    refine r_get (zW_mono _ _ _) rfl hx_111 rfl ?_
    refine r_iret (zW_mono _ _ _) rfl rfl rfl ?_
    first | rfl | exact congrArg some (by decide +kernel)
  · have e9 : a1 = (3 : Int32) := Int32.toInt_inj.mp (by rw [q9]; decide)
    subst e9
    refine zW_in rfl (Nat.le_of_ble_eq_true rfl) ?_
    refine r_iload (zW_mono _ _ _) rfl rfl ?_
    refine r_table (zW_mono _ _ _) rfl (fun q => absurd q (by decide +kernel)) (fun _ _ => ⟨_, rfl, ?_⟩)
    refine r_aload (zW_mono _ _ _) rfl rfl ?_
    refine r_get (zW_mono _ _ _) rfl hx_0 rfl ?_
    refine r_get (zW_mono _ _ _) rfl hx_1 rfl ?_
    refine r_iret (zW_mono _ _ _) rfl rfl rfl ?_
    refine ⟨_, rfl, ⟨_, hx_111⟩, ?_⟩
    refine zW_in rfl (Nat.le_of_ble_eq_true rfl) ?_
    refine r_iload (zW_mono _ _ _) rfl rfl ?_
    refine r_table (zW_mono _ _ _) rfl (fun q => absurd q (by decide +kernel)) (fun _ _ => ⟨_, rfl, ?_⟩)
    refine r_aload (zW_mono _ _ _) rfl rfl ?_
    refine r_get (zW_mono _ _ _) rfl hx_111 rfl ?_
    refine r_iret (zW_mono _ _ _) rfl rfl rfl ?_
    first | rfl | exact congrArg some (by decide +kernel)
  · have e9 : a1 = (4 : Int32) := Int32.toInt_inj.mp (by rw [q9]; decide)
    subst e9
    refine zW_in rfl (Nat.le_of_ble_eq_true rfl) ?_
    refine r_iload (zW_mono _ _ _) rfl rfl ?_
    refine r_table (zW_mono _ _ _) rfl (fun q => absurd q (by decide +kernel)) (fun _ _ => ⟨_, rfl, ?_⟩)
    refine r_aload (zW_mono _ _ _) rfl rfl ?_
    refine r_get (zW_mono _ _ _) rfl hx_0 rfl ?_
    refine r_get (zW_mono _ _ _) rfl hx_36 rfl ?_
    refine r_iret (zW_mono _ _ _) rfl rfl rfl ?_
    refine ⟨_, rfl, ⟨_, hx_111⟩, ?_⟩
    refine zW_in rfl (Nat.le_of_ble_eq_true rfl) ?_
    refine r_iload (zW_mono _ _ _) rfl rfl ?_
    refine r_table (zW_mono _ _ _) rfl (fun q => absurd q (by decide +kernel)) (fun _ _ => ⟨_, rfl, ?_⟩)
    refine r_aload (zW_mono _ _ _) rfl rfl ?_
    refine r_get (zW_mono _ _ _) rfl hx_111 rfl ?_
    refine r_iret (zW_mono _ _ _) rfl rfl rfl ?_
    first | rfl | exact congrArg some (by decide +kernel)
  · have e9 : a1 = (5 : Int32) := Int32.toInt_inj.mp (by rw [q9]; decide)
    subst e9
    refine zW_in rfl (Nat.le_of_ble_eq_true rfl) ?_
    refine r_iload (zW_mono _ _ _) rfl rfl ?_
    refine r_table (zW_mono _ _ _) rfl (fun q => absurd q (by decide +kernel)) (fun _ _ => ⟨_, rfl, ?_⟩)
    refine r_aload (zW_mono _ _ _) rfl rfl ?_
    refine r_get (zW_mono _ _ _) rfl hx_0 rfl ?_
    refine r_get (zW_mono _ _ _) rfl hx_48 rfl ?_
    refine r_iret (zW_mono _ _ _) rfl rfl rfl ?_
    refine ⟨_, rfl, ⟨_, hx_111⟩, ?_⟩
    refine zW_in rfl (Nat.le_of_ble_eq_true rfl) ?_
    refine r_iload (zW_mono _ _ _) rfl rfl ?_
    refine r_table (zW_mono _ _ _) rfl (fun q => absurd q (by decide +kernel)) (fun _ _ => ⟨_, rfl, ?_⟩)
    refine r_aload (zW_mono _ _ _) rfl rfl ?_
    refine r_get (zW_mono _ _ _) rfl hx_111 rfl ?_
    refine r_iret (zW_mono _ _ _) rfl rfl rfl ?_
    first | rfl | exact congrArg some (by decide +kernel)
  · have e9 : a1 = (6 : Int32) := Int32.toInt_inj.mp (by rw [q9]; decide)
    subst e9
    refine zW_in rfl (Nat.le_of_ble_eq_true rfl) ?_
    refine r_iload (zW_mono _ _ _) rfl rfl ?_
    refine r_table (zW_mono _ _ _) rfl (fun q => absurd q (by decide +kernel)) (fun _ _ => ⟨_, rfl, ?_⟩)
    refine r_aload (zW_mono _ _ _) rfl rfl ?_
    refine r_get (zW_mono _ _ _) rfl hx_0 rfl ?_
    refine r_get (zW_mono _ _ _) rfl hx_54 rfl ?_
    refine r_iret (zW_mono _ _ _) rfl rfl rfl ?_
    refine ⟨_, rfl, ⟨_, hx_111⟩, ?_⟩
    refine zW_in rfl (Nat.le_of_ble_eq_true rfl) ?_
    refine r_iload (zW_mono _ _ _) rfl rfl ?_
    refine r_table (zW_mono _ _ _) rfl (fun q => absurd q (by decide +kernel)) (fun _ _ => ⟨_, rfl, ?_⟩)
    refine r_aload (zW_mono _ _ _) rfl rfl ?_
    refine r_get (zW_mono _ _ _) rfl hx_111 rfl ?_
    refine r_iret (zW_mono _ _ _) rfl rfl rfl ?_
    first | rfl | exact congrArg some (by decide +kernel)
  · have e9 : a1 = (7 : Int32) := Int32.toInt_inj.mp (by rw [q9]; decide)
    subst e9
    refine zW_in rfl (Nat.le_of_ble_eq_true rfl) ?_
    refine r_iload (zW_mono _ _ _) rfl rfl ?_
    refine r_table (zW_mono _ _ _) rfl (fun q => absurd q (by decide +kernel)) (fun _ _ => ⟨_, rfl, ?_⟩)
    refine r_aload (zW_mono _ _ _) rfl rfl ?_
    refine r_get (zW_mono _ _ _) rfl hx_0 rfl ?_
    refine r_get (zW_mono _ _ _) rfl hx_63 rfl ?_
    refine r_iret (zW_mono _ _ _) rfl rfl rfl ?_
    refine ⟨_, rfl, ⟨_, hx_111⟩, ?_⟩
    refine zW_in rfl (Nat.le_of_ble_eq_true rfl) ?_
    refine r_iload (zW_mono _ _ _) rfl rfl ?_
    refine r_table (zW_mono _ _ _) rfl (fun q => absurd q (by decide +kernel)) (fun _ _ => ⟨_, rfl, ?_⟩)
    refine r_aload (zW_mono _ _ _) rfl rfl ?_
    refine r_get (zW_mono _ _ _) rfl hx_111 rfl ?_
    refine r_iret (zW_mono _ _ _) rfl rfl rfl ?_
    first | rfl | exact congrArg some (by decide +kernel)
  · have e9 : a1 = (8 : Int32) := Int32.toInt_inj.mp (by rw [q9]; decide)
    subst e9
    refine zW_in rfl (Nat.le_of_ble_eq_true rfl) ?_
    refine r_iload (zW_mono _ _ _) rfl rfl ?_
    refine r_table (zW_mono _ _ _) rfl (fun q => absurd q (by decide +kernel)) (fun _ _ => ⟨_, rfl, ?_⟩)
    refine r_aload (zW_mono _ _ _) rfl rfl ?_
    refine r_get (zW_mono _ _ _) rfl hx_0 rfl ?_
    refine r_get (zW_mono _ _ _) rfl hx_76 rfl ?_
    refine r_iret (zW_mono _ _ _) rfl rfl rfl ?_
    refine ⟨_, rfl, ⟨_, hx_111⟩, ?_⟩
    refine zW_in rfl (Nat.le_of_ble_eq_true rfl) ?_
    refine r_iload (zW_mono _ _ _) rfl rfl ?_
    refine r_table (zW_mono _ _ _) rfl (fun q => absurd q (by decide +kernel)) (fun _ _ => ⟨_, rfl, ?_⟩)
    refine r_aload (zW_mono _ _ _) rfl rfl ?_
    refine r_get (zW_mono _ _ _) rfl hx_111 rfl ?_
    refine r_iret (zW_mono _ _ _) rfl rfl rfl ?_
    first | rfl | exact congrArg some (by decide +kernel)
  · have e9 : a1 = (9 : Int32) := Int32.toInt_inj.mp (by rw [q9]; decide)
    subst e9
    refine zW_in rfl (Nat.le_of_ble_eq_true rfl) ?_
    refine r_iload (zW_mono _ _ _) rfl rfl ?_
    refine r_table (zW_mono _ _ _) rfl (fun q => absurd q (by decide +kernel)) (fun _ _ => ⟨_, rfl, ?_⟩)
    refine r_aload (zW_mono _ _ _) rfl rfl ?_
    refine r_get (zW_mono _ _ _) rfl hx_0 rfl ?_
    refine r_get (zW_mono _ _ _) rfl hx_81 rfl ?_
    refine r_iret (zW_mono _ _ _) rfl rfl rfl ?_
    refine ⟨_, rfl, ⟨_, hx_111⟩, ?_⟩
    refine zW_in rfl (Nat.le_of_ble_eq_true rfl) ?_
    refine r_iload (zW_mono _ _ _) rfl rfl ?_
    refine r_table (zW_mono _ _ _) rfl (fun q => absurd q (by decide +kernel)) (fun _ _ => ⟨_, rfl, ?_⟩)
    refine r_aload (zW_mono _ _ _) rfl rfl ?_
    refine r_get (zW_mono _ _ _) rfl hx_111 rfl ?_
    refine r_iret (zW_mono _ _ _) rfl rfl rfl ?_
    first | rfl | exact congrArg some (by decide +kernel)
  · have e9 : a1 = (10 : Int32) := Int32.toInt_inj.mp (by rw [q9]; decide)
    subst e9
    refine zW_in rfl (Nat.le_of_ble_eq_true rfl) ?_
    refine r_iload (zW_mono _ _ _) rfl rfl ?_
    refine r_table (zW_mono _ _ _) rfl (fun q => absurd q (by decide +kernel)) (fun _ _ => ⟨_, rfl, ?_⟩)
    refine r_aload (zW_mono _ _ _) rfl rfl ?_
    refine r_get (zW_mono _ _ _) rfl hx_0 rfl ?_
    refine r_get (zW_mono _ _ _) rfl hx_89 rfl ?_
    refine r_iret (zW_mono _ _ _) rfl rfl rfl ?_
    refine ⟨_, rfl, ⟨_, hx_111⟩, ?_⟩
    refine zW_in rfl (Nat.le_of_ble_eq_true rfl) ?_
    refine r_iload (zW_mono _ _ _) rfl rfl ?_
    refine r_table (zW_mono _ _ _) rfl (fun q => absurd q (by decide +kernel)) (fun _ _ => ⟨_, rfl, ?_⟩)
    refine r_aload (zW_mono _ _ _) rfl rfl ?_
    refine r_get (zW_mono _ _ _) rfl hx_111 rfl ?_
    refine r_iret (zW_mono _ _ _) rfl rfl rfl ?_
    first | rfl | exact congrArg some (by decide +kernel)
  · have e9 : a1 = (11 : Int32) := Int32.toInt_inj.mp (by rw [q9]; decide)
    subst e9
    refine zW_in rfl (Nat.le_of_ble_eq_true rfl) ?_
    refine r_iload (zW_mono _ _ _) rfl rfl ?_
    refine r_table (zW_mono _ _ _) rfl (fun q => absurd q (by decide +kernel)) (fun _ _ => ⟨_, rfl, ?_⟩)
    refine r_aload (zW_mono _ _ _) rfl rfl ?_
    refine r_get (zW_mono _ _ _) rfl hx_0 rfl ?_
    refine r_get (zW_mono _ _ _) rfl hx_44 rfl ?_
    refine r_iret (zW_mono _ _ _) rfl rfl rfl ?_
    refine ⟨_, rfl, ⟨_, hx_111⟩, ?_⟩
    refine zW_in rfl (Nat.le_of_ble_eq_true rfl) ?_
    refine r_iload (zW_mono _ _ _) rfl rfl ?_
    refine r_table (zW_mono _ _ _) rfl (fun q => absurd q (by decide +kernel)) (fun _ _ => ⟨_, rfl, ?_⟩)
    refine r_aload (zW_mono _ _ _) rfl rfl ?_
    refine r_get (zW_mono _ _ _) rfl hx_111 rfl ?_
    refine r_iret (zW_mono _ _ _) rfl rfl rfl ?_
    first | rfl | exact congrArg some (by decide +kernel)
