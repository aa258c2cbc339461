theorem r_tlenV {tt : zT} {G : zG} {cd : zK} {bc bs : Nat} {rt : Option FieldType} {M : zM} {ret : zQ} {pc nx a b d : Nat} {v : Value} {L : zL} {s : List Value} {h : zH} {c n q N : Nat} (hM : zmono M) (hc : cd[pc]? = some (some (.i2c, nx, a, b, d, v))) (hq : (G.2.1 q).length = N) (h0 : 0 < N) (hs : (s.map fun v => v.category).sum ≤ 8) (k : zR tt G cd bc bs rt M ret nx L (.int (Int32.ofNat N) :: s) h c n) : zR tt G cd bc bs rt M ret pc L (.retAddr q :: s) h c n := r_tlen hM hc (by rw [hq]; exact h0) hs (by rw [hq]; exact k)
theorem r_chrV {tt : zT} {G : zG} {cd : zK} {bc bs : Nat} {rt : Option FieldType} {M : zM} {ret : zQ} {pc nx a b d : Nat} {v : Value} {L : zL} {s : List Value} {h : zH} {c n q N : Nat} {i x : Int32} (hM : zmono M) (hc : cd[pc]? = some (some (.caload, nx, a, b, d, v))) (hq : (G.2.1 q).length = N) (hi : vp_in i N) (hx : (G.2.1 q).getD i.toNatClampNeg 0 = x) (hs : (s.map fun v => v.category).sum ≤ 8) (k : zR tt G cd bc bs rt M ret nx L (.int x :: s) h c n) : zR tt G cd bc bs rt M ret pc L (.int i :: .retAddr q :: s) h c n := r_chr hM hc (by rw [hq]; exact hi) hs (by rw [hx]; exact k)
theorem zR_nm {tt : zT} {G : zG} {cd : zK} {bc bs : Nat} {rt : Option FieldType} {M : zM} {ret : zQ} {pc : Nat} {L : zL} {s : List Value} {h : zH} {c n : Nat} (k : ∀ h2 : zH, h2 = h → zR tt G cd bc bs rt M ret pc L s h2 c n) : zR tt G cd bc bs rt M ret pc L s h c n := k h rfl
theorem zgn {h h2 : zH} {i j : Nat} {e : zC} {x : Option zC} (q : h2 = h.set i e) (hn : i ≠ j) (k : h[j]? = x) : h2[j]? = x := by rw [q]; exact zg_ne hn k
theorem zgs {h h2 : zH} {i : Nat} {e e0 : zC} (q : h2 = h.set i e) (k : h[i]? = some e0) : h2[i]? = some e := by rw [q]; exact zg_eq k
theorem zshr0 (x : Int32) : (x >>> ((0 : Int32) &&& 31)).toInt = x.toInt := by rw [pk_shr x _ 0 (by decide +kernel), Int.shiftRight_zero]
noncomputable def dH1 : dH := (dH0).set 44 (.inr (8, [.ref 45, .int 0, .int 0, .int 0, .ref 46, .int 0, .ref 47, .int 0, .int 0, .int 1]))
theorem rr_x : dmet zTt zG0 20000 11 75 [.ref 44] dH0 = some (some (.int 1), dH1) := deqR_ok (by decide +kernel)
theorem hx_0 : (dzH dH0)[0]? = some (.inr (11, [.ref 1, .ref 36, .ref 44, .ref 48, .ref 54, .ref 63, .ref 76, .ref 81, .ref 89, .ref 94, .ref 107, .ref 108, .ref 109, .ref 110, .int 0])) := dzH_get (x := (.inr (11, [.ref 1, .ref 36, .ref 44, .ref 48, .ref 54, .ref 63, .ref 76, .ref 81, .ref 89, .ref 94, .ref 107, .ref 108, .ref 109, .ref 110, .int 0]) : dC)) rfl
theorem hx_1 : (dzH dH0)[1]? = some (.inr (3, [.ref 2, .ref 3, .ref 4, .ref 13, .ref 14, .ref 27, .int 0, .int 0])) := dzH_get (x := (.inr (3, [.ref 2, .ref 3, .ref 4, .ref 13, .ref 14, .ref 27, .int 0, .int 0]) : dC)) rfl
theorem hx_2 : (dzH dH0)[2]? = some (.inl (0, 3, .inl (dfi [(2, 100), (1, 100), (0, 100)]))) := dzH_get (x := (.inl (0, 3, .inl [(2, 100), (1, 100), (0, 100)]) : dC)) rfl
theorem hx_3 : (dzH dH0)[3]? = some (.inl (0, 8, .inl (dfi []))) := dzH_get (x := (.inl (0, 8, .inl []) : dC)) rfl
theorem hx_4 : (dzH dH0)[4]? = some (.inl (4, 8, .inr (.inr (.inr (.inr (dfq 8 (some 4) [])))))) := dzH_get (x := (.inl (4, 8, .inr (.inr (some 4, []))) : dC)) rfl
theorem hx_5 : (dzH dH0)[5]? = some (.inl (0, 3, .inl (dfi []))) := dzH_get (x := (.inl (0, 3, .inl []) : dC)) rfl
theorem hx_13 : (dzH dH0)[13]? = some (.inl (0, 12, .inl (dfi []))) := dzH_get (x := (.inl (0, 12, .inl []) : dC)) rfl
theorem hx_14 : (dzH dH0)[14]? = some (.inl (4, 12, .inr (.inr (.inr (.inr (dfq 12 (some 14) [])))))) := dzH_get (x := (.inl (4, 12, .inr (.inr (some 14, []))) : dC)) rfl
theorem hx_15 : (dzH dH0)[15]? = some (.inl (0, 3, .inl (dfi []))) := dzH_get (x := (.inl (0, 3, .inl []) : dC)) rfl
theorem hx_36 : (dzH dH0)[36]? = some (.inr (2, [.ref 37, .ref 38, .int 0, .ref 39, .int 0, .ref 40, .ref 41, .ref 42, .ref 43, .int 0])) := dzH_get (x := (.inr (2, [.ref 37, .ref 38, .int 0, .ref 39, .int 0, .ref 40, .ref 41, .ref 42, .ref 43, .int 0]) : dC)) rfl
theorem hx_37 : (dzH dH0)[37]? = some (.inl (0, 60, .inl (dfi []))) := dzH_get (x := (.inl (0, 60, .inl []) : dC)) rfl
theorem hx_44 : (dzH dH0)[44]? = some (.inr (8, [.ref 45, .int 0, .int 0, .int 0, .ref 46, .int 0, .ref 47, .int 0, .int 0, .int 0])) := dzH_get (x := (.inr (8, [.ref 45, .int 0, .int 0, .int 0, .ref 46, .int 0, .ref 47, .int 0, .int 0, .int 0]) : dC)) rfl
theorem hx_45 : (dzH dH0)[45]? = some (.inl (2, 400, .inl (dfi []))) := dzH_get (x := (.inl (2, 400, .inl []) : dC)) rfl
theorem hx_48 : (dzH dH0)[48]? = some (.inr (7, [.ref 49, .ref 50, .ref 51, .int 0, .ref 52, .ref 53])) := dzH_get (x := (.inr (7, [.ref 49, .ref 50, .ref 51, .int 0, .ref 52, .ref 53]) : dC)) rfl
theorem hx_54 : (dzH dH0)[54]? = some (.inr (10, [.ref 55, .ref 56, .ref 57, .ref 58, .ref 59, .int 0, .ref 60, .ref 61, .ref 62, .int 0])) := dzH_get (x := (.inr (10, [.ref 55, .ref 56, .ref 57, .ref 58, .ref 59, .int 0, .ref 60, .ref 61, .ref 62, .int 0]) : dC)) rfl
theorem hx_63 : (dzH dH0)[63]? = some (.inr (1, [.ref 64, .ref 65, .ref 66, .ref 67, .ref 68, .ref 69, .ref 70, .ref 71, .int 0, .ref 72, .ref 73, .ref 74, .ref 75])) := dzH_get (x := (.inr (1, [.ref 64, .ref 65, .ref 66, .ref 67, .ref 68, .ref 69, .ref 70, .ref 71, .int 0, .ref 72, .ref 73, .ref 74, .ref 75]) : dC)) rfl
theorem hx_76 : (dzH dH0)[76]? = some (.inr (4, [.int 0, .ref 77, .ref 78, .ref 79, .ref 80])) := dzH_get (x := (.inr (4, [.int 0, .ref 77, .ref 78, .ref 79, .ref 80]) : dC)) rfl
theorem hx_81 : (dzH dH0)[81]? = some (.inr (5, [.ref 82, .ref 83, .ref 84, .ref 85, .ref 86, .ref 87, .ref 88, .int 0])) := dzH_get (x := (.inr (5, [.ref 82, .ref 83, .ref 84, .ref 85, .ref 86, .ref 87, .ref 88, .int 0]) : dC)) rfl
theorem hx_82 : (dzH dH0)[82]? = some (.inl (0, 24, .inl (dfi []))) := dzH_get (x := (.inl (0, 24, .inl []) : dC)) rfl
theorem hx_83 : (dzH dH0)[83]? = some (.inl (0, 24, .inl (dfi []))) := dzH_get (x := (.inl (0, 24, .inl []) : dC)) rfl
theorem hx_84 : (dzH dH0)[84]? = some (.inl (0, 24, .inl (dfi []))) := dzH_get (x := (.inl (0, 24, .inl []) : dC)) rfl
theorem hx_85 : (dzH dH0)[85]? = some (.inl (0, 24, .inl (dfi []))) := dzH_get (x := (.inl (0, 24, .inl []) : dC)) rfl
theorem hx_86 : (dzH dH0)[86]? = some (.inl (0, 24, .inl (dfi []))) := dzH_get (x := (.inl (0, 24, .inl []) : dC)) rfl
theorem hx_87 : (dzH dH0)[87]? = some (.inl (0, 24, .inl (dfi []))) := dzH_get (x := (.inl (0, 24, .inl []) : dC)) rfl
theorem hx_89 : (dzH dH0)[89]? = some (.inr (6, [.ref 90, .ref 91, .ref 92, .ref 93, .int 0])) := dzH_get (x := (.inr (6, [.ref 90, .ref 91, .ref 92, .ref 93, .int 0]) : dC)) rfl
theorem hx_94 : (dzH dH0)[94]? = some (.inr (9, [.ref 95, .ref 96, .ref 97, .int 0, .int (-1), .int (-1)])) := dzH_get (x := (.inr (9, [.ref 95, .ref 96, .ref 97, .int 0, .int (-1), .int (-1)]) : dC)) rfl
theorem hx_95 : (dzH dH0)[95]? = some (.inl (0, 9, .inl (dfi []))) := dzH_get (x := (.inl (0, 9, .inl []) : dC)) rfl
theorem hx_96 : (dzH dH0)[96]? = some (.inl (0, 9, .inl (dfi []))) := dzH_get (x := (.inl (0, 9, .inl []) : dC)) rfl
theorem hx_111 : (dzH dH0)[111]? = some (.inr (12, [.int 0, .int 0, .int 0, .int 0, .int 0, .int 0, .int 0, .ref 112, .ref 113, .ref 114, .ref 115, .ref 116, .ref 117, .ref 118, .ref 119, .ref 120, .ref 121, .ref 122, .ref 123, .ref 124, .ref 125, .ref 126, .ref 127, .ref 128, .ref 129, .ref 130, .ref 131, .int 0, .int 0, .int 0, .int 0, .int 0, .int 0, .int 0, .int 0, .ref 132, .ref 133, .ref 134, .ref 135, .ref 136, .ref 137, .ref 138, .ref 139, .ref 140, .ref 141, .ref 142, .int 0, .int 0, .ref 143, .ref 144, .int 0, .int 0, .ref 145, .ref 146, .ref 147, .ref 148, .ref 149, .ref 150, .ref 151, .int 0, .ref 152, .ref 153, .ref 154, .ref 155, .ref 156, .ref 157, .ref 158, .ref 159, .ref 160, .ref 161, .ref 162, .int 0, .ref 163, .ref 164, .ref 165, .ref 166, .int 0, .ref 167, .ref 168, .ref 169, .ref 170, .ref 171, .ref 172, .int 0, .ref 173, .ref 174, .ref 175, .ref 176, .ref 177, .ref 178, .int 0, .int (-1), .int 0, .ref 179, .ref 180, .ref 181])) := dzH_get (x := (.inr (12, [.int 0, .int 0, .int 0, .int 0, .int 0, .int 0, .int 0, .ref 112, .ref 113, .ref 114, .ref 115, .ref 116, .ref 117, .ref 118, .ref 119, .ref 120, .ref 121, .ref 122, .ref 123, .ref 124, .ref 125, .ref 126, .ref 127, .ref 128, .ref 129, .ref 130, .ref 131, .int 0, .int 0, .int 0, .int 0, .int 0, .int 0, .int 0, .int 0, .ref 132, .ref 133, .ref 134, .ref 135, .ref 136, .ref 137, .ref 138, .ref 139, .ref 140, .ref 141, .ref 142, .int 0, .int 0, .ref 143, .ref 144, .int 0, .int 0, .ref 145, .ref 146, .ref 147, .ref 148, .ref 149, .ref 150, .ref 151, .int 0, .ref 152, .ref 153, .ref 154, .ref 155, .ref 156, .ref 157, .ref 158, .ref 159, .ref 160, .ref 161, .ref 162, .int 0, .ref 163, .ref 164, .ref 165, .ref 166, .int 0, .ref 167, .ref 168, .ref 169, .ref 170, .ref 171, .ref 172, .int 0, .ref 173, .ref 174, .ref 175, .ref 176, .ref 177, .ref 178, .int 0, .int (-1), .int 0, .ref 179, .ref 180, .ref 181]) : dC)) rfl
theorem hx_112 : (dzH dH0)[112]? = some (.inl (0, 60, .inl (dfi []))) := dzH_get (x := (.inl (0, 60, .inl []) : dC)) rfl
theorem hx_113 : (dzH dH0)[113]? = some (.inl (0, 3, .inl (dfi [(2, 100), (1, 100), (0, 100)]))) := dzH_get (x := (.inl (0, 3, .inl [(2, 100), (1, 100), (0, 100)]) : dC)) rfl
theorem hx_114 : (dzH dH0)[114]? = some (.inl (0, 8, .inl (dfi []))) := dzH_get (x := (.inl (0, 8, .inl []) : dC)) rfl
theorem hx_115 : (dzH dH0)[115]? = some (.inl (0, 24, .inl (dfi []))) := dzH_get (x := (.inl (0, 24, .inl []) : dC)) rfl
theorem hx_116 : (dzH dH0)[116]? = some (.inl (0, 12, .inl (dfi []))) := dzH_get (x := (.inl (0, 12, .inl []) : dC)) rfl
theorem hx_117 : (dzH dH0)[117]? = some (.inl (0, 36, .inl (dfi []))) := dzH_get (x := (.inl (0, 36, .inl []) : dC)) rfl
theorem hx_132 : (dzH dH0)[132]? = some (.inl (2, 400, .inl (dfi []))) := dzH_get (x := (.inl (2, 400, .inl []) : dC)) rfl
theorem hx_167 : (dzH dH0)[167]? = some (.inl (0, 24, .inl (dfi []))) := dzH_get (x := (.inl (0, 24, .inl []) : dC)) rfl
theorem hx_168 : (dzH dH0)[168]? = some (.inl (0, 24, .inl (dfi []))) := dzH_get (x := (.inl (0, 24, .inl []) : dC)) rfl
theorem hx_169 : (dzH dH0)[169]? = some (.inl (0, 24, .inl (dfi []))) := dzH_get (x := (.inl (0, 24, .inl []) : dC)) rfl
theorem hx_170 : (dzH dH0)[170]? = some (.inl (0, 24, .inl (dfi []))) := dzH_get (x := (.inl (0, 24, .inl []) : dC)) rfl
theorem hx_179 : (dzH dH0)[179]? = some (.inl (0, 9, .inl (dfi []))) := dzH_get (x := (.inl (0, 9, .inl []) : dC)) rfl
theorem hx_180 : (dzH dH0)[180]? = some (.inl (0, 9, .inl (dfi []))) := dzH_get (x := (.inl (0, 9, .inl []) : dC)) rfl
theorem hy_0 : (dzH dH1)[0]? = some (.inr (11, [.ref 1, .ref 36, .ref 44, .ref 48, .ref 54, .ref 63, .ref 76, .ref 81, .ref 89, .ref 94, .ref 107, .ref 108, .ref 109, .ref 110, .int 0])) := dzH_get (x := (.inr (11, [.ref 1, .ref 36, .ref 44, .ref 48, .ref 54, .ref 63, .ref 76, .ref 81, .ref 89, .ref 94, .ref 107, .ref 108, .ref 109, .ref 110, .int 0]) : dC)) rfl
theorem hy_44 : (dzH dH1)[44]? = some (.inr (8, [.ref 45, .int 0, .int 0, .int 0, .ref 46, .int 0, .ref 47, .int 0, .int 0, .int 1])) := dzH_get (x := (.inr (8, [.ref 45, .int 0, .int 0, .int 0, .ref 46, .int 0, .ref 47, .int 0, .int 0, .int 1]) : dC)) rfl
theorem hy_111 : (dzH dH1)[111]? = some (.inr (12, [.int 0, .int 0, .int 0, .int 0, .int 0, .int 0, .int 0, .ref 112, .ref 113, .ref 114, .ref 115, .ref 116, .ref 117, .ref 118, .ref 119, .ref 120, .ref 121, .ref 122, .ref 123, .ref 124, .ref 125, .ref 126, .ref 127, .ref 128, .ref 129, .ref 130, .ref 131, .int 0, .int 0, .int 0, .int 0, .int 0, .int 0, .int 0, .int 0, .ref 132, .ref 133, .ref 134, .ref 135, .ref 136, .ref 137, .ref 138, .ref 139, .ref 140, .ref 141, .ref 142, .int 0, .int 0, .ref 143, .ref 144, .int 0, .int 0, .ref 145, .ref 146, .ref 147, .ref 148, .ref 149, .ref 150, .ref 151, .int 0, .ref 152, .ref 153, .ref 154, .ref 155, .ref 156, .ref 157, .ref 158, .ref 159, .ref 160, .ref 161, .ref 162, .int 0, .ref 163, .ref 164, .ref 165, .ref 166, .int 0, .ref 167, .ref 168, .ref 169, .ref 170, .ref 171, .ref 172, .int 0, .ref 173, .ref 174, .ref 175, .ref 176, .ref 177, .ref 178, .int 0, .int (-1), .int 0, .ref 179, .ref 180, .ref 181])) := dzH_get (x := (.inr (12, [.int 0, .int 0, .int 0, .int 0, .int 0, .int 0, .int 0, .ref 112, .ref 113, .ref 114, .ref 115, .ref 116, .ref 117, .ref 118, .ref 119, .ref 120, .ref 121, .ref 122, .ref 123, .ref 124, .ref 125, .ref 126, .ref 127, .ref 128, .ref 129, .ref 130, .ref 131, .int 0, .int 0, .int 0, .int 0, .int 0, .int 0, .int 0, .int 0, .ref 132, .ref 133, .ref 134, .ref 135, .ref 136, .ref 137, .ref 138, .ref 139, .ref 140, .ref 141, .ref 142, .int 0, .int 0, .ref 143, .ref 144, .int 0, .int 0, .ref 145, .ref 146, .ref 147, .ref 148, .ref 149, .ref 150, .ref 151, .int 0, .ref 152, .ref 153, .ref 154, .ref 155, .ref 156, .ref 157, .ref 158, .ref 159, .ref 160, .ref 161, .ref 162, .int 0, .ref 163, .ref 164, .ref 165, .ref 166, .int 0, .ref 167, .ref 168, .ref 169, .ref 170, .ref 171, .ref 172, .int 0, .ref 173, .ref 174, .ref 175, .ref 176, .ref 177, .ref 178, .int 0, .int (-1), .int 0, .ref 179, .ref 180, .ref 181]) : dC)) rfl
set_option maxHeartbeats 4000000 in
set_option maxRecDepth 20000 in
theorem op_clock {G : zG} (hG : G.1 = zProg) (a1 : Int32) : zW zTt G 12 110 [.ref 0, .int a1] (dzH dH0) (fun w h => ∃ x : Int32, w = some (.int x) ∧ (∃ fs : List Value, h[111]? = some (.inr (12, fs))) ∧ zW zTt G 12 174 [.ref 111, .int a1] h (fun w2 _ => w2 = some (.int x))) := by
  obtain ⟨p9, t9⟩ := G
  have hG : p9 = zProg := hG
  subst hG
  refine zW_in rfl (Nat.le_of_ble_eq_true rfl) ?_
  refine r_iload (zW_mono _ _ _) rfl rfl ?_
  refine r_stat1 (zW_mono _ _ _) rfl (Nat.le_of_ble_eq_true rfl) rfl (Nat.le_of_ble_eq_true rfl) (Nat.le_of_ble_eq_true rfl) ?_
  refine zW_in rfl (Nat.le_of_ble_eq_true rfl) ?_
  refine r_iload (zW_mono _ _ _) rfl rfl ?_
  refine r_push (zW_mono _ _ _) rfl ?_
  refine r_push (zW_mono _ _ _) rfl ?_
  refine r_stat3 (zW_mono _ _ _) rfl (Nat.le_of_ble_eq_true rfl) rfl (Nat.le_of_ble_eq_true rfl) (Nat.le_of_ble_eq_true rfl) ?_
  refine zW_in rfl (Nat.le_of_ble_eq_true rfl) ?_
  refine r_iload (zW_mono _ _ _) rfl rfl ?_
  refine r_iload (zW_mono _ _ _) rfl rfl ?_
  refine r_ic_lt (X := a1.toInt) (Y := 0) (zW_mono _ _ _) rfl rfl (by decide +kernel) (fun z1 => ?_) (fun z1 => ?_)
  · refine r_push (zW_mono _ _ _) rfl ?_
    refine r_iret (zW_mono _ _ _) rfl rfl (by decide +kernel) ?_
    refine r_iret (zW_mono _ _ _) rfl rfl (by decide +kernel) ?_
    refine r_if_eq (zW_mono _ _ _) rfl (fun _ => ?_) (fun q => absurd q (by decide +kernel))
    refine r_push (zW_mono _ _ _) rfl ?_
    refine r_iret (zW_mono _ _ _) rfl rfl (by decide +kernel) ?_
    refine ⟨_, rfl, ⟨_, hx_111⟩, ?_⟩
    refine zW_in rfl (Nat.le_of_ble_eq_true rfl) ?_
    refine r_iload (zW_mono _ _ _) rfl rfl ?_
    refine r_i2l (zW_mono _ _ _) rfl ?_
    refine r_aload (zW_mono _ _ _) rfl rfl ?_
    refine r_get (zW_mono _ _ _) rfl hx_111 rfl ?_
    refine r_i2l (zW_mono _ _ _) rfl ?_
    refine r_push (zW_mono _ _ _) rfl ?_
    refine r_stat3 (zW_mono _ _ _) rfl (Nat.le_of_ble_eq_true rfl) rfl (Nat.le_of_ble_eq_true rfl) (Nat.le_of_ble_eq_true rfl) ?_
    refine zW_in rfl (Nat.le_of_ble_eq_true rfl) ?_
    refine r_lload (zW_mono _ _ _) rfl rfl ?_
    refine r_lload (zW_mono _ _ _) rfl rfl ?_
    refine r_lc_lt (X := a1.toInt) (Y := 0) (zW_mono _ _ _) rfl rfl (zi64 _) (by decide +kernel) (fun z2 => ?_) (fun q => by exfalso; omega)
    refine r_push (zW_mono _ _ _) rfl ?_
    refine r_iret (zW_mono _ _ _) rfl rfl (by decide +kernel) ?_
    refine r_if_ne (zW_mono _ _ _) rfl (fun q => absurd q (by decide +kernel)) (fun _ => ?_)
    refine r_push (zW_mono _ _ _) rfl ?_
    refine r_iret (zW_mono _ _ _) rfl rfl (by decide +kernel) ?_
    first | rfl | exact congrArg some (by decide +kernel)
  · refine r_iload (zW_mono _ _ _) rfl rfl ?_
    refine r_iload (zW_mono _ _ _) rfl rfl ?_
    refine r_ic_gt (X := a1.toInt) (Y := 599) (zW_mono _ _ _) rfl rfl (by decide +kernel) (fun z3 => ?_) (fun z3 => ?_)
    · refine r_push (zW_mono _ _ _) rfl ?_
      refine r_iret (zW_mono _ _ _) rfl rfl (by decide +kernel) ?_
      refine r_iret (zW_mono _ _ _) rfl rfl (by decide +kernel) ?_
      refine r_if_eq (zW_mono _ _ _) rfl (fun _ => ?_) (fun q => absurd q (by decide +kernel))
      refine r_push (zW_mono _ _ _) rfl ?_
      refine r_iret (zW_mono _ _ _) rfl rfl (by decide +kernel) ?_
      refine ⟨_, rfl, ⟨_, hx_111⟩, ?_⟩
      refine zW_in rfl (Nat.le_of_ble_eq_true rfl) ?_
      refine r_iload (zW_mono _ _ _) rfl rfl ?_
      refine r_i2l (zW_mono _ _ _) rfl ?_
      refine r_aload (zW_mono _ _ _) rfl rfl ?_
      refine r_get (zW_mono _ _ _) rfl hx_111 rfl ?_
      refine r_i2l (zW_mono _ _ _) rfl ?_
      refine r_push (zW_mono _ _ _) rfl ?_
      refine r_stat3 (zW_mono _ _ _) rfl (Nat.le_of_ble_eq_true rfl) rfl (Nat.le_of_ble_eq_true rfl) (Nat.le_of_ble_eq_true rfl) ?_
      refine zW_in rfl (Nat.le_of_ble_eq_true rfl) ?_
      refine r_lload (zW_mono _ _ _) rfl rfl ?_
      refine r_lload (zW_mono _ _ _) rfl rfl ?_
      refine r_lc_lt (X := a1.toInt) (Y := 0) (zW_mono _ _ _) rfl rfl (zi64 _) (by decide +kernel) (fun q => by exfalso; omega) (fun z4 => ?_)
      refine r_lload (zW_mono _ _ _) rfl rfl ?_
      refine r_lload (zW_mono _ _ _) rfl rfl ?_
      refine r_lc_gt (X := a1.toInt) (Y := 599) (zW_mono _ _ _) rfl rfl (zi64 _) (by decide +kernel) (fun z5 => ?_) (fun q => by exfalso; omega)
      refine r_push (zW_mono _ _ _) rfl ?_
      refine r_iret (zW_mono _ _ _) rfl rfl (by decide +kernel) ?_
      refine r_if_ne (zW_mono _ _ _) rfl (fun q => absurd q (by decide +kernel)) (fun _ => ?_)
      refine r_push (zW_mono _ _ _) rfl ?_
      refine r_iret (zW_mono _ _ _) rfl rfl (by decide +kernel) ?_
      first | rfl | exact congrArg some (by decide +kernel)
    · refine r_push (zW_mono _ _ _) rfl ?_
      refine r_goto (zW_mono _ _ _) rfl ?_
      refine r_iret (zW_mono _ _ _) rfl rfl (by decide +kernel) ?_
      refine r_iret (zW_mono _ _ _) rfl rfl (by decide +kernel) ?_
      refine r_if_eq (zW_mono _ _ _) rfl (fun q => absurd q (by decide +kernel)) (fun _ => ?_)
      refine r_iload (zW_mono _ _ _) rfl rfl ?_
      refine r_aload (zW_mono _ _ _) rfl rfl ?_
      refine r_get (zW_mono _ _ _) rfl hx_0 rfl ?_
      refine r_ic_ge (X := a1.toInt) (Y := 0) (zW_mono _ _ _) rfl rfl (by decide +kernel) (fun z6 => ?_) (fun q => by exfalso; omega)
      refine r_aload (zW_mono _ _ _) rfl rfl ?_
      refine r_iload (zW_mono _ _ _) rfl rfl ?_
      refine r_put (zW_mono _ _ _) rfl hx_0 (Nat.le_of_ble_eq_true rfl) rfl rfl rfl ?_
      refine zR_nm (fun h1 e1 => ?_)
      have g1 := zgs e1 hx_0
      refine r_push (zW_mono _ _ _) rfl ?_
      refine r_iret (zW_mono _ _ _) rfl rfl (by decide +kernel) ?_
      have f2 := (zgn e1 (by decide) hx_111)
      refine ⟨_, rfl, ⟨_, f2⟩, ?_⟩
      refine zW_in rfl (Nat.le_of_ble_eq_true rfl) ?_
      refine r_iload (zW_mono _ _ _) rfl rfl ?_
      refine r_i2l (zW_mono _ _ _) rfl ?_
      refine r_aload (zW_mono _ _ _) rfl rfl ?_
      refine r_get (zW_mono _ _ _) rfl f2 rfl ?_
      refine r_i2l (zW_mono _ _ _) rfl ?_
      refine r_push (zW_mono _ _ _) rfl ?_
      refine r_stat3 (zW_mono _ _ _) rfl (Nat.le_of_ble_eq_true rfl) rfl (Nat.le_of_ble_eq_true rfl) (Nat.le_of_ble_eq_true rfl) ?_
      refine zW_in rfl (Nat.le_of_ble_eq_true rfl) ?_
      refine r_lload (zW_mono _ _ _) rfl rfl ?_
      refine r_lload (zW_mono _ _ _) rfl rfl ?_
      refine r_lc_lt (X := a1.toInt) (Y := 0) (zW_mono _ _ _) rfl rfl (zi64 _) (by decide +kernel) (fun q => by exfalso; omega) (fun z7 => ?_)
      refine r_lload (zW_mono _ _ _) rfl rfl ?_
      refine r_lload (zW_mono _ _ _) rfl rfl ?_
      refine r_lc_gt (X := a1.toInt) (Y := 599) (zW_mono _ _ _) rfl rfl (zi64 _) (by decide +kernel) (fun q => by exfalso; omega) (fun z8 => ?_)
      refine r_push (zW_mono _ _ _) rfl ?_
      refine r_goto (zW_mono _ _ _) rfl ?_
      refine r_iret (zW_mono _ _ _) rfl rfl (by decide +kernel) ?_
      refine r_if_ne (zW_mono _ _ _) rfl (fun _ => ?_) (fun q => absurd q (by decide +kernel))
      refine r_aload (zW_mono _ _ _) rfl rfl ?_
      refine r_iload (zW_mono _ _ _) rfl rfl ?_
      refine r_put (zW_mono _ _ _) rfl f2 (Nat.le_of_ble_eq_true rfl) rfl rfl rfl ?_
      refine zR_nm (fun h3 e3 => ?_)
      have g3 := zgs e3 f2
      refine r_push (zW_mono _ _ _) rfl ?_
      refine r_iret (zW_mono _ _ _) rfl rfl (by decide +kernel) ?_
      first | rfl | exact congrArg some (by decide +kernel)
set_option maxHeartbeats 4000000 in
set_option maxRecDepth 20000 in
theorem op_person {G : zG} (hG : G.1 = zProg) (a1 : Int32) : zW zTt G 12 111 [.ref 0, .int a1] (dzH dH0) (fun w h => ∃ x : Int32, w = some (.int x) ∧ (∃ fs : List Value, h[111]? = some (.inr (12, fs))) ∧ zW zTt G 12 179 [.ref 111, .int a1] h (fun w2 _ => w2 = some (.int x))) := by
  obtain ⟨p9, t9⟩ := G
  have hG : p9 = zProg := hG
  subst hG
  refine zW_in rfl (Nat.le_of_ble_eq_true rfl) ?_
  refine r_iload (zW_mono _ _ _) rfl rfl ?_
  refine r_push (zW_mono _ _ _) rfl ?_
  refine r_ic_eq (X := a1.toInt) (Y := (-1)) (zW_mono _ _ _) rfl rfl (by decide +kernel) (fun z1 => ?_) (fun z1 => ?_)
  · refine r_aload (zW_mono _ _ _) rfl rfl ?_
    refine r_get (zW_mono _ _ _) rfl hx_0 rfl ?_
    refine r_iload (zW_mono _ _ _) rfl rfl ?_
    refine r_virt1 (zW_mono _ _ _) rfl hx_36 (Nat.le_of_ble_eq_true rfl) rfl (Nat.le_of_ble_eq_true rfl) (Nat.le_of_ble_eq_true rfl) ?_
    refine zW_in rfl (Nat.le_of_ble_eq_true rfl) ?_
    refine r_aload (zW_mono _ _ _) rfl rfl ?_
    refine r_get (zW_mono _ _ _) rfl hx_36 rfl ?_
    refine r_push (zW_mono _ _ _) rfl ?_
    refine r_icmp_ne (zW_mono _ _ _) rfl (fun _ => ?_) (fun q => absurd q (by decide +kernel))
    refine r_aload (zW_mono _ _ _) rfl rfl ?_
    refine r_get (zW_mono _ _ _) rfl hx_36 rfl ?_
    refine r_aload (zW_mono _ _ _) rfl rfl ?_
    refine r_get (zW_mono _ _ _) rfl hx_36 rfl ?_
    refine r_iload (zW_mono _ _ _) rfl rfl ?_
    refine r_iast (zW_mono _ _ _) rfl hx_37 (vp_in_iff.mpr ⟨(by decide +kernel), (by decide +kernel)⟩) ?_
    refine zR_nm (fun h1 e1 => ?_)
    have g1 := zgs e1 hx_37
    refine r_aload (zW_mono _ _ _) rfl rfl ?_
    refine r_dup (zW_mono _ _ _) rfl rfl ?_
    have f2 := (zgn e1 (by decide) hx_36)
    refine r_get (zW_mono _ _ _) rfl f2 rfl ?_
    refine r_dup_x1 (zW_mono _ _ _) rfl rfl rfl ?_
    refine r_push (zW_mono _ _ _) rfl ?_
    refine r_iadd (zW_mono _ _ _) rfl ?_
    refine r_put (zW_mono _ _ _) rfl f2 (Nat.le_of_ble_eq_true rfl) rfl rfl rfl ?_
    refine zR_nm (fun h3 e3 => ?_)
    have g3 := zgs e3 f2
    refine r_iret (zW_mono _ _ _) rfl rfl rfl ?_
    refine r_goto (zW_mono _ _ _) rfl ?_
    refine r_iret (zW_mono _ _ _) rfl rfl rfl ?_
    have f4 := (zgn e3 (by decide) (zgn e1 (by decide) hx_111))
    refine ⟨_, rfl, ⟨_, f4⟩, ?_⟩
    refine zW_in rfl (Nat.le_of_ble_eq_true rfl) ?_
    refine r_aload (zW_mono _ _ _) rfl rfl ?_
    refine r_get (zW_mono _ _ _) rfl f4 rfl ?_
    refine r_push (zW_mono _ _ _) rfl ?_
    refine r_icmp_eq (zW_mono _ _ _) rfl (fun q => absurd q (by decide +kernel)) (fun _ => ?_)
    refine r_iload (zW_mono _ _ _) rfl rfl ?_
    refine r_i2l (zW_mono _ _ _) rfl ?_
    refine r_push (zW_mono _ _ _) rfl ?_
    refine r_push (zW_mono _ _ _) rfl ?_
    refine r_stat3 (zW_mono _ _ _) rfl (Nat.le_of_ble_eq_true rfl) rfl (Nat.le_of_ble_eq_true rfl) (Nat.le_of_ble_eq_true rfl) ?_
    refine zW_in rfl (Nat.le_of_ble_eq_true rfl) ?_
    refine r_lload (zW_mono _ _ _) rfl rfl ?_
    refine r_lload (zW_mono _ _ _) rfl rfl ?_
    refine r_lc_lt (X := a1.toInt) (Y := (-1)) (zW_mono _ _ _) rfl rfl (zi64 _) (by decide +kernel) (fun q => by exfalso; omega) (fun z2 => ?_)
    refine r_lload (zW_mono _ _ _) rfl rfl ?_
    refine r_lload (zW_mono _ _ _) rfl rfl ?_
    refine r_lc_gt (X := a1.toInt) (Y := 3) (zW_mono _ _ _) rfl rfl (zi64 _) (by decide +kernel) (fun q => by exfalso; omega) (fun z3 => ?_)
    refine r_push (zW_mono _ _ _) rfl ?_
    refine r_goto (zW_mono _ _ _) rfl ?_
    refine r_iret (zW_mono _ _ _) rfl rfl (by decide +kernel) ?_
    refine r_if_ne (zW_mono _ _ _) rfl (fun _ => ?_) (fun q => absurd q (by decide +kernel))
    refine r_aload (zW_mono _ _ _) rfl rfl ?_
    refine r_get (zW_mono _ _ _) rfl f4 rfl ?_
    refine r_aload (zW_mono _ _ _) rfl rfl ?_
    refine r_get (zW_mono _ _ _) rfl f4 rfl ?_
    refine r_iload (zW_mono _ _ _) rfl rfl ?_
    have f5 := (zgn e3 (by decide) (zgn e1 (by decide) hx_112))
    refine r_iast (zW_mono _ _ _) rfl f5 (vp_in_iff.mpr ⟨(by decide +kernel), (by decide +kernel)⟩) ?_
    refine zR_nm (fun h6 e6 => ?_)
    have g6 := zgs e6 f5
    refine r_aload (zW_mono _ _ _) rfl rfl ?_
    refine r_dup (zW_mono _ _ _) rfl rfl ?_
    have f7 := (zgn e6 (by decide) f4)
    refine r_get (zW_mono _ _ _) rfl f7 rfl ?_
    refine r_push (zW_mono _ _ _) rfl ?_
    refine r_iadd (zW_mono _ _ _) rfl ?_
    refine r_put (zW_mono _ _ _) rfl f7 (Nat.le_of_ble_eq_true rfl) rfl rfl rfl ?_
    refine zR_nm (fun h8 e8 => ?_)
    have g8 := zgs e8 f7
    refine r_aload (zW_mono _ _ _) rfl rfl ?_
    refine r_get (zW_mono _ _ _) rfl g8 rfl ?_
    refine r_push (zW_mono _ _ _) rfl ?_
    refine r_isub (zW_mono _ _ _) rfl ?_
    refine r_iret (zW_mono _ _ _) rfl rfl rfl ?_
    first | rfl | exact congrArg some (by decide +kernel)
  · refine r_iload (zW_mono _ _ _) rfl rfl ?_
    refine r_stat1 (zW_mono _ _ _) rfl (Nat.le_of_ble_eq_true rfl) rfl (Nat.le_of_ble_eq_true rfl) (Nat.le_of_ble_eq_true rfl) ?_
    refine zW_in rfl (Nat.le_of_ble_eq_true rfl) ?_
    refine r_iload (zW_mono _ _ _) rfl rfl ?_
    refine r_push (zW_mono _ _ _) rfl ?_
    refine r_push (zW_mono _ _ _) rfl ?_
    refine r_stat3 (zW_mono _ _ _) rfl (Nat.le_of_ble_eq_true rfl) rfl (Nat.le_of_ble_eq_true rfl) (Nat.le_of_ble_eq_true rfl) ?_
    refine zW_in rfl (Nat.le_of_ble_eq_true rfl) ?_
    refine r_iload (zW_mono _ _ _) rfl rfl ?_
    refine r_iload (zW_mono _ _ _) rfl rfl ?_
    refine r_ic_lt (X := a1.toInt) (Y := 0) (zW_mono _ _ _) rfl rfl (by decide +kernel) (fun z4 => ?_) (fun z4 => ?_)
    · refine r_push (zW_mono _ _ _) rfl ?_
      refine r_iret (zW_mono _ _ _) rfl rfl (by decide +kernel) ?_
      refine r_iret (zW_mono _ _ _) rfl rfl (by decide +kernel) ?_
      refine r_if_eq (zW_mono _ _ _) rfl (fun _ => ?_) (fun q => absurd q (by decide +kernel))
      refine r_push (zW_mono _ _ _) rfl ?_
      refine r_iret (zW_mono _ _ _) rfl rfl rfl ?_
      refine ⟨_, rfl, ⟨_, hx_111⟩, ?_⟩
      refine zW_in rfl (Nat.le_of_ble_eq_true rfl) ?_
      refine r_aload (zW_mono _ _ _) rfl rfl ?_
      refine r_get (zW_mono _ _ _) rfl hx_111 rfl ?_
      refine r_push (zW_mono _ _ _) rfl ?_
      refine r_icmp_eq (zW_mono _ _ _) rfl (fun q => absurd q (by decide +kernel)) (fun _ => ?_)
      refine r_iload (zW_mono _ _ _) rfl rfl ?_
      refine r_i2l (zW_mono _ _ _) rfl ?_
      refine r_push (zW_mono _ _ _) rfl ?_
      refine r_push (zW_mono _ _ _) rfl ?_
      refine r_stat3 (zW_mono _ _ _) rfl (Nat.le_of_ble_eq_true rfl) rfl (Nat.le_of_ble_eq_true rfl) (Nat.le_of_ble_eq_true rfl) ?_
      refine zW_in rfl (Nat.le_of_ble_eq_true rfl) ?_
      refine r_lload (zW_mono _ _ _) rfl rfl ?_
      refine r_lload (zW_mono _ _ _) rfl rfl ?_
      refine r_lc_lt (X := a1.toInt) (Y := (-1)) (zW_mono _ _ _) rfl rfl (zi64 _) (by decide +kernel) (fun z5 => ?_) (fun q => by exfalso; omega)
      refine r_push (zW_mono _ _ _) rfl ?_
      refine r_iret (zW_mono _ _ _) rfl rfl (by decide +kernel) ?_
      refine r_if_ne (zW_mono _ _ _) rfl (fun q => absurd q (by decide +kernel)) (fun _ => ?_)
      refine r_push (zW_mono _ _ _) rfl ?_
      refine r_iret (zW_mono _ _ _) rfl rfl rfl ?_
      first | rfl | exact congrArg some (by decide +kernel)
    · refine r_iload (zW_mono _ _ _) rfl rfl ?_
      refine r_iload (zW_mono _ _ _) rfl rfl ?_
      refine r_ic_gt (X := a1.toInt) (Y := 3) (zW_mono _ _ _) rfl rfl (by decide +kernel) (fun z6 => ?_) (fun z6 => ?_)
      · refine r_push (zW_mono _ _ _) rfl ?_
        refine r_iret (zW_mono _ _ _) rfl rfl (by decide +kernel) ?_
        refine r_iret (zW_mono _ _ _) rfl rfl (by decide +kernel) ?_
        refine r_if_eq (zW_mono _ _ _) rfl (fun _ => ?_) (fun q => absurd q (by decide +kernel))
        refine r_push (zW_mono _ _ _) rfl ?_
        refine r_iret (zW_mono _ _ _) rfl rfl rfl ?_
        refine ⟨_, rfl, ⟨_, hx_111⟩, ?_⟩
        refine zW_in rfl (Nat.le_of_ble_eq_true rfl) ?_
        refine r_aload (zW_mono _ _ _) rfl rfl ?_
        refine r_get (zW_mono _ _ _) rfl hx_111 rfl ?_
        refine r_push (zW_mono _ _ _) rfl ?_
        refine r_icmp_eq (zW_mono _ _ _) rfl (fun q => absurd q (by decide +kernel)) (fun _ => ?_)
        refine r_iload (zW_mono _ _ _) rfl rfl ?_
        refine r_i2l (zW_mono _ _ _) rfl ?_
        refine r_push (zW_mono _ _ _) rfl ?_
        refine r_push (zW_mono _ _ _) rfl ?_
        refine r_stat3 (zW_mono _ _ _) rfl (Nat.le_of_ble_eq_true rfl) rfl (Nat.le_of_ble_eq_true rfl) (Nat.le_of_ble_eq_true rfl) ?_
        refine zW_in rfl (Nat.le_of_ble_eq_true rfl) ?_
        refine r_lload (zW_mono _ _ _) rfl rfl ?_
        refine r_lload (zW_mono _ _ _) rfl rfl ?_
        refine r_lc_lt (X := a1.toInt) (Y := (-1)) (zW_mono _ _ _) rfl rfl (zi64 _) (by decide +kernel) (fun q => by exfalso; omega) (fun z7 => ?_)
        refine r_lload (zW_mono _ _ _) rfl rfl ?_
        refine r_lload (zW_mono _ _ _) rfl rfl ?_
        refine r_lc_gt (X := a1.toInt) (Y := 3) (zW_mono _ _ _) rfl rfl (zi64 _) (by decide +kernel) (fun z8 => ?_) (fun q => by exfalso; omega)
        refine r_push (zW_mono _ _ _) rfl ?_
        refine r_iret (zW_mono _ _ _) rfl rfl (by decide +kernel) ?_
        refine r_if_ne (zW_mono _ _ _) rfl (fun q => absurd q (by decide +kernel)) (fun _ => ?_)
        refine r_push (zW_mono _ _ _) rfl ?_
        refine r_iret (zW_mono _ _ _) rfl rfl rfl ?_
        first | rfl | exact congrArg some (by decide +kernel)
      · refine r_push (zW_mono _ _ _) rfl ?_
        refine r_goto (zW_mono _ _ _) rfl ?_
        refine r_iret (zW_mono _ _ _) rfl rfl (by decide +kernel) ?_
        refine r_iret (zW_mono _ _ _) rfl rfl (by decide +kernel) ?_
        refine r_if_eq (zW_mono _ _ _) rfl (fun q => absurd q (by decide +kernel)) (fun _ => ?_)
        refine r_aload (zW_mono _ _ _) rfl rfl ?_
        refine r_get (zW_mono _ _ _) rfl hx_0 rfl ?_
        refine r_iload (zW_mono _ _ _) rfl rfl ?_
        refine r_virt1 (zW_mono _ _ _) rfl hx_36 (Nat.le_of_ble_eq_true rfl) rfl (Nat.le_of_ble_eq_true rfl) (Nat.le_of_ble_eq_true rfl) ?_
        refine zW_in rfl (Nat.le_of_ble_eq_true rfl) ?_
        refine r_aload (zW_mono _ _ _) rfl rfl ?_
        refine r_get (zW_mono _ _ _) rfl hx_36 rfl ?_
        refine r_push (zW_mono _ _ _) rfl ?_
        refine r_icmp_ne (zW_mono _ _ _) rfl (fun _ => ?_) (fun q => absurd q (by decide +kernel))
        refine r_aload (zW_mono _ _ _) rfl rfl ?_
        refine r_get (zW_mono _ _ _) rfl hx_36 rfl ?_
        refine r_aload (zW_mono _ _ _) rfl rfl ?_
        refine r_get (zW_mono _ _ _) rfl hx_36 rfl ?_
        refine r_iload (zW_mono _ _ _) rfl rfl ?_
        refine r_iast (zW_mono _ _ _) rfl hx_37 (vp_in_iff.mpr ⟨(by decide +kernel), (by decide +kernel)⟩) ?_
        refine zR_nm (fun h9 e9 => ?_)
        have g9 := zgs e9 hx_37
        refine r_aload (zW_mono _ _ _) rfl rfl ?_
        refine r_dup (zW_mono _ _ _) rfl rfl ?_
        have f10 := (zgn e9 (by decide) hx_36)
        refine r_get (zW_mono _ _ _) rfl f10 rfl ?_
        refine r_dup_x1 (zW_mono _ _ _) rfl rfl rfl ?_
        refine r_push (zW_mono _ _ _) rfl ?_
        refine r_iadd (zW_mono _ _ _) rfl ?_
        refine r_put (zW_mono _ _ _) rfl f10 (Nat.le_of_ble_eq_true rfl) rfl rfl rfl ?_
        refine zR_nm (fun h11 e11 => ?_)
        have g11 := zgs e11 f10
        refine r_iret (zW_mono _ _ _) rfl rfl rfl ?_
        refine r_goto (zW_mono _ _ _) rfl ?_
        refine r_iret (zW_mono _ _ _) rfl rfl rfl ?_
        have f12 := (zgn e11 (by decide) (zgn e9 (by decide) hx_111))
        refine ⟨_, rfl, ⟨_, f12⟩, ?_⟩
        refine zW_in rfl (Nat.le_of_ble_eq_true rfl) ?_
        refine r_aload (zW_mono _ _ _) rfl rfl ?_
        refine r_get (zW_mono _ _ _) rfl f12 rfl ?_
        refine r_push (zW_mono _ _ _) rfl ?_
        refine r_icmp_eq (zW_mono _ _ _) rfl (fun q => absurd q (by decide +kernel)) (fun _ => ?_)
        refine r_iload (zW_mono _ _ _) rfl rfl ?_
        refine r_i2l (zW_mono _ _ _) rfl ?_
        refine r_push (zW_mono _ _ _) rfl ?_
        refine r_push (zW_mono _ _ _) rfl ?_
        refine r_stat3 (zW_mono _ _ _) rfl (Nat.le_of_ble_eq_true rfl) rfl (Nat.le_of_ble_eq_true rfl) (Nat.le_of_ble_eq_true rfl) ?_
        refine zW_in rfl (Nat.le_of_ble_eq_true rfl) ?_
        refine r_lload (zW_mono _ _ _) rfl rfl ?_
        refine r_lload (zW_mono _ _ _) rfl rfl ?_
        refine r_lc_lt (X := a1.toInt) (Y := (-1)) (zW_mono _ _ _) rfl rfl (zi64 _) (by decide +kernel) (fun q => by exfalso; omega) (fun z9 => ?_)
        refine r_lload (zW_mono _ _ _) rfl rfl ?_
        refine r_lload (zW_mono _ _ _) rfl rfl ?_
        refine r_lc_gt (X := a1.toInt) (Y := 3) (zW_mono _ _ _) rfl rfl (zi64 _) (by decide +kernel) (fun q => by exfalso; omega) (fun z10 => ?_)
        refine r_push (zW_mono _ _ _) rfl ?_
        refine r_goto (zW_mono _ _ _) rfl ?_
        refine r_iret (zW_mono _ _ _) rfl rfl (by decide +kernel) ?_
        refine r_if_ne (zW_mono _ _ _) rfl (fun _ => ?_) (fun q => absurd q (by decide +kernel))
        refine r_aload (zW_mono _ _ _) rfl rfl ?_
        refine r_get (zW_mono _ _ _) rfl f12 rfl ?_
        refine r_aload (zW_mono _ _ _) rfl rfl ?_
        refine r_get (zW_mono _ _ _) rfl f12 rfl ?_
        refine r_iload (zW_mono _ _ _) rfl rfl ?_
        have f13 := (zgn e11 (by decide) (zgn e9 (by decide) hx_112))
        refine r_iast (zW_mono _ _ _) rfl f13 (vp_in_iff.mpr ⟨(by decide +kernel), (by decide +kernel)⟩) ?_
        refine zR_nm (fun h14 e14 => ?_)
        have g14 := zgs e14 f13
        refine r_aload (zW_mono _ _ _) rfl rfl ?_
        refine r_dup (zW_mono _ _ _) rfl rfl ?_
        have f15 := (zgn e14 (by decide) f12)
        refine r_get (zW_mono _ _ _) rfl f15 rfl ?_
        refine r_push (zW_mono _ _ _) rfl ?_
        refine r_iadd (zW_mono _ _ _) rfl ?_
        refine r_put (zW_mono _ _ _) rfl f15 (Nat.le_of_ble_eq_true rfl) rfl rfl rfl ?_
        refine zR_nm (fun h16 e16 => ?_)
        have g16 := zgs e16 f15
        refine r_aload (zW_mono _ _ _) rfl rfl ?_
        refine r_get (zW_mono _ _ _) rfl g16 rfl ?_
        refine r_push (zW_mono _ _ _) rfl ?_
        refine r_isub (zW_mono _ _ _) rfl ?_
        refine r_iret (zW_mono _ _ _) rfl rfl rfl ?_
        first | rfl | exact congrArg some (by decide +kernel)
set_option maxHeartbeats 4000000 in
set_option maxRecDepth 20000 in
theorem op_factor {G : zG} (hG : G.1 = zProg) (a1 a2 : Int32) : zW zTt G 12 112 [.ref 0, .int a1, .int a2] (dzH dH0) (fun w h => ∃ x : Int32, w = some (.int x) ∧ (∃ fs : List Value, h[111]? = some (.inr (12, fs))) ∧ zW zTt G 12 180 [.ref 111, .int a1, .int a2] h (fun w2 _ => w2 = some (.int x))) := by
  obtain ⟨p9, t9⟩ := G
  have hG : p9 = zProg := hG
  subst hG
  refine zW_in rfl (Nat.le_of_ble_eq_true rfl) ?_
  refine r_iload (zW_mono _ _ _) rfl rfl ?_
  refine r_stat1 (zW_mono _ _ _) rfl (Nat.le_of_ble_eq_true rfl) rfl (Nat.le_of_ble_eq_true rfl) (Nat.le_of_ble_eq_true rfl) ?_
  refine zW_in rfl (Nat.le_of_ble_eq_true rfl) ?_
  refine r_iload (zW_mono _ _ _) rfl rfl ?_
  refine r_push (zW_mono _ _ _) rfl ?_
  refine r_push (zW_mono _ _ _) rfl ?_
  refine r_stat3 (zW_mono _ _ _) rfl (Nat.le_of_ble_eq_true rfl) rfl (Nat.le_of_ble_eq_true rfl) (Nat.le_of_ble_eq_true rfl) ?_
  refine zW_in rfl (Nat.le_of_ble_eq_true rfl) ?_
  refine r_iload (zW_mono _ _ _) rfl rfl ?_
  refine r_iload (zW_mono _ _ _) rfl rfl ?_
  refine r_ic_lt (X := a1.toInt) (Y := 0) (zW_mono _ _ _) rfl rfl (by decide +kernel) (fun z1 => ?_) (fun z1 => ?_)
  · refine r_push (zW_mono _ _ _) rfl ?_
    refine r_iret (zW_mono _ _ _) rfl rfl (by decide +kernel) ?_
    refine r_iret (zW_mono _ _ _) rfl rfl (by decide +kernel) ?_
    refine r_if_eq (zW_mono _ _ _) rfl (fun _ => ?_) (fun q => absurd q (by decide +kernel))
    refine r_push (zW_mono _ _ _) rfl ?_
    refine r_iret (zW_mono _ _ _) rfl rfl rfl ?_
    refine ⟨_, rfl, ⟨_, hx_111⟩, ?_⟩
    refine zW_in rfl (Nat.le_of_ble_eq_true rfl) ?_
    refine r_iload (zW_mono _ _ _) rfl rfl ?_
    refine r_stat1 (zW_mono _ _ _) rfl (Nat.le_of_ble_eq_true rfl) rfl (Nat.le_of_ble_eq_true rfl) (Nat.le_of_ble_eq_true rfl) ?_
    refine zW_in rfl (Nat.le_of_ble_eq_true rfl) ?_
    refine r_iload (zW_mono _ _ _) rfl rfl ?_
    refine r_i2l (zW_mono _ _ _) rfl ?_
    refine r_push (zW_mono _ _ _) rfl ?_
    refine r_push (zW_mono _ _ _) rfl ?_
    refine r_stat3 (zW_mono _ _ _) rfl (Nat.le_of_ble_eq_true rfl) rfl (Nat.le_of_ble_eq_true rfl) (Nat.le_of_ble_eq_true rfl) ?_
    refine zW_in rfl (Nat.le_of_ble_eq_true rfl) ?_
    refine r_lload (zW_mono _ _ _) rfl rfl ?_
    refine r_lload (zW_mono _ _ _) rfl rfl ?_
    refine r_lc_lt (X := a1.toInt) (Y := 0) (zW_mono _ _ _) rfl rfl (zi64 _) (by decide +kernel) (fun z2 => ?_) (fun q => by exfalso; omega)
    refine r_push (zW_mono _ _ _) rfl ?_
    refine r_iret (zW_mono _ _ _) rfl rfl (by decide +kernel) ?_
    refine r_iret (zW_mono _ _ _) rfl rfl (by decide +kernel) ?_
    refine r_if_eq (zW_mono _ _ _) rfl (fun _ => ?_) (fun q => absurd q (by decide +kernel))
    refine r_push (zW_mono _ _ _) rfl ?_
    refine r_iret (zW_mono _ _ _) rfl rfl rfl ?_
    first | rfl | exact congrArg some (by decide +kernel)
  · refine r_iload (zW_mono _ _ _) rfl rfl ?_
    refine r_iload (zW_mono _ _ _) rfl rfl ?_
    refine r_ic_gt (X := a1.toInt) (Y := 2) (zW_mono _ _ _) rfl rfl (by decide +kernel) (fun z3 => ?_) (fun z3 => ?_)
    · refine r_push (zW_mono _ _ _) rfl ?_
      refine r_iret (zW_mono _ _ _) rfl rfl (by decide +kernel) ?_
      refine r_iret (zW_mono _ _ _) rfl rfl (by decide +kernel) ?_
      refine r_if_eq (zW_mono _ _ _) rfl (fun _ => ?_) (fun q => absurd q (by decide +kernel))
      refine r_push (zW_mono _ _ _) rfl ?_
      refine r_iret (zW_mono _ _ _) rfl rfl rfl ?_
      refine ⟨_, rfl, ⟨_, hx_111⟩, ?_⟩
      refine zW_in rfl (Nat.le_of_ble_eq_true rfl) ?_
      refine r_iload (zW_mono _ _ _) rfl rfl ?_
      refine r_stat1 (zW_mono _ _ _) rfl (Nat.le_of_ble_eq_true rfl) rfl (Nat.le_of_ble_eq_true rfl) (Nat.le_of_ble_eq_true rfl) ?_
      refine zW_in rfl (Nat.le_of_ble_eq_true rfl) ?_
      refine r_iload (zW_mono _ _ _) rfl rfl ?_
      refine r_i2l (zW_mono _ _ _) rfl ?_
      refine r_push (zW_mono _ _ _) rfl ?_
      refine r_push (zW_mono _ _ _) rfl ?_
      refine r_stat3 (zW_mono _ _ _) rfl (Nat.le_of_ble_eq_true rfl) rfl (Nat.le_of_ble_eq_true rfl) (Nat.le_of_ble_eq_true rfl) ?_
      refine zW_in rfl (Nat.le_of_ble_eq_true rfl) ?_
      refine r_lload (zW_mono _ _ _) rfl rfl ?_
      refine r_lload (zW_mono _ _ _) rfl rfl ?_
      refine r_lc_lt (X := a1.toInt) (Y := 0) (zW_mono _ _ _) rfl rfl (zi64 _) (by decide +kernel) (fun q => by exfalso; omega) (fun z4 => ?_)
      refine r_lload (zW_mono _ _ _) rfl rfl ?_
      refine r_lload (zW_mono _ _ _) rfl rfl ?_
      refine r_lc_gt (X := a1.toInt) (Y := 2) (zW_mono _ _ _) rfl rfl (zi64 _) (by decide +kernel) (fun z5 => ?_) (fun q => by exfalso; omega)
      refine r_push (zW_mono _ _ _) rfl ?_
      refine r_iret (zW_mono _ _ _) rfl rfl (by decide +kernel) ?_
      refine r_iret (zW_mono _ _ _) rfl rfl (by decide +kernel) ?_
      refine r_if_eq (zW_mono _ _ _) rfl (fun _ => ?_) (fun q => absurd q (by decide +kernel))
      refine r_push (zW_mono _ _ _) rfl ?_
      refine r_iret (zW_mono _ _ _) rfl rfl rfl ?_
      first | rfl | exact congrArg some (by decide +kernel)
    · refine r_push (zW_mono _ _ _) rfl ?_
      refine r_goto (zW_mono _ _ _) rfl ?_
      refine r_iret (zW_mono _ _ _) rfl rfl (by decide +kernel) ?_
      refine r_iret (zW_mono _ _ _) rfl rfl (by decide +kernel) ?_
      refine r_if_eq (zW_mono _ _ _) rfl (fun q => absurd q (by decide +kernel)) (fun _ => ?_)
      refine r_iload (zW_mono _ _ _) rfl rfl ?_
      refine r_push (zW_mono _ _ _) rfl ?_
      refine r_push (zW_mono _ _ _) rfl ?_
      refine r_stat3 (zW_mono _ _ _) rfl (Nat.le_of_ble_eq_true rfl) rfl (Nat.le_of_ble_eq_true rfl) (Nat.le_of_ble_eq_true rfl) ?_
      refine zW_in rfl (Nat.le_of_ble_eq_true rfl) ?_
      refine r_iload (zW_mono _ _ _) rfl rfl ?_
      refine r_iload (zW_mono _ _ _) rfl rfl ?_
      refine r_ic_lt (X := a2.toInt) (Y := 1) (zW_mono _ _ _) rfl rfl (by decide +kernel) (fun z6 => ?_) (fun z6 => ?_)
      · refine r_push (zW_mono _ _ _) rfl ?_
        refine r_iret (zW_mono _ _ _) rfl rfl (by decide +kernel) ?_
        refine r_if_eq (zW_mono _ _ _) rfl (fun _ => ?_) (fun q => absurd q (by decide +kernel))
        refine r_push (zW_mono _ _ _) rfl ?_
        refine r_iret (zW_mono _ _ _) rfl rfl rfl ?_
        refine ⟨_, rfl, ⟨_, hx_111⟩, ?_⟩
        refine zW_in rfl (Nat.le_of_ble_eq_true rfl) ?_
        refine r_iload (zW_mono _ _ _) rfl rfl ?_
        refine r_stat1 (zW_mono _ _ _) rfl (Nat.le_of_ble_eq_true rfl) rfl (Nat.le_of_ble_eq_true rfl) (Nat.le_of_ble_eq_true rfl) ?_
        refine zW_in rfl (Nat.le_of_ble_eq_true rfl) ?_
        refine r_iload (zW_mono _ _ _) rfl rfl ?_
        refine r_i2l (zW_mono _ _ _) rfl ?_
        refine r_push (zW_mono _ _ _) rfl ?_
        refine r_push (zW_mono _ _ _) rfl ?_
        refine r_stat3 (zW_mono _ _ _) rfl (Nat.le_of_ble_eq_true rfl) rfl (Nat.le_of_ble_eq_true rfl) (Nat.le_of_ble_eq_true rfl) ?_
        refine zW_in rfl (Nat.le_of_ble_eq_true rfl) ?_
        refine r_lload (zW_mono _ _ _) rfl rfl ?_
        refine r_lload (zW_mono _ _ _) rfl rfl ?_
        refine r_lc_lt (X := a1.toInt) (Y := 0) (zW_mono _ _ _) rfl rfl (zi64 _) (by decide +kernel) (fun q => by exfalso; omega) (fun z7 => ?_)
        refine r_lload (zW_mono _ _ _) rfl rfl ?_
        refine r_lload (zW_mono _ _ _) rfl rfl ?_
        refine r_lc_gt (X := a1.toInt) (Y := 2) (zW_mono _ _ _) rfl rfl (zi64 _) (by decide +kernel) (fun q => by exfalso; omega) (fun z8 => ?_)
        refine r_push (zW_mono _ _ _) rfl ?_
        refine r_goto (zW_mono _ _ _) rfl ?_
        refine r_iret (zW_mono _ _ _) rfl rfl (by decide +kernel) ?_
        refine r_iret (zW_mono _ _ _) rfl rfl (by decide +kernel) ?_
        refine r_if_eq (zW_mono _ _ _) rfl (fun q => absurd q (by decide +kernel)) (fun _ => ?_)
        refine r_iload (zW_mono _ _ _) rfl rfl ?_
        refine r_i2l (zW_mono _ _ _) rfl ?_
        refine r_push (zW_mono _ _ _) rfl ?_
        refine r_push (zW_mono _ _ _) rfl ?_
        refine r_stat3 (zW_mono _ _ _) rfl (Nat.le_of_ble_eq_true rfl) rfl (Nat.le_of_ble_eq_true rfl) (Nat.le_of_ble_eq_true rfl) ?_
        refine zW_in rfl (Nat.le_of_ble_eq_true rfl) ?_
        refine r_lload (zW_mono _ _ _) rfl rfl ?_
        refine r_lload (zW_mono _ _ _) rfl rfl ?_
        refine r_lc_lt (X := a2.toInt) (Y := 1) (zW_mono _ _ _) rfl rfl (zi64 _) (by decide +kernel) (fun z9 => ?_) (fun q => by exfalso; omega)
        refine r_push (zW_mono _ _ _) rfl ?_
        refine r_iret (zW_mono _ _ _) rfl rfl (by decide +kernel) ?_
        refine r_if_ne (zW_mono _ _ _) rfl (fun q => absurd q (by decide +kernel)) (fun _ => ?_)
        refine r_push (zW_mono _ _ _) rfl ?_
        refine r_iret (zW_mono _ _ _) rfl rfl rfl ?_
        first | rfl | exact congrArg some (by decide +kernel)
      · refine r_iload (zW_mono _ _ _) rfl rfl ?_
        refine r_iload (zW_mono _ _ _) rfl rfl ?_
        refine r_ic_gt (X := a2.toInt) (Y := 999) (zW_mono _ _ _) rfl rfl (by decide +kernel) (fun z10 => ?_) (fun z10 => ?_)
        · refine r_push (zW_mono _ _ _) rfl ?_
          refine r_iret (zW_mono _ _ _) rfl rfl (by decide +kernel) ?_
          refine r_if_eq (zW_mono _ _ _) rfl (fun _ => ?_) (fun q => absurd q (by decide +kernel))
          refine r_push (zW_mono _ _ _) rfl ?_
          refine r_iret (zW_mono _ _ _) rfl rfl rfl ?_
          refine ⟨_, rfl, ⟨_, hx_111⟩, ?_⟩
          refine zW_in rfl (Nat.le_of_ble_eq_true rfl) ?_
          refine r_iload (zW_mono _ _ _) rfl rfl ?_
          refine r_stat1 (zW_mono _ _ _) rfl (Nat.le_of_ble_eq_true rfl) rfl (Nat.le_of_ble_eq_true rfl) (Nat.le_of_ble_eq_true rfl) ?_
          refine zW_in rfl (Nat.le_of_ble_eq_true rfl) ?_
          refine r_iload (zW_mono _ _ _) rfl rfl ?_
          refine r_i2l (zW_mono _ _ _) rfl ?_
          refine r_push (zW_mono _ _ _) rfl ?_
          refine r_push (zW_mono _ _ _) rfl ?_
          refine r_stat3 (zW_mono _ _ _) rfl (Nat.le_of_ble_eq_true rfl) rfl (Nat.le_of_ble_eq_true rfl) (Nat.le_of_ble_eq_true rfl) ?_
          refine zW_in rfl (Nat.le_of_ble_eq_true rfl) ?_
          refine r_lload (zW_mono _ _ _) rfl rfl ?_
          refine r_lload (zW_mono _ _ _) rfl rfl ?_
          refine r_lc_lt (X := a1.toInt) (Y := 0) (zW_mono _ _ _) rfl rfl (zi64 _) (by decide +kernel) (fun q => by exfalso; omega) (fun z11 => ?_)
          refine r_lload (zW_mono _ _ _) rfl rfl ?_
          refine r_lload (zW_mono _ _ _) rfl rfl ?_
          refine r_lc_gt (X := a1.toInt) (Y := 2) (zW_mono _ _ _) rfl rfl (zi64 _) (by decide +kernel) (fun q => by exfalso; omega) (fun z12 => ?_)
          refine r_push (zW_mono _ _ _) rfl ?_
          refine r_goto (zW_mono _ _ _) rfl ?_
          refine r_iret (zW_mono _ _ _) rfl rfl (by decide +kernel) ?_
          refine r_iret (zW_mono _ _ _) rfl rfl (by decide +kernel) ?_
          refine r_if_eq (zW_mono _ _ _) rfl (fun q => absurd q (by decide +kernel)) (fun _ => ?_)
          refine r_iload (zW_mono _ _ _) rfl rfl ?_
          refine r_i2l (zW_mono _ _ _) rfl ?_
          refine r_push (zW_mono _ _ _) rfl ?_
          refine r_push (zW_mono _ _ _) rfl ?_
          refine r_stat3 (zW_mono _ _ _) rfl (Nat.le_of_ble_eq_true rfl) rfl (Nat.le_of_ble_eq_true rfl) (Nat.le_of_ble_eq_true rfl) ?_
          refine zW_in rfl (Nat.le_of_ble_eq_true rfl) ?_
          refine r_lload (zW_mono _ _ _) rfl rfl ?_
          refine r_lload (zW_mono _ _ _) rfl rfl ?_
          refine r_lc_lt (X := a2.toInt) (Y := 1) (zW_mono _ _ _) rfl rfl (zi64 _) (by decide +kernel) (fun q => by exfalso; omega) (fun z13 => ?_)
          refine r_lload (zW_mono _ _ _) rfl rfl ?_
          refine r_lload (zW_mono _ _ _) rfl rfl ?_
          refine r_lc_gt (X := a2.toInt) (Y := 999) (zW_mono _ _ _) rfl rfl (zi64 _) (by decide +kernel) (fun z14 => ?_) (fun q => by exfalso; omega)
          refine r_push (zW_mono _ _ _) rfl ?_
          refine r_iret (zW_mono _ _ _) rfl rfl (by decide +kernel) ?_
          refine r_if_ne (zW_mono _ _ _) rfl (fun q => absurd q (by decide +kernel)) (fun _ => ?_)
          refine r_push (zW_mono _ _ _) rfl ?_
          refine r_iret (zW_mono _ _ _) rfl rfl rfl ?_
          first | rfl | exact congrArg some (by decide +kernel)
        · refine r_push (zW_mono _ _ _) rfl ?_
          refine r_goto (zW_mono _ _ _) rfl ?_
          refine r_iret (zW_mono _ _ _) rfl rfl (by decide +kernel) ?_
          refine r_if_eq (zW_mono _ _ _) rfl (fun q => absurd q (by decide +kernel)) (fun _ => ?_)
          refine r_aload (zW_mono _ _ _) rfl rfl ?_
          refine r_get (zW_mono _ _ _) rfl hx_0 rfl ?_
          refine r_iload (zW_mono _ _ _) rfl rfl ?_
          refine r_iload (zW_mono _ _ _) rfl rfl ?_
          refine r_virt2 (zW_mono _ _ _) rfl hx_1 (Nat.le_of_ble_eq_true rfl) rfl (Nat.le_of_ble_eq_true rfl) (Nat.le_of_ble_eq_true rfl) ?_
          refine zW_in rfl (Nat.le_of_ble_eq_true rfl) ?_
          refine r_aload (zW_mono _ _ _) rfl rfl ?_
          refine r_get (zW_mono _ _ _) rfl hx_1 rfl ?_
          refine r_iload (zW_mono _ _ _) rfl rfl ?_
          refine r_iald (zW_mono _ _ _) rfl hx_2 (vp_in_iff.mpr ⟨by omega, by omega⟩) ?_
          refine r_istore (zW_mono _ _ _) rfl (Nat.le_of_ble_eq_true rfl) ?_
          refine r_aload (zW_mono _ _ _) rfl rfl ?_
          refine r_get (zW_mono _ _ _) rfl hx_1 rfl ?_
          refine r_iload (zW_mono _ _ _) rfl rfl ?_
          refine r_iload (zW_mono _ _ _) rfl rfl ?_
          refine r_iast (zW_mono _ _ _) rfl hx_2 (vp_in_iff.mpr ⟨by omega, by omega⟩) ?_
          refine zR_nm (fun h1 e1 => ?_)
          have g1 := zgs e1 hx_2
          refine r_iload (zW_mono _ _ _) rfl rfl ?_
          refine r_iret (zW_mono _ _ _) rfl rfl rfl ?_
          refine r_goto (zW_mono _ _ _) rfl ?_
          refine r_iret (zW_mono _ _ _) rfl rfl rfl ?_
          have f2 := (zgn e1 (by decide) hx_111)
          refine ⟨_, rfl, ⟨_, f2⟩, ?_⟩
          refine zW_in rfl (Nat.le_of_ble_eq_true rfl) ?_
          refine r_iload (zW_mono _ _ _) rfl rfl ?_
          refine r_stat1 (zW_mono _ _ _) rfl (Nat.le_of_ble_eq_true rfl) rfl (Nat.le_of_ble_eq_true rfl) (Nat.le_of_ble_eq_true rfl) ?_
          refine zW_in rfl (Nat.le_of_ble_eq_true rfl) ?_
          refine r_iload (zW_mono _ _ _) rfl rfl ?_
          refine r_i2l (zW_mono _ _ _) rfl ?_
          refine r_push (zW_mono _ _ _) rfl ?_
          refine r_push (zW_mono _ _ _) rfl ?_
          refine r_stat3 (zW_mono _ _ _) rfl (Nat.le_of_ble_eq_true rfl) rfl (Nat.le_of_ble_eq_true rfl) (Nat.le_of_ble_eq_true rfl) ?_
          refine zW_in rfl (Nat.le_of_ble_eq_true rfl) ?_
          refine r_lload (zW_mono _ _ _) rfl rfl ?_
          refine r_lload (zW_mono _ _ _) rfl rfl ?_
          refine r_lc_lt (X := a1.toInt) (Y := 0) (zW_mono _ _ _) rfl rfl (zi64 _) (by decide +kernel) (fun q => by exfalso; omega) (fun z15 => ?_)
          refine r_lload (zW_mono _ _ _) rfl rfl ?_
          refine r_lload (zW_mono _ _ _) rfl rfl ?_
          refine r_lc_gt (X := a1.toInt) (Y := 2) (zW_mono _ _ _) rfl rfl (zi64 _) (by decide +kernel) (fun q => by exfalso; omega) (fun z16 => ?_)
          refine r_push (zW_mono _ _ _) rfl ?_
          refine r_goto (zW_mono _ _ _) rfl ?_
          refine r_iret (zW_mono _ _ _) rfl rfl (by decide +kernel) ?_
          refine r_iret (zW_mono _ _ _) rfl rfl (by decide +kernel) ?_
          refine r_if_eq (zW_mono _ _ _) rfl (fun q => absurd q (by decide +kernel)) (fun _ => ?_)
          refine r_iload (zW_mono _ _ _) rfl rfl ?_
          refine r_i2l (zW_mono _ _ _) rfl ?_
          refine r_push (zW_mono _ _ _) rfl ?_
          refine r_push (zW_mono _ _ _) rfl ?_
          refine r_stat3 (zW_mono _ _ _) rfl (Nat.le_of_ble_eq_true rfl) rfl (Nat.le_of_ble_eq_true rfl) (Nat.le_of_ble_eq_true rfl) ?_
          refine zW_in rfl (Nat.le_of_ble_eq_true rfl) ?_
          refine r_lload (zW_mono _ _ _) rfl rfl ?_
          refine r_lload (zW_mono _ _ _) rfl rfl ?_
          refine r_lc_lt (X := a2.toInt) (Y := 1) (zW_mono _ _ _) rfl rfl (zi64 _) (by decide +kernel) (fun q => by exfalso; omega) (fun z17 => ?_)
          refine r_lload (zW_mono _ _ _) rfl rfl ?_
          refine r_lload (zW_mono _ _ _) rfl rfl ?_
          refine r_lc_gt (X := a2.toInt) (Y := 999) (zW_mono _ _ _) rfl rfl (zi64 _) (by decide +kernel) (fun q => by exfalso; omega) (fun z18 => ?_)
          refine r_push (zW_mono _ _ _) rfl ?_
          refine r_goto (zW_mono _ _ _) rfl ?_
          refine r_iret (zW_mono _ _ _) rfl rfl (by decide +kernel) ?_
          refine r_if_ne (zW_mono _ _ _) rfl (fun _ => ?_) (fun q => absurd q (by decide +kernel))
          refine r_aload (zW_mono _ _ _) rfl rfl ?_
          refine r_get (zW_mono _ _ _) rfl f2 rfl ?_
          refine r_iload (zW_mono _ _ _) rfl rfl ?_
          have f3 := (zgn e1 (by decide) hx_113)
          refine r_iald (zW_mono _ _ _) rfl f3 (vp_in_iff.mpr ⟨by omega, by omega⟩) ?_
          refine r_istore (zW_mono _ _ _) rfl (Nat.le_of_ble_eq_true rfl) ?_
          refine r_aload (zW_mono _ _ _) rfl rfl ?_
          refine r_get (zW_mono _ _ _) rfl f2 rfl ?_
          refine r_iload (zW_mono _ _ _) rfl rfl ?_
          refine r_iload (zW_mono _ _ _) rfl rfl ?_
          refine r_iast (zW_mono _ _ _) rfl f3 (vp_in_iff.mpr ⟨by omega, by omega⟩) ?_
          refine zR_nm (fun h4 e4 => ?_)
          have g4 := zgs e4 f3
          refine r_iload (zW_mono _ _ _) rfl rfl ?_
          refine r_iret (zW_mono _ _ _) rfl rfl rfl ?_
          rfl
set_option maxHeartbeats 4000000 in
set_option maxRecDepth 20000 in
theorem op_kind {G : zG} (hG : G.1 = zProg) (a1 a2 a3 a4 : Int32) : zW zTt G 12 113 [.ref 0, .int a1, .int a2, .int a3, .int a4] (dzH dH0) (fun w h => ∃ x : Int32, w = some (.int x) ∧ (∃ fs : List Value, h[111]? = some (.inr (12, fs))) ∧ zW zTt G 12 181 [.ref 111, .int a1, .int a2, .int a3, .int a4] h (fun w2 _ => w2 = some (.int x))) := by
  obtain ⟨p9, t9⟩ := G
  have hG : p9 = zProg := hG
  subst hG
  refine zW_in rfl (Nat.le_of_ble_eq_true rfl) ?_
  refine r_iload (zW_mono _ _ _) rfl rfl ?_
  refine r_stat1 (zW_mono _ _ _) rfl (Nat.le_of_ble_eq_true rfl) rfl (Nat.le_of_ble_eq_true rfl) (Nat.le_of_ble_eq_true rfl) ?_
  refine zW_in rfl (Nat.le_of_ble_eq_true rfl) ?_
  refine r_iload (zW_mono _ _ _) rfl rfl ?_
  refine r_push (zW_mono _ _ _) rfl ?_
  refine r_push (zW_mono _ _ _) rfl ?_
  refine r_stat3 (zW_mono _ _ _) rfl (Nat.le_of_ble_eq_true rfl) rfl (Nat.le_of_ble_eq_true rfl) (Nat.le_of_ble_eq_true rfl) ?_
  refine zW_in rfl (Nat.le_of_ble_eq_true rfl) ?_
  refine r_iload (zW_mono _ _ _) rfl rfl ?_
  refine r_iload (zW_mono _ _ _) rfl rfl ?_
  refine r_ic_lt (X := a1.toInt) (Y := 0) (zW_mono _ _ _) rfl rfl (by decide +kernel) (fun z1 => ?_) (fun z1 => ?_)
  · refine r_push (zW_mono _ _ _) rfl ?_
    refine r_iret (zW_mono _ _ _) rfl rfl (by decide +kernel) ?_
    refine r_iret (zW_mono _ _ _) rfl rfl (by decide +kernel) ?_
    refine r_if_eq (zW_mono _ _ _) rfl (fun _ => ?_) (fun q => absurd q (by decide +kernel))
    refine r_push (zW_mono _ _ _) rfl ?_
    refine r_istore (zW_mono _ _ _) rfl (Nat.le_of_ble_eq_true rfl) ?_
    refine r_iload (zW_mono _ _ _) rfl rfl ?_
    refine r_if_eq (zW_mono _ _ _) rfl (fun _ => ?_) (fun q => absurd q (by decide +kernel))
    refine r_push (zW_mono _ _ _) rfl ?_
    refine r_iret (zW_mono _ _ _) rfl rfl rfl ?_
    refine ⟨_, rfl, ⟨_, hx_111⟩, ?_⟩
    refine zW_in rfl (Nat.le_of_ble_eq_true rfl) ?_
    refine r_aload (zW_mono _ _ _) rfl rfl ?_
    refine r_get (zW_mono _ _ _) rfl hx_111 rfl ?_
    refine r_push (zW_mono _ _ _) rfl ?_
    refine r_icmp_eq (zW_mono _ _ _) rfl (fun q => absurd q (by decide +kernel)) (fun _ => ?_)
    refine r_iload (zW_mono _ _ _) rfl rfl ?_
    refine r_i2l (zW_mono _ _ _) rfl ?_
    refine r_push (zW_mono _ _ _) rfl ?_
    refine r_push (zW_mono _ _ _) rfl ?_
    refine r_stat3 (zW_mono _ _ _) rfl (Nat.le_of_ble_eq_true rfl) rfl (Nat.le_of_ble_eq_true rfl) (Nat.le_of_ble_eq_true rfl) ?_
    refine zW_in rfl (Nat.le_of_ble_eq_true rfl) ?_
    refine r_lload (zW_mono _ _ _) rfl rfl ?_
    refine r_lload (zW_mono _ _ _) rfl rfl ?_
    refine r_lc_lt (X := a1.toInt) (Y := 0) (zW_mono _ _ _) rfl rfl (zi64 _) (by decide +kernel) (fun z2 => ?_) (fun q => by exfalso; omega)
    refine r_push (zW_mono _ _ _) rfl ?_
    refine r_iret (zW_mono _ _ _) rfl rfl (by decide +kernel) ?_
    refine r_if_eq (zW_mono _ _ _) rfl (fun _ => ?_) (fun q => absurd q (by decide +kernel))
    refine r_push (zW_mono _ _ _) rfl ?_
    refine r_iret (zW_mono _ _ _) rfl rfl rfl ?_
    first | rfl | exact congrArg some (by decide +kernel)
  · refine r_iload (zW_mono _ _ _) rfl rfl ?_
    refine r_iload (zW_mono _ _ _) rfl rfl ?_
    refine r_ic_gt (X := a1.toInt) (Y := 3) (zW_mono _ _ _) rfl rfl (by decide +kernel) (fun z3 => ?_) (fun z3 => ?_)
    · refine r_push (zW_mono _ _ _) rfl ?_
      refine r_iret (zW_mono _ _ _) rfl rfl (by decide +kernel) ?_
      refine r_iret (zW_mono _ _ _) rfl rfl (by decide +kernel) ?_
      refine r_if_eq (zW_mono _ _ _) rfl (fun _ => ?_) (fun q => absurd q (by decide +kernel))
      refine r_push (zW_mono _ _ _) rfl ?_
      refine r_istore (zW_mono _ _ _) rfl (Nat.le_of_ble_eq_true rfl) ?_
      refine r_iload (zW_mono _ _ _) rfl rfl ?_
      refine r_if_eq (zW_mono _ _ _) rfl (fun _ => ?_) (fun q => absurd q (by decide +kernel))
      refine r_push (zW_mono _ _ _) rfl ?_
      refine r_iret (zW_mono _ _ _) rfl rfl rfl ?_
      refine ⟨_, rfl, ⟨_, hx_111⟩, ?_⟩
      refine zW_in rfl (Nat.le_of_ble_eq_true rfl) ?_
      refine r_aload (zW_mono _ _ _) rfl rfl ?_
      refine r_get (zW_mono _ _ _) rfl hx_111 rfl ?_
      refine r_push (zW_mono _ _ _) rfl ?_
      refine r_icmp_eq (zW_mono _ _ _) rfl (fun q => absurd q (by decide +kernel)) (fun _ => ?_)
      refine r_iload (zW_mono _ _ _) rfl rfl ?_
      refine r_i2l (zW_mono _ _ _) rfl ?_
      refine r_push (zW_mono _ _ _) rfl ?_
      refine r_push (zW_mono _ _ _) rfl ?_
      refine r_stat3 (zW_mono _ _ _) rfl (Nat.le_of_ble_eq_true rfl) rfl (Nat.le_of_ble_eq_true rfl) (Nat.le_of_ble_eq_true rfl) ?_
      refine zW_in rfl (Nat.le_of_ble_eq_true rfl) ?_
      refine r_lload (zW_mono _ _ _) rfl rfl ?_
      refine r_lload (zW_mono _ _ _) rfl rfl ?_
      refine r_lc_lt (X := a1.toInt) (Y := 0) (zW_mono _ _ _) rfl rfl (zi64 _) (by decide +kernel) (fun q => by exfalso; omega) (fun z4 => ?_)
      refine r_lload (zW_mono _ _ _) rfl rfl ?_
      refine r_lload (zW_mono _ _ _) rfl rfl ?_
      refine r_lc_gt (X := a1.toInt) (Y := 3) (zW_mono _ _ _) rfl rfl (zi64 _) (by decide +kernel) (fun z5 => ?_) (fun q => by exfalso; omega)
      refine r_push (zW_mono _ _ _) rfl ?_
      refine r_iret (zW_mono _ _ _) rfl rfl (by decide +kernel) ?_
      refine r_if_eq (zW_mono _ _ _) rfl (fun _ => ?_) (fun q => absurd q (by decide +kernel))
      refine r_push (zW_mono _ _ _) rfl ?_
      refine r_iret (zW_mono _ _ _) rfl rfl rfl ?_
      first | rfl | exact congrArg some (by decide +kernel)
    · refine r_push (zW_mono _ _ _) rfl ?_
      refine r_goto (zW_mono _ _ _) rfl ?_
      refine r_iret (zW_mono _ _ _) rfl rfl (by decide +kernel) ?_
      refine r_iret (zW_mono _ _ _) rfl rfl (by decide +kernel) ?_
      refine r_if_eq (zW_mono _ _ _) rfl (fun q => absurd q (by decide +kernel)) (fun _ => ?_)
      refine r_iload (zW_mono _ _ _) rfl rfl ?_
      refine r_push (zW_mono _ _ _) rfl ?_
      refine r_push (zW_mono _ _ _) rfl ?_
      refine r_stat3 (zW_mono _ _ _) rfl (Nat.le_of_ble_eq_true rfl) rfl (Nat.le_of_ble_eq_true rfl) (Nat.le_of_ble_eq_true rfl) ?_
      refine zW_in rfl (Nat.le_of_ble_eq_true rfl) ?_
      refine r_iload (zW_mono _ _ _) rfl rfl ?_
      refine r_iload (zW_mono _ _ _) rfl rfl ?_
      refine r_ic_lt (X := a2.toInt) (Y := 0) (zW_mono _ _ _) rfl rfl (by decide +kernel) (fun z6 => ?_) (fun z6 => ?_)
      · refine r_push (zW_mono _ _ _) rfl ?_
        refine r_iret (zW_mono _ _ _) rfl rfl (by decide +kernel) ?_
        refine r_if_eq (zW_mono _ _ _) rfl (fun _ => ?_) (fun q => absurd q (by decide +kernel))
        refine r_push (zW_mono _ _ _) rfl ?_
        refine r_istore (zW_mono _ _ _) rfl (Nat.le_of_ble_eq_true rfl) ?_
        refine r_iload (zW_mono _ _ _) rfl rfl ?_
        refine r_if_eq (zW_mono _ _ _) rfl (fun _ => ?_) (fun q => absurd q (by decide +kernel))
        refine r_push (zW_mono _ _ _) rfl ?_
        refine r_iret (zW_mono _ _ _) rfl rfl rfl ?_
        refine ⟨_, rfl, ⟨_, hx_111⟩, ?_⟩
        refine zW_in rfl (Nat.le_of_ble_eq_true rfl) ?_
        refine r_aload (zW_mono _ _ _) rfl rfl ?_
        refine r_get (zW_mono _ _ _) rfl hx_111 rfl ?_
        refine r_push (zW_mono _ _ _) rfl ?_
        refine r_icmp_eq (zW_mono _ _ _) rfl (fun q => absurd q (by decide +kernel)) (fun _ => ?_)
        refine r_iload (zW_mono _ _ _) rfl rfl ?_
        refine r_i2l (zW_mono _ _ _) rfl ?_
        refine r_push (zW_mono _ _ _) rfl ?_
        refine r_push (zW_mono _ _ _) rfl ?_
        refine r_stat3 (zW_mono _ _ _) rfl (Nat.le_of_ble_eq_true rfl) rfl (Nat.le_of_ble_eq_true rfl) (Nat.le_of_ble_eq_true rfl) ?_
        refine zW_in rfl (Nat.le_of_ble_eq_true rfl) ?_
        refine r_lload (zW_mono _ _ _) rfl rfl ?_
        refine r_lload (zW_mono _ _ _) rfl rfl ?_
        refine r_lc_lt (X := a1.toInt) (Y := 0) (zW_mono _ _ _) rfl rfl (zi64 _) (by decide +kernel) (fun q => by exfalso; omega) (fun z7 => ?_)
        refine r_lload (zW_mono _ _ _) rfl rfl ?_
        refine r_lload (zW_mono _ _ _) rfl rfl ?_
        refine r_lc_gt (X := a1.toInt) (Y := 3) (zW_mono _ _ _) rfl rfl (zi64 _) (by decide +kernel) (fun q => by exfalso; omega) (fun z8 => ?_)
        refine r_push (zW_mono _ _ _) rfl ?_
        refine r_goto (zW_mono _ _ _) rfl ?_
        refine r_iret (zW_mono _ _ _) rfl rfl (by decide +kernel) ?_
        refine r_if_eq (zW_mono _ _ _) rfl (fun q => absurd q (by decide +kernel)) (fun _ => ?_)
        refine r_iload (zW_mono _ _ _) rfl rfl ?_
        refine r_i2l (zW_mono _ _ _) rfl ?_
        refine r_push (zW_mono _ _ _) rfl ?_
        refine r_push (zW_mono _ _ _) rfl ?_
        refine r_stat3 (zW_mono _ _ _) rfl (Nat.le_of_ble_eq_true rfl) rfl (Nat.le_of_ble_eq_true rfl) (Nat.le_of_ble_eq_true rfl) ?_
        refine zW_in rfl (Nat.le_of_ble_eq_true rfl) ?_
        refine r_lload (zW_mono _ _ _) rfl rfl ?_
        refine r_lload (zW_mono _ _ _) rfl rfl ?_
        refine r_lc_lt (X := a2.toInt) (Y := 0) (zW_mono _ _ _) rfl rfl (zi64 _) (by decide +kernel) (fun z9 => ?_) (fun q => by exfalso; omega)
        refine r_push (zW_mono _ _ _) rfl ?_
        refine r_iret (zW_mono _ _ _) rfl rfl (by decide +kernel) ?_
        refine r_if_eq (zW_mono _ _ _) rfl (fun _ => ?_) (fun q => absurd q (by decide +kernel))
        refine r_push (zW_mono _ _ _) rfl ?_
        refine r_iret (zW_mono _ _ _) rfl rfl rfl ?_
        first | rfl | exact congrArg some (by decide +kernel)
      · refine r_iload (zW_mono _ _ _) rfl rfl ?_
        refine r_iload (zW_mono _ _ _) rfl rfl ?_
        refine r_ic_gt (X := a2.toInt) (Y := 99999) (zW_mono _ _ _) rfl rfl (by decide +kernel) (fun z10 => ?_) (fun z10 => ?_)
        · refine r_push (zW_mono _ _ _) rfl ?_
          refine r_iret (zW_mono _ _ _) rfl rfl (by decide +kernel) ?_
          refine r_if_eq (zW_mono _ _ _) rfl (fun _ => ?_) (fun q => absurd q (by decide +kernel))
          refine r_push (zW_mono _ _ _) rfl ?_
          refine r_istore (zW_mono _ _ _) rfl (Nat.le_of_ble_eq_true rfl) ?_
          refine r_iload (zW_mono _ _ _) rfl rfl ?_
          refine r_if_eq (zW_mono _ _ _) rfl (fun _ => ?_) (fun q => absurd q (by decide +kernel))
          refine r_push (zW_mono _ _ _) rfl ?_
          refine r_iret (zW_mono _ _ _) rfl rfl rfl ?_
          refine ⟨_, rfl, ⟨_, hx_111⟩, ?_⟩
          refine zW_in rfl (Nat.le_of_ble_eq_true rfl) ?_
          refine r_aload (zW_mono _ _ _) rfl rfl ?_
          refine r_get (zW_mono _ _ _) rfl hx_111 rfl ?_
          refine r_push (zW_mono _ _ _) rfl ?_
          refine r_icmp_eq (zW_mono _ _ _) rfl (fun q => absurd q (by decide +kernel)) (fun _ => ?_)
          refine r_iload (zW_mono _ _ _) rfl rfl ?_
          refine r_i2l (zW_mono _ _ _) rfl ?_
          refine r_push (zW_mono _ _ _) rfl ?_
          refine r_push (zW_mono _ _ _) rfl ?_
          refine r_stat3 (zW_mono _ _ _) rfl (Nat.le_of_ble_eq_true rfl) rfl (Nat.le_of_ble_eq_true rfl) (Nat.le_of_ble_eq_true rfl) ?_
          refine zW_in rfl (Nat.le_of_ble_eq_true rfl) ?_
          refine r_lload (zW_mono _ _ _) rfl rfl ?_
          refine r_lload (zW_mono _ _ _) rfl rfl ?_
          refine r_lc_lt (X := a1.toInt) (Y := 0) (zW_mono _ _ _) rfl rfl (zi64 _) (by decide +kernel) (fun q => by exfalso; omega) (fun z11 => ?_)
          refine r_lload (zW_mono _ _ _) rfl rfl ?_
          refine r_lload (zW_mono _ _ _) rfl rfl ?_
          refine r_lc_gt (X := a1.toInt) (Y := 3) (zW_mono _ _ _) rfl rfl (zi64 _) (by decide +kernel) (fun q => by exfalso; omega) (fun z12 => ?_)
          refine r_push (zW_mono _ _ _) rfl ?_
          refine r_goto (zW_mono _ _ _) rfl ?_
          refine r_iret (zW_mono _ _ _) rfl rfl (by decide +kernel) ?_
          refine r_if_eq (zW_mono _ _ _) rfl (fun q => absurd q (by decide +kernel)) (fun _ => ?_)
          refine r_iload (zW_mono _ _ _) rfl rfl ?_
          refine r_i2l (zW_mono _ _ _) rfl ?_
          refine r_push (zW_mono _ _ _) rfl ?_
          refine r_push (zW_mono _ _ _) rfl ?_
          refine r_stat3 (zW_mono _ _ _) rfl (Nat.le_of_ble_eq_true rfl) rfl (Nat.le_of_ble_eq_true rfl) (Nat.le_of_ble_eq_true rfl) ?_
          refine zW_in rfl (Nat.le_of_ble_eq_true rfl) ?_
          refine r_lload (zW_mono _ _ _) rfl rfl ?_
          refine r_lload (zW_mono _ _ _) rfl rfl ?_
          refine r_lc_lt (X := a2.toInt) (Y := 0) (zW_mono _ _ _) rfl rfl (zi64 _) (by decide +kernel) (fun q => by exfalso; omega) (fun z13 => ?_)
          refine r_lload (zW_mono _ _ _) rfl rfl ?_
          refine r_lload (zW_mono _ _ _) rfl rfl ?_
          refine r_lc_gt (X := a2.toInt) (Y := 99999) (zW_mono _ _ _) rfl rfl (zi64 _) (by decide +kernel) (fun z14 => ?_) (fun q => by exfalso; omega)
          refine r_push (zW_mono _ _ _) rfl ?_
          refine r_iret (zW_mono _ _ _) rfl rfl (by decide +kernel) ?_
          refine r_if_eq (zW_mono _ _ _) rfl (fun _ => ?_) (fun q => absurd q (by decide +kernel))
          refine r_push (zW_mono _ _ _) rfl ?_
          refine r_iret (zW_mono _ _ _) rfl rfl rfl ?_
          first | rfl | exact congrArg some (by decide +kernel)
        · refine r_push (zW_mono _ _ _) rfl ?_
          refine r_goto (zW_mono _ _ _) rfl ?_
          refine r_iret (zW_mono _ _ _) rfl rfl (by decide +kernel) ?_
          refine r_if_eq (zW_mono _ _ _) rfl (fun q => absurd q (by decide +kernel)) (fun _ => ?_)
          refine r_iload (zW_mono _ _ _) rfl rfl ?_
          refine r_push (zW_mono _ _ _) rfl ?_
          refine r_push (zW_mono _ _ _) rfl ?_
          refine r_stat3 (zW_mono _ _ _) rfl (Nat.le_of_ble_eq_true rfl) rfl (Nat.le_of_ble_eq_true rfl) (Nat.le_of_ble_eq_true rfl) ?_
          refine zW_in rfl (Nat.le_of_ble_eq_true rfl) ?_
          refine r_iload (zW_mono _ _ _) rfl rfl ?_
          refine r_iload (zW_mono _ _ _) rfl rfl ?_
          refine r_ic_lt (X := a3.toInt) (Y := 0) (zW_mono _ _ _) rfl rfl (by decide +kernel) (fun z15 => ?_) (fun z15 => ?_)
          · refine r_push (zW_mono _ _ _) rfl ?_
            refine r_iret (zW_mono _ _ _) rfl rfl (by decide +kernel) ?_
            refine r_if_eq (zW_mono _ _ _) rfl (fun _ => ?_) (fun q => absurd q (by decide +kernel))
            refine r_push (zW_mono _ _ _) rfl ?_
            refine r_istore (zW_mono _ _ _) rfl (Nat.le_of_ble_eq_true rfl) ?_
            refine r_iload (zW_mono _ _ _) rfl rfl ?_
            refine r_if_eq (zW_mono _ _ _) rfl (fun _ => ?_) (fun q => absurd q (by decide +kernel))
            refine r_push (zW_mono _ _ _) rfl ?_
            refine r_iret (zW_mono _ _ _) rfl rfl rfl ?_
            refine ⟨_, rfl, ⟨_, hx_111⟩, ?_⟩
            refine zW_in rfl (Nat.le_of_ble_eq_true rfl) ?_
            refine r_aload (zW_mono _ _ _) rfl rfl ?_
            refine r_get (zW_mono _ _ _) rfl hx_111 rfl ?_
            refine r_push (zW_mono _ _ _) rfl ?_
            refine r_icmp_eq (zW_mono _ _ _) rfl (fun q => absurd q (by decide +kernel)) (fun _ => ?_)
            refine r_iload (zW_mono _ _ _) rfl rfl ?_
            refine r_i2l (zW_mono _ _ _) rfl ?_
            refine r_push (zW_mono _ _ _) rfl ?_
            refine r_push (zW_mono _ _ _) rfl ?_
            refine r_stat3 (zW_mono _ _ _) rfl (Nat.le_of_ble_eq_true rfl) rfl (Nat.le_of_ble_eq_true rfl) (Nat.le_of_ble_eq_true rfl) ?_
            refine zW_in rfl (Nat.le_of_ble_eq_true rfl) ?_
            refine r_lload (zW_mono _ _ _) rfl rfl ?_
            refine r_lload (zW_mono _ _ _) rfl rfl ?_
            refine r_lc_lt (X := a1.toInt) (Y := 0) (zW_mono _ _ _) rfl rfl (zi64 _) (by decide +kernel) (fun q => by exfalso; omega) (fun z16 => ?_)
            refine r_lload (zW_mono _ _ _) rfl rfl ?_
            refine r_lload (zW_mono _ _ _) rfl rfl ?_
            refine r_lc_gt (X := a1.toInt) (Y := 3) (zW_mono _ _ _) rfl rfl (zi64 _) (by decide +kernel) (fun q => by exfalso; omega) (fun z17 => ?_)
            refine r_push (zW_mono _ _ _) rfl ?_
            refine r_goto (zW_mono _ _ _) rfl ?_
            refine r_iret (zW_mono _ _ _) rfl rfl (by decide +kernel) ?_
            refine r_if_eq (zW_mono _ _ _) rfl (fun q => absurd q (by decide +kernel)) (fun _ => ?_)
            refine r_iload (zW_mono _ _ _) rfl rfl ?_
            refine r_i2l (zW_mono _ _ _) rfl ?_
            refine r_push (zW_mono _ _ _) rfl ?_
            refine r_push (zW_mono _ _ _) rfl ?_
            refine r_stat3 (zW_mono _ _ _) rfl (Nat.le_of_ble_eq_true rfl) rfl (Nat.le_of_ble_eq_true rfl) (Nat.le_of_ble_eq_true rfl) ?_
            refine zW_in rfl (Nat.le_of_ble_eq_true rfl) ?_
            refine r_lload (zW_mono _ _ _) rfl rfl ?_
            refine r_lload (zW_mono _ _ _) rfl rfl ?_
            refine r_lc_lt (X := a2.toInt) (Y := 0) (zW_mono _ _ _) rfl rfl (zi64 _) (by decide +kernel) (fun q => by exfalso; omega) (fun z18 => ?_)
            refine r_lload (zW_mono _ _ _) rfl rfl ?_
            refine r_lload (zW_mono _ _ _) rfl rfl ?_
            refine r_lc_gt (X := a2.toInt) (Y := 99999) (zW_mono _ _ _) rfl rfl (zi64 _) (by decide +kernel) (fun q => by exfalso; omega) (fun z19 => ?_)
            refine r_push (zW_mono _ _ _) rfl ?_
            refine r_goto (zW_mono _ _ _) rfl ?_
            refine r_iret (zW_mono _ _ _) rfl rfl (by decide +kernel) ?_
            refine r_if_eq (zW_mono _ _ _) rfl (fun q => absurd q (by decide +kernel)) (fun _ => ?_)
            refine r_iload (zW_mono _ _ _) rfl rfl ?_
            refine r_i2l (zW_mono _ _ _) rfl ?_
            refine r_push (zW_mono _ _ _) rfl ?_
            refine r_push (zW_mono _ _ _) rfl ?_
            refine r_stat3 (zW_mono _ _ _) rfl (Nat.le_of_ble_eq_true rfl) rfl (Nat.le_of_ble_eq_true rfl) (Nat.le_of_ble_eq_true rfl) ?_
            refine zW_in rfl (Nat.le_of_ble_eq_true rfl) ?_
            refine r_lload (zW_mono _ _ _) rfl rfl ?_
            refine r_lload (zW_mono _ _ _) rfl rfl ?_
            refine r_lc_lt (X := a3.toInt) (Y := 0) (zW_mono _ _ _) rfl rfl (zi64 _) (by decide +kernel) (fun z20 => ?_) (fun q => by exfalso; omega)
            refine r_push (zW_mono _ _ _) rfl ?_
            refine r_iret (zW_mono _ _ _) rfl rfl (by decide +kernel) ?_
            refine r_if_eq (zW_mono _ _ _) rfl (fun _ => ?_) (fun q => absurd q (by decide +kernel))
            refine r_push (zW_mono _ _ _) rfl ?_
            refine r_iret (zW_mono _ _ _) rfl rfl rfl ?_
            first | rfl | exact congrArg some (by decide +kernel)
          · refine r_iload (zW_mono _ _ _) rfl rfl ?_
            refine r_iload (zW_mono _ _ _) rfl rfl ?_
            refine r_ic_gt (X := a3.toInt) (Y := 99999) (zW_mono _ _ _) rfl rfl (by decide +kernel) (fun z21 => ?_) (fun z21 => ?_)
            · refine r_push (zW_mono _ _ _) rfl ?_
              refine r_iret (zW_mono _ _ _) rfl rfl (by decide +kernel) ?_
              refine r_if_eq (zW_mono _ _ _) rfl (fun _ => ?_) (fun q => absurd q (by decide +kernel))
              refine r_push (zW_mono _ _ _) rfl ?_
              refine r_istore (zW_mono _ _ _) rfl (Nat.le_of_ble_eq_true rfl) ?_
              refine r_iload (zW_mono _ _ _) rfl rfl ?_
              refine r_if_eq (zW_mono _ _ _) rfl (fun _ => ?_) (fun q => absurd q (by decide +kernel))
              refine r_push (zW_mono _ _ _) rfl ?_
              refine r_iret (zW_mono _ _ _) rfl rfl rfl ?_
              refine ⟨_, rfl, ⟨_, hx_111⟩, ?_⟩
              refine zW_in rfl (Nat.le_of_ble_eq_true rfl) ?_
              refine r_aload (zW_mono _ _ _) rfl rfl ?_
              refine r_get (zW_mono _ _ _) rfl hx_111 rfl ?_
              refine r_push (zW_mono _ _ _) rfl ?_
              refine r_icmp_eq (zW_mono _ _ _) rfl (fun q => absurd q (by decide +kernel)) (fun _ => ?_)
              refine r_iload (zW_mono _ _ _) rfl rfl ?_
              refine r_i2l (zW_mono _ _ _) rfl ?_
              refine r_push (zW_mono _ _ _) rfl ?_
              refine r_push (zW_mono _ _ _) rfl ?_
              refine r_stat3 (zW_mono _ _ _) rfl (Nat.le_of_ble_eq_true rfl) rfl (Nat.le_of_ble_eq_true rfl) (Nat.le_of_ble_eq_true rfl) ?_
              refine zW_in rfl (Nat.le_of_ble_eq_true rfl) ?_
              refine r_lload (zW_mono _ _ _) rfl rfl ?_
              refine r_lload (zW_mono _ _ _) rfl rfl ?_
              refine r_lc_lt (X := a1.toInt) (Y := 0) (zW_mono _ _ _) rfl rfl (zi64 _) (by decide +kernel) (fun q => by exfalso; omega) (fun z22 => ?_)
              refine r_lload (zW_mono _ _ _) rfl rfl ?_
              refine r_lload (zW_mono _ _ _) rfl rfl ?_
              refine r_lc_gt (X := a1.toInt) (Y := 3) (zW_mono _ _ _) rfl rfl (zi64 _) (by decide +kernel) (fun q => by exfalso; omega) (fun z23 => ?_)
              refine r_push (zW_mono _ _ _) rfl ?_
              refine r_goto (zW_mono _ _ _) rfl ?_
              refine r_iret (zW_mono _ _ _) rfl rfl (by decide +kernel) ?_
              refine r_if_eq (zW_mono _ _ _) rfl (fun q => absurd q (by decide +kernel)) (fun _ => ?_)
              refine r_iload (zW_mono _ _ _) rfl rfl ?_
              refine r_i2l (zW_mono _ _ _) rfl ?_
              refine r_push (zW_mono _ _ _) rfl ?_
              refine r_push (zW_mono _ _ _) rfl ?_
              refine r_stat3 (zW_mono _ _ _) rfl (Nat.le_of_ble_eq_true rfl) rfl (Nat.le_of_ble_eq_true rfl) (Nat.le_of_ble_eq_true rfl) ?_
              refine zW_in rfl (Nat.le_of_ble_eq_true rfl) ?_
              refine r_lload (zW_mono _ _ _) rfl rfl ?_
              refine r_lload (zW_mono _ _ _) rfl rfl ?_
              refine r_lc_lt (X := a2.toInt) (Y := 0) (zW_mono _ _ _) rfl rfl (zi64 _) (by decide +kernel) (fun q => by exfalso; omega) (fun z24 => ?_)
              refine r_lload (zW_mono _ _ _) rfl rfl ?_
              refine r_lload (zW_mono _ _ _) rfl rfl ?_
              refine r_lc_gt (X := a2.toInt) (Y := 99999) (zW_mono _ _ _) rfl rfl (zi64 _) (by decide +kernel) (fun q => by exfalso; omega) (fun z25 => ?_)
              refine r_push (zW_mono _ _ _) rfl ?_
              refine r_goto (zW_mono _ _ _) rfl ?_
              refine r_iret (zW_mono _ _ _) rfl rfl (by decide +kernel) ?_
              refine r_if_eq (zW_mono _ _ _) rfl (fun q => absurd q (by decide +kernel)) (fun _ => ?_)
              refine r_iload (zW_mono _ _ _) rfl rfl ?_
              refine r_i2l (zW_mono _ _ _) rfl ?_
              refine r_push (zW_mono _ _ _) rfl ?_
              refine r_push (zW_mono _ _ _) rfl ?_
              refine r_stat3 (zW_mono _ _ _) rfl (Nat.le_of_ble_eq_true rfl) rfl (Nat.le_of_ble_eq_true rfl) (Nat.le_of_ble_eq_true rfl) ?_
              refine zW_in rfl (Nat.le_of_ble_eq_true rfl) ?_
              refine r_lload (zW_mono _ _ _) rfl rfl ?_
              refine r_lload (zW_mono _ _ _) rfl rfl ?_
              refine r_lc_lt (X := a3.toInt) (Y := 0) (zW_mono _ _ _) rfl rfl (zi64 _) (by decide +kernel) (fun q => by exfalso; omega) (fun z26 => ?_)
              refine r_lload (zW_mono _ _ _) rfl rfl ?_
              refine r_lload (zW_mono _ _ _) rfl rfl ?_
              refine r_lc_gt (X := a3.toInt) (Y := 99999) (zW_mono _ _ _) rfl rfl (zi64 _) (by decide +kernel) (fun z27 => ?_) (fun q => by exfalso; omega)
              refine r_push (zW_mono _ _ _) rfl ?_
              refine r_iret (zW_mono _ _ _) rfl rfl (by decide +kernel) ?_
              refine r_if_eq (zW_mono _ _ _) rfl (fun _ => ?_) (fun q => absurd q (by decide +kernel))
              refine r_push (zW_mono _ _ _) rfl ?_
              refine r_iret (zW_mono _ _ _) rfl rfl rfl ?_
              first | rfl | exact congrArg some (by decide +kernel)
            · refine r_push (zW_mono _ _ _) rfl ?_
              refine r_goto (zW_mono _ _ _) rfl ?_
              refine r_iret (zW_mono _ _ _) rfl rfl (by decide +kernel) ?_
              refine r_if_eq (zW_mono _ _ _) rfl (fun q => absurd q (by decide +kernel)) (fun _ => ?_)
              refine r_iload (zW_mono _ _ _) rfl rfl ?_
              refine r_push (zW_mono _ _ _) rfl ?_
              refine r_push (zW_mono _ _ _) rfl ?_
              refine r_stat3 (zW_mono _ _ _) rfl (Nat.le_of_ble_eq_true rfl) rfl (Nat.le_of_ble_eq_true rfl) (Nat.le_of_ble_eq_true rfl) ?_
              refine zW_in rfl (Nat.le_of_ble_eq_true rfl) ?_
              refine r_iload (zW_mono _ _ _) rfl rfl ?_
              refine r_iload (zW_mono _ _ _) rfl rfl ?_
              refine r_ic_lt (X := a4.toInt) (Y := 0) (zW_mono _ _ _) rfl rfl (by decide +kernel) (fun z28 => ?_) (fun z28 => ?_)
              · refine r_push (zW_mono _ _ _) rfl ?_
                refine r_iret (zW_mono _ _ _) rfl rfl (by decide +kernel) ?_
                refine r_if_eq (zW_mono _ _ _) rfl (fun _ => ?_) (fun q => absurd q (by decide +kernel))
                refine r_push (zW_mono _ _ _) rfl ?_
                refine r_istore (zW_mono _ _ _) rfl (Nat.le_of_ble_eq_true rfl) ?_
                refine r_iload (zW_mono _ _ _) rfl rfl ?_
                refine r_if_eq (zW_mono _ _ _) rfl (fun _ => ?_) (fun q => absurd q (by decide +kernel))
                refine r_push (zW_mono _ _ _) rfl ?_
                refine r_iret (zW_mono _ _ _) rfl rfl rfl ?_
                refine ⟨_, rfl, ⟨_, hx_111⟩, ?_⟩
                refine zW_in rfl (Nat.le_of_ble_eq_true rfl) ?_
                refine r_aload (zW_mono _ _ _) rfl rfl ?_
                refine r_get (zW_mono _ _ _) rfl hx_111 rfl ?_
                refine r_push (zW_mono _ _ _) rfl ?_
                refine r_icmp_eq (zW_mono _ _ _) rfl (fun q => absurd q (by decide +kernel)) (fun _ => ?_)
                refine r_iload (zW_mono _ _ _) rfl rfl ?_
                refine r_i2l (zW_mono _ _ _) rfl ?_
                refine r_push (zW_mono _ _ _) rfl ?_
                refine r_push (zW_mono _ _ _) rfl ?_
                refine r_stat3 (zW_mono _ _ _) rfl (Nat.le_of_ble_eq_true rfl) rfl (Nat.le_of_ble_eq_true rfl) (Nat.le_of_ble_eq_true rfl) ?_
                refine zW_in rfl (Nat.le_of_ble_eq_true rfl) ?_
                refine r_lload (zW_mono _ _ _) rfl rfl ?_
                refine r_lload (zW_mono _ _ _) rfl rfl ?_
                refine r_lc_lt (X := a1.toInt) (Y := 0) (zW_mono _ _ _) rfl rfl (zi64 _) (by decide +kernel) (fun q => by exfalso; omega) (fun z29 => ?_)
                refine r_lload (zW_mono _ _ _) rfl rfl ?_
                refine r_lload (zW_mono _ _ _) rfl rfl ?_
                refine r_lc_gt (X := a1.toInt) (Y := 3) (zW_mono _ _ _) rfl rfl (zi64 _) (by decide +kernel) (fun q => by exfalso; omega) (fun z30 => ?_)
                refine r_push (zW_mono _ _ _) rfl ?_
                refine r_goto (zW_mono _ _ _) rfl ?_
                refine r_iret (zW_mono _ _ _) rfl rfl (by decide +kernel) ?_
                refine r_if_eq (zW_mono _ _ _) rfl (fun q => absurd q (by decide +kernel)) (fun _ => ?_)
                refine r_iload (zW_mono _ _ _) rfl rfl ?_
                refine r_i2l (zW_mono _ _ _) rfl ?_
                refine r_push (zW_mono _ _ _) rfl ?_
                refine r_push (zW_mono _ _ _) rfl ?_
                refine r_stat3 (zW_mono _ _ _) rfl (Nat.le_of_ble_eq_true rfl) rfl (Nat.le_of_ble_eq_true rfl) (Nat.le_of_ble_eq_true rfl) ?_
                refine zW_in rfl (Nat.le_of_ble_eq_true rfl) ?_
                refine r_lload (zW_mono _ _ _) rfl rfl ?_
                refine r_lload (zW_mono _ _ _) rfl rfl ?_
                refine r_lc_lt (X := a2.toInt) (Y := 0) (zW_mono _ _ _) rfl rfl (zi64 _) (by decide +kernel) (fun q => by exfalso; omega) (fun z31 => ?_)
                refine r_lload (zW_mono _ _ _) rfl rfl ?_
                refine r_lload (zW_mono _ _ _) rfl rfl ?_
                refine r_lc_gt (X := a2.toInt) (Y := 99999) (zW_mono _ _ _) rfl rfl (zi64 _) (by decide +kernel) (fun q => by exfalso; omega) (fun z32 => ?_)
                refine r_push (zW_mono _ _ _) rfl ?_
                refine r_goto (zW_mono _ _ _) rfl ?_
                refine r_iret (zW_mono _ _ _) rfl rfl (by decide +kernel) ?_
                refine r_if_eq (zW_mono _ _ _) rfl (fun q => absurd q (by decide +kernel)) (fun _ => ?_)
                refine r_iload (zW_mono _ _ _) rfl rfl ?_
                refine r_i2l (zW_mono _ _ _) rfl ?_
                refine r_push (zW_mono _ _ _) rfl ?_
                refine r_push (zW_mono _ _ _) rfl ?_
                refine r_stat3 (zW_mono _ _ _) rfl (Nat.le_of_ble_eq_true rfl) rfl (Nat.le_of_ble_eq_true rfl) (Nat.le_of_ble_eq_true rfl) ?_
                refine zW_in rfl (Nat.le_of_ble_eq_true rfl) ?_
                refine r_lload (zW_mono _ _ _) rfl rfl ?_
                refine r_lload (zW_mono _ _ _) rfl rfl ?_
                refine r_lc_lt (X := a3.toInt) (Y := 0) (zW_mono _ _ _) rfl rfl (zi64 _) (by decide +kernel) (fun q => by exfalso; omega) (fun z33 => ?_)
                refine r_lload (zW_mono _ _ _) rfl rfl ?_
                refine r_lload (zW_mono _ _ _) rfl rfl ?_
                refine r_lc_gt (X := a3.toInt) (Y := 99999) (zW_mono _ _ _) rfl rfl (zi64 _) (by decide +kernel) (fun q => by exfalso; omega) (fun z34 => ?_)
                refine r_push (zW_mono _ _ _) rfl ?_
                refine r_goto (zW_mono _ _ _) rfl ?_
                refine r_iret (zW_mono _ _ _) rfl rfl (by decide +kernel) ?_
                refine r_if_eq (zW_mono _ _ _) rfl (fun q => absurd q (by decide +kernel)) (fun _ => ?_)
                refine r_iload (zW_mono _ _ _) rfl rfl ?_
                refine r_i2l (zW_mono _ _ _) rfl ?_
                refine r_push (zW_mono _ _ _) rfl ?_
                refine r_push (zW_mono _ _ _) rfl ?_
                refine r_stat3 (zW_mono _ _ _) rfl (Nat.le_of_ble_eq_true rfl) rfl (Nat.le_of_ble_eq_true rfl) (Nat.le_of_ble_eq_true rfl) ?_
                refine zW_in rfl (Nat.le_of_ble_eq_true rfl) ?_
                refine r_lload (zW_mono _ _ _) rfl rfl ?_
                refine r_lload (zW_mono _ _ _) rfl rfl ?_
                refine r_lc_lt (X := a4.toInt) (Y := 0) (zW_mono _ _ _) rfl rfl (zi64 _) (by decide +kernel) (fun z35 => ?_) (fun q => by exfalso; omega)
                refine r_push (zW_mono _ _ _) rfl ?_
                refine r_iret (zW_mono _ _ _) rfl rfl (by decide +kernel) ?_
                refine r_if_ne (zW_mono _ _ _) rfl (fun q => absurd q (by decide +kernel)) (fun _ => ?_)
                refine r_push (zW_mono _ _ _) rfl ?_
                refine r_iret (zW_mono _ _ _) rfl rfl rfl ?_
                first | rfl | exact congrArg some (by decide +kernel)
              · refine r_iload (zW_mono _ _ _) rfl rfl ?_
                refine r_iload (zW_mono _ _ _) rfl rfl ?_
                refine r_ic_gt (X := a4.toInt) (Y := 99999) (zW_mono _ _ _) rfl rfl (by decide +kernel) (fun z36 => ?_) (fun z36 => ?_)
                · refine r_push (zW_mono _ _ _) rfl ?_
                  refine r_iret (zW_mono _ _ _) rfl rfl (by decide +kernel) ?_
                  refine r_if_eq (zW_mono _ _ _) rfl (fun _ => ?_) (fun q => absurd q (by decide +kernel))
                  refine r_push (zW_mono _ _ _) rfl ?_
                  refine r_istore (zW_mono _ _ _) rfl (Nat.le_of_ble_eq_true rfl) ?_
                  refine r_iload (zW_mono _ _ _) rfl rfl ?_
                  refine r_if_eq (zW_mono _ _ _) rfl (fun _ => ?_) (fun q => absurd q (by decide +kernel))
                  refine r_push (zW_mono _ _ _) rfl ?_
                  refine r_iret (zW_mono _ _ _) rfl rfl rfl ?_
                  refine ⟨_, rfl, ⟨_, hx_111⟩, ?_⟩
                  refine zW_in rfl (Nat.le_of_ble_eq_true rfl) ?_
                  refine r_aload (zW_mono _ _ _) rfl rfl ?_
                  refine r_get (zW_mono _ _ _) rfl hx_111 rfl ?_
                  refine r_push (zW_mono _ _ _) rfl ?_
                  refine r_icmp_eq (zW_mono _ _ _) rfl (fun q => absurd q (by decide +kernel)) (fun _ => ?_)
                  refine r_iload (zW_mono _ _ _) rfl rfl ?_
                  refine r_i2l (zW_mono _ _ _) rfl ?_
                  refine r_push (zW_mono _ _ _) rfl ?_
                  refine r_push (zW_mono _ _ _) rfl ?_
                  refine r_stat3 (zW_mono _ _ _) rfl (Nat.le_of_ble_eq_true rfl) rfl (Nat.le_of_ble_eq_true rfl) (Nat.le_of_ble_eq_true rfl) ?_
                  refine zW_in rfl (Nat.le_of_ble_eq_true rfl) ?_
                  refine r_lload (zW_mono _ _ _) rfl rfl ?_
                  refine r_lload (zW_mono _ _ _) rfl rfl ?_
                  refine r_lc_lt (X := a1.toInt) (Y := 0) (zW_mono _ _ _) rfl rfl (zi64 _) (by decide +kernel) (fun q => by exfalso; omega) (fun z37 => ?_)
                  refine r_lload (zW_mono _ _ _) rfl rfl ?_
                  refine r_lload (zW_mono _ _ _) rfl rfl ?_
                  refine r_lc_gt (X := a1.toInt) (Y := 3) (zW_mono _ _ _) rfl rfl (zi64 _) (by decide +kernel) (fun q => by exfalso; omega) (fun z38 => ?_)
                  refine r_push (zW_mono _ _ _) rfl ?_
                  refine r_goto (zW_mono _ _ _) rfl ?_
                  refine r_iret (zW_mono _ _ _) rfl rfl (by decide +kernel) ?_
                  refine r_if_eq (zW_mono _ _ _) rfl (fun q => absurd q (by decide +kernel)) (fun _ => ?_)
                  refine r_iload (zW_mono _ _ _) rfl rfl ?_
                  refine r_i2l (zW_mono _ _ _) rfl ?_
                  refine r_push (zW_mono _ _ _) rfl ?_
                  refine r_push (zW_mono _ _ _) rfl ?_
                  refine r_stat3 (zW_mono _ _ _) rfl (Nat.le_of_ble_eq_true rfl) rfl (Nat.le_of_ble_eq_true rfl) (Nat.le_of_ble_eq_true rfl) ?_
                  refine zW_in rfl (Nat.le_of_ble_eq_true rfl) ?_
                  refine r_lload (zW_mono _ _ _) rfl rfl ?_
                  refine r_lload (zW_mono _ _ _) rfl rfl ?_
                  refine r_lc_lt (X := a2.toInt) (Y := 0) (zW_mono _ _ _) rfl rfl (zi64 _) (by decide +kernel) (fun q => by exfalso; omega) (fun z39 => ?_)
                  refine r_lload (zW_mono _ _ _) rfl rfl ?_
                  refine r_lload (zW_mono _ _ _) rfl rfl ?_
                  refine r_lc_gt (X := a2.toInt) (Y := 99999) (zW_mono _ _ _) rfl rfl (zi64 _) (by decide +kernel) (fun q => by exfalso; omega) (fun z40 => ?_)
                  refine r_push (zW_mono _ _ _) rfl ?_
                  refine r_goto (zW_mono _ _ _) rfl ?_
                  refine r_iret (zW_mono _ _ _) rfl rfl (by decide +kernel) ?_
                  refine r_if_eq (zW_mono _ _ _) rfl (fun q => absurd q (by decide +kernel)) (fun _ => ?_)
                  refine r_iload (zW_mono _ _ _) rfl rfl ?_
                  refine r_i2l (zW_mono _ _ _) rfl ?_
                  refine r_push (zW_mono _ _ _) rfl ?_
                  refine r_push (zW_mono _ _ _) rfl ?_
                  refine r_stat3 (zW_mono _ _ _) rfl (Nat.le_of_ble_eq_true rfl) rfl (Nat.le_of_ble_eq_true rfl) (Nat.le_of_ble_eq_true rfl) ?_
                  refine zW_in rfl (Nat.le_of_ble_eq_true rfl) ?_
                  refine r_lload (zW_mono _ _ _) rfl rfl ?_
                  refine r_lload (zW_mono _ _ _) rfl rfl ?_
                  refine r_lc_lt (X := a3.toInt) (Y := 0) (zW_mono _ _ _) rfl rfl (zi64 _) (by decide +kernel) (fun q => by exfalso; omega) (fun z41 => ?_)
                  refine r_lload (zW_mono _ _ _) rfl rfl ?_
                  refine r_lload (zW_mono _ _ _) rfl rfl ?_
                  refine r_lc_gt (X := a3.toInt) (Y := 99999) (zW_mono _ _ _) rfl rfl (zi64 _) (by decide +kernel) (fun q => by exfalso; omega) (fun z42 => ?_)
                  refine r_push (zW_mono _ _ _) rfl ?_
                  refine r_goto (zW_mono _ _ _) rfl ?_
                  refine r_iret (zW_mono _ _ _) rfl rfl (by decide +kernel) ?_
                  refine r_if_eq (zW_mono _ _ _) rfl (fun q => absurd q (by decide +kernel)) (fun _ => ?_)
                  refine r_iload (zW_mono _ _ _) rfl rfl ?_
                  refine r_i2l (zW_mono _ _ _) rfl ?_
                  refine r_push (zW_mono _ _ _) rfl ?_
                  refine r_push (zW_mono _ _ _) rfl ?_
                  refine r_stat3 (zW_mono _ _ _) rfl (Nat.le_of_ble_eq_true rfl) rfl (Nat.le_of_ble_eq_true rfl) (Nat.le_of_ble_eq_true rfl) ?_
                  refine zW_in rfl (Nat.le_of_ble_eq_true rfl) ?_
                  refine r_lload (zW_mono _ _ _) rfl rfl ?_
                  refine r_lload (zW_mono _ _ _) rfl rfl ?_
                  refine r_lc_lt (X := a4.toInt) (Y := 0) (zW_mono _ _ _) rfl rfl (zi64 _) (by decide +kernel) (fun q => by exfalso; omega) (fun z43 => ?_)
                  refine r_lload (zW_mono _ _ _) rfl rfl ?_
                  refine r_lload (zW_mono _ _ _) rfl rfl ?_
                  refine r_lc_gt (X := a4.toInt) (Y := 99999) (zW_mono _ _ _) rfl rfl (zi64 _) (by decide +kernel) (fun z44 => ?_) (fun q => by exfalso; omega)
                  refine r_push (zW_mono _ _ _) rfl ?_
                  refine r_iret (zW_mono _ _ _) rfl rfl (by decide +kernel) ?_
                  refine r_if_ne (zW_mono _ _ _) rfl (fun q => absurd q (by decide +kernel)) (fun _ => ?_)
                  refine r_push (zW_mono _ _ _) rfl ?_
                  refine r_iret (zW_mono _ _ _) rfl rfl rfl ?_
                  first | rfl | exact congrArg some (by decide +kernel)
                · refine r_push (zW_mono _ _ _) rfl ?_
                  refine r_goto (zW_mono _ _ _) rfl ?_
                  refine r_iret (zW_mono _ _ _) rfl rfl (by decide +kernel) ?_
                  refine r_if_eq (zW_mono _ _ _) rfl (fun q => absurd q (by decide +kernel)) (fun _ => ?_)
                  refine r_push (zW_mono _ _ _) rfl ?_
                  refine r_goto (zW_mono _ _ _) rfl ?_
                  refine r_istore (zW_mono _ _ _) rfl (Nat.le_of_ble_eq_true rfl) ?_
                  refine r_iload (zW_mono _ _ _) rfl rfl ?_
                  refine r_if_eq (zW_mono _ _ _) rfl (fun q => absurd q (by decide +kernel)) (fun _ => ?_)
                  refine r_aload (zW_mono _ _ _) rfl rfl ?_
                  refine r_get (zW_mono _ _ _) rfl hx_0 rfl ?_
                  refine r_iload (zW_mono _ _ _) rfl rfl ?_
                  refine r_iload (zW_mono _ _ _) rfl rfl ?_
                  refine r_iload (zW_mono _ _ _) rfl rfl ?_
                  refine r_iload (zW_mono _ _ _) rfl rfl ?_
                  refine r_virt4 (zW_mono _ _ _) rfl hx_1 (Nat.le_of_ble_eq_true rfl) rfl (Nat.le_of_ble_eq_true rfl) (Nat.le_of_ble_eq_true rfl) ?_
                  refine zW_in rfl (Nat.le_of_ble_eq_true rfl) ?_
                  refine r_aload (zW_mono _ _ _) rfl rfl ?_
                  refine r_get (zW_mono _ _ _) rfl hx_1 rfl ?_
                  refine r_push (zW_mono _ _ _) rfl ?_
                  refine r_icmp_ne (zW_mono _ _ _) rfl (fun _ => ?_) (fun q => absurd q (by decide +kernel))
                  refine r_aload (zW_mono _ _ _) rfl rfl ?_
                  refine r_get (zW_mono _ _ _) rfl hx_1 rfl ?_
                  refine r_aload (zW_mono _ _ _) rfl rfl ?_
                  refine r_get (zW_mono _ _ _) rfl hx_1 rfl ?_
                  refine r_iload (zW_mono _ _ _) rfl rfl ?_
                  refine r_iast (zW_mono _ _ _) rfl hx_3 (vp_in_iff.mpr ⟨(by decide +kernel), (by decide +kernel)⟩) ?_
                  refine zR_nm (fun h1 e1 => ?_)
                  have g1 := zgs e1 hx_3
                  refine r_aload (zW_mono _ _ _) rfl rfl ?_
                  have f2 := (zgn e1 (by decide) hx_1)
                  refine r_get (zW_mono _ _ _) rfl f2 rfl ?_
                  refine r_aload (zW_mono _ _ _) rfl rfl ?_
                  refine r_get (zW_mono _ _ _) rfl f2 rfl ?_
                  have f3 := (zgn e1 (by decide) hx_4)
                  refine r_gald (zW_mono _ _ _) rfl f3 (vp_in_iff.mpr ⟨(by decide +kernel), (by decide +kernel)⟩) ?_
                  refine r_iload (zW_mono _ _ _) rfl rfl ?_
                  refine r_iload (zW_mono _ _ _) rfl rfl ?_
                  refine r_iload (zW_mono _ _ _) rfl rfl ?_
                  refine r_stat4 (zW_mono _ _ _) rfl (Nat.le_of_ble_eq_true rfl) rfl (Nat.le_of_ble_eq_true rfl) (Nat.le_of_ble_eq_true rfl) ?_
                  refine zW_in rfl (Nat.le_of_ble_eq_true rfl) ?_
                  refine r_aload (zW_mono _ _ _) rfl rfl ?_
                  refine r_push (zW_mono _ _ _) rfl ?_
                  refine r_iload (zW_mono _ _ _) rfl rfl ?_
                  have f4 := (zgn e1 (by decide) hx_5)
                  refine r_iast (zW_mono _ _ _) rfl f4 (vp_in_iff.mpr ⟨(by decide +kernel), (by decide +kernel)⟩) ?_
                  refine zR_nm (fun h5 e5 => ?_)
                  have g5 := zgs e5 f4
                  refine r_aload (zW_mono _ _ _) rfl rfl ?_
                  refine r_push (zW_mono _ _ _) rfl ?_
                  refine r_iload (zW_mono _ _ _) rfl rfl ?_
                  refine r_iast (zW_mono _ _ _) rfl g5 (vp_in_iff.mpr ⟨(by decide +kernel), (by decide +kernel)⟩) ?_
                  refine zR_nm (fun h6 e6 => ?_)
                  have g6 := zgs e6 g5
                  refine r_aload (zW_mono _ _ _) rfl rfl ?_
                  refine r_push (zW_mono _ _ _) rfl ?_
                  refine r_iload (zW_mono _ _ _) rfl rfl ?_
                  refine r_iast (zW_mono _ _ _) rfl g6 (vp_in_iff.mpr ⟨(by decide +kernel), (by decide +kernel)⟩) ?_
                  refine zR_nm (fun h7 e7 => ?_)
                  have g7 := zgs e7 g6
                  refine r_vret (zW_mono _ _ _) rfl rfl ?_
                  refine r_aload (zW_mono _ _ _) rfl rfl ?_
                  refine r_dup (zW_mono _ _ _) rfl rfl ?_
                  have f8 := (zgn e7 (by decide) (zgn e6 (by decide) (zgn e5 (by decide) f2)))
                  refine r_get (zW_mono _ _ _) rfl f8 rfl ?_
                  refine r_dup_x1 (zW_mono _ _ _) rfl rfl rfl ?_
                  refine r_push (zW_mono _ _ _) rfl ?_
                  refine r_iadd (zW_mono _ _ _) rfl ?_
                  refine r_put (zW_mono _ _ _) rfl f8 (Nat.le_of_ble_eq_true rfl) rfl rfl rfl ?_
                  refine zR_nm (fun h9 e9 => ?_)
                  have g9 := zgs e9 f8
                  refine r_iret (zW_mono _ _ _) rfl rfl rfl ?_
                  refine r_goto (zW_mono _ _ _) rfl ?_
                  refine r_iret (zW_mono _ _ _) rfl rfl rfl ?_
                  have f10 := (zgn e9 (by decide) (zgn e7 (by decide) (zgn e6 (by decide) (zgn e5 (by decide) (zgn e1 (by decide) hx_111)))))
                  refine ⟨_, rfl, ⟨_, f10⟩, ?_⟩
                  refine zW_in rfl (Nat.le_of_ble_eq_true rfl) ?_
                  refine r_aload (zW_mono _ _ _) rfl rfl ?_
                  refine r_get (zW_mono _ _ _) rfl f10 rfl ?_
                  refine r_push (zW_mono _ _ _) rfl ?_
                  refine r_icmp_eq (zW_mono _ _ _) rfl (fun q => absurd q (by decide +kernel)) (fun _ => ?_)
                  refine r_iload (zW_mono _ _ _) rfl rfl ?_
                  refine r_i2l (zW_mono _ _ _) rfl ?_
                  refine r_push (zW_mono _ _ _) rfl ?_
                  refine r_push (zW_mono _ _ _) rfl ?_
                  refine r_stat3 (zW_mono _ _ _) rfl (Nat.le_of_ble_eq_true rfl) rfl (Nat.le_of_ble_eq_true rfl) (Nat.le_of_ble_eq_true rfl) ?_
                  refine zW_in rfl (Nat.le_of_ble_eq_true rfl) ?_
                  refine r_lload (zW_mono _ _ _) rfl rfl ?_
                  refine r_lload (zW_mono _ _ _) rfl rfl ?_
                  refine r_lc_lt (X := a1.toInt) (Y := 0) (zW_mono _ _ _) rfl rfl (zi64 _) (by decide +kernel) (fun q => by exfalso; omega) (fun z45 => ?_)
                  refine r_lload (zW_mono _ _ _) rfl rfl ?_
                  refine r_lload (zW_mono _ _ _) rfl rfl ?_
                  refine r_lc_gt (X := a1.toInt) (Y := 3) (zW_mono _ _ _) rfl rfl (zi64 _) (by decide +kernel) (fun q => by exfalso; omega) (fun z46 => ?_)
                  refine r_push (zW_mono _ _ _) rfl ?_
                  refine r_goto (zW_mono _ _ _) rfl ?_
                  refine r_iret (zW_mono _ _ _) rfl rfl (by decide +kernel) ?_
                  refine r_if_eq (zW_mono _ _ _) rfl (fun q => absurd q (by decide +kernel)) (fun _ => ?_)
                  refine r_iload (zW_mono _ _ _) rfl rfl ?_
                  refine r_i2l (zW_mono _ _ _) rfl ?_
                  refine r_push (zW_mono _ _ _) rfl ?_
                  refine r_push (zW_mono _ _ _) rfl ?_
                  refine r_stat3 (zW_mono _ _ _) rfl (Nat.le_of_ble_eq_true rfl) rfl (Nat.le_of_ble_eq_true rfl) (Nat.le_of_ble_eq_true rfl) ?_
                  refine zW_in rfl (Nat.le_of_ble_eq_true rfl) ?_
                  refine r_lload (zW_mono _ _ _) rfl rfl ?_
                  refine r_lload (zW_mono _ _ _) rfl rfl ?_
                  refine r_lc_lt (X := a2.toInt) (Y := 0) (zW_mono _ _ _) rfl rfl (zi64 _) (by decide +kernel) (fun q => by exfalso; omega) (fun z47 => ?_)
                  refine r_lload (zW_mono _ _ _) rfl rfl ?_
                  refine r_lload (zW_mono _ _ _) rfl rfl ?_
                  refine r_lc_gt (X := a2.toInt) (Y := 99999) (zW_mono _ _ _) rfl rfl (zi64 _) (by decide +kernel) (fun q => by exfalso; omega) (fun z48 => ?_)
                  refine r_push (zW_mono _ _ _) rfl ?_
                  refine r_goto (zW_mono _ _ _) rfl ?_
                  refine r_iret (zW_mono _ _ _) rfl rfl (by decide +kernel) ?_
                  refine r_if_eq (zW_mono _ _ _) rfl (fun q => absurd q (by decide +kernel)) (fun _ => ?_)
                  refine r_iload (zW_mono _ _ _) rfl rfl ?_
                  refine r_i2l (zW_mono _ _ _) rfl ?_
                  refine r_push (zW_mono _ _ _) rfl ?_
                  refine r_push (zW_mono _ _ _) rfl ?_
                  refine r_stat3 (zW_mono _ _ _) rfl (Nat.le_of_ble_eq_true rfl) rfl (Nat.le_of_ble_eq_true rfl) (Nat.le_of_ble_eq_true rfl) ?_
                  refine zW_in rfl (Nat.le_of_ble_eq_true rfl) ?_
                  refine r_lload (zW_mono _ _ _) rfl rfl ?_
                  refine r_lload (zW_mono _ _ _) rfl rfl ?_
                  refine r_lc_lt (X := a3.toInt) (Y := 0) (zW_mono _ _ _) rfl rfl (zi64 _) (by decide +kernel) (fun q => by exfalso; omega) (fun z49 => ?_)
                  refine r_lload (zW_mono _ _ _) rfl rfl ?_
                  refine r_lload (zW_mono _ _ _) rfl rfl ?_
                  refine r_lc_gt (X := a3.toInt) (Y := 99999) (zW_mono _ _ _) rfl rfl (zi64 _) (by decide +kernel) (fun q => by exfalso; omega) (fun z50 => ?_)
                  refine r_push (zW_mono _ _ _) rfl ?_
                  refine r_goto (zW_mono _ _ _) rfl ?_
                  refine r_iret (zW_mono _ _ _) rfl rfl (by decide +kernel) ?_
                  refine r_if_eq (zW_mono _ _ _) rfl (fun q => absurd q (by decide +kernel)) (fun _ => ?_)
                  refine r_iload (zW_mono _ _ _) rfl rfl ?_
                  refine r_i2l (zW_mono _ _ _) rfl ?_
                  refine r_push (zW_mono _ _ _) rfl ?_
                  refine r_push (zW_mono _ _ _) rfl ?_
                  refine r_stat3 (zW_mono _ _ _) rfl (Nat.le_of_ble_eq_true rfl) rfl (Nat.le_of_ble_eq_true rfl) (Nat.le_of_ble_eq_true rfl) ?_
                  refine zW_in rfl (Nat.le_of_ble_eq_true rfl) ?_
                  refine r_lload (zW_mono _ _ _) rfl rfl ?_
                  refine r_lload (zW_mono _ _ _) rfl rfl ?_
                  refine r_lc_lt (X := a4.toInt) (Y := 0) (zW_mono _ _ _) rfl rfl (zi64 _) (by decide +kernel) (fun q => by exfalso; omega) (fun z51 => ?_)
                  refine r_lload (zW_mono _ _ _) rfl rfl ?_
                  refine r_lload (zW_mono _ _ _) rfl rfl ?_
                  refine r_lc_gt (X := a4.toInt) (Y := 99999) (zW_mono _ _ _) rfl rfl (zi64 _) (by decide +kernel) (fun q => by exfalso; omega) (fun z52 => ?_)
                  refine r_push (zW_mono _ _ _) rfl ?_
                  refine r_goto (zW_mono _ _ _) rfl ?_
                  refine r_iret (zW_mono _ _ _) rfl rfl (by decide +kernel) ?_
                  refine r_if_ne (zW_mono _ _ _) rfl (fun _ => ?_) (fun q => absurd q (by decide +kernel))
                  refine r_aload (zW_mono _ _ _) rfl rfl ?_
                  refine r_get (zW_mono _ _ _) rfl f10 rfl ?_
                  refine r_aload (zW_mono _ _ _) rfl rfl ?_
                  refine r_get (zW_mono _ _ _) rfl f10 rfl ?_
                  refine r_iload (zW_mono _ _ _) rfl rfl ?_
                  have f11 := (zgn e9 (by decide) (zgn e7 (by decide) (zgn e6 (by decide) (zgn e5 (by decide) (zgn e1 (by decide) hx_114)))))
                  refine r_iast (zW_mono _ _ _) rfl f11 (vp_in_iff.mpr ⟨(by decide +kernel), (by decide +kernel)⟩) ?_
                  refine zR_nm (fun h12 e12 => ?_)
                  have g12 := zgs e12 f11
                  refine r_aload (zW_mono _ _ _) rfl rfl ?_
                  have f13 := (zgn e12 (by decide) f10)
                  refine r_get (zW_mono _ _ _) rfl f13 rfl ?_
                  refine r_push (zW_mono _ _ _) rfl ?_
                  refine r_aload (zW_mono _ _ _) rfl rfl ?_
                  refine r_get (zW_mono _ _ _) rfl f13 rfl ?_
                  refine r_imul (zW_mono _ _ _) rfl ?_
                  refine r_iload (zW_mono _ _ _) rfl rfl ?_
                  have f14 := (zgn e12 (by decide) (zgn e9 (by decide) (zgn e7 (by decide) (zgn e6 (by decide) (zgn e5 (by decide) (zgn e1 (by decide) hx_115))))))
                  refine r_iast (zW_mono _ _ _) rfl f14 (vp_in_iff.mpr ⟨(by decide +kernel), (by decide +kernel)⟩) ?_
                  refine zR_nm (fun h15 e15 => ?_)
                  have g15 := zgs e15 f14
                  refine r_aload (zW_mono _ _ _) rfl rfl ?_
                  have f16 := (zgn e15 (by decide) f13)
                  refine r_get (zW_mono _ _ _) rfl f16 rfl ?_
                  refine r_push (zW_mono _ _ _) rfl ?_
                  refine r_aload (zW_mono _ _ _) rfl rfl ?_
                  refine r_get (zW_mono _ _ _) rfl f16 rfl ?_
                  refine r_imul (zW_mono _ _ _) rfl ?_
                  refine r_push (zW_mono _ _ _) rfl ?_
                  refine r_iadd (zW_mono _ _ _) rfl ?_
                  refine r_iload (zW_mono _ _ _) rfl rfl ?_
                  refine r_iast (zW_mono _ _ _) rfl g15 (vp_in_iff.mpr ⟨(by decide +kernel), (by decide +kernel)⟩) ?_
                  refine zR_nm (fun h17 e17 => ?_)
                  have g17 := zgs e17 g15
                  refine r_aload (zW_mono _ _ _) rfl rfl ?_
                  have f18 := (zgn e17 (by decide) f16)
                  refine r_get (zW_mono _ _ _) rfl f18 rfl ?_
                  refine r_push (zW_mono _ _ _) rfl ?_
                  refine r_aload (zW_mono _ _ _) rfl rfl ?_
                  refine r_get (zW_mono _ _ _) rfl f18 rfl ?_
                  refine r_imul (zW_mono _ _ _) rfl ?_
                  refine r_push (zW_mono _ _ _) rfl ?_
                  refine r_iadd (zW_mono _ _ _) rfl ?_
                  refine r_iload (zW_mono _ _ _) rfl rfl ?_
                  refine r_iast (zW_mono _ _ _) rfl g17 (vp_in_iff.mpr ⟨(by decide +kernel), (by decide +kernel)⟩) ?_
                  refine zR_nm (fun h19 e19 => ?_)
                  have g19 := zgs e19 g17
                  refine r_aload (zW_mono _ _ _) rfl rfl ?_
                  refine r_dup (zW_mono _ _ _) rfl rfl ?_
                  have f20 := (zgn e19 (by decide) f18)
                  refine r_get (zW_mono _ _ _) rfl f20 rfl ?_
                  refine r_push (zW_mono _ _ _) rfl ?_
                  refine r_iadd (zW_mono _ _ _) rfl ?_
                  refine r_put (zW_mono _ _ _) rfl f20 (Nat.le_of_ble_eq_true rfl) rfl rfl rfl ?_
                  refine zR_nm (fun h21 e21 => ?_)
                  have g21 := zgs e21 f20
                  refine r_aload (zW_mono _ _ _) rfl rfl ?_
                  refine r_get (zW_mono _ _ _) rfl g21 rfl ?_
                  refine r_push (zW_mono _ _ _) rfl ?_
                  refine r_isub (zW_mono _ _ _) rfl ?_
                  refine r_iret (zW_mono _ _ _) rfl rfl rfl ?_
                  first | rfl | exact congrArg some (by decide +kernel)
set_option maxHeartbeats 4000000 in
set_option maxRecDepth 20000 in
theorem op_part {G : zG} (hG : G.1 = zProg) (a1 a2 a3 a4 : Int32) : zW zTt G 12 114 [.ref 0, .int a1, .int a2, .int a3, .int a4] (dzH dH0) (fun w h => ∃ x : Int32, w = some (.int x) ∧ (∃ fs : List Value, h[111]? = some (.inr (12, fs))) ∧ zW zTt G 12 182 [.ref 111, .int a1, .int a2, .int a3, .int a4] h (fun w2 _ => w2 = some (.int x))) := by
  obtain ⟨p9, t9⟩ := G
  have hG : p9 = zProg := hG
  subst hG
  refine zW_in rfl (Nat.le_of_ble_eq_true rfl) ?_
  refine r_iload (zW_mono _ _ _) rfl rfl ?_
  refine r_push (zW_mono _ _ _) rfl ?_
  refine r_push (zW_mono _ _ _) rfl ?_
  refine r_stat3 (zW_mono _ _ _) rfl (Nat.le_of_ble_eq_true rfl) rfl (Nat.le_of_ble_eq_true rfl) (Nat.le_of_ble_eq_true rfl) ?_
  refine zW_in rfl (Nat.le_of_ble_eq_true rfl) ?_
  refine r_iload (zW_mono _ _ _) rfl rfl ?_
  refine r_iload (zW_mono _ _ _) rfl rfl ?_
  refine r_ic_lt (X := a1.toInt) (Y := 0) (zW_mono _ _ _) rfl rfl (by decide +kernel) (fun z1 => ?_) (fun z1 => ?_)
  · refine r_push (zW_mono _ _ _) rfl ?_
    refine r_iret (zW_mono _ _ _) rfl rfl (by decide +kernel) ?_
    refine r_if_eq (zW_mono _ _ _) rfl (fun _ => ?_) (fun q => absurd q (by decide +kernel))
    refine r_push (zW_mono _ _ _) rfl ?_
    refine r_istore (zW_mono _ _ _) rfl (Nat.le_of_ble_eq_true rfl) ?_
    refine r_iload (zW_mono _ _ _) rfl rfl ?_
    refine r_if_eq (zW_mono _ _ _) rfl (fun _ => ?_) (fun q => absurd q (by decide +kernel))
    refine r_push (zW_mono _ _ _) rfl ?_
    refine r_iret (zW_mono _ _ _) rfl rfl rfl ?_
    refine ⟨_, rfl, ⟨_, hx_111⟩, ?_⟩
    refine zW_in rfl (Nat.le_of_ble_eq_true rfl) ?_
    refine r_aload (zW_mono _ _ _) rfl rfl ?_
    refine r_get (zW_mono _ _ _) rfl hx_111 rfl ?_
    refine r_push (zW_mono _ _ _) rfl ?_
    refine r_icmp_eq (zW_mono _ _ _) rfl (fun q => absurd q (by decide +kernel)) (fun _ => ?_)
    refine r_iload (zW_mono _ _ _) rfl rfl ?_
    refine r_i2l (zW_mono _ _ _) rfl ?_
    refine r_push (zW_mono _ _ _) rfl ?_
    refine r_push (zW_mono _ _ _) rfl ?_
    refine r_stat3 (zW_mono _ _ _) rfl (Nat.le_of_ble_eq_true rfl) rfl (Nat.le_of_ble_eq_true rfl) (Nat.le_of_ble_eq_true rfl) ?_
    refine zW_in rfl (Nat.le_of_ble_eq_true rfl) ?_
    refine r_lload (zW_mono _ _ _) rfl rfl ?_
    refine r_lload (zW_mono _ _ _) rfl rfl ?_
    refine r_lc_lt (X := a1.toInt) (Y := 0) (zW_mono _ _ _) rfl rfl (zi64 _) (by decide +kernel) (fun z2 => ?_) (fun q => by exfalso; omega)
    refine r_push (zW_mono _ _ _) rfl ?_
    refine r_iret (zW_mono _ _ _) rfl rfl (by decide +kernel) ?_
    refine r_if_eq (zW_mono _ _ _) rfl (fun _ => ?_) (fun q => absurd q (by decide +kernel))
    refine r_push (zW_mono _ _ _) rfl ?_
    refine r_iret (zW_mono _ _ _) rfl rfl rfl ?_
    first | rfl | exact congrArg some (by decide +kernel)
  · refine r_iload (zW_mono _ _ _) rfl rfl ?_
    refine r_iload (zW_mono _ _ _) rfl rfl ?_
    refine r_ic_gt (X := a1.toInt) (Y := 9999) (zW_mono _ _ _) rfl rfl (by decide +kernel) (fun z3 => ?_) (fun z3 => ?_)
    · refine r_push (zW_mono _ _ _) rfl ?_
      refine r_iret (zW_mono _ _ _) rfl rfl (by decide +kernel) ?_
      refine r_if_eq (zW_mono _ _ _) rfl (fun _ => ?_) (fun q => absurd q (by decide +kernel))
      refine r_push (zW_mono _ _ _) rfl ?_
      refine r_istore (zW_mono _ _ _) rfl (Nat.le_of_ble_eq_true rfl) ?_
      refine r_iload (zW_mono _ _ _) rfl rfl ?_
      refine r_if_eq (zW_mono _ _ _) rfl (fun _ => ?_) (fun q => absurd q (by decide +kernel))
      refine r_push (zW_mono _ _ _) rfl ?_
      refine r_iret (zW_mono _ _ _) rfl rfl rfl ?_
      refine ⟨_, rfl, ⟨_, hx_111⟩, ?_⟩
      refine zW_in rfl (Nat.le_of_ble_eq_true rfl) ?_
      refine r_aload (zW_mono _ _ _) rfl rfl ?_
      refine r_get (zW_mono _ _ _) rfl hx_111 rfl ?_
      refine r_push (zW_mono _ _ _) rfl ?_
      refine r_icmp_eq (zW_mono _ _ _) rfl (fun q => absurd q (by decide +kernel)) (fun _ => ?_)
      refine r_iload (zW_mono _ _ _) rfl rfl ?_
      refine r_i2l (zW_mono _ _ _) rfl ?_
      refine r_push (zW_mono _ _ _) rfl ?_
      refine r_push (zW_mono _ _ _) rfl ?_
      refine r_stat3 (zW_mono _ _ _) rfl (Nat.le_of_ble_eq_true rfl) rfl (Nat.le_of_ble_eq_true rfl) (Nat.le_of_ble_eq_true rfl) ?_
      refine zW_in rfl (Nat.le_of_ble_eq_true rfl) ?_
      refine r_lload (zW_mono _ _ _) rfl rfl ?_
      refine r_lload (zW_mono _ _ _) rfl rfl ?_
      refine r_lc_lt (X := a1.toInt) (Y := 0) (zW_mono _ _ _) rfl rfl (zi64 _) (by decide +kernel) (fun q => by exfalso; omega) (fun z4 => ?_)
      refine r_lload (zW_mono _ _ _) rfl rfl ?_
      refine r_lload (zW_mono _ _ _) rfl rfl ?_
      refine r_lc_gt (X := a1.toInt) (Y := 9999) (zW_mono _ _ _) rfl rfl (zi64 _) (by decide +kernel) (fun z5 => ?_) (fun q => by exfalso; omega)
      refine r_push (zW_mono _ _ _) rfl ?_
      refine r_iret (zW_mono _ _ _) rfl rfl (by decide +kernel) ?_
      refine r_if_eq (zW_mono _ _ _) rfl (fun _ => ?_) (fun q => absurd q (by decide +kernel))
      refine r_push (zW_mono _ _ _) rfl ?_
      refine r_iret (zW_mono _ _ _) rfl rfl rfl ?_
      first | rfl | exact congrArg some (by decide +kernel)
    · refine r_push (zW_mono _ _ _) rfl ?_
      refine r_goto (zW_mono _ _ _) rfl ?_
      refine r_iret (zW_mono _ _ _) rfl rfl (by decide +kernel) ?_
      refine r_if_eq (zW_mono _ _ _) rfl (fun q => absurd q (by decide +kernel)) (fun _ => ?_)
      refine r_iload (zW_mono _ _ _) rfl rfl ?_
      refine r_push (zW_mono _ _ _) rfl ?_
      refine r_push (zW_mono _ _ _) rfl ?_
      refine r_stat3 (zW_mono _ _ _) rfl (Nat.le_of_ble_eq_true rfl) rfl (Nat.le_of_ble_eq_true rfl) (Nat.le_of_ble_eq_true rfl) ?_
      refine zW_in rfl (Nat.le_of_ble_eq_true rfl) ?_
      refine r_iload (zW_mono _ _ _) rfl rfl ?_
      refine r_iload (zW_mono _ _ _) rfl rfl ?_
      refine r_ic_lt (X := a2.toInt) (Y := 0) (zW_mono _ _ _) rfl rfl (by decide +kernel) (fun z6 => ?_) (fun z6 => ?_)
      · refine r_push (zW_mono _ _ _) rfl ?_
        refine r_iret (zW_mono _ _ _) rfl rfl (by decide +kernel) ?_
        refine r_if_eq (zW_mono _ _ _) rfl (fun _ => ?_) (fun q => absurd q (by decide +kernel))
        refine r_push (zW_mono _ _ _) rfl ?_
        refine r_istore (zW_mono _ _ _) rfl (Nat.le_of_ble_eq_true rfl) ?_
        refine r_iload (zW_mono _ _ _) rfl rfl ?_
        refine r_if_eq (zW_mono _ _ _) rfl (fun _ => ?_) (fun q => absurd q (by decide +kernel))
        refine r_push (zW_mono _ _ _) rfl ?_
        refine r_iret (zW_mono _ _ _) rfl rfl rfl ?_
        refine ⟨_, rfl, ⟨_, hx_111⟩, ?_⟩
        refine zW_in rfl (Nat.le_of_ble_eq_true rfl) ?_
        refine r_aload (zW_mono _ _ _) rfl rfl ?_
        refine r_get (zW_mono _ _ _) rfl hx_111 rfl ?_
        refine r_push (zW_mono _ _ _) rfl ?_
        refine r_icmp_eq (zW_mono _ _ _) rfl (fun q => absurd q (by decide +kernel)) (fun _ => ?_)
        refine r_iload (zW_mono _ _ _) rfl rfl ?_
        refine r_i2l (zW_mono _ _ _) rfl ?_
        refine r_push (zW_mono _ _ _) rfl ?_
        refine r_push (zW_mono _ _ _) rfl ?_
        refine r_stat3 (zW_mono _ _ _) rfl (Nat.le_of_ble_eq_true rfl) rfl (Nat.le_of_ble_eq_true rfl) (Nat.le_of_ble_eq_true rfl) ?_
        refine zW_in rfl (Nat.le_of_ble_eq_true rfl) ?_
        refine r_lload (zW_mono _ _ _) rfl rfl ?_
        refine r_lload (zW_mono _ _ _) rfl rfl ?_
        refine r_lc_lt (X := a1.toInt) (Y := 0) (zW_mono _ _ _) rfl rfl (zi64 _) (by decide +kernel) (fun q => by exfalso; omega) (fun z7 => ?_)
        refine r_lload (zW_mono _ _ _) rfl rfl ?_
        refine r_lload (zW_mono _ _ _) rfl rfl ?_
        refine r_lc_gt (X := a1.toInt) (Y := 9999) (zW_mono _ _ _) rfl rfl (zi64 _) (by decide +kernel) (fun q => by exfalso; omega) (fun z8 => ?_)
        refine r_push (zW_mono _ _ _) rfl ?_
        refine r_goto (zW_mono _ _ _) rfl ?_
        refine r_iret (zW_mono _ _ _) rfl rfl (by decide +kernel) ?_
        refine r_if_eq (zW_mono _ _ _) rfl (fun q => absurd q (by decide +kernel)) (fun _ => ?_)
        refine r_iload (zW_mono _ _ _) rfl rfl ?_
        refine r_i2l (zW_mono _ _ _) rfl ?_
        refine r_push (zW_mono _ _ _) rfl ?_
        refine r_push (zW_mono _ _ _) rfl ?_
        refine r_stat3 (zW_mono _ _ _) rfl (Nat.le_of_ble_eq_true rfl) rfl (Nat.le_of_ble_eq_true rfl) (Nat.le_of_ble_eq_true rfl) ?_
        refine zW_in rfl (Nat.le_of_ble_eq_true rfl) ?_
        refine r_lload (zW_mono _ _ _) rfl rfl ?_
        refine r_lload (zW_mono _ _ _) rfl rfl ?_
        refine r_lc_lt (X := a2.toInt) (Y := 0) (zW_mono _ _ _) rfl rfl (zi64 _) (by decide +kernel) (fun z9 => ?_) (fun q => by exfalso; omega)
        refine r_push (zW_mono _ _ _) rfl ?_
        refine r_iret (zW_mono _ _ _) rfl rfl (by decide +kernel) ?_
        refine r_if_eq (zW_mono _ _ _) rfl (fun _ => ?_) (fun q => absurd q (by decide +kernel))
        refine r_push (zW_mono _ _ _) rfl ?_
        refine r_iret (zW_mono _ _ _) rfl rfl rfl ?_
        first | rfl | exact congrArg some (by decide +kernel)
      · refine r_iload (zW_mono _ _ _) rfl rfl ?_
        refine r_iload (zW_mono _ _ _) rfl rfl ?_
        refine r_ic_gt (X := a2.toInt) (Y := 9999) (zW_mono _ _ _) rfl rfl (by decide +kernel) (fun z10 => ?_) (fun z10 => ?_)
        · refine r_push (zW_mono _ _ _) rfl ?_
          refine r_iret (zW_mono _ _ _) rfl rfl (by decide +kernel) ?_
          refine r_if_eq (zW_mono _ _ _) rfl (fun _ => ?_) (fun q => absurd q (by decide +kernel))
          refine r_push (zW_mono _ _ _) rfl ?_
          refine r_istore (zW_mono _ _ _) rfl (Nat.le_of_ble_eq_true rfl) ?_
          refine r_iload (zW_mono _ _ _) rfl rfl ?_
          refine r_if_eq (zW_mono _ _ _) rfl (fun _ => ?_) (fun q => absurd q (by decide +kernel))
          refine r_push (zW_mono _ _ _) rfl ?_
          refine r_iret (zW_mono _ _ _) rfl rfl rfl ?_
          refine ⟨_, rfl, ⟨_, hx_111⟩, ?_⟩
          refine zW_in rfl (Nat.le_of_ble_eq_true rfl) ?_
          refine r_aload (zW_mono _ _ _) rfl rfl ?_
          refine r_get (zW_mono _ _ _) rfl hx_111 rfl ?_
          refine r_push (zW_mono _ _ _) rfl ?_
          refine r_icmp_eq (zW_mono _ _ _) rfl (fun q => absurd q (by decide +kernel)) (fun _ => ?_)
          refine r_iload (zW_mono _ _ _) rfl rfl ?_
          refine r_i2l (zW_mono _ _ _) rfl ?_
          refine r_push (zW_mono _ _ _) rfl ?_
          refine r_push (zW_mono _ _ _) rfl ?_
          refine r_stat3 (zW_mono _ _ _) rfl (Nat.le_of_ble_eq_true rfl) rfl (Nat.le_of_ble_eq_true rfl) (Nat.le_of_ble_eq_true rfl) ?_
          refine zW_in rfl (Nat.le_of_ble_eq_true rfl) ?_
          refine r_lload (zW_mono _ _ _) rfl rfl ?_
          refine r_lload (zW_mono _ _ _) rfl rfl ?_
          refine r_lc_lt (X := a1.toInt) (Y := 0) (zW_mono _ _ _) rfl rfl (zi64 _) (by decide +kernel) (fun q => by exfalso; omega) (fun z11 => ?_)
          refine r_lload (zW_mono _ _ _) rfl rfl ?_
          refine r_lload (zW_mono _ _ _) rfl rfl ?_
          refine r_lc_gt (X := a1.toInt) (Y := 9999) (zW_mono _ _ _) rfl rfl (zi64 _) (by decide +kernel) (fun q => by exfalso; omega) (fun z12 => ?_)
          refine r_push (zW_mono _ _ _) rfl ?_
          refine r_goto (zW_mono _ _ _) rfl ?_
          refine r_iret (zW_mono _ _ _) rfl rfl (by decide +kernel) ?_
          refine r_if_eq (zW_mono _ _ _) rfl (fun q => absurd q (by decide +kernel)) (fun _ => ?_)
          refine r_iload (zW_mono _ _ _) rfl rfl ?_
          refine r_i2l (zW_mono _ _ _) rfl ?_
          refine r_push (zW_mono _ _ _) rfl ?_
          refine r_push (zW_mono _ _ _) rfl ?_
          refine r_stat3 (zW_mono _ _ _) rfl (Nat.le_of_ble_eq_true rfl) rfl (Nat.le_of_ble_eq_true rfl) (Nat.le_of_ble_eq_true rfl) ?_
          refine zW_in rfl (Nat.le_of_ble_eq_true rfl) ?_
          refine r_lload (zW_mono _ _ _) rfl rfl ?_
          refine r_lload (zW_mono _ _ _) rfl rfl ?_
          refine r_lc_lt (X := a2.toInt) (Y := 0) (zW_mono _ _ _) rfl rfl (zi64 _) (by decide +kernel) (fun q => by exfalso; omega) (fun z13 => ?_)
          refine r_lload (zW_mono _ _ _) rfl rfl ?_
          refine r_lload (zW_mono _ _ _) rfl rfl ?_
          refine r_lc_gt (X := a2.toInt) (Y := 9999) (zW_mono _ _ _) rfl rfl (zi64 _) (by decide +kernel) (fun z14 => ?_) (fun q => by exfalso; omega)
          refine r_push (zW_mono _ _ _) rfl ?_
          refine r_iret (zW_mono _ _ _) rfl rfl (by decide +kernel) ?_
          refine r_if_eq (zW_mono _ _ _) rfl (fun _ => ?_) (fun q => absurd q (by decide +kernel))
          refine r_push (zW_mono _ _ _) rfl ?_
          refine r_iret (zW_mono _ _ _) rfl rfl rfl ?_
          first | rfl | exact congrArg some (by decide +kernel)
        · refine r_push (zW_mono _ _ _) rfl ?_
          refine r_goto (zW_mono _ _ _) rfl ?_
          refine r_iret (zW_mono _ _ _) rfl rfl (by decide +kernel) ?_
          refine r_if_eq (zW_mono _ _ _) rfl (fun q => absurd q (by decide +kernel)) (fun _ => ?_)
          refine r_iload (zW_mono _ _ _) rfl rfl ?_
          refine r_push (zW_mono _ _ _) rfl ?_
          refine r_push (zW_mono _ _ _) rfl ?_
          refine r_stat3 (zW_mono _ _ _) rfl (Nat.le_of_ble_eq_true rfl) rfl (Nat.le_of_ble_eq_true rfl) (Nat.le_of_ble_eq_true rfl) ?_
          refine zW_in rfl (Nat.le_of_ble_eq_true rfl) ?_
          refine r_iload (zW_mono _ _ _) rfl rfl ?_
          refine r_iload (zW_mono _ _ _) rfl rfl ?_
          refine r_ic_lt (X := a3.toInt) (Y := 0) (zW_mono _ _ _) rfl rfl (by decide +kernel) (fun z15 => ?_) (fun z15 => ?_)
          · refine r_push (zW_mono _ _ _) rfl ?_
            refine r_iret (zW_mono _ _ _) rfl rfl (by decide +kernel) ?_
            refine r_if_eq (zW_mono _ _ _) rfl (fun _ => ?_) (fun q => absurd q (by decide +kernel))
            refine r_push (zW_mono _ _ _) rfl ?_
            refine r_istore (zW_mono _ _ _) rfl (Nat.le_of_ble_eq_true rfl) ?_
            refine r_iload (zW_mono _ _ _) rfl rfl ?_
            refine r_if_eq (zW_mono _ _ _) rfl (fun _ => ?_) (fun q => absurd q (by decide +kernel))
            refine r_push (zW_mono _ _ _) rfl ?_
            refine r_iret (zW_mono _ _ _) rfl rfl rfl ?_
            refine ⟨_, rfl, ⟨_, hx_111⟩, ?_⟩
            refine zW_in rfl (Nat.le_of_ble_eq_true rfl) ?_
            refine r_aload (zW_mono _ _ _) rfl rfl ?_
            refine r_get (zW_mono _ _ _) rfl hx_111 rfl ?_
            refine r_push (zW_mono _ _ _) rfl ?_
            refine r_icmp_eq (zW_mono _ _ _) rfl (fun q => absurd q (by decide +kernel)) (fun _ => ?_)
            refine r_iload (zW_mono _ _ _) rfl rfl ?_
            refine r_i2l (zW_mono _ _ _) rfl ?_
            refine r_push (zW_mono _ _ _) rfl ?_
            refine r_push (zW_mono _ _ _) rfl ?_
            refine r_stat3 (zW_mono _ _ _) rfl (Nat.le_of_ble_eq_true rfl) rfl (Nat.le_of_ble_eq_true rfl) (Nat.le_of_ble_eq_true rfl) ?_
            refine zW_in rfl (Nat.le_of_ble_eq_true rfl) ?_
            refine r_lload (zW_mono _ _ _) rfl rfl ?_
            refine r_lload (zW_mono _ _ _) rfl rfl ?_
            refine r_lc_lt (X := a1.toInt) (Y := 0) (zW_mono _ _ _) rfl rfl (zi64 _) (by decide +kernel) (fun q => by exfalso; omega) (fun z16 => ?_)
            refine r_lload (zW_mono _ _ _) rfl rfl ?_
            refine r_lload (zW_mono _ _ _) rfl rfl ?_
            refine r_lc_gt (X := a1.toInt) (Y := 9999) (zW_mono _ _ _) rfl rfl (zi64 _) (by decide +kernel) (fun q => by exfalso; omega) (fun z17 => ?_)
            refine r_push (zW_mono _ _ _) rfl ?_
            refine r_goto (zW_mono _ _ _) rfl ?_
            refine r_iret (zW_mono _ _ _) rfl rfl (by decide +kernel) ?_
            refine r_if_eq (zW_mono _ _ _) rfl (fun q => absurd q (by decide +kernel)) (fun _ => ?_)
            refine r_iload (zW_mono _ _ _) rfl rfl ?_
            refine r_i2l (zW_mono _ _ _) rfl ?_
            refine r_push (zW_mono _ _ _) rfl ?_
            refine r_push (zW_mono _ _ _) rfl ?_
            refine r_stat3 (zW_mono _ _ _) rfl (Nat.le_of_ble_eq_true rfl) rfl (Nat.le_of_ble_eq_true rfl) (Nat.le_of_ble_eq_true rfl) ?_
            refine zW_in rfl (Nat.le_of_ble_eq_true rfl) ?_
            refine r_lload (zW_mono _ _ _) rfl rfl ?_
            refine r_lload (zW_mono _ _ _) rfl rfl ?_
            refine r_lc_lt (X := a2.toInt) (Y := 0) (zW_mono _ _ _) rfl rfl (zi64 _) (by decide +kernel) (fun q => by exfalso; omega) (fun z18 => ?_)
            refine r_lload (zW_mono _ _ _) rfl rfl ?_
            refine r_lload (zW_mono _ _ _) rfl rfl ?_
            refine r_lc_gt (X := a2.toInt) (Y := 9999) (zW_mono _ _ _) rfl rfl (zi64 _) (by decide +kernel) (fun q => by exfalso; omega) (fun z19 => ?_)
            refine r_push (zW_mono _ _ _) rfl ?_
            refine r_goto (zW_mono _ _ _) rfl ?_
            refine r_iret (zW_mono _ _ _) rfl rfl (by decide +kernel) ?_
            refine r_if_eq (zW_mono _ _ _) rfl (fun q => absurd q (by decide +kernel)) (fun _ => ?_)
            refine r_iload (zW_mono _ _ _) rfl rfl ?_
            refine r_i2l (zW_mono _ _ _) rfl ?_
            refine r_push (zW_mono _ _ _) rfl ?_
            refine r_push (zW_mono _ _ _) rfl ?_
            refine r_stat3 (zW_mono _ _ _) rfl (Nat.le_of_ble_eq_true rfl) rfl (Nat.le_of_ble_eq_true rfl) (Nat.le_of_ble_eq_true rfl) ?_
            refine zW_in rfl (Nat.le_of_ble_eq_true rfl) ?_
            refine r_lload (zW_mono _ _ _) rfl rfl ?_
            refine r_lload (zW_mono _ _ _) rfl rfl ?_
            refine r_lc_lt (X := a3.toInt) (Y := 0) (zW_mono _ _ _) rfl rfl (zi64 _) (by decide +kernel) (fun z20 => ?_) (fun q => by exfalso; omega)
            refine r_push (zW_mono _ _ _) rfl ?_
            refine r_iret (zW_mono _ _ _) rfl rfl (by decide +kernel) ?_
            refine r_if_eq (zW_mono _ _ _) rfl (fun _ => ?_) (fun q => absurd q (by decide +kernel))
            refine r_push (zW_mono _ _ _) rfl ?_
            refine r_iret (zW_mono _ _ _) rfl rfl rfl ?_
            first | rfl | exact congrArg some (by decide +kernel)
          · refine r_iload (zW_mono _ _ _) rfl rfl ?_
            refine r_iload (zW_mono _ _ _) rfl rfl ?_
            refine r_ic_gt (X := a3.toInt) (Y := 9999) (zW_mono _ _ _) rfl rfl (by decide +kernel) (fun z21 => ?_) (fun z21 => ?_)
            · refine r_push (zW_mono _ _ _) rfl ?_
              refine r_iret (zW_mono _ _ _) rfl rfl (by decide +kernel) ?_
              refine r_if_eq (zW_mono _ _ _) rfl (fun _ => ?_) (fun q => absurd q (by decide +kernel))
              refine r_push (zW_mono _ _ _) rfl ?_
              refine r_istore (zW_mono _ _ _) rfl (Nat.le_of_ble_eq_true rfl) ?_
              refine r_iload (zW_mono _ _ _) rfl rfl ?_
              refine r_if_eq (zW_mono _ _ _) rfl (fun _ => ?_) (fun q => absurd q (by decide +kernel))
              refine r_push (zW_mono _ _ _) rfl ?_
              refine r_iret (zW_mono _ _ _) rfl rfl rfl ?_
              refine ⟨_, rfl, ⟨_, hx_111⟩, ?_⟩
              refine zW_in rfl (Nat.le_of_ble_eq_true rfl) ?_
              refine r_aload (zW_mono _ _ _) rfl rfl ?_
              refine r_get (zW_mono _ _ _) rfl hx_111 rfl ?_
              refine r_push (zW_mono _ _ _) rfl ?_
              refine r_icmp_eq (zW_mono _ _ _) rfl (fun q => absurd q (by decide +kernel)) (fun _ => ?_)
              refine r_iload (zW_mono _ _ _) rfl rfl ?_
              refine r_i2l (zW_mono _ _ _) rfl ?_
              refine r_push (zW_mono _ _ _) rfl ?_
              refine r_push (zW_mono _ _ _) rfl ?_
              refine r_stat3 (zW_mono _ _ _) rfl (Nat.le_of_ble_eq_true rfl) rfl (Nat.le_of_ble_eq_true rfl) (Nat.le_of_ble_eq_true rfl) ?_
              refine zW_in rfl (Nat.le_of_ble_eq_true rfl) ?_
              refine r_lload (zW_mono _ _ _) rfl rfl ?_
              refine r_lload (zW_mono _ _ _) rfl rfl ?_
              refine r_lc_lt (X := a1.toInt) (Y := 0) (zW_mono _ _ _) rfl rfl (zi64 _) (by decide +kernel) (fun q => by exfalso; omega) (fun z22 => ?_)
              refine r_lload (zW_mono _ _ _) rfl rfl ?_
              refine r_lload (zW_mono _ _ _) rfl rfl ?_
              refine r_lc_gt (X := a1.toInt) (Y := 9999) (zW_mono _ _ _) rfl rfl (zi64 _) (by decide +kernel) (fun q => by exfalso; omega) (fun z23 => ?_)
              refine r_push (zW_mono _ _ _) rfl ?_
              refine r_goto (zW_mono _ _ _) rfl ?_
              refine r_iret (zW_mono _ _ _) rfl rfl (by decide +kernel) ?_
              refine r_if_eq (zW_mono _ _ _) rfl (fun q => absurd q (by decide +kernel)) (fun _ => ?_)
              refine r_iload (zW_mono _ _ _) rfl rfl ?_
              refine r_i2l (zW_mono _ _ _) rfl ?_
              refine r_push (zW_mono _ _ _) rfl ?_
              refine r_push (zW_mono _ _ _) rfl ?_
              refine r_stat3 (zW_mono _ _ _) rfl (Nat.le_of_ble_eq_true rfl) rfl (Nat.le_of_ble_eq_true rfl) (Nat.le_of_ble_eq_true rfl) ?_
              refine zW_in rfl (Nat.le_of_ble_eq_true rfl) ?_
              refine r_lload (zW_mono _ _ _) rfl rfl ?_
              refine r_lload (zW_mono _ _ _) rfl rfl ?_
              refine r_lc_lt (X := a2.toInt) (Y := 0) (zW_mono _ _ _) rfl rfl (zi64 _) (by decide +kernel) (fun q => by exfalso; omega) (fun z24 => ?_)
              refine r_lload (zW_mono _ _ _) rfl rfl ?_
              refine r_lload (zW_mono _ _ _) rfl rfl ?_
              refine r_lc_gt (X := a2.toInt) (Y := 9999) (zW_mono _ _ _) rfl rfl (zi64 _) (by decide +kernel) (fun q => by exfalso; omega) (fun z25 => ?_)
              refine r_push (zW_mono _ _ _) rfl ?_
              refine r_goto (zW_mono _ _ _) rfl ?_
              refine r_iret (zW_mono _ _ _) rfl rfl (by decide +kernel) ?_
              refine r_if_eq (zW_mono _ _ _) rfl (fun q => absurd q (by decide +kernel)) (fun _ => ?_)
              refine r_iload (zW_mono _ _ _) rfl rfl ?_
              refine r_i2l (zW_mono _ _ _) rfl ?_
              refine r_push (zW_mono _ _ _) rfl ?_
              refine r_push (zW_mono _ _ _) rfl ?_
              refine r_stat3 (zW_mono _ _ _) rfl (Nat.le_of_ble_eq_true rfl) rfl (Nat.le_of_ble_eq_true rfl) (Nat.le_of_ble_eq_true rfl) ?_
              refine zW_in rfl (Nat.le_of_ble_eq_true rfl) ?_
              refine r_lload (zW_mono _ _ _) rfl rfl ?_
              refine r_lload (zW_mono _ _ _) rfl rfl ?_
              refine r_lc_lt (X := a3.toInt) (Y := 0) (zW_mono _ _ _) rfl rfl (zi64 _) (by decide +kernel) (fun q => by exfalso; omega) (fun z26 => ?_)
              refine r_lload (zW_mono _ _ _) rfl rfl ?_
              refine r_lload (zW_mono _ _ _) rfl rfl ?_
              refine r_lc_gt (X := a3.toInt) (Y := 9999) (zW_mono _ _ _) rfl rfl (zi64 _) (by decide +kernel) (fun z27 => ?_) (fun q => by exfalso; omega)
              refine r_push (zW_mono _ _ _) rfl ?_
              refine r_iret (zW_mono _ _ _) rfl rfl (by decide +kernel) ?_
              refine r_if_eq (zW_mono _ _ _) rfl (fun _ => ?_) (fun q => absurd q (by decide +kernel))
              refine r_push (zW_mono _ _ _) rfl ?_
              refine r_iret (zW_mono _ _ _) rfl rfl rfl ?_
              first | rfl | exact congrArg some (by decide +kernel)
            · refine r_push (zW_mono _ _ _) rfl ?_
              refine r_goto (zW_mono _ _ _) rfl ?_
              refine r_iret (zW_mono _ _ _) rfl rfl (by decide +kernel) ?_
              refine r_if_eq (zW_mono _ _ _) rfl (fun q => absurd q (by decide +kernel)) (fun _ => ?_)
              refine r_iload (zW_mono _ _ _) rfl rfl ?_
              refine r_push (zW_mono _ _ _) rfl ?_
              refine r_push (zW_mono _ _ _) rfl ?_
              refine r_stat3 (zW_mono _ _ _) rfl (Nat.le_of_ble_eq_true rfl) rfl (Nat.le_of_ble_eq_true rfl) (Nat.le_of_ble_eq_true rfl) ?_
              refine zW_in rfl (Nat.le_of_ble_eq_true rfl) ?_
              refine r_iload (zW_mono _ _ _) rfl rfl ?_
              refine r_iload (zW_mono _ _ _) rfl rfl ?_
              refine r_ic_lt (X := a4.toInt) (Y := 0) (zW_mono _ _ _) rfl rfl (by decide +kernel) (fun z28 => ?_) (fun z28 => ?_)
              · refine r_push (zW_mono _ _ _) rfl ?_
                refine r_iret (zW_mono _ _ _) rfl rfl (by decide +kernel) ?_
                refine r_if_eq (zW_mono _ _ _) rfl (fun _ => ?_) (fun q => absurd q (by decide +kernel))
                refine r_push (zW_mono _ _ _) rfl ?_
                refine r_istore (zW_mono _ _ _) rfl (Nat.le_of_ble_eq_true rfl) ?_
                refine r_iload (zW_mono _ _ _) rfl rfl ?_
                refine r_if_eq (zW_mono _ _ _) rfl (fun _ => ?_) (fun q => absurd q (by decide +kernel))
                refine r_push (zW_mono _ _ _) rfl ?_
                refine r_iret (zW_mono _ _ _) rfl rfl rfl ?_
                refine ⟨_, rfl, ⟨_, hx_111⟩, ?_⟩
                refine zW_in rfl (Nat.le_of_ble_eq_true rfl) ?_
                refine r_aload (zW_mono _ _ _) rfl rfl ?_
                refine r_get (zW_mono _ _ _) rfl hx_111 rfl ?_
                refine r_push (zW_mono _ _ _) rfl ?_
                refine r_icmp_eq (zW_mono _ _ _) rfl (fun q => absurd q (by decide +kernel)) (fun _ => ?_)
                refine r_iload (zW_mono _ _ _) rfl rfl ?_
                refine r_i2l (zW_mono _ _ _) rfl ?_
                refine r_push (zW_mono _ _ _) rfl ?_
                refine r_push (zW_mono _ _ _) rfl ?_
                refine r_stat3 (zW_mono _ _ _) rfl (Nat.le_of_ble_eq_true rfl) rfl (Nat.le_of_ble_eq_true rfl) (Nat.le_of_ble_eq_true rfl) ?_
                refine zW_in rfl (Nat.le_of_ble_eq_true rfl) ?_
                refine r_lload (zW_mono _ _ _) rfl rfl ?_
                refine r_lload (zW_mono _ _ _) rfl rfl ?_
                refine r_lc_lt (X := a1.toInt) (Y := 0) (zW_mono _ _ _) rfl rfl (zi64 _) (by decide +kernel) (fun q => by exfalso; omega) (fun z29 => ?_)
                refine r_lload (zW_mono _ _ _) rfl rfl ?_
                refine r_lload (zW_mono _ _ _) rfl rfl ?_
                refine r_lc_gt (X := a1.toInt) (Y := 9999) (zW_mono _ _ _) rfl rfl (zi64 _) (by decide +kernel) (fun q => by exfalso; omega) (fun z30 => ?_)
                refine r_push (zW_mono _ _ _) rfl ?_
                refine r_goto (zW_mono _ _ _) rfl ?_
                refine r_iret (zW_mono _ _ _) rfl rfl (by decide +kernel) ?_
                refine r_if_eq (zW_mono _ _ _) rfl (fun q => absurd q (by decide +kernel)) (fun _ => ?_)
                refine r_iload (zW_mono _ _ _) rfl rfl ?_
                refine r_i2l (zW_mono _ _ _) rfl ?_
                refine r_push (zW_mono _ _ _) rfl ?_
                refine r_push (zW_mono _ _ _) rfl ?_
                refine r_stat3 (zW_mono _ _ _) rfl (Nat.le_of_ble_eq_true rfl) rfl (Nat.le_of_ble_eq_true rfl) (Nat.le_of_ble_eq_true rfl) ?_
                refine zW_in rfl (Nat.le_of_ble_eq_true rfl) ?_
                refine r_lload (zW_mono _ _ _) rfl rfl ?_
                refine r_lload (zW_mono _ _ _) rfl rfl ?_
                refine r_lc_lt (X := a2.toInt) (Y := 0) (zW_mono _ _ _) rfl rfl (zi64 _) (by decide +kernel) (fun q => by exfalso; omega) (fun z31 => ?_)
                refine r_lload (zW_mono _ _ _) rfl rfl ?_
                refine r_lload (zW_mono _ _ _) rfl rfl ?_
                refine r_lc_gt (X := a2.toInt) (Y := 9999) (zW_mono _ _ _) rfl rfl (zi64 _) (by decide +kernel) (fun q => by exfalso; omega) (fun z32 => ?_)
                refine r_push (zW_mono _ _ _) rfl ?_
                refine r_goto (zW_mono _ _ _) rfl ?_
                refine r_iret (zW_mono _ _ _) rfl rfl (by decide +kernel) ?_
                refine r_if_eq (zW_mono _ _ _) rfl (fun q => absurd q (by decide +kernel)) (fun _ => ?_)
                refine r_iload (zW_mono _ _ _) rfl rfl ?_
                refine r_i2l (zW_mono _ _ _) rfl ?_
                refine r_push (zW_mono _ _ _) rfl ?_
                refine r_push (zW_mono _ _ _) rfl ?_
                refine r_stat3 (zW_mono _ _ _) rfl (Nat.le_of_ble_eq_true rfl) rfl (Nat.le_of_ble_eq_true rfl) (Nat.le_of_ble_eq_true rfl) ?_
                refine zW_in rfl (Nat.le_of_ble_eq_true rfl) ?_
                refine r_lload (zW_mono _ _ _) rfl rfl ?_
                refine r_lload (zW_mono _ _ _) rfl rfl ?_
                refine r_lc_lt (X := a3.toInt) (Y := 0) (zW_mono _ _ _) rfl rfl (zi64 _) (by decide +kernel) (fun q => by exfalso; omega) (fun z33 => ?_)
                refine r_lload (zW_mono _ _ _) rfl rfl ?_
                refine r_lload (zW_mono _ _ _) rfl rfl ?_
                refine r_lc_gt (X := a3.toInt) (Y := 9999) (zW_mono _ _ _) rfl rfl (zi64 _) (by decide +kernel) (fun q => by exfalso; omega) (fun z34 => ?_)
                refine r_push (zW_mono _ _ _) rfl ?_
                refine r_goto (zW_mono _ _ _) rfl ?_
                refine r_iret (zW_mono _ _ _) rfl rfl (by decide +kernel) ?_
                refine r_if_eq (zW_mono _ _ _) rfl (fun q => absurd q (by decide +kernel)) (fun _ => ?_)
                refine r_iload (zW_mono _ _ _) rfl rfl ?_
                refine r_i2l (zW_mono _ _ _) rfl ?_
                refine r_push (zW_mono _ _ _) rfl ?_
                refine r_push (zW_mono _ _ _) rfl ?_
                refine r_stat3 (zW_mono _ _ _) rfl (Nat.le_of_ble_eq_true rfl) rfl (Nat.le_of_ble_eq_true rfl) (Nat.le_of_ble_eq_true rfl) ?_
                refine zW_in rfl (Nat.le_of_ble_eq_true rfl) ?_
                refine r_lload (zW_mono _ _ _) rfl rfl ?_
                refine r_lload (zW_mono _ _ _) rfl rfl ?_
                refine r_lc_lt (X := a4.toInt) (Y := 0) (zW_mono _ _ _) rfl rfl (zi64 _) (by decide +kernel) (fun z35 => ?_) (fun q => by exfalso; omega)
                refine r_push (zW_mono _ _ _) rfl ?_
                refine r_iret (zW_mono _ _ _) rfl rfl (by decide +kernel) ?_
                refine r_if_ne (zW_mono _ _ _) rfl (fun q => absurd q (by decide +kernel)) (fun _ => ?_)
                refine r_push (zW_mono _ _ _) rfl ?_
                refine r_iret (zW_mono _ _ _) rfl rfl rfl ?_
                first | rfl | exact congrArg some (by decide +kernel)
              · refine r_iload (zW_mono _ _ _) rfl rfl ?_
                refine r_iload (zW_mono _ _ _) rfl rfl ?_
                refine r_ic_gt (X := a4.toInt) (Y := 9999) (zW_mono _ _ _) rfl rfl (by decide +kernel) (fun z36 => ?_) (fun z36 => ?_)
                · refine r_push (zW_mono _ _ _) rfl ?_
                  refine r_iret (zW_mono _ _ _) rfl rfl (by decide +kernel) ?_
                  refine r_if_eq (zW_mono _ _ _) rfl (fun _ => ?_) (fun q => absurd q (by decide +kernel))
                  refine r_push (zW_mono _ _ _) rfl ?_
                  refine r_istore (zW_mono _ _ _) rfl (Nat.le_of_ble_eq_true rfl) ?_
                  refine r_iload (zW_mono _ _ _) rfl rfl ?_
                  refine r_if_eq (zW_mono _ _ _) rfl (fun _ => ?_) (fun q => absurd q (by decide +kernel))
                  refine r_push (zW_mono _ _ _) rfl ?_
                  refine r_iret (zW_mono _ _ _) rfl rfl rfl ?_
                  refine ⟨_, rfl, ⟨_, hx_111⟩, ?_⟩
                  refine zW_in rfl (Nat.le_of_ble_eq_true rfl) ?_
                  refine r_aload (zW_mono _ _ _) rfl rfl ?_
                  refine r_get (zW_mono _ _ _) rfl hx_111 rfl ?_
                  refine r_push (zW_mono _ _ _) rfl ?_
                  refine r_icmp_eq (zW_mono _ _ _) rfl (fun q => absurd q (by decide +kernel)) (fun _ => ?_)
                  refine r_iload (zW_mono _ _ _) rfl rfl ?_
                  refine r_i2l (zW_mono _ _ _) rfl ?_
                  refine r_push (zW_mono _ _ _) rfl ?_
                  refine r_push (zW_mono _ _ _) rfl ?_
                  refine r_stat3 (zW_mono _ _ _) rfl (Nat.le_of_ble_eq_true rfl) rfl (Nat.le_of_ble_eq_true rfl) (Nat.le_of_ble_eq_true rfl) ?_
                  refine zW_in rfl (Nat.le_of_ble_eq_true rfl) ?_
                  refine r_lload (zW_mono _ _ _) rfl rfl ?_
                  refine r_lload (zW_mono _ _ _) rfl rfl ?_
                  refine r_lc_lt (X := a1.toInt) (Y := 0) (zW_mono _ _ _) rfl rfl (zi64 _) (by decide +kernel) (fun q => by exfalso; omega) (fun z37 => ?_)
                  refine r_lload (zW_mono _ _ _) rfl rfl ?_
                  refine r_lload (zW_mono _ _ _) rfl rfl ?_
                  refine r_lc_gt (X := a1.toInt) (Y := 9999) (zW_mono _ _ _) rfl rfl (zi64 _) (by decide +kernel) (fun q => by exfalso; omega) (fun z38 => ?_)
                  refine r_push (zW_mono _ _ _) rfl ?_
                  refine r_goto (zW_mono _ _ _) rfl ?_
                  refine r_iret (zW_mono _ _ _) rfl rfl (by decide +kernel) ?_
                  refine r_if_eq (zW_mono _ _ _) rfl (fun q => absurd q (by decide +kernel)) (fun _ => ?_)
                  refine r_iload (zW_mono _ _ _) rfl rfl ?_
                  refine r_i2l (zW_mono _ _ _) rfl ?_
                  refine r_push (zW_mono _ _ _) rfl ?_
                  refine r_push (zW_mono _ _ _) rfl ?_
                  refine r_stat3 (zW_mono _ _ _) rfl (Nat.le_of_ble_eq_true rfl) rfl (Nat.le_of_ble_eq_true rfl) (Nat.le_of_ble_eq_true rfl) ?_
                  refine zW_in rfl (Nat.le_of_ble_eq_true rfl) ?_
                  refine r_lload (zW_mono _ _ _) rfl rfl ?_
                  refine r_lload (zW_mono _ _ _) rfl rfl ?_
                  refine r_lc_lt (X := a2.toInt) (Y := 0) (zW_mono _ _ _) rfl rfl (zi64 _) (by decide +kernel) (fun q => by exfalso; omega) (fun z39 => ?_)
                  refine r_lload (zW_mono _ _ _) rfl rfl ?_
                  refine r_lload (zW_mono _ _ _) rfl rfl ?_
                  refine r_lc_gt (X := a2.toInt) (Y := 9999) (zW_mono _ _ _) rfl rfl (zi64 _) (by decide +kernel) (fun q => by exfalso; omega) (fun z40 => ?_)
                  refine r_push (zW_mono _ _ _) rfl ?_
                  refine r_goto (zW_mono _ _ _) rfl ?_
                  refine r_iret (zW_mono _ _ _) rfl rfl (by decide +kernel) ?_
                  refine r_if_eq (zW_mono _ _ _) rfl (fun q => absurd q (by decide +kernel)) (fun _ => ?_)
                  refine r_iload (zW_mono _ _ _) rfl rfl ?_
                  refine r_i2l (zW_mono _ _ _) rfl ?_
                  refine r_push (zW_mono _ _ _) rfl ?_
                  refine r_push (zW_mono _ _ _) rfl ?_
                  refine r_stat3 (zW_mono _ _ _) rfl (Nat.le_of_ble_eq_true rfl) rfl (Nat.le_of_ble_eq_true rfl) (Nat.le_of_ble_eq_true rfl) ?_
                  refine zW_in rfl (Nat.le_of_ble_eq_true rfl) ?_
                  refine r_lload (zW_mono _ _ _) rfl rfl ?_
                  refine r_lload (zW_mono _ _ _) rfl rfl ?_
                  refine r_lc_lt (X := a3.toInt) (Y := 0) (zW_mono _ _ _) rfl rfl (zi64 _) (by decide +kernel) (fun q => by exfalso; omega) (fun z41 => ?_)
                  refine r_lload (zW_mono _ _ _) rfl rfl ?_
                  refine r_lload (zW_mono _ _ _) rfl rfl ?_
                  refine r_lc_gt (X := a3.toInt) (Y := 9999) (zW_mono _ _ _) rfl rfl (zi64 _) (by decide +kernel) (fun q => by exfalso; omega) (fun z42 => ?_)
                  refine r_push (zW_mono _ _ _) rfl ?_
                  refine r_goto (zW_mono _ _ _) rfl ?_
                  refine r_iret (zW_mono _ _ _) rfl rfl (by decide +kernel) ?_
                  refine r_if_eq (zW_mono _ _ _) rfl (fun q => absurd q (by decide +kernel)) (fun _ => ?_)
                  refine r_iload (zW_mono _ _ _) rfl rfl ?_
                  refine r_i2l (zW_mono _ _ _) rfl ?_
                  refine r_push (zW_mono _ _ _) rfl ?_
                  refine r_push (zW_mono _ _ _) rfl ?_
                  refine r_stat3 (zW_mono _ _ _) rfl (Nat.le_of_ble_eq_true rfl) rfl (Nat.le_of_ble_eq_true rfl) (Nat.le_of_ble_eq_true rfl) ?_
                  refine zW_in rfl (Nat.le_of_ble_eq_true rfl) ?_
                  refine r_lload (zW_mono _ _ _) rfl rfl ?_
                  refine r_lload (zW_mono _ _ _) rfl rfl ?_
                  refine r_lc_lt (X := a4.toInt) (Y := 0) (zW_mono _ _ _) rfl rfl (zi64 _) (by decide +kernel) (fun q => by exfalso; omega) (fun z43 => ?_)
                  refine r_lload (zW_mono _ _ _) rfl rfl ?_
                  refine r_lload (zW_mono _ _ _) rfl rfl ?_
                  refine r_lc_gt (X := a4.toInt) (Y := 9999) (zW_mono _ _ _) rfl rfl (zi64 _) (by decide +kernel) (fun z44 => ?_) (fun q => by exfalso; omega)
                  refine r_push (zW_mono _ _ _) rfl ?_
                  refine r_iret (zW_mono _ _ _) rfl rfl (by decide +kernel) ?_
                  refine r_if_ne (zW_mono _ _ _) rfl (fun q => absurd q (by decide +kernel)) (fun _ => ?_)
                  refine r_push (zW_mono _ _ _) rfl ?_
                  refine r_iret (zW_mono _ _ _) rfl rfl rfl ?_
                  first | rfl | exact congrArg some (by decide +kernel)
                · refine r_push (zW_mono _ _ _) rfl ?_
                  refine r_goto (zW_mono _ _ _) rfl ?_
                  refine r_iret (zW_mono _ _ _) rfl rfl (by decide +kernel) ?_
                  refine r_if_eq (zW_mono _ _ _) rfl (fun q => absurd q (by decide +kernel)) (fun _ => ?_)
                  refine r_push (zW_mono _ _ _) rfl ?_
                  refine r_goto (zW_mono _ _ _) rfl ?_
                  refine r_istore (zW_mono _ _ _) rfl (Nat.le_of_ble_eq_true rfl) ?_
                  refine r_iload (zW_mono _ _ _) rfl rfl ?_
                  refine r_if_eq (zW_mono _ _ _) rfl (fun q => absurd q (by decide +kernel)) (fun _ => ?_)
                  refine r_aload (zW_mono _ _ _) rfl rfl ?_
                  refine r_get (zW_mono _ _ _) rfl hx_0 rfl ?_
                  refine r_iload (zW_mono _ _ _) rfl rfl ?_
                  refine r_iload (zW_mono _ _ _) rfl rfl ?_
                  refine r_iload (zW_mono _ _ _) rfl rfl ?_
                  refine r_iload (zW_mono _ _ _) rfl rfl ?_
                  refine r_virt4 (zW_mono _ _ _) rfl hx_1 (Nat.le_of_ble_eq_true rfl) rfl (Nat.le_of_ble_eq_true rfl) (Nat.le_of_ble_eq_true rfl) ?_
                  refine zW_in rfl (Nat.le_of_ble_eq_true rfl) ?_
                  refine r_aload (zW_mono _ _ _) rfl rfl ?_
                  refine r_get (zW_mono _ _ _) rfl hx_1 rfl ?_
                  refine r_push (zW_mono _ _ _) rfl ?_
                  refine r_icmp_ne (zW_mono _ _ _) rfl (fun _ => ?_) (fun q => absurd q (by decide +kernel))
                  refine r_aload (zW_mono _ _ _) rfl rfl ?_
                  refine r_get (zW_mono _ _ _) rfl hx_1 rfl ?_
                  refine r_aload (zW_mono _ _ _) rfl rfl ?_
                  refine r_get (zW_mono _ _ _) rfl hx_1 rfl ?_
                  refine r_iload (zW_mono _ _ _) rfl rfl ?_
                  refine r_iast (zW_mono _ _ _) rfl hx_13 (vp_in_iff.mpr ⟨(by decide +kernel), (by decide +kernel)⟩) ?_
                  refine zR_nm (fun h1 e1 => ?_)
                  have g1 := zgs e1 hx_13
                  refine r_aload (zW_mono _ _ _) rfl rfl ?_
                  have f2 := (zgn e1 (by decide) hx_1)
                  refine r_get (zW_mono _ _ _) rfl f2 rfl ?_
                  refine r_aload (zW_mono _ _ _) rfl rfl ?_
                  refine r_get (zW_mono _ _ _) rfl f2 rfl ?_
                  have f3 := (zgn e1 (by decide) hx_14)
                  refine r_gald (zW_mono _ _ _) rfl f3 (vp_in_iff.mpr ⟨(by decide +kernel), (by decide +kernel)⟩) ?_
                  refine r_iload (zW_mono _ _ _) rfl rfl ?_
                  refine r_iload (zW_mono _ _ _) rfl rfl ?_
                  refine r_iload (zW_mono _ _ _) rfl rfl ?_
                  refine r_stat4 (zW_mono _ _ _) rfl (Nat.le_of_ble_eq_true rfl) rfl (Nat.le_of_ble_eq_true rfl) (Nat.le_of_ble_eq_true rfl) ?_
                  refine zW_in rfl (Nat.le_of_ble_eq_true rfl) ?_
                  refine r_aload (zW_mono _ _ _) rfl rfl ?_
                  refine r_push (zW_mono _ _ _) rfl ?_
                  refine r_iload (zW_mono _ _ _) rfl rfl ?_
                  have f4 := (zgn e1 (by decide) hx_15)
                  refine r_iast (zW_mono _ _ _) rfl f4 (vp_in_iff.mpr ⟨(by decide +kernel), (by decide +kernel)⟩) ?_
                  refine zR_nm (fun h5 e5 => ?_)
                  have g5 := zgs e5 f4
                  refine r_aload (zW_mono _ _ _) rfl rfl ?_
                  refine r_push (zW_mono _ _ _) rfl ?_
                  refine r_iload (zW_mono _ _ _) rfl rfl ?_
                  refine r_iast (zW_mono _ _ _) rfl g5 (vp_in_iff.mpr ⟨(by decide +kernel), (by decide +kernel)⟩) ?_
                  refine zR_nm (fun h6 e6 => ?_)
                  have g6 := zgs e6 g5
                  refine r_aload (zW_mono _ _ _) rfl rfl ?_
                  refine r_push (zW_mono _ _ _) rfl ?_
                  refine r_iload (zW_mono _ _ _) rfl rfl ?_
                  refine r_iast (zW_mono _ _ _) rfl g6 (vp_in_iff.mpr ⟨(by decide +kernel), (by decide +kernel)⟩) ?_
                  refine zR_nm (fun h7 e7 => ?_)
                  have g7 := zgs e7 g6
                  refine r_vret (zW_mono _ _ _) rfl rfl ?_
                  refine r_aload (zW_mono _ _ _) rfl rfl ?_
                  refine r_dup (zW_mono _ _ _) rfl rfl ?_
                  have f8 := (zgn e7 (by decide) (zgn e6 (by decide) (zgn e5 (by decide) f2)))
                  refine r_get (zW_mono _ _ _) rfl f8 rfl ?_
                  refine r_dup_x1 (zW_mono _ _ _) rfl rfl rfl ?_
                  refine r_push (zW_mono _ _ _) rfl ?_
                  refine r_iadd (zW_mono _ _ _) rfl ?_
                  refine r_put (zW_mono _ _ _) rfl f8 (Nat.le_of_ble_eq_true rfl) rfl rfl rfl ?_
                  refine zR_nm (fun h9 e9 => ?_)
                  have g9 := zgs e9 f8
                  refine r_iret (zW_mono _ _ _) rfl rfl rfl ?_
                  refine r_goto (zW_mono _ _ _) rfl ?_
                  refine r_iret (zW_mono _ _ _) rfl rfl rfl ?_
                  have f10 := (zgn e9 (by decide) (zgn e7 (by decide) (zgn e6 (by decide) (zgn e5 (by decide) (zgn e1 (by decide) hx_111)))))
                  refine ⟨_, rfl, ⟨_, f10⟩, ?_⟩
                  refine zW_in rfl (Nat.le_of_ble_eq_true rfl) ?_
                  refine r_aload (zW_mono _ _ _) rfl rfl ?_
                  refine r_get (zW_mono _ _ _) rfl f10 rfl ?_
                  refine r_push (zW_mono _ _ _) rfl ?_
                  refine r_icmp_eq (zW_mono _ _ _) rfl (fun q => absurd q (by decide +kernel)) (fun _ => ?_)
                  refine r_iload (zW_mono _ _ _) rfl rfl ?_
                  refine r_i2l (zW_mono _ _ _) rfl ?_
                  refine r_push (zW_mono _ _ _) rfl ?_
                  refine r_push (zW_mono _ _ _) rfl ?_
                  refine r_stat3 (zW_mono _ _ _) rfl (Nat.le_of_ble_eq_true rfl) rfl (Nat.le_of_ble_eq_true rfl) (Nat.le_of_ble_eq_true rfl) ?_
                  refine zW_in rfl (Nat.le_of_ble_eq_true rfl) ?_
                  refine r_lload (zW_mono _ _ _) rfl rfl ?_
                  refine r_lload (zW_mono _ _ _) rfl rfl ?_
                  refine r_lc_lt (X := a1.toInt) (Y := 0) (zW_mono _ _ _) rfl rfl (zi64 _) (by decide +kernel) (fun q => by exfalso; omega) (fun z45 => ?_)
                  refine r_lload (zW_mono _ _ _) rfl rfl ?_
                  refine r_lload (zW_mono _ _ _) rfl rfl ?_
                  refine r_lc_gt (X := a1.toInt) (Y := 9999) (zW_mono _ _ _) rfl rfl (zi64 _) (by decide +kernel) (fun q => by exfalso; omega) (fun z46 => ?_)
                  refine r_push (zW_mono _ _ _) rfl ?_
                  refine r_goto (zW_mono _ _ _) rfl ?_
                  refine r_iret (zW_mono _ _ _) rfl rfl (by decide +kernel) ?_
                  refine r_if_eq (zW_mono _ _ _) rfl (fun q => absurd q (by decide +kernel)) (fun _ => ?_)
                  refine r_iload (zW_mono _ _ _) rfl rfl ?_
                  refine r_i2l (zW_mono _ _ _) rfl ?_
                  refine r_push (zW_mono _ _ _) rfl ?_
                  refine r_push (zW_mono _ _ _) rfl ?_
                  refine r_stat3 (zW_mono _ _ _) rfl (Nat.le_of_ble_eq_true rfl) rfl (Nat.le_of_ble_eq_true rfl) (Nat.le_of_ble_eq_true rfl) ?_
                  refine zW_in rfl (Nat.le_of_ble_eq_true rfl) ?_
                  refine r_lload (zW_mono _ _ _) rfl rfl ?_
                  refine r_lload (zW_mono _ _ _) rfl rfl ?_
                  refine r_lc_lt (X := a2.toInt) (Y := 0) (zW_mono _ _ _) rfl rfl (zi64 _) (by decide +kernel) (fun q => by exfalso; omega) (fun z47 => ?_)
                  refine r_lload (zW_mono _ _ _) rfl rfl ?_
                  refine r_lload (zW_mono _ _ _) rfl rfl ?_
                  refine r_lc_gt (X := a2.toInt) (Y := 9999) (zW_mono _ _ _) rfl rfl (zi64 _) (by decide +kernel) (fun q => by exfalso; omega) (fun z48 => ?_)
                  refine r_push (zW_mono _ _ _) rfl ?_
                  refine r_goto (zW_mono _ _ _) rfl ?_
                  refine r_iret (zW_mono _ _ _) rfl rfl (by decide +kernel) ?_
                  refine r_if_eq (zW_mono _ _ _) rfl (fun q => absurd q (by decide +kernel)) (fun _ => ?_)
                  refine r_iload (zW_mono _ _ _) rfl rfl ?_
                  refine r_i2l (zW_mono _ _ _) rfl ?_
                  refine r_push (zW_mono _ _ _) rfl ?_
                  refine r_push (zW_mono _ _ _) rfl ?_
                  refine r_stat3 (zW_mono _ _ _) rfl (Nat.le_of_ble_eq_true rfl) rfl (Nat.le_of_ble_eq_true rfl) (Nat.le_of_ble_eq_true rfl) ?_
                  refine zW_in rfl (Nat.le_of_ble_eq_true rfl) ?_
                  refine r_lload (zW_mono _ _ _) rfl rfl ?_
                  refine r_lload (zW_mono _ _ _) rfl rfl ?_
                  refine r_lc_lt (X := a3.toInt) (Y := 0) (zW_mono _ _ _) rfl rfl (zi64 _) (by decide +kernel) (fun q => by exfalso; omega) (fun z49 => ?_)
                  refine r_lload (zW_mono _ _ _) rfl rfl ?_
                  refine r_lload (zW_mono _ _ _) rfl rfl ?_
                  refine r_lc_gt (X := a3.toInt) (Y := 9999) (zW_mono _ _ _) rfl rfl (zi64 _) (by decide +kernel) (fun q => by exfalso; omega) (fun z50 => ?_)
                  refine r_push (zW_mono _ _ _) rfl ?_
                  refine r_goto (zW_mono _ _ _) rfl ?_
                  refine r_iret (zW_mono _ _ _) rfl rfl (by decide +kernel) ?_
                  refine r_if_eq (zW_mono _ _ _) rfl (fun q => absurd q (by decide +kernel)) (fun _ => ?_)
                  refine r_iload (zW_mono _ _ _) rfl rfl ?_
                  refine r_i2l (zW_mono _ _ _) rfl ?_
                  refine r_push (zW_mono _ _ _) rfl ?_
                  refine r_push (zW_mono _ _ _) rfl ?_
                  refine r_stat3 (zW_mono _ _ _) rfl (Nat.le_of_ble_eq_true rfl) rfl (Nat.le_of_ble_eq_true rfl) (Nat.le_of_ble_eq_true rfl) ?_
                  refine zW_in rfl (Nat.le_of_ble_eq_true rfl) ?_
                  refine r_lload (zW_mono _ _ _) rfl rfl ?_
                  refine r_lload (zW_mono _ _ _) rfl rfl ?_
                  refine r_lc_lt (X := a4.toInt) (Y := 0) (zW_mono _ _ _) rfl rfl (zi64 _) (by decide +kernel) (fun q => by exfalso; omega) (fun z51 => ?_)
                  refine r_lload (zW_mono _ _ _) rfl rfl ?_
                  refine r_lload (zW_mono _ _ _) rfl rfl ?_
                  refine r_lc_gt (X := a4.toInt) (Y := 9999) (zW_mono _ _ _) rfl rfl (zi64 _) (by decide +kernel) (fun q => by exfalso; omega) (fun z52 => ?_)
                  refine r_push (zW_mono _ _ _) rfl ?_
                  refine r_goto (zW_mono _ _ _) rfl ?_
                  refine r_iret (zW_mono _ _ _) rfl rfl (by decide +kernel) ?_
                  refine r_if_ne (zW_mono _ _ _) rfl (fun _ => ?_) (fun q => absurd q (by decide +kernel))
                  refine r_aload (zW_mono _ _ _) rfl rfl ?_
                  refine r_get (zW_mono _ _ _) rfl f10 rfl ?_
                  refine r_aload (zW_mono _ _ _) rfl rfl ?_
                  refine r_get (zW_mono _ _ _) rfl f10 rfl ?_
                  refine r_iload (zW_mono _ _ _) rfl rfl ?_
                  have f11 := (zgn e9 (by decide) (zgn e7 (by decide) (zgn e6 (by decide) (zgn e5 (by decide) (zgn e1 (by decide) hx_116)))))
                  refine r_iast (zW_mono _ _ _) rfl f11 (vp_in_iff.mpr ⟨(by decide +kernel), (by decide +kernel)⟩) ?_
                  refine zR_nm (fun h12 e12 => ?_)
                  have g12 := zgs e12 f11
                  refine r_aload (zW_mono _ _ _) rfl rfl ?_
                  have f13 := (zgn e12 (by decide) f10)
                  refine r_get (zW_mono _ _ _) rfl f13 rfl ?_
                  refine r_push (zW_mono _ _ _) rfl ?_
                  refine r_aload (zW_mono _ _ _) rfl rfl ?_
                  refine r_get (zW_mono _ _ _) rfl f13 rfl ?_
                  refine r_imul (zW_mono _ _ _) rfl ?_
                  refine r_iload (zW_mono _ _ _) rfl rfl ?_
                  have f14 := (zgn e12 (by decide) (zgn e9 (by decide) (zgn e7 (by decide) (zgn e6 (by decide) (zgn e5 (by decide) (zgn e1 (by decide) hx_117))))))
                  refine r_iast (zW_mono _ _ _) rfl f14 (vp_in_iff.mpr ⟨(by decide +kernel), (by decide +kernel)⟩) ?_
                  refine zR_nm (fun h15 e15 => ?_)
                  have g15 := zgs e15 f14
                  refine r_aload (zW_mono _ _ _) rfl rfl ?_
                  have f16 := (zgn e15 (by decide) f13)
                  refine r_get (zW_mono _ _ _) rfl f16 rfl ?_
                  refine r_push (zW_mono _ _ _) rfl ?_
                  refine r_aload (zW_mono _ _ _) rfl rfl ?_
                  refine r_get (zW_mono _ _ _) rfl f16 rfl ?_
                  refine r_imul (zW_mono _ _ _) rfl ?_
                  refine r_push (zW_mono _ _ _) rfl ?_
                  refine r_iadd (zW_mono _ _ _) rfl ?_
                  refine r_iload (zW_mono _ _ _) rfl rfl ?_
                  refine r_iast (zW_mono _ _ _) rfl g15 (vp_in_iff.mpr ⟨(by decide +kernel), (by decide +kernel)⟩) ?_
                  refine zR_nm (fun h17 e17 => ?_)
                  have g17 := zgs e17 g15
                  refine r_aload (zW_mono _ _ _) rfl rfl ?_
                  have f18 := (zgn e17 (by decide) f16)
                  refine r_get (zW_mono _ _ _) rfl f18 rfl ?_
                  refine r_push (zW_mono _ _ _) rfl ?_
                  refine r_aload (zW_mono _ _ _) rfl rfl ?_
                  refine r_get (zW_mono _ _ _) rfl f18 rfl ?_
                  refine r_imul (zW_mono _ _ _) rfl ?_
                  refine r_push (zW_mono _ _ _) rfl ?_
                  refine r_iadd (zW_mono _ _ _) rfl ?_
                  refine r_iload (zW_mono _ _ _) rfl rfl ?_
                  refine r_iast (zW_mono _ _ _) rfl g17 (vp_in_iff.mpr ⟨(by decide +kernel), (by decide +kernel)⟩) ?_
                  refine zR_nm (fun h19 e19 => ?_)
                  have g19 := zgs e19 g17
                  refine r_aload (zW_mono _ _ _) rfl rfl ?_
                  refine r_dup (zW_mono _ _ _) rfl rfl ?_
                  have f20 := (zgn e19 (by decide) f18)
                  refine r_get (zW_mono _ _ _) rfl f20 rfl ?_
                  refine r_push (zW_mono _ _ _) rfl ?_
                  refine r_iadd (zW_mono _ _ _) rfl ?_
                  refine r_put (zW_mono _ _ _) rfl f20 (Nat.le_of_ble_eq_true rfl) rfl rfl rfl ?_
                  refine zR_nm (fun h21 e21 => ?_)
                  have g21 := zgs e21 f20
                  refine r_aload (zW_mono _ _ _) rfl rfl ?_
                  refine r_get (zW_mono _ _ _) rfl g21 rfl ?_
                  refine r_push (zW_mono _ _ _) rfl ?_
                  refine r_isub (zW_mono _ _ _) rfl ?_
                  refine r_iret (zW_mono _ _ _) rfl rfl rfl ?_
                  first | rfl | exact congrArg some (by decide +kernel)
set_option maxHeartbeats 4000000 in
set_option maxRecDepth 20000 in
theorem op_fit {G : zG} (hG : G.1 = zProg) (a1 a2 a3 : Int32) : zW zTt G 12 115 [.ref 0, .int a1, .int a2, .int a3] (dzH dH0) (fun w h => ∃ x : Int32, w = some (.int x) ∧ (∃ fs : List Value, h[111]? = some (.inr (12, fs))) ∧ zW zTt G 12 183 [.ref 111, .int a1, .int a2, .int a3] h (fun w2 _ => w2 = some (.int x))) := by
  obtain ⟨p9, t9⟩ := G
  have hG : p9 = zProg := hG
  subst hG
  refine zW_in rfl (Nat.le_of_ble_eq_true rfl) ?_
  refine r_aload (zW_mono _ _ _) rfl rfl ?_
  refine r_get (zW_mono _ _ _) rfl hx_0 rfl ?_
  refine r_iload (zW_mono _ _ _) rfl rfl ?_
  refine r_virt1 (zW_mono _ _ _) rfl hx_1 (Nat.le_of_ble_eq_true rfl) rfl (Nat.le_of_ble_eq_true rfl) (Nat.le_of_ble_eq_true rfl) ?_
  refine zW_in rfl (Nat.le_of_ble_eq_true rfl) ?_
  refine r_iload (zW_mono _ _ _) rfl rfl ?_
  refine r_i0_lt (X := a1.toInt) (zW_mono _ _ _) rfl rfl (fun z1 => ?_) (fun z1 => ?_)
  · refine r_push (zW_mono _ _ _) rfl ?_
    refine r_iret (zW_mono _ _ _) rfl rfl (by decide +kernel) ?_
    refine r_if_eq (zW_mono _ _ _) rfl (fun _ => ?_) (fun q => absurd q (by decide +kernel))
    refine r_push (zW_mono _ _ _) rfl ?_
    refine r_iret (zW_mono _ _ _) rfl rfl (by decide +kernel) ?_
    refine ⟨_, rfl, ⟨_, hx_111⟩, ?_⟩
    refine zW_in rfl (Nat.le_of_ble_eq_true rfl) ?_
    refine r_aload (zW_mono _ _ _) rfl rfl ?_
    refine r_iload (zW_mono _ _ _) rfl rfl ?_
    refine r_virt1 (zW_mono _ _ _) rfl hx_111 (Nat.le_of_ble_eq_true rfl) rfl (Nat.le_of_ble_eq_true rfl) (Nat.le_of_ble_eq_true rfl) ?_
    refine zW_in rfl (Nat.le_of_ble_eq_true rfl) ?_
    refine r_iload (zW_mono _ _ _) rfl rfl ?_
    refine r_i2l (zW_mono _ _ _) rfl ?_
    refine r_push (zW_mono _ _ _) rfl ?_
    refine r_aload (zW_mono _ _ _) rfl rfl ?_
    refine r_get (zW_mono _ _ _) rfl hx_111 rfl ?_
    refine r_push (zW_mono _ _ _) rfl ?_
    refine r_isub (zW_mono _ _ _) rfl ?_
    refine r_i2l (zW_mono _ _ _) rfl ?_
    refine r_stat3 (zW_mono _ _ _) rfl (Nat.le_of_ble_eq_true rfl) rfl (Nat.le_of_ble_eq_true rfl) (Nat.le_of_ble_eq_true rfl) ?_
    refine zW_in rfl (Nat.le_of_ble_eq_true rfl) ?_
    refine r_lload (zW_mono _ _ _) rfl rfl ?_
    refine r_lload (zW_mono _ _ _) rfl rfl ?_
    refine r_lc_lt (X := a1.toInt) (Y := 0) (zW_mono _ _ _) rfl rfl (zi64 _) (by decide +kernel) (fun z2 => ?_) (fun q => by exfalso; omega)
    refine r_push (zW_mono _ _ _) rfl ?_
    refine r_iret (zW_mono _ _ _) rfl rfl (by decide +kernel) ?_
    refine r_iret (zW_mono _ _ _) rfl rfl (by decide +kernel) ?_
    refine r_if_eq (zW_mono _ _ _) rfl (fun _ => ?_) (fun q => absurd q (by decide +kernel))
    refine r_push (zW_mono _ _ _) rfl ?_
    refine r_iret (zW_mono _ _ _) rfl rfl (by decide +kernel) ?_
    first | rfl | exact congrArg some (by decide +kernel)
  · refine r_iload (zW_mono _ _ _) rfl rfl ?_
    refine r_aload (zW_mono _ _ _) rfl rfl ?_
    refine r_get (zW_mono _ _ _) rfl hx_1 rfl ?_
    refine r_ic_ge (X := a1.toInt) (Y := 0) (zW_mono _ _ _) rfl rfl (by decide +kernel) (fun z3 => ?_) (fun q => by exfalso; omega)
    refine r_push (zW_mono _ _ _) rfl ?_
    refine r_iret (zW_mono _ _ _) rfl rfl (by decide +kernel) ?_
    refine r_if_eq (zW_mono _ _ _) rfl (fun _ => ?_) (fun q => absurd q (by decide +kernel))
    refine r_push (zW_mono _ _ _) rfl ?_
    refine r_iret (zW_mono _ _ _) rfl rfl (by decide +kernel) ?_
    refine ⟨_, rfl, ⟨_, hx_111⟩, ?_⟩
    refine zW_in rfl (Nat.le_of_ble_eq_true rfl) ?_
    refine r_aload (zW_mono _ _ _) rfl rfl ?_
    refine r_iload (zW_mono _ _ _) rfl rfl ?_
    refine r_virt1 (zW_mono _ _ _) rfl hx_111 (Nat.le_of_ble_eq_true rfl) rfl (Nat.le_of_ble_eq_true rfl) (Nat.le_of_ble_eq_true rfl) ?_
    refine zW_in rfl (Nat.le_of_ble_eq_true rfl) ?_
    refine r_iload (zW_mono _ _ _) rfl rfl ?_
    refine r_i2l (zW_mono _ _ _) rfl ?_
    refine r_push (zW_mono _ _ _) rfl ?_
    refine r_aload (zW_mono _ _ _) rfl rfl ?_
    refine r_get (zW_mono _ _ _) rfl hx_111 rfl ?_
    refine r_push (zW_mono _ _ _) rfl ?_
    refine r_isub (zW_mono _ _ _) rfl ?_
    refine r_i2l (zW_mono _ _ _) rfl ?_
    refine r_stat3 (zW_mono _ _ _) rfl (Nat.le_of_ble_eq_true rfl) rfl (Nat.le_of_ble_eq_true rfl) (Nat.le_of_ble_eq_true rfl) ?_
    refine zW_in rfl (Nat.le_of_ble_eq_true rfl) ?_
    refine r_lload (zW_mono _ _ _) rfl rfl ?_
    refine r_lload (zW_mono _ _ _) rfl rfl ?_
    refine r_lc_lt (X := a1.toInt) (Y := 0) (zW_mono _ _ _) rfl rfl (zi64 _) (by decide +kernel) (fun q => by exfalso; omega) (fun z4 => ?_)
    refine r_lload (zW_mono _ _ _) rfl rfl ?_
    refine r_lload (zW_mono _ _ _) rfl rfl ?_
    refine r_lc_gt (X := a1.toInt) (Y := (-1)) (zW_mono _ _ _) rfl rfl (zi64 _) (by decide +kernel) (fun z5 => ?_) (fun q => by exfalso; omega)
    refine r_push (zW_mono _ _ _) rfl ?_
    refine r_iret (zW_mono _ _ _) rfl rfl (by decide +kernel) ?_
    refine r_iret (zW_mono _ _ _) rfl rfl (by decide +kernel) ?_
    refine r_if_eq (zW_mono _ _ _) rfl (fun _ => ?_) (fun q => absurd q (by decide +kernel))
    refine r_push (zW_mono _ _ _) rfl ?_
    refine r_iret (zW_mono _ _ _) rfl rfl (by decide +kernel) ?_
    first | rfl | exact congrArg some (by decide +kernel)
set_option maxHeartbeats 4000000 in
set_option maxRecDepth 20000 in
theorem op_car {G : zG} (hG : G.1 = zProg) (a1 a2 a3 : Int32) : zW zTt G 12 116 [.ref 0, .int a1, .int a2, .int a3] (dzH dH0) (fun w h => ∃ x : Int32, w = some (.int x) ∧ (∃ fs : List Value, h[111]? = some (.inr (12, fs))) ∧ zW zTt G 12 184 [.ref 111, .int a1, .int a2, .int a3] h (fun w2 _ => w2 = some (.int x))) := by
  obtain ⟨p9, t9⟩ := G
  have hG : p9 = zProg := hG
  subst hG
  refine zW_in rfl (Nat.le_of_ble_eq_true rfl) ?_
  refine r_aload (zW_mono _ _ _) rfl rfl ?_
  refine r_get (zW_mono _ _ _) rfl hx_0 rfl ?_
  refine r_iload (zW_mono _ _ _) rfl rfl ?_
  refine r_virt1 (zW_mono _ _ _) rfl hx_1 (Nat.le_of_ble_eq_true rfl) rfl (Nat.le_of_ble_eq_true rfl) (Nat.le_of_ble_eq_true rfl) ?_
  refine zW_in rfl (Nat.le_of_ble_eq_true rfl) ?_
  refine r_iload (zW_mono _ _ _) rfl rfl ?_
  refine r_i0_lt (X := a1.toInt) (zW_mono _ _ _) rfl rfl (fun z1 => ?_) (fun z1 => ?_)
  · refine r_push (zW_mono _ _ _) rfl ?_
    refine r_iret (zW_mono _ _ _) rfl rfl (by decide +kernel) ?_
    refine r_if_eq (zW_mono _ _ _) rfl (fun _ => ?_) (fun q => absurd q (by decide +kernel))
    refine r_push (zW_mono _ _ _) rfl ?_
    refine r_istore (zW_mono _ _ _) rfl (Nat.le_of_ble_eq_true rfl) ?_
    refine r_iload (zW_mono _ _ _) rfl rfl ?_
    refine r_if_eq (zW_mono _ _ _) rfl (fun _ => ?_) (fun q => absurd q (by decide +kernel))
    refine r_push (zW_mono _ _ _) rfl ?_
    refine r_iret (zW_mono _ _ _) rfl rfl rfl ?_
    refine ⟨_, rfl, ⟨_, hx_111⟩, ?_⟩
    refine zW_in rfl (Nat.le_of_ble_eq_true rfl) ?_
    refine r_aload (zW_mono _ _ _) rfl rfl ?_
    refine r_get (zW_mono _ _ _) rfl hx_111 rfl ?_
    refine r_push (zW_mono _ _ _) rfl ?_
    refine r_icmp_eq (zW_mono _ _ _) rfl (fun q => absurd q (by decide +kernel)) (fun _ => ?_)
    refine r_aload (zW_mono _ _ _) rfl rfl ?_
    refine r_iload (zW_mono _ _ _) rfl rfl ?_
    refine r_virt1 (zW_mono _ _ _) rfl hx_111 (Nat.le_of_ble_eq_true rfl) rfl (Nat.le_of_ble_eq_true rfl) (Nat.le_of_ble_eq_true rfl) ?_
    refine zW_in rfl (Nat.le_of_ble_eq_true rfl) ?_
    refine r_iload (zW_mono _ _ _) rfl rfl ?_
    refine r_i2l (zW_mono _ _ _) rfl ?_
    refine r_push (zW_mono _ _ _) rfl ?_
    refine r_aload (zW_mono _ _ _) rfl rfl ?_
    refine r_get (zW_mono _ _ _) rfl hx_111 rfl ?_
    refine r_push (zW_mono _ _ _) rfl ?_
    refine r_isub (zW_mono _ _ _) rfl ?_
    refine r_i2l (zW_mono _ _ _) rfl ?_
    refine r_stat3 (zW_mono _ _ _) rfl (Nat.le_of_ble_eq_true rfl) rfl (Nat.le_of_ble_eq_true rfl) (Nat.le_of_ble_eq_true rfl) ?_
    refine zW_in rfl (Nat.le_of_ble_eq_true rfl) ?_
    refine r_lload (zW_mono _ _ _) rfl rfl ?_
    refine r_lload (zW_mono _ _ _) rfl rfl ?_
    refine r_lc_lt (X := a1.toInt) (Y := 0) (zW_mono _ _ _) rfl rfl (zi64 _) (by decide +kernel) (fun z2 => ?_) (fun q => by exfalso; omega)
    refine r_push (zW_mono _ _ _) rfl ?_
    refine r_iret (zW_mono _ _ _) rfl rfl (by decide +kernel) ?_
    refine r_iret (zW_mono _ _ _) rfl rfl (by decide +kernel) ?_
    refine r_if_eq (zW_mono _ _ _) rfl (fun _ => ?_) (fun q => absurd q (by decide +kernel))
    refine r_push (zW_mono _ _ _) rfl ?_
    refine r_iret (zW_mono _ _ _) rfl rfl rfl ?_
    first | rfl | exact congrArg some (by decide +kernel)
  · refine r_iload (zW_mono _ _ _) rfl rfl ?_
    refine r_aload (zW_mono _ _ _) rfl rfl ?_
    refine r_get (zW_mono _ _ _) rfl hx_1 rfl ?_
    refine r_ic_ge (X := a1.toInt) (Y := 0) (zW_mono _ _ _) rfl rfl (by decide +kernel) (fun z3 => ?_) (fun q => by exfalso; omega)
    refine r_push (zW_mono _ _ _) rfl ?_
    refine r_iret (zW_mono _ _ _) rfl rfl (by decide +kernel) ?_
    refine r_if_eq (zW_mono _ _ _) rfl (fun _ => ?_) (fun q => absurd q (by decide +kernel))
    refine r_push (zW_mono _ _ _) rfl ?_
    refine r_istore (zW_mono _ _ _) rfl (Nat.le_of_ble_eq_true rfl) ?_
    refine r_iload (zW_mono _ _ _) rfl rfl ?_
    refine r_if_eq (zW_mono _ _ _) rfl (fun _ => ?_) (fun q => absurd q (by decide +kernel))
    refine r_push (zW_mono _ _ _) rfl ?_
    refine r_iret (zW_mono _ _ _) rfl rfl rfl ?_
    refine ⟨_, rfl, ⟨_, hx_111⟩, ?_⟩
    refine zW_in rfl (Nat.le_of_ble_eq_true rfl) ?_
    refine r_aload (zW_mono _ _ _) rfl rfl ?_
    refine r_get (zW_mono _ _ _) rfl hx_111 rfl ?_
    refine r_push (zW_mono _ _ _) rfl ?_
    refine r_icmp_eq (zW_mono _ _ _) rfl (fun q => absurd q (by decide +kernel)) (fun _ => ?_)
    refine r_aload (zW_mono _ _ _) rfl rfl ?_
    refine r_iload (zW_mono _ _ _) rfl rfl ?_
    refine r_virt1 (zW_mono _ _ _) rfl hx_111 (Nat.le_of_ble_eq_true rfl) rfl (Nat.le_of_ble_eq_true rfl) (Nat.le_of_ble_eq_true rfl) ?_
    refine zW_in rfl (Nat.le_of_ble_eq_true rfl) ?_
    refine r_iload (zW_mono _ _ _) rfl rfl ?_
    refine r_i2l (zW_mono _ _ _) rfl ?_
    refine r_push (zW_mono _ _ _) rfl ?_
    refine r_aload (zW_mono _ _ _) rfl rfl ?_
    refine r_get (zW_mono _ _ _) rfl hx_111 rfl ?_
    refine r_push (zW_mono _ _ _) rfl ?_
    refine r_isub (zW_mono _ _ _) rfl ?_
    refine r_i2l (zW_mono _ _ _) rfl ?_
    refine r_stat3 (zW_mono _ _ _) rfl (Nat.le_of_ble_eq_true rfl) rfl (Nat.le_of_ble_eq_true rfl) (Nat.le_of_ble_eq_true rfl) ?_
    refine zW_in rfl (Nat.le_of_ble_eq_true rfl) ?_
    refine r_lload (zW_mono _ _ _) rfl rfl ?_
    refine r_lload (zW_mono _ _ _) rfl rfl ?_
    refine r_lc_lt (X := a1.toInt) (Y := 0) (zW_mono _ _ _) rfl rfl (zi64 _) (by decide +kernel) (fun q => by exfalso; omega) (fun z4 => ?_)
    refine r_lload (zW_mono _ _ _) rfl rfl ?_
    refine r_lload (zW_mono _ _ _) rfl rfl ?_
    refine r_lc_gt (X := a1.toInt) (Y := (-1)) (zW_mono _ _ _) rfl rfl (zi64 _) (by decide +kernel) (fun z5 => ?_) (fun q => by exfalso; omega)
    refine r_push (zW_mono _ _ _) rfl ?_
    refine r_iret (zW_mono _ _ _) rfl rfl (by decide +kernel) ?_
    refine r_iret (zW_mono _ _ _) rfl rfl (by decide +kernel) ?_
    refine r_if_eq (zW_mono _ _ _) rfl (fun _ => ?_) (fun q => absurd q (by decide +kernel))
    refine r_push (zW_mono _ _ _) rfl ?_
    refine r_iret (zW_mono _ _ _) rfl rfl rfl ?_
    first | rfl | exact congrArg some (by decide +kernel)
set_option maxHeartbeats 4000000 in
set_option maxRecDepth 20000 in
theorem op_sell {G : zG} (hG : G.1 = zProg) (a1 a2 a3 : Int32) : zW zTt G 12 117 [.ref 0, .int a1, .int a2, .int a3] (dzH dH0) (fun w h => ∃ x : Int32, w = some (.int x) ∧ (∃ fs : List Value, h[111]? = some (.inr (12, fs))) ∧ zW zTt G 12 185 [.ref 111, .int a1, .int a2, .int a3] h (fun w2 _ => w2 = some (.int x))) := by
  obtain ⟨p9, t9⟩ := G
  have hG : p9 = zProg := hG
  subst hG
  refine zW_in rfl (Nat.le_of_ble_eq_true rfl) ?_
  refine r_aload (zW_mono _ _ _) rfl rfl ?_
  refine r_get (zW_mono _ _ _) rfl hx_0 rfl ?_
  refine r_iload (zW_mono _ _ _) rfl rfl ?_
  refine r_virt1 (zW_mono _ _ _) rfl hx_36 (Nat.le_of_ble_eq_true rfl) rfl (Nat.le_of_ble_eq_true rfl) (Nat.le_of_ble_eq_true rfl) ?_
  refine zW_in rfl (Nat.le_of_ble_eq_true rfl) ?_
  refine r_iload (zW_mono _ _ _) rfl rfl ?_
  refine r_i0_lt (X := a1.toInt) (zW_mono _ _ _) rfl rfl (fun z1 => ?_) (fun z1 => ?_)
  · refine r_push (zW_mono _ _ _) rfl ?_
    refine r_nret (zW_mono _ _ _) rfl rfl rfl ?_
    refine r_astoreN (zW_mono _ _ _) rfl (Nat.le_of_ble_eq_true rfl) ?_
    refine r_aloadN (zW_mono _ _ _) rfl rfl ?_
    refine r_ifnullT (zW_mono _ _ _) rfl ?_
    refine r_push (zW_mono _ _ _) rfl ?_
    refine r_iret (zW_mono _ _ _) rfl rfl (by decide +kernel) ?_
    refine ⟨_, rfl, ⟨_, hx_111⟩, ?_⟩
    refine zW_in rfl (Nat.le_of_ble_eq_true rfl) ?_
    refine r_aload (zW_mono _ _ _) rfl rfl ?_
    refine r_get (zW_mono _ _ _) rfl hx_111 rfl ?_
    refine r_push (zW_mono _ _ _) rfl ?_
    refine r_icmp_eq (zW_mono _ _ _) rfl (fun q => absurd q (by decide +kernel)) (fun _ => ?_)
    refine r_aload (zW_mono _ _ _) rfl rfl ?_
    refine r_iload (zW_mono _ _ _) rfl rfl ?_
    refine r_virt1 (zW_mono _ _ _) rfl hx_111 (Nat.le_of_ble_eq_true rfl) rfl (Nat.le_of_ble_eq_true rfl) (Nat.le_of_ble_eq_true rfl) ?_
    refine zW_in rfl (Nat.le_of_ble_eq_true rfl) ?_
    refine r_iload (zW_mono _ _ _) rfl rfl ?_
    refine r_i2l (zW_mono _ _ _) rfl ?_
    refine r_push (zW_mono _ _ _) rfl ?_
    refine r_aload (zW_mono _ _ _) rfl rfl ?_
    refine r_get (zW_mono _ _ _) rfl hx_111 rfl ?_
    refine r_push (zW_mono _ _ _) rfl ?_
    refine r_isub (zW_mono _ _ _) rfl ?_
    refine r_i2l (zW_mono _ _ _) rfl ?_
    refine r_stat3 (zW_mono _ _ _) rfl (Nat.le_of_ble_eq_true rfl) rfl (Nat.le_of_ble_eq_true rfl) (Nat.le_of_ble_eq_true rfl) ?_
    refine zW_in rfl (Nat.le_of_ble_eq_true rfl) ?_
    refine r_lload (zW_mono _ _ _) rfl rfl ?_
    refine r_lload (zW_mono _ _ _) rfl rfl ?_
    refine r_lc_lt (X := a1.toInt) (Y := 0) (zW_mono _ _ _) rfl rfl (zi64 _) (by decide +kernel) (fun z2 => ?_) (fun q => by exfalso; omega)
    refine r_push (zW_mono _ _ _) rfl ?_
    refine r_iret (zW_mono _ _ _) rfl rfl (by decide +kernel) ?_
    refine r_iret (zW_mono _ _ _) rfl rfl (by decide +kernel) ?_
    refine r_if_eq (zW_mono _ _ _) rfl (fun _ => ?_) (fun q => absurd q (by decide +kernel))
    refine r_push (zW_mono _ _ _) rfl ?_
    refine r_iret (zW_mono _ _ _) rfl rfl (by decide +kernel) ?_
    first | rfl | exact congrArg some (by decide +kernel)
  · refine r_iload (zW_mono _ _ _) rfl rfl ?_
    refine r_aload (zW_mono _ _ _) rfl rfl ?_
    refine r_get (zW_mono _ _ _) rfl hx_36 rfl ?_
    refine r_ic_ge (X := a1.toInt) (Y := 0) (zW_mono _ _ _) rfl rfl (by decide +kernel) (fun z3 => ?_) (fun q => by exfalso; omega)
    refine r_push (zW_mono _ _ _) rfl ?_
    refine r_nret (zW_mono _ _ _) rfl rfl rfl ?_
    refine r_astoreN (zW_mono _ _ _) rfl (Nat.le_of_ble_eq_true rfl) ?_
    refine r_aloadN (zW_mono _ _ _) rfl rfl ?_
    refine r_ifnullT (zW_mono _ _ _) rfl ?_
    refine r_push (zW_mono _ _ _) rfl ?_
    refine r_iret (zW_mono _ _ _) rfl rfl (by decide +kernel) ?_
    refine ⟨_, rfl, ⟨_, hx_111⟩, ?_⟩
    refine zW_in rfl (Nat.le_of_ble_eq_true rfl) ?_
    refine r_aload (zW_mono _ _ _) rfl rfl ?_
    refine r_get (zW_mono _ _ _) rfl hx_111 rfl ?_
    refine r_push (zW_mono _ _ _) rfl ?_
    refine r_icmp_eq (zW_mono _ _ _) rfl (fun q => absurd q (by decide +kernel)) (fun _ => ?_)
    refine r_aload (zW_mono _ _ _) rfl rfl ?_
    refine r_iload (zW_mono _ _ _) rfl rfl ?_
    refine r_virt1 (zW_mono _ _ _) rfl hx_111 (Nat.le_of_ble_eq_true rfl) rfl (Nat.le_of_ble_eq_true rfl) (Nat.le_of_ble_eq_true rfl) ?_
    refine zW_in rfl (Nat.le_of_ble_eq_true rfl) ?_
    refine r_iload (zW_mono _ _ _) rfl rfl ?_
    refine r_i2l (zW_mono _ _ _) rfl ?_
    refine r_push (zW_mono _ _ _) rfl ?_
    refine r_aload (zW_mono _ _ _) rfl rfl ?_
    refine r_get (zW_mono _ _ _) rfl hx_111 rfl ?_
    refine r_push (zW_mono _ _ _) rfl ?_
    refine r_isub (zW_mono _ _ _) rfl ?_
    refine r_i2l (zW_mono _ _ _) rfl ?_
    refine r_stat3 (zW_mono _ _ _) rfl (Nat.le_of_ble_eq_true rfl) rfl (Nat.le_of_ble_eq_true rfl) (Nat.le_of_ble_eq_true rfl) ?_
    refine zW_in rfl (Nat.le_of_ble_eq_true rfl) ?_
    refine r_lload (zW_mono _ _ _) rfl rfl ?_
    refine r_lload (zW_mono _ _ _) rfl rfl ?_
    refine r_lc_lt (X := a1.toInt) (Y := 0) (zW_mono _ _ _) rfl rfl (zi64 _) (by decide +kernel) (fun q => by exfalso; omega) (fun z4 => ?_)
    refine r_lload (zW_mono _ _ _) rfl rfl ?_
    refine r_lload (zW_mono _ _ _) rfl rfl ?_
    refine r_lc_gt (X := a1.toInt) (Y := (-1)) (zW_mono _ _ _) rfl rfl (zi64 _) (by decide +kernel) (fun z5 => ?_) (fun q => by exfalso; omega)
    refine r_push (zW_mono _ _ _) rfl ?_
    refine r_iret (zW_mono _ _ _) rfl rfl (by decide +kernel) ?_
    refine r_iret (zW_mono _ _ _) rfl rfl (by decide +kernel) ?_
    refine r_if_eq (zW_mono _ _ _) rfl (fun _ => ?_) (fun q => absurd q (by decide +kernel))
    refine r_push (zW_mono _ _ _) rfl ?_
    refine r_iret (zW_mono _ _ _) rfl rfl (by decide +kernel) ?_
    first | rfl | exact congrArg some (by decide +kernel)
set_option maxHeartbeats 4000000 in
set_option maxRecDepth 20000 in
theorem op_owner {G : zG} (hG : G.1 = zProg) (a1 a2 a3 : Int32) : zW zTt G 12 118 [.ref 0, .int a1, .int a2, .int a3] (dzH dH0) (fun w h => ∃ x : Int32, w = some (.int x) ∧ (∃ fs : List Value, h[111]? = some (.inr (12, fs))) ∧ zW zTt G 12 187 [.ref 111, .int a1, .int a2, .int a3] h (fun w2 _ => w2 = some (.int x))) := by
  obtain ⟨p9, t9⟩ := G
  have hG : p9 = zProg := hG
  subst hG
  refine zW_in rfl (Nat.le_of_ble_eq_true rfl) ?_
  refine r_aload (zW_mono _ _ _) rfl rfl ?_
  refine r_get (zW_mono _ _ _) rfl hx_0 rfl ?_
  refine r_iload (zW_mono _ _ _) rfl rfl ?_
  refine r_virt1 (zW_mono _ _ _) rfl hx_36 (Nat.le_of_ble_eq_true rfl) rfl (Nat.le_of_ble_eq_true rfl) (Nat.le_of_ble_eq_true rfl) ?_
  refine zW_in rfl (Nat.le_of_ble_eq_true rfl) ?_
  refine r_iload (zW_mono _ _ _) rfl rfl ?_
  refine r_i0_lt (X := a1.toInt) (zW_mono _ _ _) rfl rfl (fun z1 => ?_) (fun z1 => ?_)
  · refine r_push (zW_mono _ _ _) rfl ?_
    refine r_nret (zW_mono _ _ _) rfl rfl rfl ?_
    refine r_astoreN (zW_mono _ _ _) rfl (Nat.le_of_ble_eq_true rfl) ?_
    refine r_aloadN (zW_mono _ _ _) rfl rfl ?_
    refine r_ifnullT (zW_mono _ _ _) rfl ?_
    refine r_push (zW_mono _ _ _) rfl ?_
    refine r_iret (zW_mono _ _ _) rfl rfl rfl ?_
    refine ⟨_, rfl, ⟨_, hx_111⟩, ?_⟩
    refine zW_in rfl (Nat.le_of_ble_eq_true rfl) ?_
    refine r_aload (zW_mono _ _ _) rfl rfl ?_
    refine r_iload (zW_mono _ _ _) rfl rfl ?_
    refine r_virt1 (zW_mono _ _ _) rfl hx_111 (Nat.le_of_ble_eq_true rfl) rfl (Nat.le_of_ble_eq_true rfl) (Nat.le_of_ble_eq_true rfl) ?_
    refine zW_in rfl (Nat.le_of_ble_eq_true rfl) ?_
    refine r_iload (zW_mono _ _ _) rfl rfl ?_
    refine r_i2l (zW_mono _ _ _) rfl ?_
    refine r_push (zW_mono _ _ _) rfl ?_
    refine r_aload (zW_mono _ _ _) rfl rfl ?_
    refine r_get (zW_mono _ _ _) rfl hx_111 rfl ?_
    refine r_push (zW_mono _ _ _) rfl ?_
    refine r_isub (zW_mono _ _ _) rfl ?_
    refine r_i2l (zW_mono _ _ _) rfl ?_
    refine r_stat3 (zW_mono _ _ _) rfl (Nat.le_of_ble_eq_true rfl) rfl (Nat.le_of_ble_eq_true rfl) (Nat.le_of_ble_eq_true rfl) ?_
    refine zW_in rfl (Nat.le_of_ble_eq_true rfl) ?_
    refine r_lload (zW_mono _ _ _) rfl rfl ?_
    refine r_lload (zW_mono _ _ _) rfl rfl ?_
    refine r_lc_lt (X := a1.toInt) (Y := 0) (zW_mono _ _ _) rfl rfl (zi64 _) (by decide +kernel) (fun z2 => ?_) (fun q => by exfalso; omega)
    refine r_push (zW_mono _ _ _) rfl ?_
    refine r_iret (zW_mono _ _ _) rfl rfl (by decide +kernel) ?_
    refine r_iret (zW_mono _ _ _) rfl rfl (by decide +kernel) ?_
    refine r_if_eq (zW_mono _ _ _) rfl (fun _ => ?_) (fun q => absurd q (by decide +kernel))
    refine r_push (zW_mono _ _ _) rfl ?_
    refine r_iret (zW_mono _ _ _) rfl rfl rfl ?_
    first | rfl | exact congrArg some (by decide +kernel)
  · refine r_iload (zW_mono _ _ _) rfl rfl ?_
    refine r_aload (zW_mono _ _ _) rfl rfl ?_
    refine r_get (zW_mono _ _ _) rfl hx_36 rfl ?_
    refine r_ic_ge (X := a1.toInt) (Y := 0) (zW_mono _ _ _) rfl rfl (by decide +kernel) (fun z3 => ?_) (fun q => by exfalso; omega)
    refine r_push (zW_mono _ _ _) rfl ?_
    refine r_nret (zW_mono _ _ _) rfl rfl rfl ?_
    refine r_astoreN (zW_mono _ _ _) rfl (Nat.le_of_ble_eq_true rfl) ?_
    refine r_aloadN (zW_mono _ _ _) rfl rfl ?_
    refine r_ifnullT (zW_mono _ _ _) rfl ?_
    refine r_push (zW_mono _ _ _) rfl ?_
    refine r_iret (zW_mono _ _ _) rfl rfl rfl ?_
    refine ⟨_, rfl, ⟨_, hx_111⟩, ?_⟩
    refine zW_in rfl (Nat.le_of_ble_eq_true rfl) ?_
    refine r_aload (zW_mono _ _ _) rfl rfl ?_
    refine r_iload (zW_mono _ _ _) rfl rfl ?_
    refine r_virt1 (zW_mono _ _ _) rfl hx_111 (Nat.le_of_ble_eq_true rfl) rfl (Nat.le_of_ble_eq_true rfl) (Nat.le_of_ble_eq_true rfl) ?_
    refine zW_in rfl (Nat.le_of_ble_eq_true rfl) ?_
    refine r_iload (zW_mono _ _ _) rfl rfl ?_
    refine r_i2l (zW_mono _ _ _) rfl ?_
    refine r_push (zW_mono _ _ _) rfl ?_
    refine r_aload (zW_mono _ _ _) rfl rfl ?_
    refine r_get (zW_mono _ _ _) rfl hx_111 rfl ?_
    refine r_push (zW_mono _ _ _) rfl ?_
    refine r_isub (zW_mono _ _ _) rfl ?_
    refine r_i2l (zW_mono _ _ _) rfl ?_
    refine r_stat3 (zW_mono _ _ _) rfl (Nat.le_of_ble_eq_true rfl) rfl (Nat.le_of_ble_eq_true rfl) (Nat.le_of_ble_eq_true rfl) ?_
    refine zW_in rfl (Nat.le_of_ble_eq_true rfl) ?_
    refine r_lload (zW_mono _ _ _) rfl rfl ?_
    refine r_lload (zW_mono _ _ _) rfl rfl ?_
    refine r_lc_lt (X := a1.toInt) (Y := 0) (zW_mono _ _ _) rfl rfl (zi64 _) (by decide +kernel) (fun q => by exfalso; omega) (fun z4 => ?_)
    refine r_lload (zW_mono _ _ _) rfl rfl ?_
    refine r_lload (zW_mono _ _ _) rfl rfl ?_
    refine r_lc_gt (X := a1.toInt) (Y := (-1)) (zW_mono _ _ _) rfl rfl (zi64 _) (by decide +kernel) (fun z5 => ?_) (fun q => by exfalso; omega)
    refine r_push (zW_mono _ _ _) rfl ?_
    refine r_iret (zW_mono _ _ _) rfl rfl (by decide +kernel) ?_
    refine r_iret (zW_mono _ _ _) rfl rfl (by decide +kernel) ?_
    refine r_if_eq (zW_mono _ _ _) rfl (fun _ => ?_) (fun q => absurd q (by decide +kernel))
    refine r_push (zW_mono _ _ _) rfl ?_
    refine r_iret (zW_mono _ _ _) rfl rfl rfl ?_
    first | rfl | exact congrArg some (by decide +kernel)
set_option maxHeartbeats 4000000 in
set_option maxRecDepth 20000 in
theorem op_cars {G : zG} (hG : G.1 = zProg) (a1 a2 : Int32) : zW zTt G 12 119 [.ref 0, .int a1, .int a2] (dzH dH0) (fun w h => ∃ x : Int32, w = some (.int x) ∧ (∃ fs : List Value, h[111]? = some (.inr (12, fs))) ∧ zW zTt G 12 192 [.ref 111, .int a1, .int a2] h (fun w2 _ => w2 = some (.int x))) := by
  obtain ⟨p9, t9⟩ := G
  have hG : p9 = zProg := hG
  subst hG
  refine zW_in rfl (Nat.le_of_ble_eq_true rfl) ?_
  refine r_aload (zW_mono _ _ _) rfl rfl ?_
  refine r_get (zW_mono _ _ _) rfl hx_0 rfl ?_
  refine r_iload (zW_mono _ _ _) rfl rfl ?_
  refine r_virt1 (zW_mono _ _ _) rfl hx_36 (Nat.le_of_ble_eq_true rfl) rfl (Nat.le_of_ble_eq_true rfl) (Nat.le_of_ble_eq_true rfl) ?_
  refine zW_in rfl (Nat.le_of_ble_eq_true rfl) ?_
  refine r_iload (zW_mono _ _ _) rfl rfl ?_
  refine r_i0_lt (X := a1.toInt) (zW_mono _ _ _) rfl rfl (fun z1 => ?_) (fun z1 => ?_)
  · refine r_push (zW_mono _ _ _) rfl ?_
    refine r_nret (zW_mono _ _ _) rfl rfl rfl ?_
    refine r_astoreN (zW_mono _ _ _) rfl (Nat.le_of_ble_eq_true rfl) ?_
    refine r_aloadN (zW_mono _ _ _) rfl rfl ?_
    refine r_ifnonnullF (zW_mono _ _ _) rfl ?_
    refine r_push (zW_mono _ _ _) rfl ?_
    refine r_iret (zW_mono _ _ _) rfl rfl rfl ?_
    refine ⟨_, rfl, ⟨_, hx_111⟩, ?_⟩
    refine zW_in rfl (Nat.le_of_ble_eq_true rfl) ?_
    refine r_aload (zW_mono _ _ _) rfl rfl ?_
    refine r_iload (zW_mono _ _ _) rfl rfl ?_
    refine r_virt1 (zW_mono _ _ _) rfl hx_111 (Nat.le_of_ble_eq_true rfl) rfl (Nat.le_of_ble_eq_true rfl) (Nat.le_of_ble_eq_true rfl) ?_
    refine zW_in rfl (Nat.le_of_ble_eq_true rfl) ?_
    refine r_iload (zW_mono _ _ _) rfl rfl ?_
    refine r_i2l (zW_mono _ _ _) rfl ?_
    refine r_push (zW_mono _ _ _) rfl ?_
    refine r_aload (zW_mono _ _ _) rfl rfl ?_
    refine r_get (zW_mono _ _ _) rfl hx_111 rfl ?_
    refine r_push (zW_mono _ _ _) rfl ?_
    refine r_isub (zW_mono _ _ _) rfl ?_
    refine r_i2l (zW_mono _ _ _) rfl ?_
    refine r_stat3 (zW_mono _ _ _) rfl (Nat.le_of_ble_eq_true rfl) rfl (Nat.le_of_ble_eq_true rfl) (Nat.le_of_ble_eq_true rfl) ?_
    refine zW_in rfl (Nat.le_of_ble_eq_true rfl) ?_
    refine r_lload (zW_mono _ _ _) rfl rfl ?_
    refine r_lload (zW_mono _ _ _) rfl rfl ?_
    refine r_lc_lt (X := a1.toInt) (Y := 0) (zW_mono _ _ _) rfl rfl (zi64 _) (by decide +kernel) (fun z2 => ?_) (fun q => by exfalso; omega)
    refine r_push (zW_mono _ _ _) rfl ?_
    refine r_iret (zW_mono _ _ _) rfl rfl (by decide +kernel) ?_
    refine r_iret (zW_mono _ _ _) rfl rfl (by decide +kernel) ?_
    refine r_if_ne (zW_mono _ _ _) rfl (fun q => absurd q (by decide +kernel)) (fun _ => ?_)
    refine r_push (zW_mono _ _ _) rfl ?_
    refine r_iret (zW_mono _ _ _) rfl rfl rfl ?_
    first | rfl | exact congrArg some (by decide +kernel)
  · refine r_iload (zW_mono _ _ _) rfl rfl ?_
    refine r_aload (zW_mono _ _ _) rfl rfl ?_
    refine r_get (zW_mono _ _ _) rfl hx_36 rfl ?_
    refine r_ic_ge (X := a1.toInt) (Y := 0) (zW_mono _ _ _) rfl rfl (by decide +kernel) (fun z3 => ?_) (fun q => by exfalso; omega)
    refine r_push (zW_mono _ _ _) rfl ?_
    refine r_nret (zW_mono _ _ _) rfl rfl rfl ?_
    refine r_astoreN (zW_mono _ _ _) rfl (Nat.le_of_ble_eq_true rfl) ?_
    refine r_aloadN (zW_mono _ _ _) rfl rfl ?_
    refine r_ifnonnullF (zW_mono _ _ _) rfl ?_
    refine r_push (zW_mono _ _ _) rfl ?_
    refine r_iret (zW_mono _ _ _) rfl rfl rfl ?_
    refine ⟨_, rfl, ⟨_, hx_111⟩, ?_⟩
    refine zW_in rfl (Nat.le_of_ble_eq_true rfl) ?_
    refine r_aload (zW_mono _ _ _) rfl rfl ?_
    refine r_iload (zW_mono _ _ _) rfl rfl ?_
    refine r_virt1 (zW_mono _ _ _) rfl hx_111 (Nat.le_of_ble_eq_true rfl) rfl (Nat.le_of_ble_eq_true rfl) (Nat.le_of_ble_eq_true rfl) ?_
    refine zW_in rfl (Nat.le_of_ble_eq_true rfl) ?_
    refine r_iload (zW_mono _ _ _) rfl rfl ?_
    refine r_i2l (zW_mono _ _ _) rfl ?_
    refine r_push (zW_mono _ _ _) rfl ?_
    refine r_aload (zW_mono _ _ _) rfl rfl ?_
    refine r_get (zW_mono _ _ _) rfl hx_111 rfl ?_
    refine r_push (zW_mono _ _ _) rfl ?_
    refine r_isub (zW_mono _ _ _) rfl ?_
    refine r_i2l (zW_mono _ _ _) rfl ?_
    refine r_stat3 (zW_mono _ _ _) rfl (Nat.le_of_ble_eq_true rfl) rfl (Nat.le_of_ble_eq_true rfl) (Nat.le_of_ble_eq_true rfl) ?_
    refine zW_in rfl (Nat.le_of_ble_eq_true rfl) ?_
    refine r_lload (zW_mono _ _ _) rfl rfl ?_
    refine r_lload (zW_mono _ _ _) rfl rfl ?_
    refine r_lc_lt (X := a1.toInt) (Y := 0) (zW_mono _ _ _) rfl rfl (zi64 _) (by decide +kernel) (fun q => by exfalso; omega) (fun z4 => ?_)
    refine r_lload (zW_mono _ _ _) rfl rfl ?_
    refine r_lload (zW_mono _ _ _) rfl rfl ?_
    refine r_lc_gt (X := a1.toInt) (Y := (-1)) (zW_mono _ _ _) rfl rfl (zi64 _) (by decide +kernel) (fun z5 => ?_) (fun q => by exfalso; omega)
    refine r_push (zW_mono _ _ _) rfl ?_
    refine r_iret (zW_mono _ _ _) rfl rfl (by decide +kernel) ?_
    refine r_iret (zW_mono _ _ _) rfl rfl (by decide +kernel) ?_
    refine r_if_ne (zW_mono _ _ _) rfl (fun q => absurd q (by decide +kernel)) (fun _ => ?_)
    refine r_push (zW_mono _ _ _) rfl ?_
    refine r_iret (zW_mono _ _ _) rfl rfl rfl ?_
    first | rfl | exact congrArg some (by decide +kernel)
set_option maxHeartbeats 4000000 in
set_option maxRecDepth 20000 in
theorem op_force {G : zG} (hG : G.1 = zProg) (a1 a2 : Int32) : zW zTt G 12 120 [.ref 0, .int a1, .int a2] (dzH dH0) (fun w h => ∃ x : Int32, w = some (.int x) ∧ (∃ fs : List Value, h[111]? = some (.inr (12, fs))) ∧ zW zTt G 12 193 [.ref 111, .int a1, .int a2] h (fun w2 _ => w2 = some (.int x))) := by
  obtain ⟨p9, t9⟩ := G
  have hG : p9 = zProg := hG
  subst hG
  refine zW_in rfl (Nat.le_of_ble_eq_true rfl) ?_
  refine r_iload (zW_mono _ _ _) rfl rfl ?_
  refine r_stat1 (zW_mono _ _ _) rfl (Nat.le_of_ble_eq_true rfl) rfl (Nat.le_of_ble_eq_true rfl) (Nat.le_of_ble_eq_true rfl) ?_
  refine zW_in rfl (Nat.le_of_ble_eq_true rfl) ?_
  refine r_iload (zW_mono _ _ _) rfl rfl ?_
  refine r_push (zW_mono _ _ _) rfl ?_
  refine r_push (zW_mono _ _ _) rfl ?_
  refine r_stat3 (zW_mono _ _ _) rfl (Nat.le_of_ble_eq_true rfl) rfl (Nat.le_of_ble_eq_true rfl) (Nat.le_of_ble_eq_true rfl) ?_
  refine zW_in rfl (Nat.le_of_ble_eq_true rfl) ?_
  refine r_iload (zW_mono _ _ _) rfl rfl ?_
  refine r_iload (zW_mono _ _ _) rfl rfl ?_
  refine r_ic_lt (X := a1.toInt) (Y := 0) (zW_mono _ _ _) rfl rfl (by decide +kernel) (fun z1 => ?_) (fun z1 => ?_)
  · refine r_push (zW_mono _ _ _) rfl ?_
    refine r_iret (zW_mono _ _ _) rfl rfl (by decide +kernel) ?_
    refine r_iret (zW_mono _ _ _) rfl rfl (by decide +kernel) ?_
    refine r_if_eq (zW_mono _ _ _) rfl (fun _ => ?_) (fun q => absurd q (by decide +kernel))
    refine r_push (zW_mono _ _ _) rfl ?_
    refine r_iret (zW_mono _ _ _) rfl rfl rfl ?_
    refine ⟨_, rfl, ⟨_, hx_111⟩, ?_⟩
    refine zW_in rfl (Nat.le_of_ble_eq_true rfl) ?_
    refine r_iload (zW_mono _ _ _) rfl rfl ?_
    refine r_stat1 (zW_mono _ _ _) rfl (Nat.le_of_ble_eq_true rfl) rfl (Nat.le_of_ble_eq_true rfl) (Nat.le_of_ble_eq_true rfl) ?_
    refine zW_in rfl (Nat.le_of_ble_eq_true rfl) ?_
    refine r_iload (zW_mono _ _ _) rfl rfl ?_
    refine r_i2l (zW_mono _ _ _) rfl ?_
    refine r_push (zW_mono _ _ _) rfl ?_
    refine r_push (zW_mono _ _ _) rfl ?_
    refine r_stat3 (zW_mono _ _ _) rfl (Nat.le_of_ble_eq_true rfl) rfl (Nat.le_of_ble_eq_true rfl) (Nat.le_of_ble_eq_true rfl) ?_
    refine zW_in rfl (Nat.le_of_ble_eq_true rfl) ?_
    refine r_lload (zW_mono _ _ _) rfl rfl ?_
    refine r_lload (zW_mono _ _ _) rfl rfl ?_
    refine r_lc_lt (X := a1.toInt) (Y := 0) (zW_mono _ _ _) rfl rfl (zi64 _) (by decide +kernel) (fun z2 => ?_) (fun q => by exfalso; omega)
    refine r_push (zW_mono _ _ _) rfl ?_
    refine r_iret (zW_mono _ _ _) rfl rfl (by decide +kernel) ?_
    refine r_iret (zW_mono _ _ _) rfl rfl (by decide +kernel) ?_
    refine r_if_eq (zW_mono _ _ _) rfl (fun _ => ?_) (fun q => absurd q (by decide +kernel))
    refine r_push (zW_mono _ _ _) rfl ?_
    refine r_iret (zW_mono _ _ _) rfl rfl rfl ?_
    first | rfl | exact congrArg some (by decide +kernel)
  · refine r_iload (zW_mono _ _ _) rfl rfl ?_
    refine r_iload (zW_mono _ _ _) rfl rfl ?_
    refine r_ic_gt (X := a1.toInt) (Y := 2) (zW_mono _ _ _) rfl rfl (by decide +kernel) (fun z3 => ?_) (fun z3 => ?_)
    · refine r_push (zW_mono _ _ _) rfl ?_
      refine r_iret (zW_mono _ _ _) rfl rfl (by decide +kernel) ?_
      refine r_iret (zW_mono _ _ _) rfl rfl (by decide +kernel) ?_
      refine r_if_eq (zW_mono _ _ _) rfl (fun _ => ?_) (fun q => absurd q (by decide +kernel))
      refine r_push (zW_mono _ _ _) rfl ?_
      refine r_iret (zW_mono _ _ _) rfl rfl rfl ?_
      refine ⟨_, rfl, ⟨_, hx_111⟩, ?_⟩
      refine zW_in rfl (Nat.le_of_ble_eq_true rfl) ?_
      refine r_iload (zW_mono _ _ _) rfl rfl ?_
      refine r_stat1 (zW_mono _ _ _) rfl (Nat.le_of_ble_eq_true rfl) rfl (Nat.le_of_ble_eq_true rfl) (Nat.le_of_ble_eq_true rfl) ?_
      refine zW_in rfl (Nat.le_of_ble_eq_true rfl) ?_
      refine r_iload (zW_mono _ _ _) rfl rfl ?_
      refine r_i2l (zW_mono _ _ _) rfl ?_
      refine r_push (zW_mono _ _ _) rfl ?_
      refine r_push (zW_mono _ _ _) rfl ?_
      refine r_stat3 (zW_mono _ _ _) rfl (Nat.le_of_ble_eq_true rfl) rfl (Nat.le_of_ble_eq_true rfl) (Nat.le_of_ble_eq_true rfl) ?_
      refine zW_in rfl (Nat.le_of_ble_eq_true rfl) ?_
      refine r_lload (zW_mono _ _ _) rfl rfl ?_
      refine r_lload (zW_mono _ _ _) rfl rfl ?_
      refine r_lc_lt (X := a1.toInt) (Y := 0) (zW_mono _ _ _) rfl rfl (zi64 _) (by decide +kernel) (fun q => by exfalso; omega) (fun z4 => ?_)
      refine r_lload (zW_mono _ _ _) rfl rfl ?_
      refine r_lload (zW_mono _ _ _) rfl rfl ?_
      refine r_lc_gt (X := a1.toInt) (Y := 2) (zW_mono _ _ _) rfl rfl (zi64 _) (by decide +kernel) (fun z5 => ?_) (fun q => by exfalso; omega)
      refine r_push (zW_mono _ _ _) rfl ?_
      refine r_iret (zW_mono _ _ _) rfl rfl (by decide +kernel) ?_
      refine r_iret (zW_mono _ _ _) rfl rfl (by decide +kernel) ?_
      refine r_if_eq (zW_mono _ _ _) rfl (fun _ => ?_) (fun q => absurd q (by decide +kernel))
      refine r_push (zW_mono _ _ _) rfl ?_
      refine r_iret (zW_mono _ _ _) rfl rfl rfl ?_
      first | rfl | exact congrArg some (by decide +kernel)
    · refine r_push (zW_mono _ _ _) rfl ?_
      refine r_goto (zW_mono _ _ _) rfl ?_
      refine r_iret (zW_mono _ _ _) rfl rfl (by decide +kernel) ?_
      refine r_iret (zW_mono _ _ _) rfl rfl (by decide +kernel) ?_
      refine r_if_eq (zW_mono _ _ _) rfl (fun q => absurd q (by decide +kernel)) (fun _ => ?_)
      refine r_iload (zW_mono _ _ _) rfl rfl ?_
      refine r_stat1 (zW_mono _ _ _) rfl (Nat.le_of_ble_eq_true rfl) rfl (Nat.le_of_ble_eq_true rfl) (Nat.le_of_ble_eq_true rfl) ?_
      refine zW_in rfl (Nat.le_of_ble_eq_true rfl) ?_
      refine r_iload (zW_mono _ _ _) rfl rfl ?_
      refine r_push (zW_mono _ _ _) rfl ?_
      refine r_push (zW_mono _ _ _) rfl ?_
      refine r_stat3 (zW_mono _ _ _) rfl (Nat.le_of_ble_eq_true rfl) rfl (Nat.le_of_ble_eq_true rfl) (Nat.le_of_ble_eq_true rfl) ?_
      refine zW_in rfl (Nat.le_of_ble_eq_true rfl) ?_
      refine r_iload (zW_mono _ _ _) rfl rfl ?_
      refine r_iload (zW_mono _ _ _) rfl rfl ?_
      refine r_ic_lt (X := a2.toInt) (Y := 0) (zW_mono _ _ _) rfl rfl (by decide +kernel) (fun z6 => ?_) (fun z6 => ?_)
      · refine r_push (zW_mono _ _ _) rfl ?_
        refine r_iret (zW_mono _ _ _) rfl rfl (by decide +kernel) ?_
        refine r_iret (zW_mono _ _ _) rfl rfl (by decide +kernel) ?_
        refine r_if_eq (zW_mono _ _ _) rfl (fun _ => ?_) (fun q => absurd q (by decide +kernel))
        refine r_push (zW_mono _ _ _) rfl ?_
        refine r_iret (zW_mono _ _ _) rfl rfl rfl ?_
        refine ⟨_, rfl, ⟨_, hx_111⟩, ?_⟩
        refine zW_in rfl (Nat.le_of_ble_eq_true rfl) ?_
        refine r_iload (zW_mono _ _ _) rfl rfl ?_
        refine r_stat1 (zW_mono _ _ _) rfl (Nat.le_of_ble_eq_true rfl) rfl (Nat.le_of_ble_eq_true rfl) (Nat.le_of_ble_eq_true rfl) ?_
        refine zW_in rfl (Nat.le_of_ble_eq_true rfl) ?_
        refine r_iload (zW_mono _ _ _) rfl rfl ?_
        refine r_i2l (zW_mono _ _ _) rfl ?_
        refine r_push (zW_mono _ _ _) rfl ?_
        refine r_push (zW_mono _ _ _) rfl ?_
        refine r_stat3 (zW_mono _ _ _) rfl (Nat.le_of_ble_eq_true rfl) rfl (Nat.le_of_ble_eq_true rfl) (Nat.le_of_ble_eq_true rfl) ?_
        refine zW_in rfl (Nat.le_of_ble_eq_true rfl) ?_
        refine r_lload (zW_mono _ _ _) rfl rfl ?_
        refine r_lload (zW_mono _ _ _) rfl rfl ?_
        refine r_lc_lt (X := a1.toInt) (Y := 0) (zW_mono _ _ _) rfl rfl (zi64 _) (by decide +kernel) (fun q => by exfalso; omega) (fun z7 => ?_)
        refine r_lload (zW_mono _ _ _) rfl rfl ?_
        refine r_lload (zW_mono _ _ _) rfl rfl ?_
        refine r_lc_gt (X := a1.toInt) (Y := 2) (zW_mono _ _ _) rfl rfl (zi64 _) (by decide +kernel) (fun q => by exfalso; omega) (fun z8 => ?_)
        refine r_push (zW_mono _ _ _) rfl ?_
        refine r_goto (zW_mono _ _ _) rfl ?_
        refine r_iret (zW_mono _ _ _) rfl rfl (by decide +kernel) ?_
        refine r_iret (zW_mono _ _ _) rfl rfl (by decide +kernel) ?_
        refine r_if_eq (zW_mono _ _ _) rfl (fun q => absurd q (by decide +kernel)) (fun _ => ?_)
        refine r_iload (zW_mono _ _ _) rfl rfl ?_
        refine r_i2l (zW_mono _ _ _) rfl ?_
        refine r_push (zW_mono _ _ _) rfl ?_
        refine r_push (zW_mono _ _ _) rfl ?_
        refine r_stat3 (zW_mono _ _ _) rfl (Nat.le_of_ble_eq_true rfl) rfl (Nat.le_of_ble_eq_true rfl) (Nat.le_of_ble_eq_true rfl) ?_
        refine zW_in rfl (Nat.le_of_ble_eq_true rfl) ?_
        refine r_lload (zW_mono _ _ _) rfl rfl ?_
        refine r_lload (zW_mono _ _ _) rfl rfl ?_
        refine r_lc_lt (X := a2.toInt) (Y := 0) (zW_mono _ _ _) rfl rfl (zi64 _) (by decide +kernel) (fun z9 => ?_) (fun q => by exfalso; omega)
        refine r_push (zW_mono _ _ _) rfl ?_
        refine r_iret (zW_mono _ _ _) rfl rfl (by decide +kernel) ?_
        refine r_if_eq (zW_mono _ _ _) rfl (fun _ => ?_) (fun q => absurd q (by decide +kernel))
        refine r_push (zW_mono _ _ _) rfl ?_
        refine r_iret (zW_mono _ _ _) rfl rfl rfl ?_
        first | rfl | exact congrArg some (by decide +kernel)
      · refine r_iload (zW_mono _ _ _) rfl rfl ?_
        refine r_iload (zW_mono _ _ _) rfl rfl ?_
        refine r_ic_gt (X := a2.toInt) (Y := 200) (zW_mono _ _ _) rfl rfl (by decide +kernel) (fun z10 => ?_) (fun z10 => ?_)
        · refine r_push (zW_mono _ _ _) rfl ?_
          refine r_iret (zW_mono _ _ _) rfl rfl (by decide +kernel) ?_
          refine r_iret (zW_mono _ _ _) rfl rfl (by decide +kernel) ?_
          refine r_if_eq (zW_mono _ _ _) rfl (fun _ => ?_) (fun q => absurd q (by decide +kernel))
          refine r_push (zW_mono _ _ _) rfl ?_
          refine r_iret (zW_mono _ _ _) rfl rfl rfl ?_
          refine ⟨_, rfl, ⟨_, hx_111⟩, ?_⟩
          refine zW_in rfl (Nat.le_of_ble_eq_true rfl) ?_
          refine r_iload (zW_mono _ _ _) rfl rfl ?_
          refine r_stat1 (zW_mono _ _ _) rfl (Nat.le_of_ble_eq_true rfl) rfl (Nat.le_of_ble_eq_true rfl) (Nat.le_of_ble_eq_true rfl) ?_
          refine zW_in rfl (Nat.le_of_ble_eq_true rfl) ?_
          refine r_iload (zW_mono _ _ _) rfl rfl ?_
          refine r_i2l (zW_mono _ _ _) rfl ?_
          refine r_push (zW_mono _ _ _) rfl ?_
          refine r_push (zW_mono _ _ _) rfl ?_
          refine r_stat3 (zW_mono _ _ _) rfl (Nat.le_of_ble_eq_true rfl) rfl (Nat.le_of_ble_eq_true rfl) (Nat.le_of_ble_eq_true rfl) ?_
          refine zW_in rfl (Nat.le_of_ble_eq_true rfl) ?_
          refine r_lload (zW_mono _ _ _) rfl rfl ?_
          refine r_lload (zW_mono _ _ _) rfl rfl ?_
          refine r_lc_lt (X := a1.toInt) (Y := 0) (zW_mono _ _ _) rfl rfl (zi64 _) (by decide +kernel) (fun q => by exfalso; omega) (fun z11 => ?_)
          refine r_lload (zW_mono _ _ _) rfl rfl ?_
          refine r_lload (zW_mono _ _ _) rfl rfl ?_
          refine r_lc_gt (X := a1.toInt) (Y := 2) (zW_mono _ _ _) rfl rfl (zi64 _) (by decide +kernel) (fun q => by exfalso; omega) (fun z12 => ?_)
          refine r_push (zW_mono _ _ _) rfl ?_
          refine r_goto (zW_mono _ _ _) rfl ?_
          refine r_iret (zW_mono _ _ _) rfl rfl (by decide +kernel) ?_
          refine r_iret (zW_mono _ _ _) rfl rfl (by decide +kernel) ?_
          refine r_if_eq (zW_mono _ _ _) rfl (fun q => absurd q (by decide +kernel)) (fun _ => ?_)
          refine r_iload (zW_mono _ _ _) rfl rfl ?_
          refine r_i2l (zW_mono _ _ _) rfl ?_
          refine r_push (zW_mono _ _ _) rfl ?_
          refine r_push (zW_mono _ _ _) rfl ?_
          refine r_stat3 (zW_mono _ _ _) rfl (Nat.le_of_ble_eq_true rfl) rfl (Nat.le_of_ble_eq_true rfl) (Nat.le_of_ble_eq_true rfl) ?_
          refine zW_in rfl (Nat.le_of_ble_eq_true rfl) ?_
          refine r_lload (zW_mono _ _ _) rfl rfl ?_
          refine r_lload (zW_mono _ _ _) rfl rfl ?_
          refine r_lc_lt (X := a2.toInt) (Y := 0) (zW_mono _ _ _) rfl rfl (zi64 _) (by decide +kernel) (fun q => by exfalso; omega) (fun z13 => ?_)
          refine r_lload (zW_mono _ _ _) rfl rfl ?_
          refine r_lload (zW_mono _ _ _) rfl rfl ?_
          refine r_lc_gt (X := a2.toInt) (Y := 200) (zW_mono _ _ _) rfl rfl (zi64 _) (by decide +kernel) (fun z14 => ?_) (fun q => by exfalso; omega)
          refine r_push (zW_mono _ _ _) rfl ?_
          refine r_iret (zW_mono _ _ _) rfl rfl (by decide +kernel) ?_
          refine r_if_eq (zW_mono _ _ _) rfl (fun _ => ?_) (fun q => absurd q (by decide +kernel))
          refine r_push (zW_mono _ _ _) rfl ?_
          refine r_iret (zW_mono _ _ _) rfl rfl rfl ?_
          first | rfl | exact congrArg some (by decide +kernel)
        · refine r_push (zW_mono _ _ _) rfl ?_
          refine r_goto (zW_mono _ _ _) rfl ?_
          refine r_iret (zW_mono _ _ _) rfl rfl (by decide +kernel) ?_
          refine r_iret (zW_mono _ _ _) rfl rfl (by decide +kernel) ?_
          refine r_if_eq (zW_mono _ _ _) rfl (fun q => absurd q (by decide +kernel)) (fun _ => ?_)
          refine r_aload (zW_mono _ _ _) rfl rfl ?_
          refine r_get (zW_mono _ _ _) rfl hx_0 rfl ?_
          refine r_iload (zW_mono _ _ _) rfl rfl ?_
          refine r_iload (zW_mono _ _ _) rfl rfl ?_
          refine r_virt2 (zW_mono _ _ _) rfl hx_1 (Nat.le_of_ble_eq_true rfl) rfl (Nat.le_of_ble_eq_true rfl) (Nat.le_of_ble_eq_true rfl) ?_
          refine zW_in rfl (Nat.le_of_ble_eq_true rfl) ?_
          refine r_iload (zW_mono _ _ _) rfl rfl ?_
          refine r_iload (zW_mono _ _ _) rfl rfl ?_
          refine r_imul (zW_mono _ _ _) rfl ?_
          refine r_aload (zW_mono _ _ _) rfl rfl ?_
          refine r_get (zW_mono _ _ _) rfl hx_1 rfl ?_
          refine r_iload (zW_mono _ _ _) rfl rfl ?_
          refine r_iald (zW_mono _ _ _) rfl hx_2 (vp_in_iff.mpr ⟨by omega, by omega⟩) ?_
          refine r_imul (zW_mono _ _ _) rfl ?_
          refine r_push (zW_mono _ _ _) rfl ?_
          refine r_idiv (zW_mono _ _ _) rfl (by decide +kernel) ?_
          refine r_iret (zW_mono _ _ _) rfl rfl rfl ?_
          refine r_goto (zW_mono _ _ _) rfl ?_
          refine r_iret (zW_mono _ _ _) rfl rfl rfl ?_
          refine ⟨_, rfl, ⟨_, hx_111⟩, ?_⟩
          refine zW_in rfl (Nat.le_of_ble_eq_true rfl) ?_
          refine r_iload (zW_mono _ _ _) rfl rfl ?_
          refine r_stat1 (zW_mono _ _ _) rfl (Nat.le_of_ble_eq_true rfl) rfl (Nat.le_of_ble_eq_true rfl) (Nat.le_of_ble_eq_true rfl) ?_
          refine zW_in rfl (Nat.le_of_ble_eq_true rfl) ?_
          refine r_iload (zW_mono _ _ _) rfl rfl ?_
          refine r_i2l (zW_mono _ _ _) rfl ?_
          refine r_push (zW_mono _ _ _) rfl ?_
          refine r_push (zW_mono _ _ _) rfl ?_
          refine r_stat3 (zW_mono _ _ _) rfl (Nat.le_of_ble_eq_true rfl) rfl (Nat.le_of_ble_eq_true rfl) (Nat.le_of_ble_eq_true rfl) ?_
          refine zW_in rfl (Nat.le_of_ble_eq_true rfl) ?_
          refine r_lload (zW_mono _ _ _) rfl rfl ?_
          refine r_lload (zW_mono _ _ _) rfl rfl ?_
          refine r_lc_lt (X := a1.toInt) (Y := 0) (zW_mono _ _ _) rfl rfl (zi64 _) (by decide +kernel) (fun q => by exfalso; omega) (fun z15 => ?_)
          refine r_lload (zW_mono _ _ _) rfl rfl ?_
          refine r_lload (zW_mono _ _ _) rfl rfl ?_
          refine r_lc_gt (X := a1.toInt) (Y := 2) (zW_mono _ _ _) rfl rfl (zi64 _) (by decide +kernel) (fun q => by exfalso; omega) (fun z16 => ?_)
          refine r_push (zW_mono _ _ _) rfl ?_
          refine r_goto (zW_mono _ _ _) rfl ?_
          refine r_iret (zW_mono _ _ _) rfl rfl (by decide +kernel) ?_
          refine r_iret (zW_mono _ _ _) rfl rfl (by decide +kernel) ?_
          refine r_if_eq (zW_mono _ _ _) rfl (fun q => absurd q (by decide +kernel)) (fun _ => ?_)
          refine r_iload (zW_mono _ _ _) rfl rfl ?_
          refine r_i2l (zW_mono _ _ _) rfl ?_
          refine r_push (zW_mono _ _ _) rfl ?_
          refine r_push (zW_mono _ _ _) rfl ?_
          refine r_stat3 (zW_mono _ _ _) rfl (Nat.le_of_ble_eq_true rfl) rfl (Nat.le_of_ble_eq_true rfl) (Nat.le_of_ble_eq_true rfl) ?_
          refine zW_in rfl (Nat.le_of_ble_eq_true rfl) ?_
          refine r_lload (zW_mono _ _ _) rfl rfl ?_
          refine r_lload (zW_mono _ _ _) rfl rfl ?_
          refine r_lc_lt (X := a2.toInt) (Y := 0) (zW_mono _ _ _) rfl rfl (zi64 _) (by decide +kernel) (fun q => by exfalso; omega) (fun z17 => ?_)
          refine r_lload (zW_mono _ _ _) rfl rfl ?_
          refine r_lload (zW_mono _ _ _) rfl rfl ?_
          refine r_lc_gt (X := a2.toInt) (Y := 200) (zW_mono _ _ _) rfl rfl (zi64 _) (by decide +kernel) (fun q => by exfalso; omega) (fun z18 => ?_)
          refine r_push (zW_mono _ _ _) rfl ?_
          refine r_goto (zW_mono _ _ _) rfl ?_
          refine r_iret (zW_mono _ _ _) rfl rfl (by decide +kernel) ?_
          refine r_if_eq (zW_mono _ _ _) rfl (fun q => absurd q (by decide +kernel)) (fun _ => ?_)
          refine r_aload (zW_mono _ _ _) rfl rfl ?_
          refine r_iload (zW_mono _ _ _) rfl rfl ?_
          refine r_iload (zW_mono _ _ _) rfl rfl ?_
          refine r_virt2 (zW_mono _ _ _) rfl hx_111 (Nat.le_of_ble_eq_true rfl) rfl (Nat.le_of_ble_eq_true rfl) (Nat.le_of_ble_eq_true rfl) ?_
          refine zW_in rfl (Nat.le_of_ble_eq_true rfl) ?_
          refine r_iload (zW_mono _ _ _) rfl rfl ?_
          refine r_iload (zW_mono _ _ _) rfl rfl ?_
          refine r_imul (zW_mono _ _ _) rfl ?_
          refine r_aload (zW_mono _ _ _) rfl rfl ?_
          refine r_get (zW_mono _ _ _) rfl hx_111 rfl ?_
          refine r_iload (zW_mono _ _ _) rfl rfl ?_
          refine r_iald (zW_mono _ _ _) rfl hx_113 (vp_in_iff.mpr ⟨by omega, by omega⟩) ?_
          refine r_imul (zW_mono _ _ _) rfl ?_
          refine r_push (zW_mono _ _ _) rfl ?_
          refine r_idiv (zW_mono _ _ _) rfl (by decide +kernel) ?_
          refine r_iret (zW_mono _ _ _) rfl rfl rfl ?_
          refine r_goto (zW_mono _ _ _) rfl ?_
          refine r_iret (zW_mono _ _ _) rfl rfl rfl ?_
          rfl
