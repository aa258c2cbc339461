/-- what the strings' rows ask: their objects, the words, the texts, the constants' places -/
noncomputable def zSok (B : Nat) (Z : State → Prop) (Ts : List Jvm.Cond) (aS : Nat → Nat) (tx : Nat → List Int32) : Prop := (∀ s : State, Z s → B ≤ s.heap.size) ∧ (∃ aV : Nat → Nat, ∀ s : State, Z s → zSt B aS aV tx s) ∧ (∀ w ∈ zSw, w ∈ Ts) ∧ (∀ k : Nat, (tx k).length < 2 ^ 31 ∧ ∀ j : Nat, j < (tx k).length → zch ((tx k).getD j 0) = (tx k).getD j 0 ∧ narrow .char (.int ((tx k).getD j 0)) = .int ((tx k).getD j 0)) ∧ ∀ q ∈ zsg, ∀ s : State, Z s → ∃ t : String, vk_R q.1 q.2.1 t (aS q.2.2) s
noncomputable def zcstr (own : String) (i : Nat) (v : Value) : Bool := match v with
  | .retAddr k => zsg.contains (own, i, k)
  | _ => false
theorem zcstr_of {own : String} {i : Nat} {v : Value} (h : zcstr own i v = true) : ∃ k : Nat, v = .retAddr k ∧ (own, i, k) ∈ zsg := by
  cases v <;> first | exact ⟨_, rfl, List.contains_iff_mem.mp h⟩ | cases h
section SSTR
variable {p : Program} {l : Launch} {e : Env} {R : Room} {s : State} {m : MethodId} {args : Array Value} {below : List Frame} {meth : Method} {c : Code} {Q : State → Prop} {cc : ByteArray} {B : Nat} {D : va_G} {cl : List vw_C} {dA : Nat → ClassId} {aS : Nat → Nat} {nL bc bs pc : Nat}
variable {a b d : Nat} {v : Value} {L : zL} {st : List Value} {h : zH} {cn sn : Nat}
variable {tt : zT} {G : zG} {rt : Option FieldType} {M : zM} {ret : zQ} {Ts : List Jvm.Cond} {own : String} {Z : State → Prop} {H : Heap} {locs : List Loc} {ls : Array Slot} {rest : List Value}
theorem va_ldcwS (hexec : p.tables.exec = Jvm.exec) (hb : c.code = cc) {tx : String} {index q : Nat} (hown : s.vm.findClass own = some m.cls) (hZ : vk_R own index tx q s) (hdg : decode cc pc = .ok (.ldc_w index, 3))
    (k : W p l e R s m args below meth c H locs cn sn Q (F0 m (pc + 3) ls (.ref q :: rest))) : W p l e R s m args below meth c H locs cn sn Q (F0 m pc ls rest) := by
  intro T hT X
  obtain ⟨t, a1, b1⟩ := k T hT X
  refine ⟨t, ?_, b1⟩
  obtain ⟨k9, cf, i, a', hk, hcf, hcp, -, hr, hev'⟩ := Cond.stringRef_spec hown hZ.1
  cases hZ.2.symm.trans hev'
  obtain ⟨k', hk', he⟩ := X.warmed.alike.2.2 _ _ hk
  have hr' : k'.resolved[index]? = some (some (.string q)) := by
    rcases X.warmed.entry hk hk' index with h | ⟨h, -⟩
    · rw [h]; exact hr
    · rw [hr] at h; cases h
  jvm_step X.here [hexec, hb, hdg, ldc_w.wp_string (e := e) (s := T) (f := F0 m pc ls rest) X.here.top hk' (by rw [he]; exact hcf) hcp hr']
  exact a1
theorem s_ldcs {i k9 : Nat} {t9 : String} (hx : p.tables.exec = Jvm.exec) (hb : c.code = cc) (hdg : decode cc pc = .ok (.ldc i, 2)) (hv : v = .retAddr k9) (hown : s.vm.findClass own = some m.cls) (hR : vk_R own i t9 (aS k9) s) (hz : zex1 (wX p l e R s m args below meth c Q B D cl dA aS nL bc bs) (.aconst_null, pc + 2, a, b, d, v) L st h cn sn) : wX p l e R s m args below meth c Q B D cl dA aS nL bc bs pc L st h cn sn := by
  intro hc1 hc2 H locs lsA hH hS hL
  unfold zex1 at hz
  dsimp only at hz
  subst hv
  exact va_ldcS hx hb hown hR hdg (hz hc1 hc2 _ _ _ hH hS hL)
theorem s_ldcws {i k9 : Nat} {t9 : String} (hx : p.tables.exec = Jvm.exec) (hb : c.code = cc) (hdg : decode cc pc = .ok (.ldc_w i, 3)) (hv : v = .retAddr k9) (hown : s.vm.findClass own = some m.cls) (hR : vk_R own i t9 (aS k9) s) (hz : zex1 (wX p l e R s m args below meth c Q B D cl dA aS nL bc bs) (.aconst_null, pc + 3, a, b, d, v) L st h cn sn) : wX p l e R s m args below meth c Q B D cl dA aS nL bc bs pc L st h cn sn := by
  intro hc1 hc2 H locs lsA hH hS hL
  unfold zex1 at hz
  dsimp only at hz
  subst hv
  exact va_ldcwS hx hb hown hR hdg (hz hc1 hc2 _ _ _ hH hS hL)
theorem s_jlen {i : Nat} (hx : p.tables.exec = Jvm.exec) (hb : c.code = cc) (hml : c.maxLocals = nL) (hdg : decode cc pc = .ok (.invokevirtual i, 3)) (hts : ∀ w ∈ Ts, w.before args s = true) (hG : GoodIn Ts Ts) (hown : s.vm.findClass own = some m.cls) (hZ : zStays B Z) (hZs : Z s) (hBs : B ≤ s.heap.size) (hSo : zSok B Z Ts aS G.2.1) (hR : bc ≤ R.cells ∧ bs ≤ R.slots) (hR1 : 5 ≤ R.frames) (hR2 : 320 ≤ R.locals) (w1 : Jvm.Cond.methodLink own i zyLen ∈ Ts) (hz : zex2 tt G bc bs rt M ret (wX p l e R s m args below meth c Q B D cl dA aS nL bc bs) (.i2c, pc + 3, a, b, d, v) L st h cn sn) : wX p l e R s m args below meth c Q B D cl dA aS nL bc bs pc L st h cn sn := by
  intro hc1 hc2 H locs lsA hH hS hL
  unfold zex2 at hz
  dsimp only at hz
  obtain ⟨hB, ⟨aV, hZS⟩, hw, htx, -⟩ := hSo
  split at hz
  · rename_i k s9
    obtain ⟨g1, g2, g3⟩ := hz
    have hk : G.2.1 k ≠ [] := fun q => by rw [q] at g1; exact absurd g1 (by decide)
    obtain ⟨-, -, q3⟩ := hZS s hZs
    exact zJvirt (As := []) (b := aS k) (rest := s9.map (zcv B aS)) (v := some (.int (Int32.ofNat (G.2.1 k).length))) (n := 0) (y := zyLen) (bytes := zbLen) (nL2 := 1) (rt2 := some .int) (i := i) hx hb hml hts hG hown hZ hZs hBs hS (zJ_len l hG hZ hB hZS hw hk (htx k).1) (by omega) (by omega) (by decide) (q3 k hk).1 w1 (hw _ (List.mem_of_getElem? (i := 26) rfl)) (hw _ (List.mem_of_getElem? (i := 27) rfl)) (hw _ (List.mem_of_getElem? (i := 11) rfl)) (hw _ (List.mem_of_getElem? (i := 0) rfl)) (by decide +kernel) rfl hL.2.1 rfl (by rw [zcv_sum]; exact g2) hdg ⟨Nat.le_trans hc1 hR.1, Nat.le_trans hc2 hR.2⟩ (fun locs1 hS1 => g3 hc1 hc2 _ _ _ hH hS1 hL)
  · exact hz.elim
theorem s_jch {i : Nat} (hx : p.tables.exec = Jvm.exec) (hb : c.code = cc) (hml : c.maxLocals = nL) (hdg : decode cc pc = .ok (.invokevirtual i, 3)) (hts : ∀ w ∈ Ts, w.before args s = true) (hG : GoodIn Ts Ts) (hown : s.vm.findClass own = some m.cls) (hZ : zStays B Z) (hZs : Z s) (hBs : B ≤ s.heap.size) (hSo : zSok B Z Ts aS G.2.1) (hR : bc ≤ R.cells ∧ bs ≤ R.slots) (hR1 : 5 ≤ R.frames) (hR2 : 320 ≤ R.locals) (w1 : Jvm.Cond.methodLink own i zyCh ∈ Ts) (hz : zex2 tt G bc bs rt M ret (wX p l e R s m args below meth c Q B D cl dA aS nL bc bs) (.caload, pc + 3, a, b, d, v) L st h cn sn) : wX p l e R s m args below meth c Q B D cl dA aS nL bc bs pc L st h cn sn := by
  intro hc1 hc2 H locs lsA hH hS hL
  unfold zex2 at hz
  dsimp only at hz
  obtain ⟨hB, ⟨aV, hZS⟩, hw, htx, -⟩ := hSo
  split at hz
  · rename_i x k s9
    obtain ⟨g1, g2, g3⟩ := hz
    have hv := vp_in_iff.mp g1
    have hk : G.2.1 k ≠ [] := fun q => by rw [q] at hv; have := hv.1; have := hv.2; simp at this; omega
    have hj : x.toNatClampNeg < (G.2.1 k).length := by
      have e9 : x.toNatClampNeg = x.toInt.toNat := rfl
      rw [e9]; omega
    have hlt : x < Int32.ofNat (G.2.1 k).length := by
      rw [Int32.lt_iff_toInt_lt, show (Int32.ofNat (G.2.1 k).length).toInt = _ from nI_toInt (htx k).1]
      exact hv.2
    obtain ⟨c1, c2⟩ := (htx k).2 _ hj
    obtain ⟨-, -, q3⟩ := hZS s hZs
    have hM := zJ_ch l hG hZ hB hZS hw hk (htx k).1 g1 hlt (by rw [c1]; exact c2)
    rw [c1] at hM
    exact zJvirt (As := [.int x]) (b := aS k) (rest := s9.map (zcv B aS)) (v := some (.int ((G.2.1 k).getD x.toNatClampNeg 0))) (n := 1) (y := zyCh) (bytes := zbCh) (nL2 := 2) (rt2 := some .char) (i := i) hx hb hml hts hG hown hZ hZs hBs hS hM (by omega) (by omega) (by decide) (q3 k hk).1 w1 (hw _ (List.mem_of_getElem? (i := 28) rfl)) (hw _ (List.mem_of_getElem? (i := 29) rfl)) (hw _ (List.mem_of_getElem? (i := 11) rfl)) (hw _ (List.mem_of_getElem? (i := 2) rfl)) (by decide +kernel) rfl hL.2.1 rfl (by rw [zcv_sum]; exact g2) hdg ⟨Nat.le_trans hc1 hR.1, Nat.le_trans hc2 hR.2⟩ (fun locs1 hS1 => g3 hc1 hc2 _ _ _ hH hS1 hL)
  · exact hz.elim
end SSTR
