section SMATH
variable {p : Program} {l : Launch} {e : Env} {R : Room} {s : State} {m : MethodId} {args : Array Value} {below : List Frame} {meth : Method} {c : Code} {Q : State → Prop} {cc : ByteArray} {B : Nat} {D : va_G} {cl : List vw_C} {dA : Nat → ClassId} {aS : Nat → Nat} {nL bc bs pc : Nat}
variable {a b d : Nat} {v : Value} {L : zL} {st : List Value} {h : zH} {cn sn : Nat}
variable {G : zG} {Ts : List Jvm.Cond} {own : String} {Z : State → Prop}
theorem s_imax {i : Nat} (hx : p.tables.exec = Jvm.exec) (hb : c.code = cc) (hml : c.maxLocals = nL) (hdg : decode cc pc = .ok (.invokestatic i, 3)) (hts : ∀ w ∈ Ts, w.before args s = true) (hown : s.vm.findClass own = some m.cls) (hSo : zSok B Z Ts aS G.2.1) (hR : bc ≤ R.cells ∧ bs ≤ R.slots) (hR1 : 1 ≤ R.frames) (hR2 : 30 ≤ R.locals) (w1 : Jvm.Cond.methodLink own i Lib.Math.max.name ∈ Ts) (hz : zex1 (wX p l e R s m args below meth c Q B D cl dA aS nL bc bs) (.fadd, pc + 3, a, b, d, v) L st h cn sn) : wX p l e R s m args below meth c Q B D cl dA aS nL bc bs pc L st h cn sn := by
  intro hc1 hc2 H locs lsA hH hS hL
  unfold zex1 at hz
  dsimp only at hz
  split at hz
  · exact va_mmax hx hb (hml.trans hL.2.1.symm) hown (hts _ w1) (hts _ (hSo.2.2.1 _ (List.mem_of_getElem? (i := 30) rfl))) (hts _ (hSo.2.2.1 _ (List.mem_of_getElem? (i := 34) rfl))) (hts _ (hSo.2.2.1 _ (List.mem_of_getElem? (i := 35) rfl))) hR1 (by rw [zcv_sum]; have := hz.1; omega) (Nat.le_trans hc1 hR.1) (Nat.le_trans hc2 hR.2) hdg (hz.2 hc1 hc2 _ _ _ hH hS hL)
  · exact hz.elim
theorem s_imin {i : Nat} (hx : p.tables.exec = Jvm.exec) (hb : c.code = cc) (hml : c.maxLocals = nL) (hdg : decode cc pc = .ok (.invokestatic i, 3)) (hts : ∀ w ∈ Ts, w.before args s = true) (hown : s.vm.findClass own = some m.cls) (hSo : zSok B Z Ts aS G.2.1) (hR : bc ≤ R.cells ∧ bs ≤ R.slots) (hR1 : 1 ≤ R.frames) (hR2 : 30 ≤ R.locals) (w1 : Jvm.Cond.methodLink own i Lib.Math.min.name ∈ Ts) (hz : zex1 (wX p l e R s m args below meth c Q B D cl dA aS nL bc bs) (.fsub, pc + 3, a, b, d, v) L st h cn sn) : wX p l e R s m args below meth c Q B D cl dA aS nL bc bs pc L st h cn sn := by
  intro hc1 hc2 H locs lsA hH hS hL
  unfold zex1 at hz
  dsimp only at hz
  split at hz
  · exact va_mmin hx hb (hml.trans hL.2.1.symm) hown (hts _ w1) (hts _ (hSo.2.2.1 _ (List.mem_of_getElem? (i := 31) rfl))) (hts _ (hSo.2.2.1 _ (List.mem_of_getElem? (i := 34) rfl))) (hts _ (hSo.2.2.1 _ (List.mem_of_getElem? (i := 36) rfl))) hR1 (by rw [zcv_sum]; have := hz.1; omega) (Nat.le_trans hc1 hR.1) (Nat.le_trans hc2 hR.2) hdg (hz.2 hc1 hc2 _ _ _ hH hS hL)
  · exact hz.elim
theorem s_lmax {i : Nat} (hx : p.tables.exec = Jvm.exec) (hb : c.code = cc) (hml : c.maxLocals = nL) (hdg : decode cc pc = .ok (.invokestatic i, 3)) (hts : ∀ w ∈ Ts, w.before args s = true) (hown : s.vm.findClass own = some m.cls) (hSo : zSok B Z Ts aS G.2.1) (hR : bc ≤ R.cells ∧ bs ≤ R.slots) (hR1 : 1 ≤ R.frames) (hR2 : 30 ≤ R.locals) (w1 : Jvm.Cond.methodLink own i Lib.MathLoose.max_long.x ∈ Ts) (hz : zex1 (wX p l e R s m args below meth c Q B D cl dA aS nL bc bs) (.dadd, pc + 3, a, b, d, v) L st h cn sn) : wX p l e R s m args below meth c Q B D cl dA aS nL bc bs pc L st h cn sn := by
  intro hc1 hc2 H locs lsA hH hS hL
  unfold zex1 at hz
  dsimp only at hz
  split at hz
  · exact va_mmax_long hx hb (hml.trans hL.2.1.symm) hown (hts _ w1) (hts _ (hSo.2.2.1 _ (List.mem_of_getElem? (i := 32) rfl))) (hts _ (hSo.2.2.1 _ (List.mem_of_getElem? (i := 34) rfl))) (hts _ (hSo.2.2.1 _ (List.mem_of_getElem? (i := 37) rfl))) hR1 (by rw [zcv_sum]; have := hz.1; omega) (Nat.le_trans hc1 hR.1) (Nat.le_trans hc2 hR.2) hdg (hz.2 hc1 hc2 _ _ _ hH hS hL)
  · exact hz.elim
theorem s_lmin {i : Nat} (hx : p.tables.exec = Jvm.exec) (hb : c.code = cc) (hml : c.maxLocals = nL) (hdg : decode cc pc = .ok (.invokestatic i, 3)) (hts : ∀ w ∈ Ts, w.before args s = true) (hown : s.vm.findClass own = some m.cls) (hSo : zSok B Z Ts aS G.2.1) (hR : bc ≤ R.cells ∧ bs ≤ R.slots) (hR1 : 1 ≤ R.frames) (hR2 : 30 ≤ R.locals) (w1 : Jvm.Cond.methodLink own i Lib.MathLoose.min_long.x ∈ Ts) (hz : zex1 (wX p l e R s m args below meth c Q B D cl dA aS nL bc bs) (.dsub, pc + 3, a, b, d, v) L st h cn sn) : wX p l e R s m args below meth c Q B D cl dA aS nL bc bs pc L st h cn sn := by
  intro hc1 hc2 H locs lsA hH hS hL
  unfold zex1 at hz
  dsimp only at hz
  split at hz
  · exact va_mmin_long hx hb (hml.trans hL.2.1.symm) hown (hts _ w1) (hts _ (hSo.2.2.1 _ (List.mem_of_getElem? (i := 33) rfl))) (hts _ (hSo.2.2.1 _ (List.mem_of_getElem? (i := 34) rfl))) (hts _ (hSo.2.2.1 _ (List.mem_of_getElem? (i := 38) rfl))) hR1 (by rw [zcv_sum]; have := hz.1; omega) (Nat.le_trans hc1 hR.1) (Nat.le_trans hc2 hR.2) hdg (hz.2 hc1 hc2 _ _ _ hH hS hL)
  · exact hz.elim
theorem s_pop2l (hx : p.tables.exec = Jvm.exec) (hb : c.code = cc) (hdg : decode cc pc = .ok (.pop2, 1)) (hz : zex1 (wX p l e R s m args below meth c Q B D cl dA aS nL bc bs) (.drem, pc + 1, a, b, d, v) L st h cn sn) : wX p l e R s m args below meth c Q B D cl dA aS nL bc bs pc L st h cn sn := by
  intro hc1 hc2 H locs lsA hH hS hL
  unfold zex1 at hz
  dsimp only at hz
  split at hz
  · rename_i w s9
    exact lv_pop2_2 hx hb hdg (by rw [zcv_cat]; exact hz.1) (hz.2 hc1 hc2 _ _ _ hH hS hL)
  · exact hz.elim
end SMATH
