noncomputable def zty : Nat → FieldType := fun k => match k with
  | 0 => .int
  | 1 => .boolean
  | 2 => .byte
  | 3 => .long
  | 4 => .array .int
  | _ => .object "TankBehind$Car"
noncomputable def ztys (dA : Nat → ClassId) : List (ClassId × FieldType) := (List.range 6).map fun k => (dA k, zty k)
theorem ztys_get (dA : Nat → ClassId) {k : Nat} (hk : k < 6) : (ztys dA)[k]? = some (dA k, zty k) := by
  unfold ztys
  rw [List.getElem?_map, List.getElem?_range hk]
  rfl
theorem zP1 {D : va_G} {cl : List vw_C} {q : Nat × va_E} {H : Heap} (h : va_at D cl q H) : va_P D cl [q] H := by
  intro k x hx
  cases k with
  | zero => cases hx; exact h
  | succ k => cases hx
theorem zhR.set {B : Nat} {D : va_G} {cl : List vw_C} {dA : Nat → ClassId} {aS : Nat → Nat} {h : zH} {H H1 : Heap} {r : Nat} {e0 e1 : zC} (hH : zhR B D cl dA aS h H) (hr : h[r]? = some e0) (he : va_at D cl (B + r, zcE B dA aS e1) H1) (z : H1.size = H.size) (oq : ∀ q : Nat, q ≠ B + r → H1[q]? = H[q]?) : zhR B D cl dA aS (h.set r e1) H1 := by
  refine ⟨by rw [z, List.length_set]; exact hH.1, fun i e hi => ?_⟩
  rw [List.getElem?_set] at hi
  by_cases q : r = i
  · subst q
    rw [if_pos rfl] at hi
    rw [if_pos (List.getElem?_eq_some_iff.mp hr).1] at hi
    cases hi
    exact he
  · rw [if_neg q] at hi
    exact (hH.2 i e hi).kept (oq _ (by show B + i ≠ B + r; omega))
theorem zhR.app {B : Nat} {D : va_G} {cl : List vw_C} {dA : Nat → ClassId} {aS : Nat → Nat} {h es : zH} {H H1 : Heap} (hH : zhR B D cl dA aS h H) (he : ∀ (i : Nat) (e : zC), es[i]? = some e → va_at D cl (H.size + i, zcE B dA aS e) H1) (z : H1.size = H.size + es.length) (oq : ∀ q : Nat, q < H.size → H1[q]? = H[q]?) : zhR B D cl dA aS (h ++ es) H1 := by
  refine ⟨by rw [z, List.length_append, hH.1, Nat.add_assoc], fun i e hi => ?_⟩
  by_cases q : i < h.length
  · rw [List.getElem?_append_left q] at hi
    exact (hH.2 i e hi).kept (oq _ (by show B + i < H.size; rw [hH.1]; omega))
  · rw [List.getElem?_append_right (by omega)] at hi
    have h9 := he _ _ hi
    rw [show H.size + (i - h.length) = B + i by rw [hH.1]; omega] at h9
    exact h9
theorem zhR.push {B : Nat} {D : va_G} {cl : List vw_C} {dA : Nat → ClassId} {aS : Nat → Nat} {h : zH} {e : zC} {H H1 : Heap} (hH : zhR B D cl dA aS h H) (he : va_at D cl (H.size, zcE B dA aS e) H1) (z : H1.size = H.size + 1) (oq : ∀ q : Nat, q < H.size → H1[q]? = H[q]?) : zhR B D cl dA aS (h ++ [e]) H1 := by
  refine hH.app (fun i e2 hi => ?_) z oq
  cases i with
  | zero => cases hi; exact he
  | succ i => cases hi
theorem zS_push {A : Nat → Prop} {H0 H H1 : Heap} {locs : List Loc} (hS : va_S A H0 H locs) (z : H.size ≤ H1.size) (oq : ∀ q : Nat, q < H.size → H1[q]? = H[q]?) : va_S A H0 H1 locs := ⟨Nat.le_trans hS.1 z, fun x h1 h2 => (oq x (Nat.lt_of_lt_of_le h1 hS.1)).trans (hS.2.1 x h1 h2), hS.2.2⟩
theorem zrf_cv (B : Nat) (aS : Nat → Nat) (r : Option Nat) : zcv B aS (zrf r) = va_rf (r.map (fun a => B + a)) := by cases r <;> rfl
/-- what the classes' tables say -/
noncomputable def zTT (tt : zT) (cl : List vw_C) (Ts : List Jvm.Cond) : Prop := ∀ (k : Nat) (q : vw_C), cl[k]? = some q → ∃ (ty : Nat → FieldType) (f : Nat → Bool), tt[k]? = some (ty, q.2.2, f) ∧ (∀ j, j < q.2.2 → parseFieldDescriptor (q.2.1 j).2.2.1 = some (ty j)) ∧ (∀ a, a < q.2.2 → ∀ b, b < q.2.2 → a ≠ b → (q.2.1 a).2.1 ≠ (q.2.1 b).2.1) ∧ ∀ w ∈ u_ws q.1 q.2.1 q.2.2, w ∈ Ts
theorem zfields_V (B : Nat) (aS : Nat → Nat) (ty : Nat → FieldType) {N j : Nat} (hj : j < N) : defaultValue (ty j) = vp_V ((zfields ty N).map (zcv B aS)) j := by
  unfold vp_V zfields
  rw [List.getD_eq_getElem?_getD, List.getElem?_map, List.getElem?_map, List.getElem?_range hj]
  show defaultValue (ty j) = zcv B aS (defaultValue (ty j))
  cases ty j <;> rfl
section SIM2
variable {p : Program} {l : Launch} {e : Env} {R : Room} {s : State} {m : MethodId} {args : Array Value} {below : List Frame} {meth : Method} {c : Code} {Q : State → Prop} {cc : ByteArray} {B : Nat} {D : va_G} {cl : List vw_C} {dA : Nat → ClassId} {aS : Nat → Nat} {nL bc bs pc : Nat}
variable {a b d : Nat} {v : Value} {L : zL} {st : List Value} {h : zH} {cn sn : Nat}
variable {tt : zT} {G : zG} {rt : Option FieldType} {M : zM} {ret : zQ} {Ts : List Jvm.Cond} {own : String}
theorem s_iaload (hx : p.tables.exec = Jvm.exec) (hb : c.code = cc) (hdg : decode cc pc = .ok (.iaload, 1)) (hK : va_K D cl (ztys dA) s) (hz : zex2 tt G bc bs rt M ret (wX p l e R s m args below meth c Q B D cl dA aS nL bc bs) (.iaload, pc + 1, a, b, d, v) L st h cn sn) : wX p l e R s m args below meth c Q B D cl dA aS nL bc bs pc L st h cn sn := by
  intro hc1 hc2 H locs lsA hH hS hL
  unfold zex2 at hz
  dsimp only at hz
  split at hz
  · obtain ⟨N, f, hr, hi, k⟩ := hz
    exact va_iald hx hb hK (zP1 (hH.2 _ _ hr)) 0 0 rfl (ztys_get dA (by omega)) hi hdg (k hc1 hc2 _ _ _ hH hS hL)
  · exact hz.elim
theorem s_baload (hx : p.tables.exec = Jvm.exec) (hb : c.code = cc) (hdg : decode cc pc = .ok (.baload, 1)) (hK : va_K D cl (ztys dA) s) (hz : zex2 tt G bc bs rt M ret (wX p l e R s m args below meth c Q B D cl dA aS nL bc bs) (.baload, pc + 1, a, b, d, v) L st h cn sn) : wX p l e R s m args below meth c Q B D cl dA aS nL bc bs pc L st h cn sn := by
  intro hc1 hc2 H locs lsA hH hS hL
  unfold zex2 at hz
  dsimp only at hz
  split at hz
  · obtain ⟨k0, N, f, hk, hr, hi, k⟩ := hz
    rcases hk with rfl | rfl
    · exact va_zald hx hb hK (zP1 (hH.2 _ _ hr)) 0 1 rfl (ztys_get dA (by omega)) hi hdg (k hc1 hc2 _ _ _ hH hS hL)
    · exact va_bald hx hb hK (zP1 (hH.2 _ _ hr)) 0 2 rfl (ztys_get dA (by omega)) hi hdg (k hc1 hc2 _ _ _ hH hS hL)
  · exact hz.elim
theorem s_laload (hx : p.tables.exec = Jvm.exec) (hb : c.code = cc) (hdg : decode cc pc = .ok (.laload, 1)) (hK : va_K D cl (ztys dA) s) (hz : zex2 tt G bc bs rt M ret (wX p l e R s m args below meth c Q B D cl dA aS nL bc bs) (.laload, pc + 1, a, b, d, v) L st h cn sn) : wX p l e R s m args below meth c Q B D cl dA aS nL bc bs pc L st h cn sn := by
  intro hc1 hc2 H locs lsA hH hS hL
  unfold zex2 at hz
  dsimp only at hz
  split at hz
  · obtain ⟨N, f, hr, hi, k⟩ := hz
    exact va_lald hx hb hK (zP1 (hH.2 _ _ hr)) 0 3 rfl (ztys_get dA (by omega)) hi hdg (k hc1 hc2 _ _ _ hH hS hL)
  · exact hz.elim
theorem zW_aald {k0 N : Nat} {f : Nat → Option Nat} {i : Int32} {r : Nat} {lsA : Array Slot} {H : Heap} {locs : List Loc} {rest : List Value} (hx : p.tables.exec = Jvm.exec) (hb : c.code = cc) (hdg : decode cc pc = .ok (.aaload, 1)) (hK : va_K D cl (ztys dA) s) (hk : k0 = 4 ∨ k0 = 5) (hH : zhR B D cl dA aS h H) (hr : h[r]? = some (.inl (k0, N, .inr (.inr (.inr (.inr f)))))) (hi : vp_in i N) (k : W p l e R s m args below meth c H locs cn sn Q (F0 m (pc + 1) lsA (zcv B aS (zrf (f i.toNatClampNeg)) :: rest))) : W p l e R s m args below meth c H locs cn sn Q (F0 m pc lsA (.int i :: .ref (B + r) :: rest)) := by
  have hlt : i.toNatClampNeg < N := Nat.not_le.mp fun q => hi (Or.inr q)
  have hat := hH.2 _ _ hr
  have ha : H[B + r]? = some (vp_cell (dA k0) (N, .inr (.inr (.inr (.inr (fun j => (f j).map (fun a => B + a))))))) := hat
  rw [zrf_cv] at k
  rcases hk with rfl | rfl
  · exact W.aald (v := va_rf ((f i.toNatClampNeg).map (fun a => B + a))) (ty := .array .int) hx hb ha ((hK.2 4 _ (ztys_get dA (by omega))).1 N (fun j => va_rf ((f j).map (fun a => B + a)))) rfl (fun q => by cases q) (by show ¬ (i < 0 ∨ (arrV _ _ _).slots.size ≤ _); rw [arrV_size]; exact hi) (by show (arrV _ _ _).slots[_]? = _; rw [arrV_read _ _ hlt]) rfl rfl hdg k
  · exact W.aald (v := va_rf ((f i.toNatClampNeg).map (fun a => B + a))) (ty := .object "TankBehind$Car") hx hb ha ((hK.2 5 _ (ztys_get dA (by omega))).1 N (fun j => va_rf ((f j).map (fun a => B + a)))) rfl (fun q => by cases q) (by show ¬ (i < 0 ∨ (arrV _ _ _).slots.size ≤ _); rw [arrV_size]; exact hi) (by show (arrV _ _ _).slots[_]? = _; rw [arrV_read _ _ hlt]) rfl rfl hdg k
theorem s_aaload (hx : p.tables.exec = Jvm.exec) (hb : c.code = cc) (hdg : decode cc pc = .ok (.aaload, 1)) (hK : va_K D cl (ztys dA) s) (hz : zex2 tt G bc bs rt M ret (wX p l e R s m args below meth c Q B D cl dA aS nL bc bs) (.aaload, pc + 1, a, b, d, v) L st h cn sn) : wX p l e R s m args below meth c Q B D cl dA aS nL bc bs pc L st h cn sn := by
  intro hc1 hc2 H locs lsA hH hS hL
  unfold zex2 at hz
  dsimp only at hz
  split at hz
  · obtain ⟨k0, N, f, hk, hr, hi, k⟩ := hz
    exact zW_aald hx hb hdg hK hk hH hr hi (k hc1 hc2 _ _ _ hH hS hL)
  · exact hz.elim
theorem s_alen (hx : p.tables.exec = Jvm.exec) (hb : c.code = cc) (hdg : decode cc pc = .ok (.arraylength, 1)) (hK : va_K D cl (ztys dA) s) (hz : zex2 tt G bc bs rt M ret (wX p l e R s m args below meth c Q B D cl dA aS nL bc bs) (.arraylength, pc + 1, a, b, d, v) L st h cn sn) : wX p l e R s m args below meth c Q B D cl dA aS nL bc bs pc L st h cn sn := by
  intro hc1 hc2 H locs lsA hH hS hL
  unfold zex2 at hz
  dsimp only at hz
  split at hz
  · obtain ⟨k0, N, x, hk, hr, k⟩ := hz
    refine va_alen hx hb hK (zP1 (hH.2 _ _ hr)) 0 k0 rfl (ztys_get dA hk) ?_ hdg (k hc1 hc2 _ _ _ hH hS hL)
    rcases x with x | x | x | x | x <;> rfl
  · exact hz.elim
theorem s_saload (hx : p.tables.exec = Jvm.exec) (hb : c.code = cc) (hdg : decode cc pc = .ok (.iaload, 1)) (hX : aS 0 < s.heap.size ∧ ¬ B ≤ aS 0 ∧ va_X (aS 0) G.2.2.1 G.2.2.2 s s.heap) (hz : zex2 tt G bc bs rt M ret (wX p l e R s m args below meth c Q B D cl dA aS nL bc bs) (.saload, pc + 1, a, b, d, v) L st h cn sn) : wX p l e R s m args below meth c Q B D cl dA aS nL bc bs pc L st h cn sn := by
  intro hc1 hc2 H locs lsA hH hS hL
  unfold zex2 at hz
  dsimp only at hz
  split at hz
  · obtain ⟨hi, k⟩ := hz
    exact va_sld hx hb hX.2.2 hX.1 hX.2.1 hS hi hdg (k hc1 hc2 _ _ _ hH hS hL)
  · exact hz.elim
theorem s_slen (hx : p.tables.exec = Jvm.exec) (hb : c.code = cc) (hdg : decode cc pc = .ok (.arraylength, 1)) (hX : aS 0 < s.heap.size ∧ ¬ B ≤ aS 0 ∧ va_X (aS 0) G.2.2.1 G.2.2.2 s s.heap) (hz : zex2 tt G bc bs rt M ret (wX p l e R s m args below meth c Q B D cl dA aS nL bc bs) (.i2s, pc + 1, a, b, d, v) L st h cn sn) : wX p l e R s m args below meth c Q B D cl dA aS nL bc bs pc L st h cn sn := by
  intro hc1 hc2 H locs lsA hH hS hL
  unfold zex2 at hz
  dsimp only at hz
  split at hz
  · exact va_slen hx hb hX.2.2 hX.1 hX.2.1 hS hdg (hz hc1 hc2 _ _ _ hH hS hL)
  · exact hz.elim
theorem s_iastore (hx : p.tables.exec = Jvm.exec) (hb : c.code = cc) (hdg : decode cc pc = .ok (.iastore, 1)) (hK : va_K D cl (ztys dA) s) (hz : zex2 tt G bc bs rt M ret (wX p l e R s m args below meth c Q B D cl dA aS nL bc bs) (.iastore, pc + 1, a, b, d, v) L st h cn sn) : wX p l e R s m args below meth c Q B D cl dA aS nL bc bs pc L st h cn sn := by
  intro hc1 hc2 H locs lsA hH hS hL
  unfold zex2 at hz
  dsimp only at hz
  split at hz
  · rename_i x i r s9
    obtain ⟨N, f, hr, hi, k⟩ := hz
    have ha : H[B + r]? = some (vp_cell (dA 0) (N, .inl f)) := hH.2 _ _ hr
    refine W.iast hx hb ha ((hK.2 0 _ (ztys_get dA (by omega))).1 N (fun j => .int (f j))) (fun q => by cases q) (by show ¬ (i < 0 ∨ (arrV _ _ _).slots.size ≤ _); rw [arrV_size]; exact hi) rfl rfl hdg fun H1 e9 z oq => ?_
    refine k hc1 hc2 _ _ _ (hH.set hr ?_ z oq) (hS.put z oq (Nat.le_add_right B r)) hL
    show H1[B + r]? = some (vp_cell _ _)
    rw [e9]
    rw [vp_cell_i, show zcA B (N, .inl (upd f i.toNatClampNeg x)) = (N, .inl (upd f i.toNatClampNeg x)) from rfl, vp_cell_i, arrV_store]
    congr 2
    funext q
    by_cases hq : q = i.toNatClampNeg
    · subst hq
      simp [updV, upd]
    · simp [updV, upd, hq]
  · exact hz.elim
theorem s_bastore (hx : p.tables.exec = Jvm.exec) (hb : c.code = cc) (hdg : decode cc pc = .ok (.bastore, 1)) (hK : va_K D cl (ztys dA) s) (hz : zex2 tt G bc bs rt M ret (wX p l e R s m args below meth c Q B D cl dA aS nL bc bs) (.bastore, pc + 1, a, b, d, v) L st h cn sn) : wX p l e R s m args below meth c Q B D cl dA aS nL bc bs pc L st h cn sn := by
  intro hc1 hc2 H locs lsA hH hS hL
  unfold zex2 at hz
  dsimp only at hz
  split at hz
  · rename_i x i r s9
    obtain ⟨k0, N, f, hk, hr, hi, k⟩ := hz
    have ha : H[B + r]? = some (vp_cell (dA k0) (N, .inl f)) := hH.2 _ _ hr
    rcases hk with rfl | rfl
    · refine W.zast hx hb ha ((hK.2 1 _ (ztys_get dA (by omega))).1 N (fun j => .int (f j))) (fun q => by cases q) (by show ¬ (i < 0 ∨ (arrV _ _ _).slots.size ≤ _); rw [arrV_size]; exact hi) rfl rfl hdg fun H1 e9 z oq => ?_
      refine k hc1 hc2 _ _ _ (hH.set hr ?_ z oq) (hS.put z oq (Nat.le_add_right B r)) hL
      show H1[B + r]? = some (vp_cell _ _)
      rw [e9]
      rw [vp_cell_i, show zcA B (N, .inl (upd f i.toNatClampNeg (vp_nar (if (1 : Nat) = 1 then .boolean else .byte) x))) = (N, .inl (upd f i.toNatClampNeg (vp_nar .boolean x))) from rfl, vp_cell_i, arrV_store]
      congr 2
      funext q
      by_cases hq : q = i.toNatClampNeg
      · subst hq
        simp [updV, upd, vp_nar]
        try rfl
      · simp [updV, upd, hq]
    · refine W.bast hx hb ha ((hK.2 2 _ (ztys_get dA (by omega))).1 N (fun j => .int (f j))) (fun q => by cases q) (by show ¬ (i < 0 ∨ (arrV _ _ _).slots.size ≤ _); rw [arrV_size]; exact hi) rfl rfl hdg fun H1 e9 z oq => ?_
      refine k hc1 hc2 _ _ _ (hH.set hr ?_ z oq) (hS.put z oq (Nat.le_add_right B r)) hL
      show H1[B + r]? = some (vp_cell _ _)
      rw [e9]
      rw [vp_cell_i, show zcA B (N, .inl (upd f i.toNatClampNeg (vp_nar (if (2 : Nat) = 1 then .boolean else .byte) x))) = (N, .inl (upd f i.toNatClampNeg (vp_nar .byte x))) from rfl, vp_cell_i, arrV_store]
      congr 2
      funext q
      by_cases hq : q = i.toNatClampNeg
      · subst hq
        simp [updV, upd, vp_nar]
        try rfl
      · simp [updV, upd, hq]
  · exact hz.elim
theorem s_lastore (hx : p.tables.exec = Jvm.exec) (hb : c.code = cc) (hdg : decode cc pc = .ok (.lastore, 1)) (hK : va_K D cl (ztys dA) s) (hz : zex2 tt G bc bs rt M ret (wX p l e R s m args below meth c Q B D cl dA aS nL bc bs) (.lastore, pc + 1, a, b, d, v) L st h cn sn) : wX p l e R s m args below meth c Q B D cl dA aS nL bc bs pc L st h cn sn := by
  intro hc1 hc2 H locs lsA hH hS hL
  unfold zex2 at hz
  dsimp only at hz
  split at hz
  · rename_i x i r s9
    obtain ⟨N, f, hr, hi, k⟩ := hz
    have ha : H[B + r]? = some (vp_cell (dA 3) (N, .inr (.inl f))) := hH.2 _ _ hr
    refine W.last hx hb ha ((hK.2 3 _ (ztys_get dA (by omega))).1 N (fun j => .long (f j))) (fun q => by cases q) (by show ¬ (i < 0 ∨ (arrV _ _ _).slots.size ≤ _); rw [arrV_size]; exact hi) rfl rfl hdg fun H1 e9 z oq => ?_
    refine k hc1 hc2 _ _ _ (hH.set hr ?_ z oq) (hS.put z oq (Nat.le_add_right B r)) hL
    show H1[B + r]? = some (vp_cell _ _)
    rw [e9]
    rw [vp_cell_l, show zcA B (N, .inr (.inl (vp_updL f i.toNatClampNeg x))) = (N, .inr (.inl (vp_updL f i.toNatClampNeg x))) from rfl, vp_cell_l, arrV_store]
    congr 2
    funext q
    by_cases hq : q = i.toNatClampNeg
    · subst hq
      simp [updV, vp_updL]
    · simp [updV, vp_updL, hq]
  · exact hz.elim
theorem s_getfield {C : String} {T : u_T} {N i : Nat} (hx : p.tables.exec = Jvm.exec) (hb : c.code = cc) (hdg : decode cc pc = .ok (.getfield i, 3)) (hts : ∀ w ∈ Ts, w.before args s = true) (hT : zTT tt cl Ts) (hown : s.vm.findClass own = some m.cls) (hK : va_K D cl (ztys dA) s) (hc : cl[a]? = some (C, T, N)) (hk : b < N) (hlink : (Jvm.Cond.fieldLink own i (T b).1 (T b).2.1 (T b).2.2.1).before args s = true) {z9 : Nat} (hz : zex2 tt G bc bs rt M ret (wX p l e R s m args below meth c Q B D cl dA aS nL bc bs) (.getfield z9, pc + 3, a, b, d, v) L st h cn sn) : wX p l e R s m args below meth c Q B D cl dA aS nL bc bs pc L st h cn sn := by
  intro hc1 hc2 H locs lsA hH hS hL
  unfold zex2 at hz
  dsimp only at hz
  split at hz
  · obtain ⟨fs, w, hr, hw, k⟩ := hz
    obtain ⟨ty, f, ht1, ht2, ht3, hin⟩ := hT a _ hc
    exact va_get (D := D) hx hb hts hin hown hK (zP1 (hH.2 _ _ hr)) 0 rfl hc b hk hlink (fun _ h9 => h9) (by rw [List.getElem?_map, hw]; rfl) hdg (k hc1 hc2 _ _ _ hH hS hL)
  · exact hz.elim
theorem s_putfield {C : String} {T : u_T} {N i : Nat} (hx : p.tables.exec = Jvm.exec) (hb : c.code = cc) (hdg : decode cc pc = .ok (.putfield i, 3)) (hts : ∀ w ∈ Ts, w.before args s = true) (hT : zTT tt cl Ts) (hown : s.vm.findClass own = some m.cls) (hK : va_K D cl (ztys dA) s) (hc : cl[a]? = some (C, T, N)) (hk : b < N) (hlink : (Jvm.Cond.fieldLink own i (T b).1 (T b).2.1 (T b).2.2.1).before args s = true) (hfin : (T b).2.2.2 = false ∨ (meth.name = "<init>" ∧ (T b).1 = own)) {z9 : Nat} (hz : zex2 tt G bc bs rt M ret (wX p l e R s m args below meth c Q B D cl dA aS nL bc bs) (.putfield z9, pc + 3, a, b, d, v) L st h cn sn) : wX p l e R s m args below meth c Q B D cl dA aS nL bc bs pc L st h cn sn := by
  intro hc1 hc2 H locs lsA hH hS hL
  unfold zex2 at hz
  dsimp only at hz
  split at hz
  · rename_i w r s9
    obtain ⟨fs, t, hr, hl, ht, hn, hf, k⟩ := hz
    obtain ⟨ty, f, ht1, ht2, ht3, hin⟩ := hT a _ hc
    rw [ht1] at ht
    have et : ty b = t := Option.some.inj ht
    subst et
    have hn' : narrow (ty b) (zcv B aS w) = zcv B aS w := by
      cases w <;> first | exact hn | (cases hty : ty b <;> rfl)
    have hf' : fits (ty b) (zcv B aS w) = true := by
      cases w <;> first | exact hf | (revert hf; cases ty b <;> first | exact fun q => q | (intro q; cases q))
    have hap := va_apart (own := own) hts hin ty ht2 ht3 hK hc
    obtain ⟨q0, h1, cell, q1, q2, q3, q4⟩ := hH.2 _ _ hr
    have hq0 : q0 = (C, T, N) := Option.some.inj (h1.symm.trans hc)
    subst hq0
    obtain ⟨hSl, hfc, kC, hkC, hkind⟩ := hK.1 a _ hc
    obtain ⟨cf, kf, fi, f2, hi, hsl⟩ := hSl b hk
    have hlay := u_lays hts hin hk
    have hst := (u_facts hfc hkC hlay hi).1
    have hln : b < (fs.map (zcv B aS)).length := by rw [List.length_map]; exact hl
    have fin : ∀ H' : Heap, H'[B + r]? = some (cell.setSlot (D.2 a b) (zcv B aS w)) → H'.size = H.size → (∀ q, q ≠ B + r → H'[q]? = H[q]?) → W p l e R s m args below meth c H' (locs ++ [⟨B + r, D.2 a b⟩]) cn sn Q (F0 m (pc + 3) lsA (s9.map (zcv B aS))) := by
      intro H' e1 e2 e3
      refine k hc1 hc2 _ _ _ (hH.set hr ?_ e2 e3) (hS.put e2 e3 (Nat.le_add_right B r)) hL
      show va_at D cl (B + r, .inr (a, (fs.set b w).map (zcv B aS))) H'
      rw [List.map_set]
      exact ⟨_, hc, t_OB.to (V := updV (vp_V (fs.map (zcv B aS))) b (zcv B aS w)) ⟨_, e1, q2, q3, t_set q4 hap hk _⟩ (fun j _ => vp_updV_set hln _ j)⟩
    rcases hfin with hfin | ⟨hin2, hdecl⟩
    · have hlay2 := hts _ (hin _ (u_in_lay hk))
      unfold u_lay at hlay2
      rw [if_neg (by rw [hfin]; decide)] at hlay2
      have h6 := u_store hfc hkC hkind hlay2 hi (ht2 b hk) hn' hf'
      refine W.putK hx hb (f := f2) ⟨hown, hlink, ⟨_, _, _, hi⟩, hst⟩ (by rw [q2]; exact h6) q1 q3 (by rw [hsl]; exact k2_hasslot (q4 b hk)) rfl rfl hdg fun H' e1 e2 e3 => ?_
      rw [hsl] at e1 ⊢
      exact fin H' e1 e2 e3
    · cases hfin2 : (T b).2.2.2 with
      | false =>
        have hlay2 := hts _ (hin _ (u_in_lay hk))
        unfold u_lay at hlay2
        rw [if_neg (by rw [hfin2]; decide)] at hlay2
        have h6 := u_store hfc hkC hkind hlay2 hi (ht2 b hk) hn' hf'
        refine W.putK hx hb (f := f2) ⟨hown, hlink, ⟨_, _, _, hi⟩, hst⟩ (by rw [q2]; exact h6) q1 q3 (by rw [hsl]; exact k2_hasslot (q4 b hk)) rfl rfl hdg fun H' e1 e2 e3 => ?_
        rw [hsl] at e1 ⊢
        exact fin H' e1 e2 e3
      | true =>
        have hlay2 := hts _ (hin _ (u_in_lay hk))
        unfold u_lay at hlay2
        rw [if_pos hfin2] at hlay2
        have hcf : m.cls = cf := by
          obtain ⟨_, _, c', _, _, _, -, -, hf', -, -, -, hown2, -⟩ := Cond.laysFinal_spec hlay2
          have e1 : c' = cf := by have := hi.symm.trans hf'; simp at this; exact this.1.symm
          rw [hdecl] at hown2
          rw [← e1]; exact Option.some.inj (hown.symm.trans hown2)
        have h6 := u_fits hfc hkC hkind (Or.inr hlay2) hi (ht2 b hk) hn' hf'
        refine W.putFinK hx hb hown hlink hi hst hcf hin2 (by rw [q2]; exact h6) q1 q3 (by rw [hsl]; exact k2_hasslot (q4 b hk)) rfl rfl hdg fun H' e1 e2 e3 => ?_
        rw [hsl] at e1 ⊢
        exact fin H' e1 e2 e3
  · exact hz.elim
theorem s_new {C : String} {T : u_T} {N i : Nat} (hx : p.tables.exec = Jvm.exec) (hb : c.code = cc) (hdg : decode cc pc = .ok (.new i, 3)) (hts : ∀ w ∈ Ts, w.before args s = true) (hT : zTT tt cl Ts) (hown : s.vm.findClass own = some m.cls) (hK : va_K D cl (ztys dA) s) (hc : cl[a]? = some (C, T, N)) (hR : bc ≤ R.cells ∧ bs ≤ R.slots) (hcl : (Jvm.Cond.classLink own i C).before args s = true) (hinst : (Jvm.Cond.instantiable C N).before args s = true) (hini : (Jvm.Cond.initialized C).before args s = true) {z9 : Nat} (hz : zex2 tt G bc bs rt M ret (wX p l e R s m args below meth c Q B D cl dA aS nL bc bs) (.new z9, pc + 3, a, b, d, v) L st h cn sn) : wX p l e R s m args below meth c Q B D cl dA aS nL bc bs pc L st h cn sn := by
  intro hc1 hc2 H locs lsA hH hS hL
  unfold zex2 at hz
  dsimp only at hz
  obtain ⟨g1, g2, k⟩ := hz
  obtain ⟨ty, f, ht1, ht2, ht3, hin⟩ := hT a _ hc
  have e0 : zcls tt a = zfields ty N := by unfold zcls; rw [ht1]
  have e2 : (zcls tt a).length = N := by rw [e0]; simp [zfields]
  rw [e2] at g2 k
  have hKn := hK.1 a _ hc
  refine W.newcK hx hb hown hcl hinst hini rfl hdg (by omega) (by omega) hKn.2.1 rfl fun H1 kC hkC e1 z1 o1 => ?_
  have h9 := k (by omega) (by omega) H1 locs lsA (hH.push (e := .inr (a, zcls tt a)) ?_ z1 o1) (zS_push hS (by omega) o1) hL
  · have e3 : (Value.ref h.length :: st).map (zcv B aS) = .ref H.size :: st.map (zcv B aS) := by rw [hH.1]; rfl
    rw [e3] at h9
    exact h9
  · refine ⟨_, hc, (u_born ty hts hin hKn hkC e1 ht2).to (fun j hj => ?_)⟩
    show defaultValue (ty j) = vp_V ((zcls tt a).map (zcv B aS)) j
    rw [e0]
    exact zfields_V B aS ty hj
theorem zat_arr {D : va_G} {cl : List vw_C} {q : Nat} {H : Heap} {k N : Nat} (hk : k < 6) (e1 : H[q]? = some (arrV (dA k) N (fun _ => defaultValue (zty k)))) : va_at D cl (q, zcE B dA aS (zarr k N)) H := by
  rcases (by omega : k = 0 ∨ k = 1 ∨ k = 2 ∨ k = 3 ∨ k = 4 ∨ k = 5) with rfl | rfl | rfl | rfl | rfl | rfl
  all_goals
    show H[q]? = some (vp_cell _ _)
    rw [e1]
  · rw [show zcA B (N, .inl (fun _ => (0 : Int32))) = (N, .inl (fun _ => (0 : Int32))) from rfl, vp_cell_i]; rfl
  · rw [show zcA B (N, .inl (fun _ => (0 : Int32))) = (N, .inl (fun _ => (0 : Int32))) from rfl, vp_cell_i]; rfl
  · rw [show zcA B (N, .inl (fun _ => (0 : Int32))) = (N, .inl (fun _ => (0 : Int32))) from rfl, vp_cell_i]; rfl
  · rw [show zcA B (N, .inr (.inl (fun _ => (0 : Int64)))) = (N, .inr (.inl (fun _ => (0 : Int64)))) from rfl, vp_cell_l]; rfl
  · rw [show zcA B (N, .inr (.inr (.inr (.inr (fun _ => (none : Option Nat)))))) = (N, .inr (.inr (.inr (.inr (fun _ => (none : Option Nat)))))) from rfl, vp_cell_q]; rfl
  · rw [show zcA B (N, .inr (.inr (.inr (.inr (fun _ => (none : Option Nat)))))) = (N, .inr (.inr (.inr (.inr (fun _ => (none : Option Nat)))))) from rfl, vp_cell_q]; rfl
theorem zRA_find {k : Nat} {cA : ClassId} (hk : k < 6) (hK : va_K D cl (ztys dA) s) (hf : s.vm.findClass ("[" ++ (zty k).toString) = some cA) : cA = dA k := by
  have h9 := (hK.2 k _ (ztys_get dA hk)).2
  rcases (by omega : k = 0 ∨ k = 1 ∨ k = 2 ∨ k = 3 ∨ k = 4 ∨ k = 5) with rfl | rfl | rfl | rfl | rfl | rfl
  · exact Option.some.inj (hf.symm.trans h9)
  · exact Option.some.inj (hf.symm.trans h9)
  · exact Option.some.inj (hf.symm.trans h9)
  · exact Option.some.inj (hf.symm.trans h9)
  · exact Option.some.inj (hf.symm.trans h9)
  · obtain ⟨kA, comp, h1, h2, h3, h4⟩ := h9
    exact Option.some.inj (hf.symm.trans h4)
theorem s_newarray {t : ArrayType} (hx : p.tables.exec = Jvm.exec) (hb : c.code = cc) (hdg : decode cc pc = .ok (.newarray t, 2)) (hK : va_K D cl (ztys dA) s) (hR : bc ≤ R.cells ∧ bs ≤ R.slots) (harr : (Jvm.Cond.arrayClass (newarray.typeOf t)).before args s = true) (hz : zex2 tt G bc bs rt M ret (wX p l e R s m args below meth c Q B D cl dA aS nL bc bs) (.newarray t, pc + 2, a, b, d, v) L st h cn sn) : wX p l e R s m args below meth c Q B D cl dA aS nL bc bs pc L st h cn sn := by
  intro hc1 hc2 H locs lsA hH hS hL
  unfold zex2 at hz
  dsimp only at hz
  split at hz
  · rename_i x s9
    obtain ⟨g0, g3, g1, g2, g4, k⟩ := hz
    have hty : newarray.typeOf t = zty (zkind t) ∧ zkind t < 6 ∧ componentBytes (newarray.typeOf t) ≤ 8 := by
      cases t <;> first | exact ⟨rfl, by decide, by decide⟩ | (exfalso; revert g4; decide)
    have hbytes : x.toNatClampNeg * componentBytes (newarray.typeOf t) ≤ 536870912 := Nat.le_trans (Nat.mul_le_mul g3 hty.2.2) (by decide)
    refine va_newaK hx hb harr rfl hdg rfl g0 rfl hbytes (by omega) (by omega) rfl fun H1 cA e1 z1 o1 hAr hNm => ?_
    rw [hty.1] at hNm e1
    have ec := zRA_find hty.2.1 hK hNm
    subst ec
    have h9 := k (by omega) (by omega) H1 locs lsA (hH.push (e := zarr (zkind t) x.toNatClampNeg) (zat_arr hty.2.1 e1) z1 o1) (zS_push hS (by omega) o1) hL
    have e3 : (Value.ref h.length :: s9).map (zcv B aS) = .ref H.size :: s9.map (zcv B aS) := by rw [hH.1]; rfl
    rw [e3] at h9
    exact h9
  · exact hz.elim
end SIM2
