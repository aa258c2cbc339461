theorem zouter (c : ClassId) (N h0 : Nat) : ∀ i : Nat, Jvm.Free.Multi.outerC c N h0 i = arrV c N (fun j => va_rf (if j < i then some (h0 + 1 + j) else none))
  | 0 => by
    show ({ cls := c, slots := Array.replicate N .null, vm := .none } : Cell) = _
    rw [arrV_new]
    refine congrArg (arrV c N) (funext fun j => ?_)
    simp [va_rf]
  | i + 1 => by
    show (Jvm.Free.Multi.outerC c N h0 i).setSlot i (.ref (h0 + 1 + i)) = _
    rw [zouter c N h0 i, arrV_store]
    refine congrArg (arrV c N) (funext fun j => ?_)
    by_cases e : j = i
    · subst e
      simp [updV, va_rf]
    · by_cases h : j < i
      · simp [updV, e, h, Nat.lt_succ_of_lt h]
      · simp [updV, e, h, show ¬ j < i + 1 by omega]
section SIM4
variable {p : Program} {l : Launch} {e : Env} {R : Room} {s : State} {m : MethodId} {args : Array Value} {below : List Frame} {meth : Method} {c : Code} {Q : State → Prop} {cc : ByteArray} {B : Nat} {D : va_G} {cl : List vw_C} {dA : Nat → ClassId} {aS : Nat → Nat} {nL bc bs pc : Nat}
variable {a b d : Nat} {v : Value} {L : zL} {st : List Value} {h : zH} {cn sn : Nat}
variable {tt : zT} {G : zG} {rt : Option FieldType} {M : zM} {ret : zQ} {Ts : List Jvm.Cond} {own : String} {Z : State → Prop}
theorem s_anewarray {i : Nat} (hx : p.tables.exec = Jvm.exec) (hb : c.code = cc) (hdg : decode cc pc = .ok (.anewarray i, 3)) (hown : s.vm.findClass own = some m.cls) (hK : va_K D cl (ztys dA) s) (hR : bc ≤ R.cells ∧ bs ≤ R.slots) (hw : (a = 5 ∧ (Jvm.Cond.classLink own i "TankBehind$Car").before args s = true ∧ (Jvm.Cond.arrayOver (.object "TankBehind$Car")).before args s = true) ∨ (a = 4 ∧ (Jvm.Cond.classLink own i (FieldType.array .int).toString).before args s = true ∧ (Jvm.Cond.arrayOver (.array .int)).before args s = true)) {z9 : Nat} (hz : zex2 tt G bc bs rt M ret (wX p l e R s m args below meth c Q B D cl dA aS nL bc bs) (.anewarray z9, pc + 3, a, b, d, v) L st h cn sn) : wX p l e R s m args below meth c Q B D cl dA aS nL bc bs pc L st h cn sn := by
  intro hc1 hc2 H locs lsA hH hS hL
  unfold zex2 at hz
  dsimp only at hz
  split at hz
  · rename_i x s9
    obtain ⟨g0, g3, g1, g2, g4, k⟩ := hz
    have fin : ∀ cA : ClassId, s.vm.findClass ("[" ++ (zty a).toString) = some cA → a < 6 → (∀ (q : Nat) (H : Heap), H[q]? = some (arrV (dA a) x.toNatClampNeg (fun _ => .null)) → va_at D cl (q, zcE B dA aS (zarr a x.toNatClampNeg)) H) → W p l e R s m args below meth c (H.push { cls := cA, slots := Array.replicate x.toNatClampNeg .null, vm := .none }) locs (cn + 1) (sn + x.toNatClampNeg) Q (F0 m (pc + 3) lsA (.ref H.size :: s9.map (zcv B aS))) := by
      intro cA hf ha hat
      have ec := zRA_find ha hK hf
      subst ec
      generalize hH1 : H.push ({ cls := dA a, slots := Array.replicate x.toNatClampNeg .null, vm := .none } : Cell) = H1
      have z1 : H1.size = H.size + 1 := by rw [← hH1, Array.size_push]
      have e1 : H1[H.size]? = some (arrV (dA a) x.toNatClampNeg (fun _ => .null)) := by rw [← hH1, Array.getElem?_push_size, ← arrV_new]
      have o1 : ∀ q : Nat, q < H.size → H1[q]? = H[q]? := fun q hq => by rw [← hH1, Array.getElem?_push, if_neg (Nat.ne_of_lt hq)]
      have h9 := k (by omega) (by omega) H1 locs lsA (hH.push (e := zarr a x.toNatClampNeg) (hat _ _ e1) z1 o1) (zS_push hS (by omega) o1) hL
      have e3 : (Value.ref h.length :: s9).map (zcv B aS) = .ref H.size :: s9.map (zcv B aS) := by rw [hH.1]; rfl
      rw [e3] at h9
      exact h9
    rcases hw with ⟨rfl, hcl, hov⟩ | ⟨rfl, hcl, hov⟩
    · exact W.anew hx hb hown hcl hov rfl hdg rfl g0 (by omega) (by omega) (by omega) fun cA kA comp f1 f2 f3 f4 => fin cA f1 (by omega) (fun q H e1 => zat_arr (by omega) e1)
    · exact W.anewA hx hb hown hcl hov rfl hdg rfl g0 (by omega) (by omega) (by omega) fun cA kA comp f1 f2 f3 f4 => fin cA f1 (by omega) (fun q H e1 => zat_arr (by omega) e1)
  · exact hz.elim
theorem s_multi {i : Nat} (hx : p.tables.exec = Jvm.exec) (hb : c.code = cc) (hdg : decode cc pc = .ok (.multianewarray i 2, 4)) (hown : s.vm.findClass own = some m.cls) (hK : va_K D cl (ztys dA) s) (hR : bc ≤ R.cells ∧ bs ≤ R.slots) (hcl : (Jvm.Cond.classLink own i ("[" ++ (FieldType.array .int).toString)).before args s = true) (hov : (Jvm.Cond.arrayOver (.array .int)).before args s = true) (harr : (Jvm.Cond.arrayClass .int).before args s = true) {z9 y9 : Nat} (hz : zex2 tt G bc bs rt M ret (wX p l e R s m args below meth c Q B D cl dA aS nL bc bs) (.multianewarray z9 y9, pc + 4, a, b, d, v) L st h cn sn) : wX p l e R s m args below meth c Q B D cl dA aS nL bc bs pc L st h cn sn := by
  intro hc1 hc2 H locs lsA hH hS hL
  unfold zex2 at hz
  dsimp only at hz
  split at hz
  · rename_i y x s9
    obtain ⟨g0, g5, g3, g4, g1, g2, k⟩ := hz
    intro T hT X
    obtain ⟨vm₁, cA, comp, -, fA, fC, hO, -, X', step⟩ := X.multianewarray2F hx hown hcl hov harr (g := F0 m pc lsA ((Value.int y :: Value.int x :: s9).map (zcv B aS))) rfl (by rw [hb]; exact hdg) rfl g0 g5 (by omega) (by show _ * 4 ≤ _; omega) (by omega) rfl rfl (by omega) (by omega)
    have ea : cA = dA 4 := zRA_find (k := 4) (by omega) hK fA
    have ec : comp = dA 0 := zRA_find (k := 0) (by omega) hK fC
    subst ea
    subst ec
    generalize hF : Jvm.Free.Multi.fill (T.setVm vm₁) (dA 4) (dA 0) x.toNatClampNeg y.toNatClampNeg (defaultValue .int) x.toNatClampNeg = F at X' step
    have hTh : (T.setVm vm₁).heap = H := hT
    obtain ⟨f1, f2, -, -⟩ := Jvm.Free.Multi.fill_facts (T.setVm vm₁) (dA 4) (dA 0) x.toNatClampNeg y.toNatClampNeg (defaultValue .int) x.toNatClampNeg
    rw [hF, hTh] at f1 f2
    have hold : ∀ q : Nat, q < H.size → F.heap[q]? = H[q]? := fun q hq => by
      have := Jvm.Free.Multi.fill_old (T.setVm vm₁) (dA 4) (dA 0) x.toNatClampNeg y.toNatClampNeg (defaultValue .int) (a := q) (by rw [hTh]; exact hq) x.toNatClampNeg
      rw [hF, hTh] at this
      exact this
    have hrow : ∀ j : Nat, j < x.toNatClampNeg → F.heap[H.size + 1 + j]? = some (Jvm.Free.Multi.innerC (dA 0) y.toNatClampNeg (defaultValue .int)) := fun j hj => by
      have := Jvm.Free.Multi.fill_inner (T.setVm vm₁) (dA 4) (dA 0) x.toNatClampNeg y.toNatClampNeg (defaultValue .int) x.toNatClampNeg j hj
      rw [hF, hTh] at this
      exact this
    rw [zouter] at f2
    have hlen : (zrows h.length x.toNatClampNeg y.toNatClampNeg).length = 1 + x.toNatClampNeg := by
      unfold zrows
      rw [List.length_cons, List.length_replicate, Nat.add_comm]
    have hnew : zhR B D cl dA aS (h ++ zrows h.length x.toNatClampNeg y.toNatClampNeg) F.heap := by
      refine hH.app (fun j e9 he9 => ?_) (by rw [f1, hlen]; omega) hold
      unfold zrows at he9
      cases j with
      | zero =>
        cases he9
        show F.heap[H.size + 0]? = some (vp_cell _ _)
        rw [Nat.add_zero, f2]
        rw [show zcA B (x.toNatClampNeg, .inr (.inr (.inr (.inr (fun i => if i < x.toNatClampNeg then some (h.length + 1 + i) else none))))) = (x.toNatClampNeg, .inr (.inr (.inr (.inr (fun j => (if j < x.toNatClampNeg then some (h.length + 1 + j) else none).map (fun a => B + a)))))) from rfl, vp_cell_q]
        refine congrArg some (congrArg (arrV (dA 4) x.toNatClampNeg) (funext fun j => ?_))
        by_cases q : j < x.toNatClampNeg
        · rw [if_pos q, if_pos q, hH.1]
          show Value.ref (B + h.length + 1 + j) = Value.ref (B + (h.length + 1 + j))
          rw [Nat.add_assoc, Nat.add_assoc, Nat.add_assoc]
        · rw [if_neg q, if_neg q]
          rfl
      | succ j =>
        rw [List.getElem?_cons_succ, List.getElem?_replicate] at he9
        by_cases q : j < x.toNatClampNeg
        · rw [if_pos q] at he9
          cases he9
          show F.heap[H.size + (j + 1)]? = some (vp_cell _ _)
          rw [show H.size + (j + 1) = H.size + 1 + j by omega, hrow j q]
          rw [show zcA B (y.toNatClampNeg, .inl (fun _ => (0 : Int32))) = (y.toNatClampNeg, .inl (fun _ => (0 : Int32))) from rfl, vp_cell_i]
          exact congrArg some (arrV_new (dA 0) y.toNatClampNeg (.int 0))
        · rw [if_neg q] at he9
          cases he9
    have h9 := k (by omega) (by omega) F.heap locs lsA hnew (zS_push hS (by omega) hold) hL
    have e3 : (Value.ref h.length :: s9).map (zcv B aS) = .ref T.heap.size :: s9.map (zcv B aS) := by rw [hT, hH.1]; rfl
    rw [e3] at h9
    obtain ⟨t, a1, b1⟩ := h9 F rfl X'
    exact ⟨t, step t a1, b1⟩
  · exact hz.elim
end SIM4
