/-! what the small machine's states are in the machine's own -/
noncomputable def zcv (B : Nat) (aS : Nat → Nat) : Value → Value
  | .ref i => .ref (B + i)
  | .retAddr k => .ref (aS k)
  | w => w
theorem zcv_cat (B : Nat) (aS : Nat → Nat) (w : Value) : (zcv B aS w).category = w.category := by cases w <;> rfl
theorem zcv_sum (B : Nat) (aS : Nat → Nat) (s : List Value) : ((s.map (zcv B aS)).map fun v => v.category) = s.map fun v => v.category := by
  rw [List.map_map]
  exact List.map_congr_left fun w _ => zcv_cat B aS w
noncomputable def zcA (B : Nat) (x : vp_A) : vp_A := match x with
  | (N, .inr (.inr (.inr (.inr f)))) => (N, .inr (.inr (.inr (.inr (fun j => (f j).map (fun a => B + a))))))
  | (N, y) => (N, y)
noncomputable def zcE (B : Nat) (dA : Nat → ClassId) (aS : Nat → Nat) : zC → va_E
  | .inl (k, x) => .inl (dA k, zcA B x)
  | .inr (k, fs) => .inr (k, fs.map (zcv B aS))
noncomputable def zhR (B : Nat) (D : va_G) (cl : List vw_C) (dA : Nat → ClassId) (aS : Nat → Nat) (h : zH) (H : Heap) : Prop :=
  H.size = B + h.length ∧ ∀ (i : Nat) (e : zC), h[i]? = some e → va_at D cl (B + i, zcE B dA aS e) H
noncomputable def zLs (f : Value → Value) (nL : Nat) (L : zL) (ls : Array Slot) : Prop := L.length = nL ∧ ls.size = nL ∧ lv_wf ls ∧ ∀ (i : Nat) (v : Value), L.getD i none = some v → ls[i]? = some (.val (f v))
noncomputable def zlv (f : Value → Value) (nL : Nat) (L : zL) : List (Nat × Value) := (List.range nL).filterMap (fun i => (L.getD i none).map (fun v => (i, f v)))
theorem zlv_mem {f : Value → Value} {nL : Nat} {L : zL} {q : Nat × Value} : q ∈ zlv f nL L ↔ q.1 < nL ∧ ∃ v, L.getD q.1 none = some v ∧ q.2 = f v := by
  unfold zlv
  rw [List.mem_filterMap]
  constructor
  · rintro ⟨i, hi, h⟩
    obtain ⟨v, hv, rfl⟩ := Option.map_eq_some_iff.mp h
    exact ⟨List.mem_range.mp hi, v, hv, rfl⟩
  · rintro ⟨h1, v, h2, h3⟩
    refine ⟨q.1, List.mem_range.mpr h1, ?_⟩
    rw [h2, Option.map_some, ← h3]
theorem zLs.has {f : Value → Value} {nL : Nat} {L : zL} {ls : Array Slot} (h : zLs f nL L ls) : lv_has ls nL (zlv f nL L) := ⟨h.2.1, h.2.2.1, fun q hq => by
  obtain ⟨-, v, h2, h3⟩ := zlv_mem.mp hq
  rw [h3]
  exact h.2.2.2 _ _ h2⟩
theorem zkp_get {i : Nat} {x : Option Value} {w : Value} (h : zkp i x = some w) : x = some w ∧ (i = 0 → w.category ≠ 2) := by
  unfold zkp at h
  by_cases hi : i = 0
  · rw [show (i == 0) = true by simp [hi]] at h
    cases x with
    | none => cases h
    | some y =>
      have h2 : (bif y.category == 2 then none else some y) = some w := h
      by_cases hy : y.category = 2
      · rw [show (y.category == 2) = true by simp [hy]] at h2
        cases h2
      · rw [show (y.category == 2) = false by simp [hy]] at h2
        cases h2
        exact ⟨rfl, fun _ => hy⟩
  · rw [show (i == 0) = false by simp [hi]] at h
    exact ⟨h, fun q => absurd q hi⟩
theorem zst_get : ∀ {L : zL} {i j : Nat} {v w : Value}, (zst L i v).getD j none = some w → (j = i ∧ w = v) ∨ (j ≠ i ∧ L.getD j none = some w ∧ (j + 1 = i → w.category ≠ 2) ∧ (v.category = 2 → j ≠ i + 1))
  | [], i, j, v, w, h => by simp [zst] at h
  | x :: xs, 0, j, v, w, h => by
    unfold zst at h
    cases j with
    | zero =>
      have h' : some v = some w := h
      exact Or.inl ⟨rfl, (Option.some.inj h').symm⟩
    | succ j =>
      by_cases hc : v.category = 2
      · rw [show (v.category == 2) = true by simp [hc]] at h
        have h' : (match xs with
          | [] => ([] : zL)
          | _ :: ys => none :: ys).getD j none = some w := h
        cases xs with
        | nil => simp at h'
        | cons y ys =>
          cases j with
          | zero => simp at h'
          | succ j => exact Or.inr ⟨by omega, h', fun q => by omega, fun _ => by omega⟩
      · rw [show (v.category == 2) = false by simp [hc]] at h
        have h' : xs.getD j none = some w := h
        exact Or.inr ⟨by omega, h', fun q => by omega, fun q => absurd q hc⟩
  | x :: xs, i + 1, j, v, w, h => by
    unfold zst at h
    cases j with
    | zero =>
      have h' : zkp i x = some w := h
      obtain ⟨h1, h2⟩ := zkp_get h'
      exact Or.inr ⟨by omega, h1, fun q => h2 (by omega), fun _ => by omega⟩
    | succ j =>
      have h' : (zst xs i v).getD j none = some w := h
      rcases zst_get h' with ⟨rfl, rfl⟩ | ⟨q1, q2, q3, q4⟩
      · exact Or.inl ⟨rfl, rfl⟩
      · exact Or.inr ⟨by omega, q2, fun q => q3 (by omega), fun q => by have := q4 q; omega⟩
theorem zst_len : ∀ (L : zL) (i : Nat) (v : Value), (zst L i v).length = L.length
  | [], _, _ => rfl
  | x :: xs, 0, v => by
    unfold zst
    cases (v.category == 2)
    · rfl
    · cases xs <;> rfl
  | x :: xs, i + 1, v => by
    unfold zst
    rw [List.length_cons, List.length_cons, zst_len xs i v]
theorem zLs.store1 {f : Value → Value} (hf : ∀ w, (f w).category = w.category) {nL i : Nat} {L : zL} {x : Value} (hx : x.category = 1) (hl : L.length = nL) {ls' : Array Slot} (h : lv_has ls' nL ((i, f x) :: (zlv f nL L).filter (fun q => !(q.1 == i) && !(q.1 + 1 == i && q.2.category == 2)))) : zLs f nL (zst L i x) ls' := by
  refine ⟨by rw [zst_len]; exact hl, h.1, h.2.1, fun j w hw => ?_⟩
  rcases zst_get hw with ⟨rfl, rfl⟩ | ⟨h1, h3, h4, h5⟩
  · exact h.2.2 (j, f w) List.mem_cons_self
  · have hj : j < nL := by
      rw [← hl]
      rw [List.getD_eq_getElem?_getD] at h3
      by_cases q : j < L.length
      · exact q
      · rw [List.getElem?_eq_none (by omega)] at h3
        cases h3
    refine h.2.2 (j, f w) (List.mem_cons_of_mem _ (List.mem_filter.mpr ⟨zlv_mem.mpr ⟨hj, w, h3, rfl⟩, ?_⟩))
    have e1 : (j == i) = false := by simpa using h1
    have e2 : (j + 1 == i && (f w).category == 2) = false := by
      by_cases q : j + 1 = i
      · have := h4 q
        rw [hf]
        simp [this]
      · simp [q]
    simp [e1, e2]
theorem zLs.store2 {f : Value → Value} (hf : ∀ w, (f w).category = w.category) {nL i : Nat} {L : zL} {x : Value} (hx : x.category = 2) (hl : L.length = nL) {ls' : Array Slot} (h : lv_has ls' nL ((i, f x) :: (zlv f nL L).filter (fun q => !(q.1 == i) && (!(q.1 == i + 1) && !(q.1 + 1 == i && q.2.category == 2))))) : zLs f nL (zst L i x) ls' := by
  refine ⟨by rw [zst_len]; exact hl, h.1, h.2.1, fun j w hw => ?_⟩
  rcases zst_get hw with ⟨rfl, rfl⟩ | ⟨h1, h3, h4, h5⟩
  · exact h.2.2 (j, f w) List.mem_cons_self
  · have hj : j < nL := by
      rw [← hl]
      rw [List.getD_eq_getElem?_getD] at h3
      by_cases q : j < L.length
      · exact q
      · rw [List.getElem?_eq_none (by omega)] at h3
        cases h3
    have h0 : j ≠ i + 1 := h5 hx
    refine h.2.2 (j, f w) (List.mem_cons_of_mem _ (List.mem_filter.mpr ⟨zlv_mem.mpr ⟨hj, w, h3, rfl⟩, ?_⟩))
    have e1 : (j == i) = false := by simpa using h1
    have e3 : (j == i + 1) = false := by simpa using h0
    have e2 : (j + 1 == i && (f w).category == 2) = false := by
      by_cases q : j + 1 = i
      · have := h4 q
        rw [hf]
        simp [this]
      · simp [q]
    simp [e1, e2, e3]
noncomputable def wX (p : Program) (l : Launch) (e : Env) (R : Room) (s : State) (m : MethodId) (args : Array Value) (below : List Frame) (meth : Method) (c : Code) (Q : State → Prop) (B : Nat) (D : va_G) (cl : List vw_C) (dA : Nat → ClassId) (aS : Nat → Nat) (nL bc bs : Nat) : zX := fun pc L st h cn sn =>
  cn ≤ bc → sn ≤ bs → ∀ (H : Heap) (locs : List Loc) (lsA : Array Slot), zhR B D cl dA aS h H → va_S (fun q => B ≤ q) s.heap H locs → zLs (zcv B aS) nL L lsA → W p l e R s m args below meth c H locs cn sn Q (F0 m pc lsA (st.map (zcv B aS)))
section SIM1
variable {p : Program} {l : Launch} {e : Env} {R : Room} {s : State} {m : MethodId} {args : Array Value} {below : List Frame} {meth : Method} {c : Code} {Q : State → Prop} {cc : ByteArray} {B : Nat} {D : va_G} {cl : List vw_C} {dA : Nat → ClassId} {aS : Nat → Nat} {nL bc bs pc : Nat}
variable {a b d : Nat} {v : Value} {L : zL} {st : List Value} {h : zH} {cn sn : Nat}
theorem s_iconst {i : Int} (hx : p.tables.exec = Jvm.exec) (hb : c.code = cc) (hdg : decode cc pc = .ok (.iconst i, 1)) (hv : v = .int (Int32.ofInt i))  (hz : zex1 (wX p l e R s m args below meth c Q B D cl dA aS nL bc bs) (.aconst_null, pc + 1, a, b, d, v) L st h cn sn) : wX p l e R s m args below meth c Q B D cl dA aS nL bc bs pc L st h cn sn := by
  intro hc1 hc2 H locs lsA hH hS hL
  unfold zex1 at hz
  dsimp only at hz
  subst hv
  exact lv_iconst hx hb hdg rfl (hz hc1 hc2 _ _ _ hH hS hL)
theorem s_bipush {i : Int} (hx : p.tables.exec = Jvm.exec) (hb : c.code = cc) (hdg : decode cc pc = .ok (.bipush i, 2)) (hv : v = .int (Int8.ofInt i).toInt32)  (hz : zex1 (wX p l e R s m args below meth c Q B D cl dA aS nL bc bs) (.aconst_null, pc + 2, a, b, d, v) L st h cn sn) : wX p l e R s m args below meth c Q B D cl dA aS nL bc bs pc L st h cn sn := by
  intro hc1 hc2 H locs lsA hH hS hL
  unfold zex1 at hz
  dsimp only at hz
  subst hv
  exact lv_bipush hx hb hdg rfl (hz hc1 hc2 _ _ _ hH hS hL)
theorem s_sipush {i : Int} (hx : p.tables.exec = Jvm.exec) (hb : c.code = cc) (hdg : decode cc pc = .ok (.sipush i, 3)) (hv : v = .int (Int16.ofInt i).toInt32)  (hz : zex1 (wX p l e R s m args below meth c Q B D cl dA aS nL bc bs) (.aconst_null, pc + 3, a, b, d, v) L st h cn sn) : wX p l e R s m args below meth c Q B D cl dA aS nL bc bs pc L st h cn sn := by
  intro hc1 hc2 H locs lsA hH hS hL
  unfold zex1 at hz
  dsimp only at hz
  subst hv
  exact lv_sipush hx hb hdg rfl (hz hc1 hc2 _ _ _ hH hS hL)
theorem s_lconst {i : Fin 2} (hx : p.tables.exec = Jvm.exec) (hb : c.code = cc) (hdg : decode cc pc = .ok (.lconst i, 1)) (hv : v = .long (Int64.ofNat (i : Nat)))  (hz : zex1 (wX p l e R s m args below meth c Q B D cl dA aS nL bc bs) (.aconst_null, pc + 1, a, b, d, v) L st h cn sn) : wX p l e R s m args below meth c Q B D cl dA aS nL bc bs pc L st h cn sn := by
  intro hc1 hc2 H locs lsA hH hS hL
  unfold zex1 at hz
  dsimp only at hz
  subst hv
  exact lv_lconst hx hb hdg rfl (hz hc1 hc2 _ _ _ hH hS hL)
theorem s_null  (hx : p.tables.exec = Jvm.exec) (hb : c.code = cc) (hdg : decode cc pc = .ok (.aconst_null, 1)) (hv : v = .null) (hz : zex1 (wX p l e R s m args below meth c Q B D cl dA aS nL bc bs) (.aconst_null, pc + 1, a, b, d, v) L st h cn sn) : wX p l e R s m args below meth c Q B D cl dA aS nL bc bs pc L st h cn sn := by
  intro hc1 hc2 H locs lsA hH hS hL
  unfold zex1 at hz
  dsimp only at hz
  subst hv
  exact lv_null hx hb hdg (hz hc1 hc2 _ _ _ hH hS hL)
theorem s_ldc {i : Nat} (hx : p.tables.exec = Jvm.exec) (hb : c.code = cc) (hdg : decode cc pc = .ok (.ldc i, 2)) {own : String} {x : Int32} (hv : v = .int x) (hown : s.vm.findClass own = some m.cls) (hcon : (Jvm.Cond.constant own i x).before args s = true) (hz : zex1 (wX p l e R s m args below meth c Q B D cl dA aS nL bc bs) (.aconst_null, pc + 2, a, b, d, v) L st h cn sn) : wX p l e R s m args below meth c Q B D cl dA aS nL bc bs pc L st h cn sn := by
  intro hc1 hc2 H locs lsA hH hS hL
  unfold zex1 at hz
  dsimp only at hz
  subst hv
  exact lv_ldc hx hb hown hcon hdg (hz hc1 hc2 _ _ _ hH hS hL)
theorem s_ldcw {i : Nat} (hx : p.tables.exec = Jvm.exec) (hb : c.code = cc) (hdg : decode cc pc = .ok (.ldc_w i, 3)) {own : String} {x : Int32} (hv : v = .int x) (hown : s.vm.findClass own = some m.cls) (hcon : (Jvm.Cond.constant own i x).before args s = true) (hz : zex1 (wX p l e R s m args below meth c Q B D cl dA aS nL bc bs) (.aconst_null, pc + 3, a, b, d, v) L st h cn sn) : wX p l e R s m args below meth c Q B D cl dA aS nL bc bs pc L st h cn sn := by
  intro hc1 hc2 H locs lsA hH hS hL
  unfold zex1 at hz
  dsimp only at hz
  subst hv
  exact lv_ldcw hx hb hown hcon hdg (hz hc1 hc2 _ _ _ hH hS hL)
theorem s_ldc2 {i : Nat} (hx : p.tables.exec = Jvm.exec) (hb : c.code = cc) (hdg : decode cc pc = .ok (.ldc2_w i, 3)) {own : String} {x : Int64} (hv : v = .long x) (hown : s.vm.findClass own = some m.cls) (hcon : (Jvm.Cond.constantLong own i x).before args s = true) (hz : zex1 (wX p l e R s m args below meth c Q B D cl dA aS nL bc bs) (.aconst_null, pc + 3, a, b, d, v) L st h cn sn) : wX p l e R s m args below meth c Q B D cl dA aS nL bc bs pc L st h cn sn := by
  intro hc1 hc2 H locs lsA hH hS hL
  unfold zex1 at hz
  dsimp only at hz
  subst hv
  exact lv_ldc2 hx hb hown hcon hdg (hz hc1 hc2 _ _ _ hH hS hL)
theorem s_iload_n {j : Nat} {k : Fin 4} (hx : p.tables.exec = Jvm.exec) (hb : c.code = cc) (hdg : decode cc pc = .ok (.iload_n k, 1)) (hk : (k : Nat) = a) (hz : zex1 (wX p l e R s m args below meth c Q B D cl dA aS nL bc bs) (.iload j, pc + 1, a, b, d, v) L st h cn sn) : wX p l e R s m args below meth c Q B D cl dA aS nL bc bs pc L st h cn sn := by
  intro hc1 hc2 H locs lsA hH hS hL
  unfold zex1 at hz
  dsimp only at hz
  split at hz
  · rename_i x hx9
    exact lv_iload_n hx hb hdg hk (hL.2.2.2 _ _ hx9) (hz hc1 hc2 _ _ _ hH hS hL)
  · exact hz.elim
theorem s_iload {j : Nat}  (hx : p.tables.exec = Jvm.exec) (hb : c.code = cc) (hdg : decode cc pc = .ok (.iload a, 2))  (hz : zex1 (wX p l e R s m args below meth c Q B D cl dA aS nL bc bs) (.iload j, pc + 2, a, b, d, v) L st h cn sn) : wX p l e R s m args below meth c Q B D cl dA aS nL bc bs pc L st h cn sn := by
  intro hc1 hc2 H locs lsA hH hS hL
  unfold zex1 at hz
  dsimp only at hz
  split at hz
  · rename_i x hx9
    exact lv_iload hx hb hdg  (hL.2.2.2 _ _ hx9) (hz hc1 hc2 _ _ _ hH hS hL)
  · exact hz.elim
theorem s_lload_n {j : Nat} {k : Fin 4} (hx : p.tables.exec = Jvm.exec) (hb : c.code = cc) (hdg : decode cc pc = .ok (.lload_n k, 1)) (hk : (k : Nat) = a) (hz : zex1 (wX p l e R s m args below meth c Q B D cl dA aS nL bc bs) (.lload j, pc + 1, a, b, d, v) L st h cn sn) : wX p l e R s m args below meth c Q B D cl dA aS nL bc bs pc L st h cn sn := by
  intro hc1 hc2 H locs lsA hH hS hL
  unfold zex1 at hz
  dsimp only at hz
  split at hz
  · rename_i x hx9
    exact lv_lload_n hx hb hdg hk (hL.2.2.2 _ _ hx9) (hz hc1 hc2 _ _ _ hH hS hL)
  · exact hz.elim
theorem s_lload {j : Nat}  (hx : p.tables.exec = Jvm.exec) (hb : c.code = cc) (hdg : decode cc pc = .ok (.lload a, 2))  (hz : zex1 (wX p l e R s m args below meth c Q B D cl dA aS nL bc bs) (.lload j, pc + 2, a, b, d, v) L st h cn sn) : wX p l e R s m args below meth c Q B D cl dA aS nL bc bs pc L st h cn sn := by
  intro hc1 hc2 H locs lsA hH hS hL
  unfold zex1 at hz
  dsimp only at hz
  split at hz
  · rename_i x hx9
    exact lv_lload hx hb hdg  (hL.2.2.2 _ _ hx9) (hz hc1 hc2 _ _ _ hH hS hL)
  · exact hz.elim
theorem s_aload_n {j : Nat} {k : Fin 4} (hx : p.tables.exec = Jvm.exec) (hb : c.code = cc) (hdg : decode cc pc = .ok (.aload_n k, 1)) (hk : (k : Nat) = a) (hz : zex1 (wX p l e R s m args below meth c Q B D cl dA aS nL bc bs) (.aload j, pc + 1, a, b, d, v) L st h cn sn) : wX p l e R s m args below meth c Q B D cl dA aS nL bc bs pc L st h cn sn := by
  intro hc1 hc2 H locs lsA hH hS hL
  unfold zex1 at hz
  dsimp only at hz
  split at hz
  · rename_i x hx9
    exact lv_aload_n hx hb hdg hk (hL.2.2.2 _ _ hx9) (hz hc1 hc2 _ _ _ hH hS hL)
  · rename_i hx9
    exact lv_aload_nN hx hb hdg hk (hL.2.2.2 _ _ hx9) (hz hc1 hc2 _ _ _ hH hS hL)
  · rename_i x hx9
    exact lv_aload_n hx hb hdg hk (hL.2.2.2 _ _ hx9) (hz hc1 hc2 _ _ _ hH hS hL)
  · exact hz.elim
theorem s_aload {j : Nat}  (hx : p.tables.exec = Jvm.exec) (hb : c.code = cc) (hdg : decode cc pc = .ok (.aload a, 2))  (hz : zex1 (wX p l e R s m args below meth c Q B D cl dA aS nL bc bs) (.aload j, pc + 2, a, b, d, v) L st h cn sn) : wX p l e R s m args below meth c Q B D cl dA aS nL bc bs pc L st h cn sn := by
  intro hc1 hc2 H locs lsA hH hS hL
  unfold zex1 at hz
  dsimp only at hz
  split at hz
  · rename_i x hx9
    exact lv_aload hx hb hdg  (hL.2.2.2 _ _ hx9) (hz hc1 hc2 _ _ _ hH hS hL)
  · rename_i hx9
    exact lv_aloadN hx hb hdg  (hL.2.2.2 _ _ hx9) (hz hc1 hc2 _ _ _ hH hS hL)
  · rename_i x hx9
    exact lv_aload hx hb hdg  (hL.2.2.2 _ _ hx9) (hz hc1 hc2 _ _ _ hH hS hL)
  · exact hz.elim
theorem s_istore_n {j : Nat} {k : Fin 4} (hx : p.tables.exec = Jvm.exec) (hb : c.code = cc) (hdg : decode cc pc = .ok (.istore_n k, 1)) (hk : (k : Nat) = a) (hz : zex1 (wX p l e R s m args below meth c Q B D cl dA aS nL bc bs) (.istore j, pc + 1, a, b, d, v) L st h cn sn) : wX p l e R s m args below meth c Q B D cl dA aS nL bc bs pc L st h cn sn := by
  intro hc1 hc2 H locs lsA hH hS hL
  unfold zex1 at hz
  dsimp only at hz
  split at hz
  · exact lv_istore_n hx hb hdg hk hL.has (by have h9 := hz.1; rw [hL.1] at h9; exact h9) rfl (fun ls2 hl2 => hz.2 hc1 hc2 _ _ _ hH hS (zLs.store1 (zcv_cat B aS) rfl hL.1 hl2))
  · exact hz.elim
theorem s_istore {j : Nat}  (hx : p.tables.exec = Jvm.exec) (hb : c.code = cc) (hdg : decode cc pc = .ok (.istore a, 2))  (hz : zex1 (wX p l e R s m args below meth c Q B D cl dA aS nL bc bs) (.istore j, pc + 2, a, b, d, v) L st h cn sn) : wX p l e R s m args below meth c Q B D cl dA aS nL bc bs pc L st h cn sn := by
  intro hc1 hc2 H locs lsA hH hS hL
  unfold zex1 at hz
  dsimp only at hz
  split at hz
  · exact lv_istore hx hb hdg  hL.has (by have h9 := hz.1; rw [hL.1] at h9; exact h9) rfl (fun ls2 hl2 => hz.2 hc1 hc2 _ _ _ hH hS (zLs.store1 (zcv_cat B aS) rfl hL.1 hl2))
  · exact hz.elim
theorem s_lstore_n {j : Nat} {k : Fin 4} (hx : p.tables.exec = Jvm.exec) (hb : c.code = cc) (hdg : decode cc pc = .ok (.lstore_n k, 1)) (hk : (k : Nat) = a) (hz : zex1 (wX p l e R s m args below meth c Q B D cl dA aS nL bc bs) (.lstore j, pc + 1, a, b, d, v) L st h cn sn) : wX p l e R s m args below meth c Q B D cl dA aS nL bc bs pc L st h cn sn := by
  intro hc1 hc2 H locs lsA hH hS hL
  unfold zex1 at hz
  dsimp only at hz
  split at hz
  · exact lv_lstore_n hx hb hdg hk hL.has (by have h9 := hz.1; rw [hL.1] at h9; exact h9) rfl (fun ls2 hl2 => hz.2 hc1 hc2 _ _ _ hH hS (zLs.store2 (zcv_cat B aS) rfl hL.1 hl2))
  · exact hz.elim
theorem s_lstore {j : Nat}  (hx : p.tables.exec = Jvm.exec) (hb : c.code = cc) (hdg : decode cc pc = .ok (.lstore a, 2))  (hz : zex1 (wX p l e R s m args below meth c Q B D cl dA aS nL bc bs) (.lstore j, pc + 2, a, b, d, v) L st h cn sn) : wX p l e R s m args below meth c Q B D cl dA aS nL bc bs pc L st h cn sn := by
  intro hc1 hc2 H locs lsA hH hS hL
  unfold zex1 at hz
  dsimp only at hz
  split at hz
  · exact lv_lstore hx hb hdg  hL.has (by have h9 := hz.1; rw [hL.1] at h9; exact h9) rfl (fun ls2 hl2 => hz.2 hc1 hc2 _ _ _ hH hS (zLs.store2 (zcv_cat B aS) rfl hL.1 hl2))
  · exact hz.elim
theorem s_astore_n {j : Nat} {k : Fin 4} (hx : p.tables.exec = Jvm.exec) (hb : c.code = cc) (hdg : decode cc pc = .ok (.astore_n k, 1)) (hk : (k : Nat) = a) (hz : zex1 (wX p l e R s m args below meth c Q B D cl dA aS nL bc bs) (.astore j, pc + 1, a, b, d, v) L st h cn sn) : wX p l e R s m args below meth c Q B D cl dA aS nL bc bs pc L st h cn sn := by
  intro hc1 hc2 H locs lsA hH hS hL
  unfold zex1 at hz
  dsimp only at hz
  split at hz
  · exact lv_astore_n hx hb hdg hk hL.has (by have h9 := hz.1; rw [hL.1] at h9; exact h9) rfl (fun ls2 hl2 => hz.2 hc1 hc2 _ _ _ hH hS (zLs.store1 (zcv_cat B aS) rfl hL.1 hl2))
  · exact lv_astore_nN hx hb hdg hk hL.has (by have h9 := hz.1; rw [hL.1] at h9; exact h9) rfl (fun ls2 hl2 => hz.2 hc1 hc2 _ _ _ hH hS (zLs.store1 (zcv_cat B aS) rfl hL.1 hl2))
  · rename_i x s2
    exact lv_astore_n hx hb hdg hk hL.has (by have h9 := hz.1; rw [hL.1] at h9; exact h9) rfl (fun ls2 hl2 => hz.2 hc1 hc2 _ _ _ hH hS (zLs.store1 (x := .retAddr x) (zcv_cat B aS) rfl hL.1 hl2))
  · exact hz.elim
theorem s_astore {j : Nat}  (hx : p.tables.exec = Jvm.exec) (hb : c.code = cc) (hdg : decode cc pc = .ok (.astore a, 2))  (hz : zex1 (wX p l e R s m args below meth c Q B D cl dA aS nL bc bs) (.astore j, pc + 2, a, b, d, v) L st h cn sn) : wX p l e R s m args below meth c Q B D cl dA aS nL bc bs pc L st h cn sn := by
  intro hc1 hc2 H locs lsA hH hS hL
  unfold zex1 at hz
  dsimp only at hz
  split at hz
  · exact lv_astore hx hb hdg  hL.has (by have h9 := hz.1; rw [hL.1] at h9; exact h9) rfl (fun ls2 hl2 => hz.2 hc1 hc2 _ _ _ hH hS (zLs.store1 (zcv_cat B aS) rfl hL.1 hl2))
  · exact lv_astoreN hx hb hdg  hL.has (by have h9 := hz.1; rw [hL.1] at h9; exact h9) rfl (fun ls2 hl2 => hz.2 hc1 hc2 _ _ _ hH hS (zLs.store1 (zcv_cat B aS) rfl hL.1 hl2))
  · rename_i x s2
    exact lv_astore hx hb hdg  hL.has (by have h9 := hz.1; rw [hL.1] at h9; exact h9) rfl (fun ls2 hl2 => hz.2 hc1 hc2 _ _ _ hH hS (zLs.store1 (x := .retAddr x) (zcv_cat B aS) rfl hL.1 hl2))
  · exact hz.elim
theorem s_iinc {i z : Int} {j : Nat} (hx : p.tables.exec = Jvm.exec) (hb : c.code = cc) (hdg : decode cc pc = .ok (.iinc a i, 3)) (hv : v = .int (Int32.ofInt i)) (hz : zex1 (wX p l e R s m args below meth c Q B D cl dA aS nL bc bs) (.iinc j z, pc + 3, a, b, d, v) L st h cn sn) : wX p l e R s m args below meth c Q B D cl dA aS nL bc bs pc L st h cn sn := by
  intro hc1 hc2 H locs lsA hH hS hL
  unfold zex1 at hz
  dsimp only at hz
  subst hv
  split at hz
  · rename_i x y h9 h8
    cases h8
    obtain ⟨k9, hk9⟩ := List.getElem?_of_mem (zlv_mem (f := zcv B aS) (nL := nL) (L := L) (q := (a, .int x)) |>.mpr ⟨by have h7 := hz.1; rw [hL.1] at h7; exact h7, _, h9, rfl⟩)
    exact lv_iinc hx hb hdg hL.has hk9 rfl (by have h9 := hz.1; rw [hL.1] at h9; exact h9) rfl (fun ls2 hl2 => hz.2 hc1 hc2 _ _ _ hH hS (zLs.store1 (zcv_cat B aS) rfl hL.1 hl2))
  · exact hz.elim
theorem s_pop  (hx : p.tables.exec = Jvm.exec) (hb : c.code = cc) (hdg : decode cc pc = .ok (.pop, 1))  (hz : zex1 (wX p l e R s m args below meth c Q B D cl dA aS nL bc bs) (.pop, pc + 1, a, b, d, v) L st h cn sn) : wX p l e R s m args below meth c Q B D cl dA aS nL bc bs pc L st h cn sn := by
  intro hc1 hc2 H locs lsA hH hS hL
  unfold zex1 at hz
  dsimp only at hz
  split at hz
  · exact lv_pop hx hb hdg (by rw [zcv_cat]; exact hz.1) (hz.2 hc1 hc2 _ _ _ hH hS hL)
  · exact hz.elim
theorem s_dup  (hx : p.tables.exec = Jvm.exec) (hb : c.code = cc) (hdg : decode cc pc = .ok (.dup, 1))  (hz : zex1 (wX p l e R s m args below meth c Q B D cl dA aS nL bc bs) (.dup, pc + 1, a, b, d, v) L st h cn sn) : wX p l e R s m args below meth c Q B D cl dA aS nL bc bs pc L st h cn sn := by
  intro hc1 hc2 H locs lsA hH hS hL
  unfold zex1 at hz
  dsimp only at hz
  split at hz
  · exact lv_dup hx hb hdg (by rw [zcv_cat]; exact hz.1) (hz.2 hc1 hc2 _ _ _ hH hS hL)
  · exact hz.elim
theorem s_dup_x1  (hx : p.tables.exec = Jvm.exec) (hb : c.code = cc) (hdg : decode cc pc = .ok (.dup_x1, 1))  (hz : zex1 (wX p l e R s m args below meth c Q B D cl dA aS nL bc bs) (.dup_x1, pc + 1, a, b, d, v) L st h cn sn) : wX p l e R s m args below meth c Q B D cl dA aS nL bc bs pc L st h cn sn := by
  intro hc1 hc2 H locs lsA hH hS hL
  unfold zex1 at hz
  dsimp only at hz
  split at hz
  · exact lv_dup_x1 hx hb hdg (by rw [zcv_cat]; exact hz.1) (by rw [zcv_cat]; exact hz.2.1) (hz.2.2 hc1 hc2 _ _ _ hH hS hL)
  · exact hz.elim
theorem s_dup2  (hx : p.tables.exec = Jvm.exec) (hb : c.code = cc) (hdg : decode cc pc = .ok (.dup2, 1))  (hz : zex1 (wX p l e R s m args below meth c Q B D cl dA aS nL bc bs) (.dup2, pc + 1, a, b, d, v) L st h cn sn) : wX p l e R s m args below meth c Q B D cl dA aS nL bc bs pc L st h cn sn := by
  intro hc1 hc2 H locs lsA hH hS hL
  unfold zex1 at hz
  dsimp only at hz
  split at hz
  · exact lv_dup2_11 hx hb hdg (by rw [zcv_cat]; exact hz.1) (by rw [zcv_cat]; exact hz.2.1) (hz.2.2 hc1 hc2 _ _ _ hH hS hL)
  · exact hz.elim
theorem s_dupl  (hx : p.tables.exec = Jvm.exec) (hb : c.code = cc) (hdg : decode cc pc = .ok (.dup2, 1))  (hz : zex1 (wX p l e R s m args below meth c Q B D cl dA aS nL bc bs) (.dup2_x1, pc + 1, a, b, d, v) L st h cn sn) : wX p l e R s m args below meth c Q B D cl dA aS nL bc bs pc L st h cn sn := by
  intro hc1 hc2 H locs lsA hH hS hL
  unfold zex1 at hz
  dsimp only at hz
  split at hz
  · exact lv_dup2_2 hx hb hdg (by rw [zcv_cat]; exact hz.1) (hz.2 hc1 hc2 _ _ _ hH hS hL)
  · exact hz.elim
theorem s_iadd  (hx : p.tables.exec = Jvm.exec) (hb : c.code = cc) (hdg : decode cc pc = .ok (.iadd, 1))  (hz : zex1 (wX p l e R s m args below meth c Q B D cl dA aS nL bc bs) (.iadd, pc + 1, a, b, d, v) L st h cn sn) : wX p l e R s m args below meth c Q B D cl dA aS nL bc bs pc L st h cn sn := by
  intro hc1 hc2 H locs lsA hH hS hL
  unfold zex1 at hz
  dsimp only at hz
  split at hz <;> first | exact hz.elim | exact lv_iadd hx hb hdg (hz hc1 hc2 _ _ _ hH hS hL)
theorem s_isub  (hx : p.tables.exec = Jvm.exec) (hb : c.code = cc) (hdg : decode cc pc = .ok (.isub, 1))  (hz : zex1 (wX p l e R s m args below meth c Q B D cl dA aS nL bc bs) (.isub, pc + 1, a, b, d, v) L st h cn sn) : wX p l e R s m args below meth c Q B D cl dA aS nL bc bs pc L st h cn sn := by
  intro hc1 hc2 H locs lsA hH hS hL
  unfold zex1 at hz
  dsimp only at hz
  split at hz <;> first | exact hz.elim | exact lv_isub hx hb hdg (hz hc1 hc2 _ _ _ hH hS hL)
theorem s_imul  (hx : p.tables.exec = Jvm.exec) (hb : c.code = cc) (hdg : decode cc pc = .ok (.imul, 1))  (hz : zex1 (wX p l e R s m args below meth c Q B D cl dA aS nL bc bs) (.imul, pc + 1, a, b, d, v) L st h cn sn) : wX p l e R s m args below meth c Q B D cl dA aS nL bc bs pc L st h cn sn := by
  intro hc1 hc2 H locs lsA hH hS hL
  unfold zex1 at hz
  dsimp only at hz
  split at hz <;> first | exact hz.elim | exact lv_imul hx hb hdg (hz hc1 hc2 _ _ _ hH hS hL)
theorem s_iand  (hx : p.tables.exec = Jvm.exec) (hb : c.code = cc) (hdg : decode cc pc = .ok (.iand, 1))  (hz : zex1 (wX p l e R s m args below meth c Q B D cl dA aS nL bc bs) (.iand, pc + 1, a, b, d, v) L st h cn sn) : wX p l e R s m args below meth c Q B D cl dA aS nL bc bs pc L st h cn sn := by
  intro hc1 hc2 H locs lsA hH hS hL
  unfold zex1 at hz
  dsimp only at hz
  split at hz <;> first | exact hz.elim | exact lv_iand hx hb hdg (hz hc1 hc2 _ _ _ hH hS hL)
theorem s_ior  (hx : p.tables.exec = Jvm.exec) (hb : c.code = cc) (hdg : decode cc pc = .ok (.ior, 1))  (hz : zex1 (wX p l e R s m args below meth c Q B D cl dA aS nL bc bs) (.ior, pc + 1, a, b, d, v) L st h cn sn) : wX p l e R s m args below meth c Q B D cl dA aS nL bc bs pc L st h cn sn := by
  intro hc1 hc2 H locs lsA hH hS hL
  unfold zex1 at hz
  dsimp only at hz
  split at hz <;> first | exact hz.elim | exact lv_ior hx hb hdg (hz hc1 hc2 _ _ _ hH hS hL)
theorem s_ishl  (hx : p.tables.exec = Jvm.exec) (hb : c.code = cc) (hdg : decode cc pc = .ok (.ishl, 1))  (hz : zex1 (wX p l e R s m args below meth c Q B D cl dA aS nL bc bs) (.ishl, pc + 1, a, b, d, v) L st h cn sn) : wX p l e R s m args below meth c Q B D cl dA aS nL bc bs pc L st h cn sn := by
  intro hc1 hc2 H locs lsA hH hS hL
  unfold zex1 at hz
  dsimp only at hz
  split at hz <;> first | exact hz.elim | exact lv_ishl hx hb hdg (hz hc1 hc2 _ _ _ hH hS hL)
theorem s_ishr  (hx : p.tables.exec = Jvm.exec) (hb : c.code = cc) (hdg : decode cc pc = .ok (.ishr, 1))  (hz : zex1 (wX p l e R s m args below meth c Q B D cl dA aS nL bc bs) (.ishr, pc + 1, a, b, d, v) L st h cn sn) : wX p l e R s m args below meth c Q B D cl dA aS nL bc bs pc L st h cn sn := by
  intro hc1 hc2 H locs lsA hH hS hL
  unfold zex1 at hz
  dsimp only at hz
  split at hz <;> first | exact hz.elim | exact lv_ishr hx hb hdg (hz hc1 hc2 _ _ _ hH hS hL)
theorem s_ladd  (hx : p.tables.exec = Jvm.exec) (hb : c.code = cc) (hdg : decode cc pc = .ok (.ladd, 1))  (hz : zex1 (wX p l e R s m args below meth c Q B D cl dA aS nL bc bs) (.ladd, pc + 1, a, b, d, v) L st h cn sn) : wX p l e R s m args below meth c Q B D cl dA aS nL bc bs pc L st h cn sn := by
  intro hc1 hc2 H locs lsA hH hS hL
  unfold zex1 at hz
  dsimp only at hz
  split at hz <;> first | exact hz.elim | exact lv_ladd hx hb hdg (hz hc1 hc2 _ _ _ hH hS hL)
theorem s_lsub  (hx : p.tables.exec = Jvm.exec) (hb : c.code = cc) (hdg : decode cc pc = .ok (.lsub, 1))  (hz : zex1 (wX p l e R s m args below meth c Q B D cl dA aS nL bc bs) (.lsub, pc + 1, a, b, d, v) L st h cn sn) : wX p l e R s m args below meth c Q B D cl dA aS nL bc bs pc L st h cn sn := by
  intro hc1 hc2 H locs lsA hH hS hL
  unfold zex1 at hz
  dsimp only at hz
  split at hz <;> first | exact hz.elim | exact lv_lsub hx hb hdg (hz hc1 hc2 _ _ _ hH hS hL)
theorem s_lmul  (hx : p.tables.exec = Jvm.exec) (hb : c.code = cc) (hdg : decode cc pc = .ok (.lmul, 1))  (hz : zex1 (wX p l e R s m args below meth c Q B D cl dA aS nL bc bs) (.lmul, pc + 1, a, b, d, v) L st h cn sn) : wX p l e R s m args below meth c Q B D cl dA aS nL bc bs pc L st h cn sn := by
  intro hc1 hc2 H locs lsA hH hS hL
  unfold zex1 at hz
  dsimp only at hz
  split at hz <;> first | exact hz.elim | exact lv_lmul hx hb hdg (hz hc1 hc2 _ _ _ hH hS hL)
theorem s_land  (hx : p.tables.exec = Jvm.exec) (hb : c.code = cc) (hdg : decode cc pc = .ok (.land, 1))  (hz : zex1 (wX p l e R s m args below meth c Q B D cl dA aS nL bc bs) (.land, pc + 1, a, b, d, v) L st h cn sn) : wX p l e R s m args below meth c Q B D cl dA aS nL bc bs pc L st h cn sn := by
  intro hc1 hc2 H locs lsA hH hS hL
  unfold zex1 at hz
  dsimp only at hz
  split at hz <;> first | exact hz.elim | exact lv_land hx hb hdg (hz hc1 hc2 _ _ _ hH hS hL)
theorem s_lor  (hx : p.tables.exec = Jvm.exec) (hb : c.code = cc) (hdg : decode cc pc = .ok (.lor, 1))  (hz : zex1 (wX p l e R s m args below meth c Q B D cl dA aS nL bc bs) (.lor, pc + 1, a, b, d, v) L st h cn sn) : wX p l e R s m args below meth c Q B D cl dA aS nL bc bs pc L st h cn sn := by
  intro hc1 hc2 H locs lsA hH hS hL
  unfold zex1 at hz
  dsimp only at hz
  split at hz <;> first | exact hz.elim | exact lv_lor hx hb hdg (hz hc1 hc2 _ _ _ hH hS hL)
theorem s_lxor  (hx : p.tables.exec = Jvm.exec) (hb : c.code = cc) (hdg : decode cc pc = .ok (.lxor, 1))  (hz : zex1 (wX p l e R s m args below meth c Q B D cl dA aS nL bc bs) (.lxor, pc + 1, a, b, d, v) L st h cn sn) : wX p l e R s m args below meth c Q B D cl dA aS nL bc bs pc L st h cn sn := by
  intro hc1 hc2 H locs lsA hH hS hL
  unfold zex1 at hz
  dsimp only at hz
  split at hz <;> first | exact hz.elim | exact lv_lxor hx hb hdg (hz hc1 hc2 _ _ _ hH hS hL)
theorem s_lneg  (hx : p.tables.exec = Jvm.exec) (hb : c.code = cc) (hdg : decode cc pc = .ok (.lneg, 1))  (hz : zex1 (wX p l e R s m args below meth c Q B D cl dA aS nL bc bs) (.lneg, pc + 1, a, b, d, v) L st h cn sn) : wX p l e R s m args below meth c Q B D cl dA aS nL bc bs pc L st h cn sn := by
  intro hc1 hc2 H locs lsA hH hS hL
  unfold zex1 at hz
  dsimp only at hz
  split at hz <;> first | exact hz.elim | exact lv_lneg hx hb hdg (hz hc1 hc2 _ _ _ hH hS hL)
theorem s_idiv  (hx : p.tables.exec = Jvm.exec) (hb : c.code = cc) (hdg : decode cc pc = .ok (.idiv, 1))  (hz : zex1 (wX p l e R s m args below meth c Q B D cl dA aS nL bc bs) (.idiv, pc + 1, a, b, d, v) L st h cn sn) : wX p l e R s m args below meth c Q B D cl dA aS nL bc bs pc L st h cn sn := by
  intro hc1 hc2 H locs lsA hH hS hL
  unfold zex1 at hz
  dsimp only at hz
  split at hz <;> first | exact hz.elim | exact lv_idiv hx hb hdg hz.1 (hz.2 hc1 hc2 _ _ _ hH hS hL)
theorem s_ldiv  (hx : p.tables.exec = Jvm.exec) (hb : c.code = cc) (hdg : decode cc pc = .ok (.ldiv, 1))  (hz : zex1 (wX p l e R s m args below meth c Q B D cl dA aS nL bc bs) (.ldiv, pc + 1, a, b, d, v) L st h cn sn) : wX p l e R s m args below meth c Q B D cl dA aS nL bc bs pc L st h cn sn := by
  intro hc1 hc2 H locs lsA hH hS hL
  unfold zex1 at hz
  dsimp only at hz
  split at hz <;> first | exact hz.elim | exact lv_ldiv hx hb hdg hz.1 (hz.2 hc1 hc2 _ _ _ hH hS hL)
theorem s_lrem  (hx : p.tables.exec = Jvm.exec) (hb : c.code = cc) (hdg : decode cc pc = .ok (.lrem, 1))  (hz : zex1 (wX p l e R s m args below meth c Q B D cl dA aS nL bc bs) (.lrem, pc + 1, a, b, d, v) L st h cn sn) : wX p l e R s m args below meth c Q B D cl dA aS nL bc bs pc L st h cn sn := by
  intro hc1 hc2 H locs lsA hH hS hL
  unfold zex1 at hz
  dsimp only at hz
  split at hz <;> first | exact hz.elim | exact lv_lrem hx hb hdg hz.1 (hz.2 hc1 hc2 _ _ _ hH hS hL)
theorem s_lshl  (hx : p.tables.exec = Jvm.exec) (hb : c.code = cc) (hdg : decode cc pc = .ok (.lshl, 1))  (hz : zex1 (wX p l e R s m args below meth c Q B D cl dA aS nL bc bs) (.lshl, pc + 1, a, b, d, v) L st h cn sn) : wX p l e R s m args below meth c Q B D cl dA aS nL bc bs pc L st h cn sn := by
  intro hc1 hc2 H locs lsA hH hS hL
  unfold zex1 at hz
  dsimp only at hz
  split at hz <;> first | exact hz.elim | exact lv_lshl hx hb hdg rfl (hz hc1 hc2 _ _ _ hH hS hL)
theorem s_lshr  (hx : p.tables.exec = Jvm.exec) (hb : c.code = cc) (hdg : decode cc pc = .ok (.lshr, 1))  (hz : zex1 (wX p l e R s m args below meth c Q B D cl dA aS nL bc bs) (.lshr, pc + 1, a, b, d, v) L st h cn sn) : wX p l e R s m args below meth c Q B D cl dA aS nL bc bs pc L st h cn sn := by
  intro hc1 hc2 H locs lsA hH hS hL
  unfold zex1 at hz
  dsimp only at hz
  split at hz <;> first | exact hz.elim | exact lv_lshr hx hb hdg rfl (hz hc1 hc2 _ _ _ hH hS hL)
theorem s_i2l  (hx : p.tables.exec = Jvm.exec) (hb : c.code = cc) (hdg : decode cc pc = .ok (.i2l, 1))  (hz : zex1 (wX p l e R s m args below meth c Q B D cl dA aS nL bc bs) (.i2l, pc + 1, a, b, d, v) L st h cn sn) : wX p l e R s m args below meth c Q B D cl dA aS nL bc bs pc L st h cn sn := by
  intro hc1 hc2 H locs lsA hH hS hL
  unfold zex1 at hz
  dsimp only at hz
  split at hz <;> first | exact hz.elim | exact lv_i2l hx hb hdg rfl (hz hc1 hc2 _ _ _ hH hS hL)
theorem s_l2i  (hx : p.tables.exec = Jvm.exec) (hb : c.code = cc) (hdg : decode cc pc = .ok (.l2i, 1))  (hz : zex1 (wX p l e R s m args below meth c Q B D cl dA aS nL bc bs) (.l2i, pc + 1, a, b, d, v) L st h cn sn) : wX p l e R s m args below meth c Q B D cl dA aS nL bc bs pc L st h cn sn := by
  intro hc1 hc2 H locs lsA hH hS hL
  unfold zex1 at hz
  dsimp only at hz
  split at hz <;> first | exact hz.elim | exact lv_l2i hx hb hdg rfl (hz hc1 hc2 _ _ _ hH hS hL)
theorem s_i2b  (hx : p.tables.exec = Jvm.exec) (hb : c.code = cc) (hdg : decode cc pc = .ok (.i2b, 1))  (hz : zex1 (wX p l e R s m args below meth c Q B D cl dA aS nL bc bs) (.i2b, pc + 1, a, b, d, v) L st h cn sn) : wX p l e R s m args below meth c Q B D cl dA aS nL bc bs pc L st h cn sn := by
  intro hc1 hc2 H locs lsA hH hS hL
  unfold zex1 at hz
  dsimp only at hz
  split at hz <;> first | exact hz.elim | exact lv_i2b hx hb hdg rfl (hz hc1 hc2 _ _ _ hH hS hL)
theorem s_lcmp  (hx : p.tables.exec = Jvm.exec) (hb : c.code = cc) (hdg : decode cc pc = .ok (.lcmp, 1))  (hz : zex1 (wX p l e R s m args below meth c Q B D cl dA aS nL bc bs) (.lcmp, pc + 1, a, b, d, v) L st h cn sn) : wX p l e R s m args below meth c Q B D cl dA aS nL bc bs pc L st h cn sn := by
  intro hc1 hc2 H locs lsA hH hS hL
  unfold zex1 at hz
  dsimp only at hz
  split at hz <;> first | exact hz.elim | exact W.lcmp hx hb hdg (hz hc1 hc2 _ _ _ hH hS hL)
theorem s_goto {i z : Int} (hx : p.tables.exec = Jvm.exec) (hb : c.code = cc) (hdg : decode cc pc = .ok (.goto i, 3)) (ht : (pc : Int) + i = (a : Int)) (hz : zex1 (wX p l e R s m args below meth c Q B D cl dA aS nL bc bs) (.goto z, pc + 3, a, b, d, v) L st h cn sn) : wX p l e R s m args below meth c Q B D cl dA aS nL bc bs pc L st h cn sn := by
  intro hc1 hc2 H locs lsA hH hS hL
  unfold zex1 at hz
  dsimp only at hz
  exact lv_goto hx hb hdg ht (hz hc1 hc2 _ _ _ hH hS hL)
theorem s_if_eq {i z : Int} (hx : p.tables.exec = Jvm.exec) (hb : c.code = cc) (hdg : decode cc pc = .ok (.ifCond .eq i, 3)) (ht : (pc : Int) + i = (a : Int)) (hz : zex1 (wX p l e R s m args below meth c Q B D cl dA aS nL bc bs) (.ifCond .eq z, pc + 3, a, b, d, v) L st h cn sn) : wX p l e R s m args below meth c Q B D cl dA aS nL bc bs pc L st h cn sn := by
  intro hc1 hc2 H locs lsA hH hS hL
  unfold zex1 at hz
  dsimp only at hz
  split at hz <;> first | exact hz.elim | exact lv_if_eq hx hb hdg ht (fun q9 => hz.1 q9 hc1 hc2 _ _ _ hH hS hL) (fun q9 => hz.2 q9 hc1 hc2 _ _ _ hH hS hL)
theorem s_icmp_eq {i z : Int} (hx : p.tables.exec = Jvm.exec) (hb : c.code = cc) (hdg : decode cc pc = .ok (.if_icmp .eq i, 3)) (ht : (pc : Int) + i = (a : Int)) (hz : zex1 (wX p l e R s m args below meth c Q B D cl dA aS nL bc bs) (.if_icmp .eq z, pc + 3, a, b, d, v) L st h cn sn) : wX p l e R s m args below meth c Q B D cl dA aS nL bc bs pc L st h cn sn := by
  intro hc1 hc2 H locs lsA hH hS hL
  unfold zex1 at hz
  dsimp only at hz
  split at hz <;> first | exact hz.elim | exact lv_icmp_eq hx hb hdg ht (fun q9 => hz.1 q9 hc1 hc2 _ _ _ hH hS hL) (fun q9 => hz.2 q9 hc1 hc2 _ _ _ hH hS hL)
theorem s_if_ne {i z : Int} (hx : p.tables.exec = Jvm.exec) (hb : c.code = cc) (hdg : decode cc pc = .ok (.ifCond .ne i, 3)) (ht : (pc : Int) + i = (a : Int)) (hz : zex1 (wX p l e R s m args below meth c Q B D cl dA aS nL bc bs) (.ifCond .ne z, pc + 3, a, b, d, v) L st h cn sn) : wX p l e R s m args below meth c Q B D cl dA aS nL bc bs pc L st h cn sn := by
  intro hc1 hc2 H locs lsA hH hS hL
  unfold zex1 at hz
  dsimp only at hz
  split at hz <;> first | exact hz.elim | exact lv_if_ne hx hb hdg ht (fun q9 => hz.1 q9 hc1 hc2 _ _ _ hH hS hL) (fun q9 => hz.2 (by show ¬ ¬ _; exact fun z9 => z9 q9) hc1 hc2 _ _ _ hH hS hL)
theorem s_icmp_ne {i z : Int} (hx : p.tables.exec = Jvm.exec) (hb : c.code = cc) (hdg : decode cc pc = .ok (.if_icmp .ne i, 3)) (ht : (pc : Int) + i = (a : Int)) (hz : zex1 (wX p l e R s m args below meth c Q B D cl dA aS nL bc bs) (.if_icmp .ne z, pc + 3, a, b, d, v) L st h cn sn) : wX p l e R s m args below meth c Q B D cl dA aS nL bc bs pc L st h cn sn := by
  intro hc1 hc2 H locs lsA hH hS hL
  unfold zex1 at hz
  dsimp only at hz
  split at hz <;> first | exact hz.elim | exact lv_icmp_ne hx hb hdg ht (fun q9 => hz.1 q9 hc1 hc2 _ _ _ hH hS hL) (fun q9 => hz.2 (by show ¬ ¬ _; exact fun z9 => z9 q9) hc1 hc2 _ _ _ hH hS hL)
theorem s_if_lt {i z : Int} (hx : p.tables.exec = Jvm.exec) (hb : c.code = cc) (hdg : decode cc pc = .ok (.ifCond .lt i, 3)) (ht : (pc : Int) + i = (a : Int)) (hz : zex1 (wX p l e R s m args below meth c Q B D cl dA aS nL bc bs) (.ifCond .lt z, pc + 3, a, b, d, v) L st h cn sn) : wX p l e R s m args below meth c Q B D cl dA aS nL bc bs pc L st h cn sn := by
  intro hc1 hc2 H locs lsA hH hS hL
  unfold zex1 at hz
  dsimp only at hz
  split at hz <;> first | exact hz.elim | exact lv_if_lt hx hb hdg ht (fun q9 => hz.1 q9 hc1 hc2 _ _ _ hH hS hL) (fun q9 => hz.2 q9 hc1 hc2 _ _ _ hH hS hL)
theorem s_icmp_lt {i z : Int} (hx : p.tables.exec = Jvm.exec) (hb : c.code = cc) (hdg : decode cc pc = .ok (.if_icmp .lt i, 3)) (ht : (pc : Int) + i = (a : Int)) (hz : zex1 (wX p l e R s m args below meth c Q B D cl dA aS nL bc bs) (.if_icmp .lt z, pc + 3, a, b, d, v) L st h cn sn) : wX p l e R s m args below meth c Q B D cl dA aS nL bc bs pc L st h cn sn := by
  intro hc1 hc2 H locs lsA hH hS hL
  unfold zex1 at hz
  dsimp only at hz
  split at hz <;> first | exact hz.elim | exact lv_icmp_lt hx hb hdg ht (fun q9 => hz.1 q9 hc1 hc2 _ _ _ hH hS hL) (fun q9 => hz.2 q9 hc1 hc2 _ _ _ hH hS hL)
theorem s_if_ge {i z : Int} (hx : p.tables.exec = Jvm.exec) (hb : c.code = cc) (hdg : decode cc pc = .ok (.ifCond .ge i, 3)) (ht : (pc : Int) + i = (a : Int)) (hz : zex1 (wX p l e R s m args below meth c Q B D cl dA aS nL bc bs) (.ifCond .ge z, pc + 3, a, b, d, v) L st h cn sn) : wX p l e R s m args below meth c Q B D cl dA aS nL bc bs pc L st h cn sn := by
  intro hc1 hc2 H locs lsA hH hS hL
  unfold zex1 at hz
  dsimp only at hz
  split at hz <;> first | exact hz.elim | exact lv_if_ge hx hb hdg ht (fun q9 => hz.1 q9 hc1 hc2 _ _ _ hH hS hL) (fun q9 => hz.2 q9 hc1 hc2 _ _ _ hH hS hL)
theorem s_icmp_ge {i z : Int} (hx : p.tables.exec = Jvm.exec) (hb : c.code = cc) (hdg : decode cc pc = .ok (.if_icmp .ge i, 3)) (ht : (pc : Int) + i = (a : Int)) (hz : zex1 (wX p l e R s m args below meth c Q B D cl dA aS nL bc bs) (.if_icmp .ge z, pc + 3, a, b, d, v) L st h cn sn) : wX p l e R s m args below meth c Q B D cl dA aS nL bc bs pc L st h cn sn := by
  intro hc1 hc2 H locs lsA hH hS hL
  unfold zex1 at hz
  dsimp only at hz
  split at hz <;> first | exact hz.elim | exact lv_icmp_ge hx hb hdg ht (fun q9 => hz.1 q9 hc1 hc2 _ _ _ hH hS hL) (fun q9 => hz.2 q9 hc1 hc2 _ _ _ hH hS hL)
theorem s_if_gt {i z : Int} (hx : p.tables.exec = Jvm.exec) (hb : c.code = cc) (hdg : decode cc pc = .ok (.ifCond .gt i, 3)) (ht : (pc : Int) + i = (a : Int)) (hz : zex1 (wX p l e R s m args below meth c Q B D cl dA aS nL bc bs) (.ifCond .gt z, pc + 3, a, b, d, v) L st h cn sn) : wX p l e R s m args below meth c Q B D cl dA aS nL bc bs pc L st h cn sn := by
  intro hc1 hc2 H locs lsA hH hS hL
  unfold zex1 at hz
  dsimp only at hz
  split at hz <;> first | exact hz.elim | exact lv_if_gt hx hb hdg ht (fun q9 => hz.1 q9 hc1 hc2 _ _ _ hH hS hL) (fun q9 => hz.2 q9 hc1 hc2 _ _ _ hH hS hL)
theorem s_icmp_gt {i z : Int} (hx : p.tables.exec = Jvm.exec) (hb : c.code = cc) (hdg : decode cc pc = .ok (.if_icmp .gt i, 3)) (ht : (pc : Int) + i = (a : Int)) (hz : zex1 (wX p l e R s m args below meth c Q B D cl dA aS nL bc bs) (.if_icmp .gt z, pc + 3, a, b, d, v) L st h cn sn) : wX p l e R s m args below meth c Q B D cl dA aS nL bc bs pc L st h cn sn := by
  intro hc1 hc2 H locs lsA hH hS hL
  unfold zex1 at hz
  dsimp only at hz
  split at hz <;> first | exact hz.elim | exact lv_icmp_gt hx hb hdg ht (fun q9 => hz.1 q9 hc1 hc2 _ _ _ hH hS hL) (fun q9 => hz.2 q9 hc1 hc2 _ _ _ hH hS hL)
theorem s_if_le {i z : Int} (hx : p.tables.exec = Jvm.exec) (hb : c.code = cc) (hdg : decode cc pc = .ok (.ifCond .le i, 3)) (ht : (pc : Int) + i = (a : Int)) (hz : zex1 (wX p l e R s m args below meth c Q B D cl dA aS nL bc bs) (.ifCond .le z, pc + 3, a, b, d, v) L st h cn sn) : wX p l e R s m args below meth c Q B D cl dA aS nL bc bs pc L st h cn sn := by
  intro hc1 hc2 H locs lsA hH hS hL
  unfold zex1 at hz
  dsimp only at hz
  split at hz <;> first | exact hz.elim | exact lv_if_le hx hb hdg ht (fun q9 => hz.1 q9 hc1 hc2 _ _ _ hH hS hL) (fun q9 => hz.2 q9 hc1 hc2 _ _ _ hH hS hL)
theorem s_icmp_le {i z : Int} (hx : p.tables.exec = Jvm.exec) (hb : c.code = cc) (hdg : decode cc pc = .ok (.if_icmp .le i, 3)) (ht : (pc : Int) + i = (a : Int)) (hz : zex1 (wX p l e R s m args below meth c Q B D cl dA aS nL bc bs) (.if_icmp .le z, pc + 3, a, b, d, v) L st h cn sn) : wX p l e R s m args below meth c Q B D cl dA aS nL bc bs pc L st h cn sn := by
  intro hc1 hc2 H locs lsA hH hS hL
  unfold zex1 at hz
  dsimp only at hz
  split at hz <;> first | exact hz.elim | exact lv_icmp_le hx hb hdg ht (fun q9 => hz.1 q9 hc1 hc2 _ _ _ hH hS hL) (fun q9 => hz.2 q9 hc1 hc2 _ _ _ hH hS hL)
theorem s_ifnull {i z : Int} (hx : p.tables.exec = Jvm.exec) (hb : c.code = cc) (hdg : decode cc pc = .ok (.ifnull i, 3)) (ht : (pc : Int) + i = (a : Int)) (hz : zex1 (wX p l e R s m args below meth c Q B D cl dA aS nL bc bs) (.ifnull z, pc + 3, a, b, d, v) L st h cn sn) : wX p l e R s m args below meth c Q B D cl dA aS nL bc bs pc L st h cn sn := by
  intro hc1 hc2 H locs lsA hH hS hL
  unfold zex1 at hz
  dsimp only at hz
  split at hz
  · exact lv_ifnullN hx hb hdg ht (hz hc1 hc2 _ _ _ hH hS hL)
  · exact lv_ifnull hx hb hdg (hz hc1 hc2 _ _ _ hH hS hL)
  · exact hz.elim
theorem s_ifnonnull {i z : Int} (hx : p.tables.exec = Jvm.exec) (hb : c.code = cc) (hdg : decode cc pc = .ok (.ifnonnull i, 3)) (ht : (pc : Int) + i = (a : Int)) (hz : zex1 (wX p l e R s m args below meth c Q B D cl dA aS nL bc bs) (.ifnonnull z, pc + 3, a, b, d, v) L st h cn sn) : wX p l e R s m args below meth c Q B D cl dA aS nL bc bs pc L st h cn sn := by
  intro hc1 hc2 H locs lsA hH hS hL
  unfold zex1 at hz
  dsimp only at hz
  split at hz
  · exact lv_ifnonnullN hx hb hdg (hz hc1 hc2 _ _ _ hH hS hL)
  · exact lv_ifnonnull hx hb hdg ht (hz hc1 hc2 _ _ _ hH hS hL)
  · exact hz.elim
end SIM1
