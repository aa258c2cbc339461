section
/-! what the small machine's states are in the machine's own -/
noncomputable def zcv (B : Nat) (aS : Nat → Nat) : Value → Value
  | .ref i => .ref (B + i)
  | .retAddr k => .ref (aS k)
  | w => w
theorem zcv_cat (B : Nat) (aS : Nat → Nat) (w : Value) : (zcv B aS w).category = w.category := by cases w <;> rfl
theorem zcv_sum (B : Nat) (aS : Nat → Nat) (s : List Value) : ((s.map (zcv B aS)).map fun v => v.category) = s.map fun v => v.category := by
  rw [List.map_map]
  exact List.map_congr_left fun w _ => zcv_cat B aS w
noncomputable def zcA (B : Nat) (x : vp_A) : vp_A := match x with
  | (N, .inr (.inr (.inr (.inr f)))) => (N, .inr (.inr (.inr (.inr (fun j => (f j).map (fun a => B + a))))))
  | (N, y) => (N, y)
noncomputable def zcE (B : Nat) (dA : Nat → ClassId) (aS : Nat → Nat) : zC → va_E
  | .inl (k, x) => .inl (dA k, zcA B x)
  | .inr (k, fs) => .inr (k, fs.map (zcv B aS))
noncomputable def zhR (B : Nat) (D : va_G) (cl : List vw_C) (dA : Nat → ClassId) (aS : Nat → Nat) (h : zH) (H : Heap) : Prop :=
  H.size = B + h.length ∧ ∀ (i : Nat) (e : zC), h[i]? = some e → va_at D cl (B + i, zcE B dA aS e) H
noncomputable def zLs (f : Value → Value) (nL : Nat) (L : zL) (ls : Array Slot) : Prop := L.length = nL ∧ ls.size = nL ∧ lv_wf ls ∧ ∀ (i : Nat) (v : Value), L.getD i none = some v → ls[i]? = some (.val (f v))
noncomputable def zlv (f : Value → Value) (nL : Nat) (L : zL) : List (Nat × Value) := (List.range nL).filterMap (fun i => (L.getD i none).map (fun v => (i, f v)))
theorem zlv_mem {f : Value → Value} {nL : Nat} {L : zL} {q : Nat × Value} : q ∈ zlv f nL L ↔ q.1 < nL ∧ ∃ v, L.getD q.1 none = some v ∧ q.2 = f v := by
  unfold zlv
  rw [List.mem_filterMap]
  constructor
  · rintro ⟨i, hi, h⟩
    obtain ⟨v, hv, rfl⟩ := Option.map_eq_some_iff.mp h
    exact ⟨List.mem_range.mp hi, v, hv, rfl⟩
  · rintro ⟨h1, v, h2, h3⟩
    refine ⟨q.1, List.mem_range.mpr h1, ?_⟩
    rw [h2, Option.map_some, ← h3]
theorem zLs.has {f : Value → Value} {nL : Nat} {L : zL} {ls : Array Slot} (h : zLs f nL L ls) : lv_has ls nL (zlv f nL L) := ⟨h.2.1, h.2.2.1, fun q hq => by
  obtain ⟨-, v, h2, h3⟩ := zlv_mem.mp hq
  rw [h3]
  exact h.2.2.2 _ _ h2⟩
theorem zkp_get {i : Nat} {x : Option Value} {w : Value} (h : zkp i x = some w) : x = some w ∧ (i = 0 → w.category ≠ 2) := by
  unfold zkp at h
  by_cases hi : i = 0
  · rw [show (i == 0) = true by simp [hi]] at h
    cases x with
    | none => cases h
    | some y =>
      have h2 : (bif y.category == 2 then none else some y) = some w := h
      by_cases hy : y.category = 2
      · rw [show (y.category == 2) = true by simp [hy]] at h2
        cases h2
      · rw [show (y.category == 2) = false by simp [hy]] at h2
        cases h2
        exact ⟨rfl, fun _ => hy⟩
  · rw [show (i == 0) = false by simp [hi]] at h
    exact ⟨h, fun q => absurd q hi⟩
theorem zst_get : ∀ {L : zL} {i j : Nat} {v w : Value}, (zst L i v).getD j none = some w → (j = i ∧ w = v) ∨ (j ≠ i ∧ L.getD j none = some w ∧ (j + 1 = i → w.category ≠ 2) ∧ (v.category = 2 → j ≠ i + 1))
  | [], i, j, v, w, h => by simp [zst] at h
  | x :: xs, 0, j, v, w, h => by
    unfold zst at h
    cases j with
    | zero =>
      have h' : some v = some w := h
      exact Or.inl ⟨rfl, (Option.some.inj h').symm⟩
    | succ j =>
      by_cases hc : v.category = 2
      · rw [show (v.category == 2) = true by simp [hc]] at h
        have h' : (match xs with
          | [] => ([] : zL)
          | _ :: ys => none :: ys).getD j none = some w := h
        cases xs with
        | nil => simp at h'
        | cons y ys =>
          cases j with
          | zero => simp at h'
          | succ j => exact Or.inr ⟨by omega, h', fun q => by omega, fun _ => by omega⟩
      · rw [show (v.category == 2) = false by simp [hc]] at h
        have h' : xs.getD j none = some w := h
        exact Or.inr ⟨by omega, h', fun q => by omega, fun q => absurd q hc⟩
  | x :: xs, i + 1, j, v, w, h => by
    unfold zst at h
    cases j with
    | zero =>
      have h' : zkp i x = some w := h
      obtain ⟨h1, h2⟩ := zkp_get h'
      exact Or.inr ⟨by omega, h1, fun q => h2 (by omega), fun _ => by omega⟩
    | succ j =>
      have h' : (zst xs i v).getD j none = some w := h
      rcases zst_get h' with ⟨rfl, rfl⟩ | ⟨q1, q2, q3, q4⟩
      · exact Or.inl ⟨rfl, rfl⟩
      · exact Or.inr ⟨by omega, q2, fun q => q3 (by omega), fun q => by have := q4 q; omega⟩
theorem zst_len : ∀ (L : zL) (i : Nat) (v : Value), (zst L i v).length = L.length
  | [], _, _ => rfl
  | x :: xs, 0, v => by
    unfold zst
    cases (v.category == 2)
    · rfl
    · cases xs <;> rfl
  | x :: xs, i + 1, v => by
    unfold zst
    rw [List.length_cons, List.length_cons, zst_len xs i v]
theorem zLs.store1 {f : Value → Value} (hf : ∀ w, (f w).category = w.category) {nL i : Nat} {L : zL} {x : Value} (hx : x.category = 1) (hl : L.length = nL) {ls' : Array Slot} (h : lv_has ls' nL ((i, f x) :: (zlv f nL L).filter (fun q => !(q.1 == i) && !(q.1 + 1 == i && q.2.category == 2)))) : zLs f nL (zst L i x) ls' := by
  refine ⟨by rw [zst_len]; exact hl, h.1, h.2.1, fun j w hw => ?_⟩
  rcases zst_get hw with ⟨rfl, rfl⟩ | ⟨h1, h3, h4, h5⟩
  · exact h.2.2 (j, f w) List.mem_cons_self
  · have hj : j < nL := by
      rw [← hl]
      rw [List.getD_eq_getElem?_getD] at h3
      by_cases q : j < L.length
      · exact q
      · rw [List.getElem?_eq_none (by omega)] at h3
        cases h3
    refine h.2.2 (j, f w) (List.mem_cons_of_mem _ (List.mem_filter.mpr ⟨zlv_mem.mpr ⟨hj, w, h3, rfl⟩, ?_⟩))
    have e1 : (j == i) = false := by simpa using h1
    have e2 : (j + 1 == i && (f w).category == 2) = false := by
      by_cases q : j + 1 = i
      · have := h4 q
        rw [hf]
        simp [this]
      · simp [q]
    simp [e1, e2]
theorem zLs.store2 {f : Value → Value} (hf : ∀ w, (f w).category = w.category) {nL i : Nat} {L : zL} {x : Value} (hx : x.category = 2) (hl : L.length = nL) {ls' : Array Slot} (h : lv_has ls' nL ((i, f x) :: (zlv f nL L).filter (fun q => !(q.1 == i) && (!(q.1 == i + 1) && !(q.1 + 1 == i && q.2.category == 2))))) : zLs f nL (zst L i x) ls' := by
  refine ⟨by rw [zst_len]; exact hl, h.1, h.2.1, fun j w hw => ?_⟩
  rcases zst_get hw with ⟨rfl, rfl⟩ | ⟨h1, h3, h4, h5⟩
  · exact h.2.2 (j, f w) List.mem_cons_self
  · have hj : j < nL := by
      rw [← hl]
      rw [List.getD_eq_getElem?_getD] at h3
      by_cases q : j < L.length
      · exact q
      · rw [List.getElem?_eq_none (by omega)] at h3
        cases h3
    have h0 : j ≠ i + 1 := h5 hx
    refine h.2.2 (j, f w) (List.mem_cons_of_mem _ (List.mem_filter.mpr ⟨zlv_mem.mpr ⟨hj, w, h3, rfl⟩, ?_⟩))
    have e1 : (j == i) = false := by simpa using h1
    have e3 : (j == i + 1) = false := by simpa using h0
    have e2 : (j + 1 == i && (f w).category == 2) = false := by
      by_cases q : j + 1 = i
      · have := h4 q
        rw [hf]
        simp [this]
      · simp [q]
    simp [e1, e2, e3]
noncomputable def wX (p : Program) (l : Launch) (e : Env) (R : Room) (s : State) (m : MethodId) (args : Array Value) (below : List Frame) (meth : Method) (c : Code) (Q : State → Prop) (B : Nat) (D : va_G) (cl : List vw_C) (dA : Nat → ClassId) (aS : Nat → Nat) (nL bc bs : Nat) : zX := fun pc L st h cn sn =>
  cn ≤ bc → sn ≤ bs → ∀ (H : Heap) (locs : List Loc) (lsA : Array Slot), zhR B D cl dA aS h H → va_S (fun q => B ≤ q) s.heap H locs → zLs (zcv B aS) nL L lsA → W p l e R s m args below meth c H locs cn sn Q (F0 m pc lsA (st.map (zcv B aS)))
section SIM1
variable {p : Program} {l : Launch} {e : Env} {R : Room} {s : State} {m : MethodId} {args : Array Value} {below : List Frame} {meth : Method} {c : Code} {Q : State → Prop} {cc : ByteArray} {B : Nat} {D : va_G} {cl : List vw_C} {dA : Nat → ClassId} {aS : Nat → Nat} {nL bc bs pc : Nat}
variable {a b d : Nat} {v : Value} {L : zL} {st : List Value} {h : zH} {cn sn : Nat}
theorem s_iconst {i : Int} (hx : p.tables.exec = Jvm.exec) (hb : c.code = cc) (hdg : decode cc pc = .ok (.iconst i, 1)) (hv : v = .int (Int32.ofInt i))  (hz : zex1 (wX p l e R s m args below meth c Q B D cl dA aS nL bc bs) (.aconst_null, pc + 1, a, b, d, v) L st h cn sn) : wX p l e R s m args below meth c Q B D cl dA aS nL bc bs pc L st h cn sn := by
  intro hc1 hc2 H locs lsA hH hS hL
  unfold zex1 at hz
  dsimp only at hz
  subst hv
  exact lv_iconst hx hb hdg rfl (hz hc1 hc2 _ _ _ hH hS hL)
theorem s_bipush {i : Int} (hx : p.tables.exec = Jvm.exec) (hb : c.code = cc) (hdg : decode cc pc = .ok (.bipush i, 2)) (hv : v = .int (Int8.ofInt i).toInt32)  (hz : zex1 (wX p l e R s m args below meth c Q B D cl dA aS nL bc bs) (.aconst_null, pc + 2, a, b, d, v) L st h cn sn) : wX p l e R s m args below meth c Q B D cl dA aS nL bc bs pc L st h cn sn := by
  intro hc1 hc2 H locs lsA hH hS hL
  unfold zex1 at hz
  dsimp only at hz
  subst hv
  exact lv_bipush hx hb hdg rfl (hz hc1 hc2 _ _ _ hH hS hL)
theorem s_sipush {i : Int} (hx : p.tables.exec = Jvm.exec) (hb : c.code = cc) (hdg : decode cc pc = .ok (.sipush i, 3)) (hv : v = .int (Int16.ofInt i).toInt32)  (hz : zex1 (wX p l e R s m args below meth c Q B D cl dA aS nL bc bs) (.aconst_null, pc + 3, a, b, d, v) L st h cn sn) : wX p l e R s m args below meth c Q B D cl dA aS nL bc bs pc L st h cn sn := by
  intro hc1 hc2 H locs lsA hH hS hL
  unfold zex1 at hz
  dsimp only at hz
  subst hv
  exact lv_sipush hx hb hdg rfl (hz hc1 hc2 _ _ _ hH hS hL)
theorem s_lconst {i : Fin 2} (hx : p.tables.exec = Jvm.exec) (hb : c.code = cc) (hdg : decode cc pc = .ok (.lconst i, 1)) (hv : v = .long (Int64.ofNat (i : Nat)))  (hz : zex1 (wX p l e R s m args below meth c Q B D cl dA aS nL bc bs) (.aconst_null, pc + 1, a, b, d, v) L st h cn sn) : wX p l e R s m args below meth c Q B D cl dA aS nL bc bs pc L st h cn sn := by
  intro hc1 hc2 H locs lsA hH hS hL
  unfold zex1 at hz
  dsimp only at hz
  subst hv
  exact lv_lconst hx hb hdg rfl (hz hc1 hc2 _ _ _ hH hS hL)
theorem s_null  (hx : p.tables.exec = Jvm.exec) (hb : c.code = cc) (hdg : decode cc pc = .ok (.aconst_null, 1)) (hv : v = .null) (hz : zex1 (wX p l e R s m args below meth c Q B D cl dA aS nL bc bs) (.aconst_null, pc + 1, a, b, d, v) L st h cn sn) : wX p l e R s m args below meth c Q B D cl dA aS nL bc bs pc L st h cn sn := by
  intro hc1 hc2 H locs lsA hH hS hL
  unfold zex1 at hz
  dsimp only at hz
  subst hv
  exact lv_null hx hb hdg (hz hc1 hc2 _ _ _ hH hS hL)
theorem s_ldc {i : Nat} (hx : p.tables.exec = Jvm.exec) (hb : c.code = cc) (hdg : decode cc pc = .ok (.ldc i, 2)) {own : String} {x : Int32} (hv : v = .int x) (hown : s.vm.findClass own = some m.cls) (hcon : (Jvm.Cond.constant own i x).before args s = true) (hz : zex1 (wX p l e R s m args below meth c Q B D cl dA aS nL bc bs) (.aconst_null, pc + 2, a, b, d, v) L st h cn sn) : wX p l e R s m args below meth c Q B D cl dA aS nL bc bs pc L st h cn sn := by
  intro hc1 hc2 H locs lsA hH hS hL
  unfold zex1 at hz
  dsimp only at hz
  subst hv
  exact lv_ldc hx hb hown hcon hdg (hz hc1 hc2 _ _ _ hH hS hL)
theorem s_ldcw {i : Nat} (hx : p.tables.exec = Jvm.exec) (hb : c.code = cc) (hdg : decode cc pc = .ok (.ldc_w i, 3)) {own : String} {x : Int32} (hv : v = .int x) (hown : s.vm.findClass own = some m.cls) (hcon : (Jvm.Cond.constant own i x).before args s = true) (hz : zex1 (wX p l e R s m args below meth c Q B D cl dA aS nL bc bs) (.aconst_null, pc + 3, a, b, d, v) L st h cn sn) : wX p l e R s m args below meth c Q B D cl dA aS nL bc bs pc L st h cn sn := by
  intro hc1 hc2 H locs lsA hH hS hL
  unfold zex1 at hz
  dsimp only at hz
  subst hv
  exact lv_ldcw hx hb hown hcon hdg (hz hc1 hc2 _ _ _ hH hS hL)
theorem s_ldc2 {i : Nat} (hx : p.tables.exec = Jvm.exec) (hb : c.code = cc) (hdg : decode cc pc = .ok (.ldc2_w i, 3)) {own : String} {x : Int64} (hv : v = .long x) (hown : s.vm.findClass own = some m.cls) (hcon : (Jvm.Cond.constantLong own i x).before args s = true) (hz : zex1 (wX p l e R s m args below meth c Q B D cl dA aS nL bc bs) (.aconst_null, pc + 3, a, b, d, v) L st h cn sn) : wX p l e R s m args below meth c Q B D cl dA aS nL bc bs pc L st h cn sn := by
  intro hc1 hc2 H locs lsA hH hS hL
  unfold zex1 at hz
  dsimp only at hz
  subst hv
  exact lv_ldc2 hx hb hown hcon hdg (hz hc1 hc2 _ _ _ hH hS hL)
theorem s_iload_n {j : Nat} {k : Fin 4} (hx : p.tables.exec = Jvm.exec) (hb : c.code = cc) (hdg : decode cc pc = .ok (.iload_n k, 1)) (hk : (k : Nat) = a) (hz : zex1 (wX p l e R s m args below meth c Q B D cl dA aS nL bc bs) (.iload j, pc + 1, a, b, d, v) L st h cn sn) : wX p l e R s m args below meth c Q B D cl dA aS nL bc bs pc L st h cn sn := by
  intro hc1 hc2 H locs lsA hH hS hL
  unfold zex1 at hz
  dsimp only at hz
  split at hz
  · rename_i x hx9
    exact lv_iload_n hx hb hdg hk (hL.2.2.2 _ _ hx9) (hz hc1 hc2 _ _ _ hH hS hL)
  · exact hz.elim
theorem s_iload {j : Nat}  (hx : p.tables.exec = Jvm.exec) (hb : c.code = cc) (hdg : decode cc pc = .ok (.iload a, 2))  (hz : zex1 (wX p l e R s m args below meth c Q B D cl dA aS nL bc bs) (.iload j, pc + 2, a, b, d, v) L st h cn sn) : wX p l e R s m args below meth c Q B D cl dA aS nL bc bs pc L st h cn sn := by
  intro hc1 hc2 H locs lsA hH hS hL
  unfold zex1 at hz
  dsimp only at hz
  split at hz
  · rename_i x hx9
    exact lv_iload hx hb hdg  (hL.2.2.2 _ _ hx9) (hz hc1 hc2 _ _ _ hH hS hL)
  · exact hz.elim
theorem s_lload_n {j : Nat} {k : Fin 4} (hx : p.tables.exec = Jvm.exec) (hb : c.code = cc) (hdg : decode cc pc = .ok (.lload_n k, 1)) (hk : (k : Nat) = a) (hz : zex1 (wX p l e R s m args below meth c Q B D cl dA aS nL bc bs) (.lload j, pc + 1, a, b, d, v) L st h cn sn) : wX p l e R s m args below meth c Q B D cl dA aS nL bc bs pc L st h cn sn := by
  intro hc1 hc2 H locs lsA hH hS hL
  unfold zex1 at hz
  dsimp only at hz
  split at hz
  · rename_i x hx9
    exact lv_lload_n hx hb hdg hk (hL.2.2.2 _ _ hx9) (hz hc1 hc2 _ _ _ hH hS hL)
  · exact hz.elim
theorem s_lload {j : Nat}  (hx : p.tables.exec = Jvm.exec) (hb : c.code = cc) (hdg : decode cc pc = .ok (.lload a, 2))  (hz : zex1 (wX p l e R s m args below meth c Q B D cl dA aS nL bc bs) (.lload j, pc + 2, a, b, d, v) L st h cn sn) : wX p l e R s m args below meth c Q B D cl dA aS nL bc bs pc L st h cn sn := by
  intro hc1 hc2 H locs lsA hH hS hL
  unfold zex1 at hz
  dsimp only at hz
  split at hz
  · rename_i x hx9
    exact lv_lload hx hb hdg  (hL.2.2.2 _ _ hx9) (hz hc1 hc2 _ _ _ hH hS hL)
  · exact hz.elim
theorem s_aload_n {j : Nat} {k : Fin 4} (hx : p.tables.exec = Jvm.exec) (hb : c.code = cc) (hdg : decode cc pc = .ok (.aload_n k, 1)) (hk : (k : Nat) = a) (hz : zex1 (wX p l e R s m args below meth c Q B D cl dA aS nL bc bs) (.aload j, pc + 1, a, b, d, v) L st h cn sn) : wX p l e R s m args below meth c Q B D cl dA aS nL bc bs pc L st h cn sn := by
  intro hc1 hc2 H locs lsA hH hS hL
  unfold zex1 at hz
  dsimp only at hz
  split at hz
  · rename_i x hx9
    exact lv_aload_n hx hb hdg hk (hL.2.2.2 _ _ hx9) (hz hc1 hc2 _ _ _ hH hS hL)
  · rename_i hx9
    exact lv_aload_nN hx hb hdg hk (hL.2.2.2 _ _ hx9) (hz hc1 hc2 _ _ _ hH hS hL)
  · rename_i x hx9
    exact lv_aload_n hx hb hdg hk (hL.2.2.2 _ _ hx9) (hz hc1 hc2 _ _ _ hH hS hL)
  · exact hz.elim
theorem s_aload {j : Nat}  (hx : p.tables.exec = Jvm.exec) (hb : c.code = cc) (hdg : decode cc pc = .ok (.aload a, 2))  (hz : zex1 (wX p l e R s m args below meth c Q B D cl dA aS nL bc bs) (.aload j, pc + 2, a, b, d, v) L st h cn sn) : wX p l e R s m args below meth c Q B D cl dA aS nL bc bs pc L st h cn sn := by
  intro hc1 hc2 H locs lsA hH hS hL
  unfold zex1 at hz
  dsimp only at hz
  split at hz
  · rename_i x hx9
    exact lv_aload hx hb hdg  (hL.2.2.2 _ _ hx9) (hz hc1 hc2 _ _ _ hH hS hL)
  · rename_i hx9
    exact lv_aloadN hx hb hdg  (hL.2.2.2 _ _ hx9) (hz hc1 hc2 _ _ _ hH hS hL)
  · rename_i x hx9
    exact lv_aload hx hb hdg  (hL.2.2.2 _ _ hx9) (hz hc1 hc2 _ _ _ hH hS hL)
  · exact hz.elim
theorem s_istore_n {j : Nat} {k : Fin 4} (hx : p.tables.exec = Jvm.exec) (hb : c.code = cc) (hdg : decode cc pc = .ok (.istore_n k, 1)) (hk : (k : Nat) = a) (hz : zex1 (wX p l e R s m args below meth c Q B D cl dA aS nL bc bs) (.istore j, pc + 1, a, b, d, v) L st h cn sn) : wX p l e R s m args below meth c Q B D cl dA aS nL bc bs pc L st h cn sn := by
  intro hc1 hc2 H locs lsA hH hS hL
  unfold zex1 at hz
  dsimp only at hz
  split at hz
  · exact lv_istore_n hx hb hdg hk hL.has (by have h9 := hz.1; rw [hL.1] at h9; exact h9) rfl (fun ls2 hl2 => hz.2 hc1 hc2 _ _ _ hH hS (zLs.store1 (zcv_cat B aS) rfl hL.1 hl2))
  · exact hz.elim
theorem s_istore {j : Nat}  (hx : p.tables.exec = Jvm.exec) (hb : c.code = cc) (hdg : decode cc pc = .ok (.istore a, 2))  (hz : zex1 (wX p l e R s m args below meth c Q B D cl dA aS nL bc bs) (.istore j, pc + 2, a, b, d, v) L st h cn sn) : wX p l e R s m args below meth c Q B D cl dA aS nL bc bs pc L st h cn sn := by
  intro hc1 hc2 H locs lsA hH hS hL
  unfold zex1 at hz
  dsimp only at hz
  split at hz
  · exact lv_istore hx hb hdg  hL.has (by have h9 := hz.1; rw [hL.1] at h9; exact h9) rfl (fun ls2 hl2 => hz.2 hc1 hc2 _ _ _ hH hS (zLs.store1 (zcv_cat B aS) rfl hL.1 hl2))
  · exact hz.elim
theorem s_lstore_n {j : Nat} {k : Fin 4} (hx : p.tables.exec = Jvm.exec) (hb : c.code = cc) (hdg : decode cc pc = .ok (.lstore_n k, 1)) (hk : (k : Nat) = a) (hz : zex1 (wX p l e R s m args below meth c Q B D cl dA aS nL bc bs) (.lstore j, pc + 1, a, b, d, v) L st h cn sn) : wX p l e R s m args below meth c Q B D cl dA aS nL bc bs pc L st h cn sn := by
  intro hc1 hc2 H locs lsA hH hS hL
  unfold zex1 at hz
  dsimp only at hz
  split at hz
  · exact lv_lstore_n hx hb hdg hk hL.has (by have h9 := hz.1; rw [hL.1] at h9; exact h9) rfl (fun ls2 hl2 => hz.2 hc1 hc2 _ _ _ hH hS (zLs.store2 (zcv_cat B aS) rfl hL.1 hl2))
  · exact hz.elim
theorem s_lstore {j : Nat}  (hx : p.tables.exec = Jvm.exec) (hb : c.code = cc) (hdg : decode cc pc = .ok (.lstore a, 2))  (hz : zex1 (wX p l e R s m args below meth c Q B D cl dA aS nL bc bs) (.lstore j, pc + 2, a, b, d, v) L st h cn sn) : wX p l e R s m args below meth c Q B D cl dA aS nL bc bs pc L st h cn sn := by
  intro hc1 hc2 H locs lsA hH hS hL
  unfold zex1 at hz
  dsimp only at hz
  split at hz
  · exact lv_lstore hx hb hdg  hL.has (by have h9 := hz.1; rw [hL.1] at h9; exact h9) rfl (fun ls2 hl2 => hz.2 hc1 hc2 _ _ _ hH hS (zLs.store2 (zcv_cat B aS) rfl hL.1 hl2))
  · exact hz.elim
theorem s_astore_n {j : Nat} {k : Fin 4} (hx : p.tables.exec = Jvm.exec) (hb : c.code = cc) (hdg : decode cc pc = .ok (.astore_n k, 1)) (hk : (k : Nat) = a) (hz : zex1 (wX p l e R s m args below meth c Q B D cl dA aS nL bc bs) (.astore j, pc + 1, a, b, d, v) L st h cn sn) : wX p l e R s m args below meth c Q B D cl dA aS nL bc bs pc L st h cn sn := by
  intro hc1 hc2 H locs lsA hH hS hL
  unfold zex1 at hz
  dsimp only at hz
  split at hz
  · exact lv_astore_n hx hb hdg hk hL.has (by have h9 := hz.1; rw [hL.1] at h9; exact h9) rfl (fun ls2 hl2 => hz.2 hc1 hc2 _ _ _ hH hS (zLs.store1 (zcv_cat B aS) rfl hL.1 hl2))
  · exact lv_astore_nN hx hb hdg hk hL.has (by have h9 := hz.1; rw [hL.1] at h9; exact h9) rfl (fun ls2 hl2 => hz.2 hc1 hc2 _ _ _ hH hS (zLs.store1 (zcv_cat B aS) rfl hL.1 hl2))
  · rename_i x s2
    exact lv_astore_n hx hb hdg hk hL.has (by have h9 := hz.1; rw [hL.1] at h9; exact h9) rfl (fun ls2 hl2 => hz.2 hc1 hc2 _ _ _ hH hS (zLs.store1 (x := .retAddr x) (zcv_cat B aS) rfl hL.1 hl2))
  · exact hz.elim
theorem s_astore {j : Nat}  (hx : p.tables.exec = Jvm.exec) (hb : c.code = cc) (hdg : decode cc pc = .ok (.astore a, 2))  (hz : zex1 (wX p l e R s m args below meth c Q B D cl dA aS nL bc bs) (.astore j, pc + 2, a, b, d, v) L st h cn sn) : wX p l e R s m args below meth c Q B D cl dA aS nL bc bs pc L st h cn sn := by
  intro hc1 hc2 H locs lsA hH hS hL
  unfold zex1 at hz
  dsimp only at hz
  split at hz
  · exact lv_astore hx hb hdg  hL.has (by have h9 := hz.1; rw [hL.1] at h9; exact h9) rfl (fun ls2 hl2 => hz.2 hc1 hc2 _ _ _ hH hS (zLs.store1 (zcv_cat B aS) rfl hL.1 hl2))
  · exact lv_astoreN hx hb hdg  hL.has (by have h9 := hz.1; rw [hL.1] at h9; exact h9) rfl (fun ls2 hl2 => hz.2 hc1 hc2 _ _ _ hH hS (zLs.store1 (zcv_cat B aS) rfl hL.1 hl2))
  · rename_i x s2
    exact lv_astore hx hb hdg  hL.has (by have h9 := hz.1; rw [hL.1] at h9; exact h9) rfl (fun ls2 hl2 => hz.2 hc1 hc2 _ _ _ hH hS (zLs.store1 (x := .retAddr x) (zcv_cat B aS) rfl hL.1 hl2))
  · exact hz.elim
theorem s_iinc {i z : Int} {j : Nat} (hx : p.tables.exec = Jvm.exec) (hb : c.code = cc) (hdg : decode cc pc = .ok (.iinc a i, 3)) (hv : v = .int (Int32.ofInt i)) (hz : zex1 (wX p l e R s m args below meth c Q B D cl dA aS nL bc bs) (.iinc j z, pc + 3, a, b, d, v) L st h cn sn) : wX p l e R s m args below meth c Q B D cl dA aS nL bc bs pc L st h cn sn := by
  intro hc1 hc2 H locs lsA hH hS hL
  unfold zex1 at hz
  dsimp only at hz
  subst hv
  split at hz
  · rename_i x y h9 h8
    cases h8
    obtain ⟨k9, hk9⟩ := List.getElem?_of_mem (zlv_mem (f := zcv B aS) (nL := nL) (L := L) (q := (a, .int x)) |>.mpr ⟨by have h7 := hz.1; rw [hL.1] at h7; exact h7, _, h9, rfl⟩)
    exact lv_iinc hx hb hdg hL.has hk9 rfl (by have h9 := hz.1; rw [hL.1] at h9; exact h9) rfl (fun ls2 hl2 => hz.2 hc1 hc2 _ _ _ hH hS (zLs.store1 (zcv_cat B aS) rfl hL.1 hl2))
  · exact hz.elim
theorem s_pop  (hx : p.tables.exec = Jvm.exec) (hb : c.code = cc) (hdg : decode cc pc = .ok (.pop, 1))  (hz : zex1 (wX p l e R s m args below meth c Q B D cl dA aS nL bc bs) (.pop, pc + 1, a, b, d, v) L st h cn sn) : wX p l e R s m args below meth c Q B D cl dA aS nL bc bs pc L st h cn sn := by
  intro hc1 hc2 H locs lsA hH hS hL
  unfold zex1 at hz
  dsimp only at hz
  split at hz
  · exact lv_pop hx hb hdg (by rw [zcv_cat]; exact hz.1) (hz.2 hc1 hc2 _ _ _ hH hS hL)
  · exact hz.elim
theorem s_dup  (hx : p.tables.exec = Jvm.exec) (hb : c.code = cc) (hdg : decode cc pc = .ok (.dup, 1))  (hz : zex1 (wX p l e R s m args below meth c Q B D cl dA aS nL bc bs) (.dup, pc + 1, a, b, d, v) L st h cn sn) : wX p l e R s m args below meth c Q B D cl dA aS nL bc bs pc L st h cn sn := by
  intro hc1 hc2 H locs lsA hH hS hL
  unfold zex1 at hz
  dsimp only at hz
  split at hz
  · exact lv_dup hx hb hdg (by rw [zcv_cat]; exact hz.1) (hz.2 hc1 hc2 _ _ _ hH hS hL)
  · exact hz.elim
theorem s_dup_x1  (hx : p.tables.exec = Jvm.exec) (hb : c.code = cc) (hdg : decode cc pc = .ok (.dup_x1, 1))  (hz : zex1 (wX p l e R s m args below meth c Q B D cl dA aS nL bc bs) (.dup_x1, pc + 1, a, b, d, v) L st h cn sn) : wX p l e R s m args below meth c Q B D cl dA aS nL bc bs pc L st h cn sn := by
  intro hc1 hc2 H locs lsA hH hS hL
  unfold zex1 at hz
  dsimp only at hz
  split at hz
  · exact lv_dup_x1 hx hb hdg (by rw [zcv_cat]; exact hz.1) (by rw [zcv_cat]; exact hz.2.1) (hz.2.2 hc1 hc2 _ _ _ hH hS hL)
  · exact hz.elim
theorem s_dup2  (hx : p.tables.exec = Jvm.exec) (hb : c.code = cc) (hdg : decode cc pc = .ok (.dup2, 1))  (hz : zex1 (wX p l e R s m args below meth c Q B D cl dA aS nL bc bs) (.dup2, pc + 1, a, b, d, v) L st h cn sn) : wX p l e R s m args below meth c Q B D cl dA aS nL bc bs pc L st h cn sn := by
  intro hc1 hc2 H locs lsA hH hS hL
  unfold zex1 at hz
  dsimp only at hz
  split at hz
  · exact lv_dup2_11 hx hb hdg (by rw [zcv_cat]; exact hz.1) (by rw [zcv_cat]; exact hz.2.1) (hz.2.2 hc1 hc2 _ _ _ hH hS hL)
  · exact hz.elim
theorem s_dupl  (hx : p.tables.exec = Jvm.exec) (hb : c.code = cc) (hdg : decode cc pc = .ok (.dup2, 1))  (hz : zex1 (wX p l e R s m args below meth c Q B D cl dA aS nL bc bs) (.dup2_x1, pc + 1, a, b, d, v) L st h cn sn) : wX p l e R s m args below meth c Q B D cl dA aS nL bc bs pc L st h cn sn := by
  intro hc1 hc2 H locs lsA hH hS hL
  unfold zex1 at hz
  dsimp only at hz
  split at hz
  · exact lv_dup2_2 hx hb hdg (by rw [zcv_cat]; exact hz.1) (hz.2 hc1 hc2 _ _ _ hH hS hL)
  · exact hz.elim
theorem s_iadd  (hx : p.tables.exec = Jvm.exec) (hb : c.code = cc) (hdg : decode cc pc = .ok (.iadd, 1))  (hz : zex1 (wX p l e R s m args below meth c Q B D cl dA aS nL bc bs) (.iadd, pc + 1, a, b, d, v) L st h cn sn) : wX p l e R s m args below meth c Q B D cl dA aS nL bc bs pc L st h cn sn := by
  intro hc1 hc2 H locs lsA hH hS hL
  unfold zex1 at hz
  dsimp only at hz
  split at hz <;> first | exact hz.elim | exact lv_iadd hx hb hdg (hz hc1 hc2 _ _ _ hH hS hL)
theorem s_isub  (hx : p.tables.exec = Jvm.exec) (hb : c.code = cc) (hdg : decode cc pc = .ok (.isub, 1))  (hz : zex1 (wX p l e R s m args below meth c Q B D cl dA aS nL bc bs) (.isub, pc + 1, a, b, d, v) L st h cn sn) : wX p l e R s m args below meth c Q B D cl dA aS nL bc bs pc L st h cn sn := by
  intro hc1 hc2 H locs lsA hH hS hL
  unfold zex1 at hz
  dsimp only at hz
  split at hz <;> first | exact hz.elim | exact lv_isub hx hb hdg (hz hc1 hc2 _ _ _ hH hS hL)
theorem s_imul  (hx : p.tables.exec = Jvm.exec) (hb : c.code = cc) (hdg : decode cc pc = .ok (.imul, 1))  (hz : zex1 (wX p l e R s m args below meth c Q B D cl dA aS nL bc bs) (.imul, pc + 1, a, b, d, v) L st h cn sn) : wX p l e R s m args below meth c Q B D cl dA aS nL bc bs pc L st h cn sn := by
  intro hc1 hc2 H locs lsA hH hS hL
  unfold zex1 at hz
  dsimp only at hz
  split at hz <;> first | exact hz.elim | exact lv_imul hx hb hdg (hz hc1 hc2 _ _ _ hH hS hL)
theorem s_iand  (hx : p.tables.exec = Jvm.exec) (hb : c.code = cc) (hdg : decode cc pc = .ok (.iand, 1))  (hz : zex1 (wX p l e R s m args below meth c Q B D cl dA aS nL bc bs) (.iand, pc + 1, a, b, d, v) L st h cn sn) : wX p l e R s m args below meth c Q B D cl dA aS nL bc bs pc L st h cn sn := by
  intro hc1 hc2 H locs lsA hH hS hL
  unfold zex1 at hz
  dsimp only at hz
  split at hz <;> first | exact hz.elim | exact lv_iand hx hb hdg (hz hc1 hc2 _ _ _ hH hS hL)
theorem s_ior  (hx : p.tables.exec = Jvm.exec) (hb : c.code = cc) (hdg : decode cc pc = .ok (.ior, 1))  (hz : zex1 (wX p l e R s m args below meth c Q B D cl dA aS nL bc bs) (.ior, pc + 1, a, b, d, v) L st h cn sn) : wX p l e R s m args below meth c Q B D cl dA aS nL bc bs pc L st h cn sn := by
  intro hc1 hc2 H locs lsA hH hS hL
  unfold zex1 at hz
  dsimp only at hz
  split at hz <;> first | exact hz.elim | exact lv_ior hx hb hdg (hz hc1 hc2 _ _ _ hH hS hL)
theorem s_ishl  (hx : p.tables.exec = Jvm.exec) (hb : c.code = cc) (hdg : decode cc pc = .ok (.ishl, 1))  (hz : zex1 (wX p l e R s m args below meth c Q B D cl dA aS nL bc bs) (.ishl, pc + 1, a, b, d, v) L st h cn sn) : wX p l e R s m args below meth c Q B D cl dA aS nL bc bs pc L st h cn sn := by
  intro hc1 hc2 H locs lsA hH hS hL
  unfold zex1 at hz
  dsimp only at hz
  split at hz <;> first | exact hz.elim | exact lv_ishl hx hb hdg (hz hc1 hc2 _ _ _ hH hS hL)
theorem s_ishr  (hx : p.tables.exec = Jvm.exec) (hb : c.code = cc) (hdg : decode cc pc = .ok (.ishr, 1))  (hz : zex1 (wX p l e R s m args below meth c Q B D cl dA aS nL bc bs) (.ishr, pc + 1, a, b, d, v) L st h cn sn) : wX p l e R s m args below meth c Q B D cl dA aS nL bc bs pc L st h cn sn := by
  intro hc1 hc2 H locs lsA hH hS hL
  unfold zex1 at hz
  dsimp only at hz
  split at hz <;> first | exact hz.elim | exact lv_ishr hx hb hdg (hz hc1 hc2 _ _ _ hH hS hL)
theorem s_ladd  (hx : p.tables.exec = Jvm.exec) (hb : c.code = cc) (hdg : decode cc pc = .ok (.ladd, 1))  (hz : zex1 (wX p l e R s m args below meth c Q B D cl dA aS nL bc bs) (.ladd, pc + 1, a, b, d, v) L st h cn sn) : wX p l e R s m args below meth c Q B D cl dA aS nL bc bs pc L st h cn sn := by
  intro hc1 hc2 H locs lsA hH hS hL
  unfold zex1 at hz
  dsimp only at hz
  split at hz <;> first | exact hz.elim | exact lv_ladd hx hb hdg (hz hc1 hc2 _ _ _ hH hS hL)
theorem s_lsub  (hx : p.tables.exec = Jvm.exec) (hb : c.code = cc) (hdg : decode cc pc = .ok (.lsub, 1))  (hz : zex1 (wX p l e R s m args below meth c Q B D cl dA aS nL bc bs) (.lsub, pc + 1, a, b, d, v) L st h cn sn) : wX p l e R s m args below meth c Q B D cl dA aS nL bc bs pc L st h cn sn := by
  intro hc1 hc2 H locs lsA hH hS hL
  unfold zex1 at hz
  dsimp only at hz
  split at hz <;> first | exact hz.elim | exact lv_lsub hx hb hdg (hz hc1 hc2 _ _ _ hH hS hL)
theorem s_lmul  (hx : p.tables.exec = Jvm.exec) (hb : c.code = cc) (hdg : decode cc pc = .ok (.lmul, 1))  (hz : zex1 (wX p l e R s m args below meth c Q B D cl dA aS nL bc bs) (.lmul, pc + 1, a, b, d, v) L st h cn sn) : wX p l e R s m args below meth c Q B D cl dA aS nL bc bs pc L st h cn sn := by
  intro hc1 hc2 H locs lsA hH hS hL
  unfold zex1 at hz
  dsimp only at hz
  split at hz <;> first | exact hz.elim | exact lv_lmul hx hb hdg (hz hc1 hc2 _ _ _ hH hS hL)
theorem s_land  (hx : p.tables.exec = Jvm.exec) (hb : c.code = cc) (hdg : decode cc pc = .ok (.land, 1))  (hz : zex1 (wX p l e R s m args below meth c Q B D cl dA aS nL bc bs) (.land, pc + 1, a, b, d, v) L st h cn sn) : wX p l e R s m args below meth c Q B D cl dA aS nL bc bs pc L st h cn sn := by
  intro hc1 hc2 H locs lsA hH hS hL
  unfold zex1 at hz
  dsimp only at hz
  split at hz <;> first | exact hz.elim | exact lv_land hx hb hdg (hz hc1 hc2 _ _ _ hH hS hL)
theorem s_lor  (hx : p.tables.exec = Jvm.exec) (hb : c.code = cc) (hdg : decode cc pc = .ok (.lor, 1))  (hz : zex1 (wX p l e R s m args below meth c Q B D cl dA aS nL bc bs) (.lor, pc + 1, a, b, d, v) L st h cn sn) : wX p l e R s m args below meth c Q B D cl dA aS nL bc bs pc L st h cn sn := by
  intro hc1 hc2 H locs lsA hH hS hL
  unfold zex1 at hz
  dsimp only at hz
  split at hz <;> first | exact hz.elim | exact lv_lor hx hb hdg (hz hc1 hc2 _ _ _ hH hS hL)
theorem s_lxor  (hx : p.tables.exec = Jvm.exec) (hb : c.code = cc) (hdg : decode cc pc = .ok (.lxor, 1))  (hz : zex1 (wX p l e R s m args below meth c Q B D cl dA aS nL bc bs) (.lxor, pc + 1, a, b, d, v) L st h cn sn) : wX p l e R s m args below meth c Q B D cl dA aS nL bc bs pc L st h cn sn := by
  intro hc1 hc2 H locs lsA hH hS hL
  unfold zex1 at hz
  dsimp only at hz
  split at hz <;> first | exact hz.elim | exact lv_lxor hx hb hdg (hz hc1 hc2 _ _ _ hH hS hL)
theorem s_lneg  (hx : p.tables.exec = Jvm.exec) (hb : c.code = cc) (hdg : decode cc pc = .ok (.lneg, 1))  (hz : zex1 (wX p l e R s m args below meth c Q B D cl dA aS nL bc bs) (.lneg, pc + 1, a, b, d, v) L st h cn sn) : wX p l e R s m args below meth c Q B D cl dA aS nL bc bs pc L st h cn sn := by
  intro hc1 hc2 H locs lsA hH hS hL
  unfold zex1 at hz
  dsimp only at hz
  split at hz <;> first | exact hz.elim | exact lv_lneg hx hb hdg (hz hc1 hc2 _ _ _ hH hS hL)
theorem s_idiv  (hx : p.tables.exec = Jvm.exec) (hb : c.code = cc) (hdg : decode cc pc = .ok (.idiv, 1))  (hz : zex1 (wX p l e R s m args below meth c Q B D cl dA aS nL bc bs) (.idiv, pc + 1, a, b, d, v) L st h cn sn) : wX p l e R s m args below meth c Q B D cl dA aS nL bc bs pc L st h cn sn := by
  intro hc1 hc2 H locs lsA hH hS hL
  unfold zex1 at hz
  dsimp only at hz
  split at hz <;> first | exact hz.elim | exact lv_idiv hx hb hdg hz.1 (hz.2 hc1 hc2 _ _ _ hH hS hL)
theorem s_ldiv  (hx : p.tables.exec = Jvm.exec) (hb : c.code = cc) (hdg : decode cc pc = .ok (.ldiv, 1))  (hz : zex1 (wX p l e R s m args below meth c Q B D cl dA aS nL bc bs) (.ldiv, pc + 1, a, b, d, v) L st h cn sn) : wX p l e R s m args below meth c Q B D cl dA aS nL bc bs pc L st h cn sn := by
  intro hc1 hc2 H locs lsA hH hS hL
  unfold zex1 at hz
  dsimp only at hz
  split at hz <;> first | exact hz.elim | exact lv_ldiv hx hb hdg hz.1 (hz.2 hc1 hc2 _ _ _ hH hS hL)
theorem s_lrem  (hx : p.tables.exec = Jvm.exec) (hb : c.code = cc) (hdg : decode cc pc = .ok (.lrem, 1))  (hz : zex1 (wX p l e R s m args below meth c Q B D cl dA aS nL bc bs) (.lrem, pc + 1, a, b, d, v) L st h cn sn) : wX p l e R s m args below meth c Q B D cl dA aS nL bc bs pc L st h cn sn := by
  intro hc1 hc2 H locs lsA hH hS hL
  unfold zex1 at hz
  dsimp only at hz
  split at hz <;> first | exact hz.elim | exact lv_lrem hx hb hdg hz.1 (hz.2 hc1 hc2 _ _ _ hH hS hL)
theorem s_lshl  (hx : p.tables.exec = Jvm.exec) (hb : c.code = cc) (hdg : decode cc pc = .ok (.lshl, 1))  (hz : zex1 (wX p l e R s m args below meth c Q B D cl dA aS nL bc bs) (.lshl, pc + 1, a, b, d, v) L st h cn sn) : wX p l e R s m args below meth c Q B D cl dA aS nL bc bs pc L st h cn sn := by
  intro hc1 hc2 H locs lsA hH hS hL
  unfold zex1 at hz
  dsimp only at hz
  split at hz <;> first | exact hz.elim | exact lv_lshl hx hb hdg rfl (hz hc1 hc2 _ _ _ hH hS hL)
theorem s_lshr  (hx : p.tables.exec = Jvm.exec) (hb : c.code = cc) (hdg : decode cc pc = .ok (.lshr, 1))  (hz : zex1 (wX p l e R s m args below meth c Q B D cl dA aS nL bc bs) (.lshr, pc + 1, a, b, d, v) L st h cn sn) : wX p l e R s m args below meth c Q B D cl dA aS nL bc bs pc L st h cn sn := by
  intro hc1 hc2 H locs lsA hH hS hL
  unfold zex1 at hz
  dsimp only at hz
  split at hz <;> first | exact hz.elim | exact lv_lshr hx hb hdg rfl (hz hc1 hc2 _ _ _ hH hS hL)
theorem s_i2l  (hx : p.tables.exec = Jvm.exec) (hb : c.code = cc) (hdg : decode cc pc = .ok (.i2l, 1))  (hz : zex1 (wX p l e R s m args below meth c Q B D cl dA aS nL bc bs) (.i2l, pc + 1, a, b, d, v) L st h cn sn) : wX p l e R s m args below meth c Q B D cl dA aS nL bc bs pc L st h cn sn := by
  intro hc1 hc2 H locs lsA hH hS hL
  unfold zex1 at hz
  dsimp only at hz
  split at hz <;> first | exact hz.elim | exact lv_i2l hx hb hdg rfl (hz hc1 hc2 _ _ _ hH hS hL)
theorem s_l2i  (hx : p.tables.exec = Jvm.exec) (hb : c.code = cc) (hdg : decode cc pc = .ok (.l2i, 1))  (hz : zex1 (wX p l e R s m args below meth c Q B D cl dA aS nL bc bs) (.l2i, pc + 1, a, b, d, v) L st h cn sn) : wX p l e R s m args below meth c Q B D cl dA aS nL bc bs pc L st h cn sn := by
  intro hc1 hc2 H locs lsA hH hS hL
  unfold zex1 at hz
  dsimp only at hz
  split at hz <;> first | exact hz.elim | exact lv_l2i hx hb hdg rfl (hz hc1 hc2 _ _ _ hH hS hL)
theorem s_i2b  (hx : p.tables.exec = Jvm.exec) (hb : c.code = cc) (hdg : decode cc pc = .ok (.i2b, 1))  (hz : zex1 (wX p l e R s m args below meth c Q B D cl dA aS nL bc bs) (.i2b, pc + 1, a, b, d, v) L st h cn sn) : wX p l e R s m args below meth c Q B D cl dA aS nL bc bs pc L st h cn sn := by
  intro hc1 hc2 H locs lsA hH hS hL
  unfold zex1 at hz
  dsimp only at hz
  split at hz <;> first | exact hz.elim | exact lv_i2b hx hb hdg rfl (hz hc1 hc2 _ _ _ hH hS hL)
theorem s_lcmp  (hx : p.tables.exec = Jvm.exec) (hb : c.code = cc) (hdg : decode cc pc = .ok (.lcmp, 1))  (hz : zex1 (wX p l e R s m args below meth c Q B D cl dA aS nL bc bs) (.lcmp, pc + 1, a, b, d, v) L st h cn sn) : wX p l e R s m args below meth c Q B D cl dA aS nL bc bs pc L st h cn sn := by
  intro hc1 hc2 H locs lsA hH hS hL
  unfold zex1 at hz
  dsimp only at hz
  split at hz <;> first | exact hz.elim | exact W.lcmp hx hb hdg (hz hc1 hc2 _ _ _ hH hS hL)
theorem s_goto {i z : Int} (hx : p.tables.exec = Jvm.exec) (hb : c.code = cc) (hdg : decode cc pc = .ok (.goto i, 3)) (ht : (pc : Int) + i = (a : Int)) (hz : zex1 (wX p l e R s m args below meth c Q B D cl dA aS nL bc bs) (.goto z, pc + 3, a, b, d, v) L st h cn sn) : wX p l e R s m args below meth c Q B D cl dA aS nL bc bs pc L st h cn sn := by
  intro hc1 hc2 H locs lsA hH hS hL
  unfold zex1 at hz
  dsimp only at hz
  exact lv_goto hx hb hdg ht (hz hc1 hc2 _ _ _ hH hS hL)
theorem s_if_eq {i z : Int} (hx : p.tables.exec = Jvm.exec) (hb : c.code = cc) (hdg : decode cc pc = .ok (.ifCond .eq i, 3)) (ht : (pc : Int) + i = (a : Int)) (hz : zex1 (wX p l e R s m args below meth c Q B D cl dA aS nL bc bs) (.ifCond .eq z, pc + 3, a, b, d, v) L st h cn sn) : wX p l e R s m args below meth c Q B D cl dA aS nL bc bs pc L st h cn sn := by
  intro hc1 hc2 H locs lsA hH hS hL
  unfold zex1 at hz
  dsimp only at hz
  split at hz <;> first | exact hz.elim | exact lv_if_eq hx hb hdg ht (fun q9 => hz.1 q9 hc1 hc2 _ _ _ hH hS hL) (fun q9 => hz.2 q9 hc1 hc2 _ _ _ hH hS hL)
theorem s_icmp_eq {i z : Int} (hx : p.tables.exec = Jvm.exec) (hb : c.code = cc) (hdg : decode cc pc = .ok (.if_icmp .eq i, 3)) (ht : (pc : Int) + i = (a : Int)) (hz : zex1 (wX p l e R s m args below meth c Q B D cl dA aS nL bc bs) (.if_icmp .eq z, pc + 3, a, b, d, v) L st h cn sn) : wX p l e R s m args below meth c Q B D cl dA aS nL bc bs pc L st h cn sn := by
  intro hc1 hc2 H locs lsA hH hS hL
  unfold zex1 at hz
  dsimp only at hz
  split at hz <;> first | exact hz.elim | exact lv_icmp_eq hx hb hdg ht (fun q9 => hz.1 q9 hc1 hc2 _ _ _ hH hS hL) (fun q9 => hz.2 q9 hc1 hc2 _ _ _ hH hS hL)
theorem s_if_ne {i z : Int} (hx : p.tables.exec = Jvm.exec) (hb : c.code = cc) (hdg : decode cc pc = .ok (.ifCond .ne i, 3)) (ht : (pc : Int) + i = (a : Int)) (hz : zex1 (wX p l e R s m args below meth c Q B D cl dA aS nL bc bs) (.ifCond .ne z, pc + 3, a, b, d, v) L st h cn sn) : wX p l e R s m args below meth c Q B D cl dA aS nL bc bs pc L st h cn sn := by
  intro hc1 hc2 H locs lsA hH hS hL
  unfold zex1 at hz
  dsimp only at hz
  split at hz <;> first | exact hz.elim | exact lv_if_ne hx hb hdg ht (fun q9 => hz.1 q9 hc1 hc2 _ _ _ hH hS hL) (fun q9 => hz.2 (by show ¬ ¬ _; exact fun z9 => z9 q9) hc1 hc2 _ _ _ hH hS hL)
theorem s_icmp_ne {i z : Int} (hx : p.tables.exec = Jvm.exec) (hb : c.code = cc) (hdg : decode cc pc = .ok (.if_icmp .ne i, 3)) (ht : (pc : Int) + i = (a : Int)) (hz : zex1 (wX p l e R s m args below meth c Q B D cl dA aS nL bc bs) (.if_icmp .ne z, pc + 3, a, b, d, v) L st h cn sn) : wX p l e R s m args below meth c Q B D cl dA aS nL bc bs pc L st h cn sn := by
  intro hc1 hc2 H locs lsA hH hS hL
  unfold zex1 at hz
  dsimp only at hz
  split at hz <;> first | exact hz.elim | exact lv_icmp_ne hx hb hdg ht (fun q9 => hz.1 q9 hc1 hc2 _ _ _ hH hS hL) (fun q9 => hz.2 (by show ¬ ¬ _; exact fun z9 => z9 q9) hc1 hc2 _ _ _ hH hS hL)
theorem s_if_lt {i z : Int} (hx : p.tables.exec = Jvm.exec) (hb : c.code = cc) (hdg : decode cc pc = .ok (.ifCond .lt i, 3)) (ht : (pc : Int) + i = (a : Int)) (hz : zex1 (wX p l e R s m args below meth c Q B D cl dA aS nL bc bs) (.ifCond .lt z, pc + 3, a, b, d, v) L st h cn sn) : wX p l e R s m args below meth c Q B D cl dA aS nL bc bs pc L st h cn sn := by
  intro hc1 hc2 H locs lsA hH hS hL
  unfold zex1 at hz
  dsimp only at hz
  split at hz <;> first | exact hz.elim | exact lv_if_lt hx hb hdg ht (fun q9 => hz.1 q9 hc1 hc2 _ _ _ hH hS hL) (fun q9 => hz.2 q9 hc1 hc2 _ _ _ hH hS hL)
theorem s_icmp_lt {i z : Int} (hx : p.tables.exec = Jvm.exec) (hb : c.code = cc) (hdg : decode cc pc = .ok (.if_icmp .lt i, 3)) (ht : (pc : Int) + i = (a : Int)) (hz : zex1 (wX p l e R s m args below meth c Q B D cl dA aS nL bc bs) (.if_icmp .lt z, pc + 3, a, b, d, v) L st h cn sn) : wX p l e R s m args below meth c Q B D cl dA aS nL bc bs pc L st h cn sn := by
  intro hc1 hc2 H locs lsA hH hS hL
  unfold zex1 at hz
  dsimp only at hz
  split at hz <;> first | exact hz.elim | exact lv_icmp_lt hx hb hdg ht (fun q9 => hz.1 q9 hc1 hc2 _ _ _ hH hS hL) (fun q9 => hz.2 q9 hc1 hc2 _ _ _ hH hS hL)
theorem s_if_ge {i z : Int} (hx : p.tables.exec = Jvm.exec) (hb : c.code = cc) (hdg : decode cc pc = .ok (.ifCond .ge i, 3)) (ht : (pc : Int) + i = (a : Int)) (hz : zex1 (wX p l e R s m args below meth c Q B D cl dA aS nL bc bs) (.ifCond .ge z, pc + 3, a, b, d, v) L st h cn sn) : wX p l e R s m args below meth c Q B D cl dA aS nL bc bs pc L st h cn sn := by
  intro hc1 hc2 H locs lsA hH hS hL
  unfold zex1 at hz
  dsimp only at hz
  split at hz <;> first | exact hz.elim | exact lv_if_ge hx hb hdg ht (fun q9 => hz.1 q9 hc1 hc2 _ _ _ hH hS hL) (fun q9 => hz.2 q9 hc1 hc2 _ _ _ hH hS hL)
theorem s_icmp_ge {i z : Int} (hx : p.tables.exec = Jvm.exec) (hb : c.code = cc) (hdg : decode cc pc = .ok (.if_icmp .ge i, 3)) (ht : (pc : Int) + i = (a : Int)) (hz : zex1 (wX p l e R s m args below meth c Q B D cl dA aS nL bc bs) (.if_icmp .ge z, pc + 3, a, b, d, v) L st h cn sn) : wX p l e R s m args below meth c Q B D cl dA aS nL bc bs pc L st h cn sn := by
  intro hc1 hc2 H locs lsA hH hS hL
  unfold zex1 at hz
  dsimp only at hz
  split at hz <;> first | exact hz.elim | exact lv_icmp_ge hx hb hdg ht (fun q9 => hz.1 q9 hc1 hc2 _ _ _ hH hS hL) (fun q9 => hz.2 q9 hc1 hc2 _ _ _ hH hS hL)
theorem s_if_gt {i z : Int} (hx : p.tables.exec = Jvm.exec) (hb : c.code = cc) (hdg : decode cc pc = .ok (.ifCond .gt i, 3)) (ht : (pc : Int) + i = (a : Int)) (hz : zex1 (wX p l e R s m args below meth c Q B D cl dA aS nL bc bs) (.ifCond .gt z, pc + 3, a, b, d, v) L st h cn sn) : wX p l e R s m args below meth c Q B D cl dA aS nL bc bs pc L st h cn sn := by
  intro hc1 hc2 H locs lsA hH hS hL
  unfold zex1 at hz
  dsimp only at hz
  split at hz <;> first | exact hz.elim | exact lv_if_gt hx hb hdg ht (fun q9 => hz.1 q9 hc1 hc2 _ _ _ hH hS hL) (fun q9 => hz.2 q9 hc1 hc2 _ _ _ hH hS hL)
theorem s_icmp_gt {i z : Int} (hx : p.tables.exec = Jvm.exec) (hb : c.code = cc) (hdg : decode cc pc = .ok (.if_icmp .gt i, 3)) (ht : (pc : Int) + i = (a : Int)) (hz : zex1 (wX p l e R s m args below meth c Q B D cl dA aS nL bc bs) (.if_icmp .gt z, pc + 3, a, b, d, v) L st h cn sn) : wX p l e R s m args below meth c Q B D cl dA aS nL bc bs pc L st h cn sn := by
  intro hc1 hc2 H locs lsA hH hS hL
  unfold zex1 at hz
  dsimp only at hz
  split at hz <;> first | exact hz.elim | exact lv_icmp_gt hx hb hdg ht (fun q9 => hz.1 q9 hc1 hc2 _ _ _ hH hS hL) (fun q9 => hz.2 q9 hc1 hc2 _ _ _ hH hS hL)
theorem s_if_le {i z : Int} (hx : p.tables.exec = Jvm.exec) (hb : c.code = cc) (hdg : decode cc pc = .ok (.ifCond .le i, 3)) (ht : (pc : Int) + i = (a : Int)) (hz : zex1 (wX p l e R s m args below meth c Q B D cl dA aS nL bc bs) (.ifCond .le z, pc + 3, a, b, d, v) L st h cn sn) : wX p l e R s m args below meth c Q B D cl dA aS nL bc bs pc L st h cn sn := by
  intro hc1 hc2 H locs lsA hH hS hL
  unfold zex1 at hz
  dsimp only at hz
  split at hz <;> first | exact hz.elim | exact lv_if_le hx hb hdg ht (fun q9 => hz.1 q9 hc1 hc2 _ _ _ hH hS hL) (fun q9 => hz.2 q9 hc1 hc2 _ _ _ hH hS hL)
theorem s_icmp_le {i z : Int} (hx : p.tables.exec = Jvm.exec) (hb : c.code = cc) (hdg : decode cc pc = .ok (.if_icmp .le i, 3)) (ht : (pc : Int) + i = (a : Int)) (hz : zex1 (wX p l e R s m args below meth c Q B D cl dA aS nL bc bs) (.if_icmp .le z, pc + 3, a, b, d, v) L st h cn sn) : wX p l e R s m args below meth c Q B D cl dA aS nL bc bs pc L st h cn sn := by
  intro hc1 hc2 H locs lsA hH hS hL
  unfold zex1 at hz
  dsimp only at hz
  split at hz <;> first | exact hz.elim | exact lv_icmp_le hx hb hdg ht (fun q9 => hz.1 q9 hc1 hc2 _ _ _ hH hS hL) (fun q9 => hz.2 q9 hc1 hc2 _ _ _ hH hS hL)
theorem s_ifnull {i z : Int} (hx : p.tables.exec = Jvm.exec) (hb : c.code = cc) (hdg : decode cc pc = .ok (.ifnull i, 3)) (ht : (pc : Int) + i = (a : Int)) (hz : zex1 (wX p l e R s m args below meth c Q B D cl dA aS nL bc bs) (.ifnull z, pc + 3, a, b, d, v) L st h cn sn) : wX p l e R s m args below meth c Q B D cl dA aS nL bc bs pc L st h cn sn := by
  intro hc1 hc2 H locs lsA hH hS hL
  unfold zex1 at hz
  dsimp only at hz
  split at hz
  · exact lv_ifnullN hx hb hdg ht (hz hc1 hc2 _ _ _ hH hS hL)
  · exact lv_ifnull hx hb hdg (hz hc1 hc2 _ _ _ hH hS hL)
  · exact hz.elim
theorem s_ifnonnull {i z : Int} (hx : p.tables.exec = Jvm.exec) (hb : c.code = cc) (hdg : decode cc pc = .ok (.ifnonnull i, 3)) (ht : (pc : Int) + i = (a : Int)) (hz : zex1 (wX p l e R s m args below meth c Q B D cl dA aS nL bc bs) (.ifnonnull z, pc + 3, a, b, d, v) L st h cn sn) : wX p l e R s m args below meth c Q B D cl dA aS nL bc bs pc L st h cn sn := by
  intro hc1 hc2 H locs lsA hH hS hL
  unfold zex1 at hz
  dsimp only at hz
  split at hz
  · exact lv_ifnonnullN hx hb hdg (hz hc1 hc2 _ _ _ hH hS hL)
  · exact lv_ifnonnull hx hb hdg ht (hz hc1 hc2 _ _ _ hH hS hL)
  · exact hz.elim
end SIM1
end
section
noncomputable def zty : Nat → FieldType := fun k => match k with
  | 0 => .int
  | 1 => .boolean
  | 2 => .byte
  | 3 => .long
  | 4 => .array .int
  | _ => .object "TankBehind$Car"
noncomputable def ztys (dA : Nat → ClassId) : List (ClassId × FieldType) := (List.range 6).map fun k => (dA k, zty k)
theorem ztys_get (dA : Nat → ClassId) {k : Nat} (hk : k < 6) : (ztys dA)[k]? = some (dA k, zty k) := by
  unfold ztys
  rw [List.getElem?_map, List.getElem?_range hk]
  rfl
theorem zP1 {D : va_G} {cl : List vw_C} {q : Nat × va_E} {H : Heap} (h : va_at D cl q H) : va_P D cl [q] H := by
  intro k x hx
  cases k with
  | zero => cases hx; exact h
  | succ k => cases hx
theorem zhR.set {B : Nat} {D : va_G} {cl : List vw_C} {dA : Nat → ClassId} {aS : Nat → Nat} {h : zH} {H H1 : Heap} {r : Nat} {e0 e1 : zC} (hH : zhR B D cl dA aS h H) (hr : h[r]? = some e0) (he : va_at D cl (B + r, zcE B dA aS e1) H1) (z : H1.size = H.size) (oq : ∀ q : Nat, q ≠ B + r → H1[q]? = H[q]?) : zhR B D cl dA aS (h.set r e1) H1 := by
  refine ⟨by rw [z, List.length_set]; exact hH.1, fun i e hi => ?_⟩
  rw [List.getElem?_set] at hi
  by_cases q : r = i
  · subst q
    rw [if_pos rfl] at hi
    rw [if_pos (List.getElem?_eq_some_iff.mp hr).1] at hi
    cases hi
    exact he
  · rw [if_neg q] at hi
    exact (hH.2 i e hi).kept (oq _ (by show B + i ≠ B + r; omega))
theorem zhR.app {B : Nat} {D : va_G} {cl : List vw_C} {dA : Nat → ClassId} {aS : Nat → Nat} {h es : zH} {H H1 : Heap} (hH : zhR B D cl dA aS h H) (he : ∀ (i : Nat) (e : zC), es[i]? = some e → va_at D cl (H.size + i, zcE B dA aS e) H1) (z : H1.size = H.size + es.length) (oq : ∀ q : Nat, q < H.size → H1[q]? = H[q]?) : zhR B D cl dA aS (h ++ es) H1 := by
  refine ⟨by rw [z, List.length_append, hH.1, Nat.add_assoc], fun i e hi => ?_⟩
  by_cases q : i < h.length
  · rw [List.getElem?_append_left q] at hi
    exact (hH.2 i e hi).kept (oq _ (by show B + i < H.size; rw [hH.1]; omega))
  · rw [List.getElem?_append_right (by omega)] at hi
    have h9 := he _ _ hi
    rw [show H.size + (i - h.length) = B + i by rw [hH.1]; omega] at h9
    exact h9
theorem zhR.push {B : Nat} {D : va_G} {cl : List vw_C} {dA : Nat → ClassId} {aS : Nat → Nat} {h : zH} {e : zC} {H H1 : Heap} (hH : zhR B D cl dA aS h H) (he : va_at D cl (H.size, zcE B dA aS e) H1) (z : H1.size = H.size + 1) (oq : ∀ q : Nat, q < H.size → H1[q]? = H[q]?) : zhR B D cl dA aS (h ++ [e]) H1 := by
  refine hH.app (fun i e2 hi => ?_) z oq
  cases i with
  | zero => cases hi; exact he
  | succ i => cases hi
theorem zS_push {A : Nat → Prop} {H0 H H1 : Heap} {locs : List Loc} (hS : va_S A H0 H locs) (z : H.size ≤ H1.size) (oq : ∀ q : Nat, q < H.size → H1[q]? = H[q]?) : va_S A H0 H1 locs := ⟨Nat.le_trans hS.1 z, fun x h1 h2 => (oq x (Nat.lt_of_lt_of_le h1 hS.1)).trans (hS.2.1 x h1 h2), hS.2.2⟩
theorem zrf_cv (B : Nat) (aS : Nat → Nat) (r : Option Nat) : zcv B aS (zrf r) = va_rf (r.map (fun a => B + a)) := by cases r <;> rfl
/-- what the classes' tables say -/
noncomputable def zTT (tt : zT) (cl : List vw_C) (Ts : List Jvm.Cond) : Prop := ∀ (k : Nat) (q : vw_C), cl[k]? = some q → ∃ (ty : Nat → FieldType) (f : Nat → Bool), tt[k]? = some (ty, q.2.2, f) ∧ (∀ j, j < q.2.2 → parseFieldDescriptor (q.2.1 j).2.2.1 = some (ty j)) ∧ (∀ a, a < q.2.2 → ∀ b, b < q.2.2 → a ≠ b → (q.2.1 a).2.1 ≠ (q.2.1 b).2.1) ∧ ∀ w ∈ u_ws q.1 q.2.1 q.2.2, w ∈ Ts
theorem zfields_V (B : Nat) (aS : Nat → Nat) (ty : Nat → FieldType) {N j : Nat} (hj : j < N) : defaultValue (ty j) = vp_V ((zfields ty N).map (zcv B aS)) j := by
  unfold vp_V zfields
  rw [List.getD_eq_getElem?_getD, List.getElem?_map, List.getElem?_map, List.getElem?_range hj]
  show defaultValue (ty j) = zcv B aS (defaultValue (ty j))
  cases ty j <;> rfl
section SIM2
variable {p : Program} {l : Launch} {e : Env} {R : Room} {s : State} {m : MethodId} {args : Array Value} {below : List Frame} {meth : Method} {c : Code} {Q : State → Prop} {cc : ByteArray} {B : Nat} {D : va_G} {cl : List vw_C} {dA : Nat → ClassId} {aS : Nat → Nat} {nL bc bs pc : Nat}
variable {a b d : Nat} {v : Value} {L : zL} {st : List Value} {h : zH} {cn sn : Nat}
variable {tt : zT} {G : zG} {rt : Option FieldType} {M : zM} {ret : zQ} {Ts : List Jvm.Cond} {own : String}
theorem s_iaload (hx : p.tables.exec = Jvm.exec) (hb : c.code = cc) (hdg : decode cc pc = .ok (.iaload, 1)) (hK : va_K D cl (ztys dA) s) (hz : zex2 tt G bc bs rt M ret (wX p l e R s m args below meth c Q B D cl dA aS nL bc bs) (.iaload, pc + 1, a, b, d, v) L st h cn sn) : wX p l e R s m args below meth c Q B D cl dA aS nL bc bs pc L st h cn sn := by
  intro hc1 hc2 H locs lsA hH hS hL
  unfold zex2 at hz
  dsimp only at hz
  split at hz
  · obtain ⟨N, f, hr, hi, k⟩ := hz
    exact va_iald hx hb hK (zP1 (hH.2 _ _ hr)) 0 0 rfl (ztys_get dA (by omega)) hi hdg (k hc1 hc2 _ _ _ hH hS hL)
  · exact hz.elim
theorem s_baload (hx : p.tables.exec = Jvm.exec) (hb : c.code = cc) (hdg : decode cc pc = .ok (.baload, 1)) (hK : va_K D cl (ztys dA) s) (hz : zex2 tt G bc bs rt M ret (wX p l e R s m args below meth c Q B D cl dA aS nL bc bs) (.baload, pc + 1, a, b, d, v) L st h cn sn) : wX p l e R s m args below meth c Q B D cl dA aS nL bc bs pc L st h cn sn := by
  intro hc1 hc2 H locs lsA hH hS hL
  unfold zex2 at hz
  dsimp only at hz
  split at hz
  · obtain ⟨k0, N, f, hk, hr, hi, k⟩ := hz
    rcases hk with rfl | rfl
    · exact va_zald hx hb hK (zP1 (hH.2 _ _ hr)) 0 1 rfl (ztys_get dA (by omega)) hi hdg (k hc1 hc2 _ _ _ hH hS hL)
    · exact va_bald hx hb hK (zP1 (hH.2 _ _ hr)) 0 2 rfl (ztys_get dA (by omega)) hi hdg (k hc1 hc2 _ _ _ hH hS hL)
  · exact hz.elim
theorem s_laload (hx : p.tables.exec = Jvm.exec) (hb : c.code = cc) (hdg : decode cc pc = .ok (.laload, 1)) (hK : va_K D cl (ztys dA) s) (hz : zex2 tt G bc bs rt M ret (wX p l e R s m args below meth c Q B D cl dA aS nL bc bs) (.laload, pc + 1, a, b, d, v) L st h cn sn) : wX p l e R s m args below meth c Q B D cl dA aS nL bc bs pc L st h cn sn := by
  intro hc1 hc2 H locs lsA hH hS hL
  unfold zex2 at hz
  dsimp only at hz
  split at hz
  · obtain ⟨N, f, hr, hi, k⟩ := hz
    exact va_lald hx hb hK (zP1 (hH.2 _ _ hr)) 0 3 rfl (ztys_get dA (by omega)) hi hdg (k hc1 hc2 _ _ _ hH hS hL)
  · exact hz.elim
theorem zW_aald {k0 N : Nat} {f : Nat → Option Nat} {i : Int32} {r : Nat} {lsA : Array Slot} {H : Heap} {locs : List Loc} {rest : List Value} (hx : p.tables.exec = Jvm.exec) (hb : c.code = cc) (hdg : decode cc pc = .ok (.aaload, 1)) (hK : va_K D cl (ztys dA) s) (hk : k0 = 4 ∨ k0 = 5) (hH : zhR B D cl dA aS h H) (hr : h[r]? = some (.inl (k0, N, .inr (.inr (.inr (.inr f)))))) (hi : vp_in i N) (k : W p l e R s m args below meth c H locs cn sn Q (F0 m (pc + 1) lsA (zcv B aS (zrf (f i.toNatClampNeg)) :: rest))) : W p l e R s m args below meth c H locs cn sn Q (F0 m pc lsA (.int i :: .ref (B + r) :: rest)) := by
  have hlt : i.toNatClampNeg < N := Nat.not_le.mp fun q => hi (Or.inr q)
  have hat := hH.2 _ _ hr
  have ha : H[B + r]? = some (vp_cell (dA k0) (N, .inr (.inr (.inr (.inr (fun j => (f j).map (fun a => B + a))))))) := hat
  rw [zrf_cv] at k
  rcases hk with rfl | rfl
  · exact W.aald (v := va_rf ((f i.toNatClampNeg).map (fun a => B + a))) (ty := .array .int) hx hb ha ((hK.2 4 _ (ztys_get dA (by omega))).1 N (fun j => va_rf ((f j).map (fun a => B + a)))) rfl (fun q => by cases q) (by show ¬ (i < 0 ∨ (arrV _ _ _).slots.size ≤ _); rw [arrV_size]; exact hi) (by show (arrV _ _ _).slots[_]? = _; rw [arrV_read _ _ hlt]) rfl rfl hdg k
  · exact W.aald (v := va_rf ((f i.toNatClampNeg).map (fun a => B + a))) (ty := .object "TankBehind$Car") hx hb ha ((hK.2 5 _ (ztys_get dA (by omega))).1 N (fun j => va_rf ((f j).map (fun a => B + a)))) rfl (fun q => by cases q) (by show ¬ (i < 0 ∨ (arrV _ _ _).slots.size ≤ _); rw [arrV_size]; exact hi) (by show (arrV _ _ _).slots[_]? = _; rw [arrV_read _ _ hlt]) rfl rfl hdg k
theorem s_aaload (hx : p.tables.exec = Jvm.exec) (hb : c.code = cc) (hdg : decode cc pc = .ok (.aaload, 1)) (hK : va_K D cl (ztys dA) s) (hz : zex2 tt G bc bs rt M ret (wX p l e R s m args below meth c Q B D cl dA aS nL bc bs) (.aaload, pc + 1, a, b, d, v) L st h cn sn) : wX p l e R s m args below meth c Q B D cl dA aS nL bc bs pc L st h cn sn := by
  intro hc1 hc2 H locs lsA hH hS hL
  unfold zex2 at hz
  dsimp only at hz
  split at hz
  · obtain ⟨k0, N, f, hk, hr, hi, k⟩ := hz
    exact zW_aald hx hb hdg hK hk hH hr hi (k hc1 hc2 _ _ _ hH hS hL)
  · exact hz.elim
theorem s_alen (hx : p.tables.exec = Jvm.exec) (hb : c.code = cc) (hdg : decode cc pc = .ok (.arraylength, 1)) (hK : va_K D cl (ztys dA) s) (hz : zex2 tt G bc bs rt M ret (wX p l e R s m args below meth c Q B D cl dA aS nL bc bs) (.arraylength, pc + 1, a, b, d, v) L st h cn sn) : wX p l e R s m args below meth c Q B D cl dA aS nL bc bs pc L st h cn sn := by
  intro hc1 hc2 H locs lsA hH hS hL
  unfold zex2 at hz
  dsimp only at hz
  split at hz
  · obtain ⟨k0, N, x, hk, hr, k⟩ := hz
    refine va_alen hx hb hK (zP1 (hH.2 _ _ hr)) 0 k0 rfl (ztys_get dA hk) ?_ hdg (k hc1 hc2 _ _ _ hH hS hL)
    rcases x with x | x | x | x | x <;> rfl
  · exact hz.elim
theorem s_saload (hx : p.tables.exec = Jvm.exec) (hb : c.code = cc) (hdg : decode cc pc = .ok (.iaload, 1)) (hX : aS 0 < s.heap.size ∧ ¬ B ≤ aS 0 ∧ va_X (aS 0) G.2.2.1 G.2.2.2 s s.heap) (hz : zex2 tt G bc bs rt M ret (wX p l e R s m args below meth c Q B D cl dA aS nL bc bs) (.saload, pc + 1, a, b, d, v) L st h cn sn) : wX p l e R s m args below meth c Q B D cl dA aS nL bc bs pc L st h cn sn := by
  intro hc1 hc2 H locs lsA hH hS hL
  unfold zex2 at hz
  dsimp only at hz
  split at hz
  · obtain ⟨hi, k⟩ := hz
    exact va_sld hx hb hX.2.2 hX.1 hX.2.1 hS hi hdg (k hc1 hc2 _ _ _ hH hS hL)
  · exact hz.elim
theorem s_slen (hx : p.tables.exec = Jvm.exec) (hb : c.code = cc) (hdg : decode cc pc = .ok (.arraylength, 1)) (hX : aS 0 < s.heap.size ∧ ¬ B ≤ aS 0 ∧ va_X (aS 0) G.2.2.1 G.2.2.2 s s.heap) (hz : zex2 tt G bc bs rt M ret (wX p l e R s m args below meth c Q B D cl dA aS nL bc bs) (.i2s, pc + 1, a, b, d, v) L st h cn sn) : wX p l e R s m args below meth c Q B D cl dA aS nL bc bs pc L st h cn sn := by
  intro hc1 hc2 H locs lsA hH hS hL
  unfold zex2 at hz
  dsimp only at hz
  split at hz
  · exact va_slen hx hb hX.2.2 hX.1 hX.2.1 hS hdg (hz hc1 hc2 _ _ _ hH hS hL)
  · exact hz.elim
theorem s_iastore (hx : p.tables.exec = Jvm.exec) (hb : c.code = cc) (hdg : decode cc pc = .ok (.iastore, 1)) (hK : va_K D cl (ztys dA) s) (hz : zex2 tt G bc bs rt M ret (wX p l e R s m args below meth c Q B D cl dA aS nL bc bs) (.iastore, pc + 1, a, b, d, v) L st h cn sn) : wX p l e R s m args below meth c Q B D cl dA aS nL bc bs pc L st h cn sn := by
  intro hc1 hc2 H locs lsA hH hS hL
  unfold zex2 at hz
  dsimp only at hz
  split at hz
  · rename_i x i r s9
    obtain ⟨N, f, hr, hi, k⟩ := hz
    have ha : H[B + r]? = some (vp_cell (dA 0) (N, .inl f)) := hH.2 _ _ hr
    refine W.iast hx hb ha ((hK.2 0 _ (ztys_get dA (by omega))).1 N (fun j => .int (f j))) (fun q => by cases q) (by show ¬ (i < 0 ∨ (arrV _ _ _).slots.size ≤ _); rw [arrV_size]; exact hi) rfl rfl hdg fun H1 e9 z oq => ?_
    refine k hc1 hc2 _ _ _ (hH.set hr ?_ z oq) (hS.put z oq (Nat.le_add_right B r)) hL
    show H1[B + r]? = some (vp_cell _ _)
    rw [e9]
    rw [vp_cell_i, show zcA B (N, .inl (upd f i.toNatClampNeg x)) = (N, .inl (upd f i.toNatClampNeg x)) from rfl, vp_cell_i, arrV_store]
    congr 2
    funext q
    by_cases hq : q = i.toNatClampNeg
    · subst hq
      simp [updV, upd]
    · simp [updV, upd, hq]
  · exact hz.elim
theorem s_bastore (hx : p.tables.exec = Jvm.exec) (hb : c.code = cc) (hdg : decode cc pc = .ok (.bastore, 1)) (hK : va_K D cl (ztys dA) s) (hz : zex2 tt G bc bs rt M ret (wX p l e R s m args below meth c Q B D cl dA aS nL bc bs) (.bastore, pc + 1, a, b, d, v) L st h cn sn) : wX p l e R s m args below meth c Q B D cl dA aS nL bc bs pc L st h cn sn := by
  intro hc1 hc2 H locs lsA hH hS hL
  unfold zex2 at hz
  dsimp only at hz
  split at hz
  · rename_i x i r s9
    obtain ⟨k0, N, f, hk, hr, hi, k⟩ := hz
    have ha : H[B + r]? = some (vp_cell (dA k0) (N, .inl f)) := hH.2 _ _ hr
    rcases hk with rfl | rfl
    · refine W.zast hx hb ha ((hK.2 1 _ (ztys_get dA (by omega))).1 N (fun j => .int (f j))) (fun q => by cases q) (by show ¬ (i < 0 ∨ (arrV _ _ _).slots.size ≤ _); rw [arrV_size]; exact hi) rfl rfl hdg fun H1 e9 z oq => ?_
      refine k hc1 hc2 _ _ _ (hH.set hr ?_ z oq) (hS.put z oq (Nat.le_add_right B r)) hL
      show H1[B + r]? = some (vp_cell _ _)
      rw [e9]
      rw [vp_cell_i, show zcA B (N, .inl (upd f i.toNatClampNeg (vp_nar (if (1 : Nat) = 1 then .boolean else .byte) x))) = (N, .inl (upd f i.toNatClampNeg (vp_nar .boolean x))) from rfl, vp_cell_i, arrV_store]
      congr 2
      funext q
      by_cases hq : q = i.toNatClampNeg
      · subst hq
        simp [updV, upd, vp_nar]
        try rfl
      · simp [updV, upd, hq]
    · refine W.bast hx hb ha ((hK.2 2 _ (ztys_get dA (by omega))).1 N (fun j => .int (f j))) (fun q => by cases q) (by show ¬ (i < 0 ∨ (arrV _ _ _).slots.size ≤ _); rw [arrV_size]; exact hi) rfl rfl hdg fun H1 e9 z oq => ?_
      refine k hc1 hc2 _ _ _ (hH.set hr ?_ z oq) (hS.put z oq (Nat.le_add_right B r)) hL
      show H1[B + r]? = some (vp_cell _ _)
      rw [e9]
      rw [vp_cell_i, show zcA B (N, .inl (upd f i.toNatClampNeg (vp_nar (if (2 : Nat) = 1 then .boolean else .byte) x))) = (N, .inl (upd f i.toNatClampNeg (vp_nar .byte x))) from rfl, vp_cell_i, arrV_store]
      congr 2
      funext q
      by_cases hq : q = i.toNatClampNeg
      · subst hq
        simp [updV, upd, vp_nar]
        try rfl
      · simp [updV, upd, hq]
  · exact hz.elim
theorem s_lastore (hx : p.tables.exec = Jvm.exec) (hb : c.code = cc) (hdg : decode cc pc = .ok (.lastore, 1)) (hK : va_K D cl (ztys dA) s) (hz : zex2 tt G bc bs rt M ret (wX p l e R s m args below meth c Q B D cl dA aS nL bc bs) (.lastore, pc + 1, a, b, d, v) L st h cn sn) : wX p l e R s m args below meth c Q B D cl dA aS nL bc bs pc L st h cn sn := by
  intro hc1 hc2 H locs lsA hH hS hL
  unfold zex2 at hz
  dsimp only at hz
  split at hz
  · rename_i x i r s9
    obtain ⟨N, f, hr, hi, k⟩ := hz
    have ha : H[B + r]? = some (vp_cell (dA 3) (N, .inr (.inl f))) := hH.2 _ _ hr
    refine W.last hx hb ha ((hK.2 3 _ (ztys_get dA (by omega))).1 N (fun j => .long (f j))) (fun q => by cases q) (by show ¬ (i < 0 ∨ (arrV _ _ _).slots.size ≤ _); rw [arrV_size]; exact hi) rfl rfl hdg fun H1 e9 z oq => ?_
    refine k hc1 hc2 _ _ _ (hH.set hr ?_ z oq) (hS.put z oq (Nat.le_add_right B r)) hL
    show H1[B + r]? = some (vp_cell _ _)
    rw [e9]
    rw [vp_cell_l, show zcA B (N, .inr (.inl (vp_updL f i.toNatClampNeg x))) = (N, .inr (.inl (vp_updL f i.toNatClampNeg x))) from rfl, vp_cell_l, arrV_store]
    congr 2
    funext q
    by_cases hq : q = i.toNatClampNeg
    · subst hq
      simp [updV, vp_updL]
    · simp [updV, vp_updL, hq]
  · exact hz.elim
theorem s_getfield {C : String} {T : u_T} {N i : Nat} (hx : p.tables.exec = Jvm.exec) (hb : c.code = cc) (hdg : decode cc pc = .ok (.getfield i, 3)) (hts : ∀ w ∈ Ts, w.before args s = true) (hT : zTT tt cl Ts) (hown : s.vm.findClass own = some m.cls) (hK : va_K D cl (ztys dA) s) (hc : cl[a]? = some (C, T, N)) (hk : b < N) (hlink : (Jvm.Cond.fieldLink own i (T b).1 (T b).2.1 (T b).2.2.1).before args s = true) {z9 : Nat} (hz : zex2 tt G bc bs rt M ret (wX p l e R s m args below meth c Q B D cl dA aS nL bc bs) (.getfield z9, pc + 3, a, b, d, v) L st h cn sn) : wX p l e R s m args below meth c Q B D cl dA aS nL bc bs pc L st h cn sn := by
  intro hc1 hc2 H locs lsA hH hS hL
  unfold zex2 at hz
  dsimp only at hz
  split at hz
  · obtain ⟨fs, w, hr, hw, k⟩ := hz
    obtain ⟨ty, f, ht1, ht2, ht3, hin⟩ := hT a _ hc
    exact va_get (D := D) hx hb hts hin hown hK (zP1 (hH.2 _ _ hr)) 0 rfl hc b hk hlink (fun _ h9 => h9) (by rw [List.getElem?_map, hw]; rfl) hdg (k hc1 hc2 _ _ _ hH hS hL)
  · exact hz.elim
theorem s_putfield {C : String} {T : u_T} {N i : Nat} (hx : p.tables.exec = Jvm.exec) (hb : c.code = cc) (hdg : decode cc pc = .ok (.putfield i, 3)) (hts : ∀ w ∈ Ts, w.before args s = true) (hT : zTT tt cl Ts) (hown : s.vm.findClass own = some m.cls) (hK : va_K D cl (ztys dA) s) (hc : cl[a]? = some (C, T, N)) (hk : b < N) (hlink : (Jvm.Cond.fieldLink own i (T b).1 (T b).2.1 (T b).2.2.1).before args s = true) (hfin : (T b).2.2.2 = false ∨ (meth.name = "<init>" ∧ (T b).1 = own)) {z9 : Nat} (hz : zex2 tt G bc bs rt M ret (wX p l e R s m args below meth c Q B D cl dA aS nL bc bs) (.putfield z9, pc + 3, a, b, d, v) L st h cn sn) : wX p l e R s m args below meth c Q B D cl dA aS nL bc bs pc L st h cn sn := by
  intro hc1 hc2 H locs lsA hH hS hL
  unfold zex2 at hz
  dsimp only at hz
  split at hz
  · rename_i w r s9
    obtain ⟨fs, t, hr, hl, ht, hn, hf, k⟩ := hz
    obtain ⟨ty, f, ht1, ht2, ht3, hin⟩ := hT a _ hc
    rw [ht1] at ht
    have et : ty b = t := Option.some.inj ht
    subst et
    have hn' : narrow (ty b) (zcv B aS w) = zcv B aS w := by
      cases w <;> first | exact hn | (cases hty : ty b <;> rfl)
    have hf' : fits (ty b) (zcv B aS w) = true := by
      cases w <;> first | exact hf | (revert hf; cases ty b <;> first | exact fun q => q | (intro q; cases q))
    have hap := va_apart (own := own) hts hin ty ht2 ht3 hK hc
    obtain ⟨q0, h1, cell, q1, q2, q3, q4⟩ := hH.2 _ _ hr
    have hq0 : q0 = (C, T, N) := Option.some.inj (h1.symm.trans hc)
    subst hq0
    obtain ⟨hSl, hfc, kC, hkC, hkind⟩ := hK.1 a _ hc
    obtain ⟨cf, kf, fi, f2, hi, hsl⟩ := hSl b hk
    have hlay := u_lays hts hin hk
    have hst := (u_facts hfc hkC hlay hi).1
    have hln : b < (fs.map (zcv B aS)).length := by rw [List.length_map]; exact hl
    have fin : ∀ H' : Heap, H'[B + r]? = some (cell.setSlot (D.2 a b) (zcv B aS w)) → H'.size = H.size → (∀ q, q ≠ B + r → H'[q]? = H[q]?) → W p l e R s m args below meth c H' (locs ++ [⟨B + r, D.2 a b⟩]) cn sn Q (F0 m (pc + 3) lsA (s9.map (zcv B aS))) := by
      intro H' e1 e2 e3
      refine k hc1 hc2 _ _ _ (hH.set hr ?_ e2 e3) (hS.put e2 e3 (Nat.le_add_right B r)) hL
      show va_at D cl (B + r, .inr (a, (fs.set b w).map (zcv B aS))) H'
      rw [List.map_set]
      exact ⟨_, hc, t_OB.to (V := updV (vp_V (fs.map (zcv B aS))) b (zcv B aS w)) ⟨_, e1, q2, q3, t_set q4 hap hk _⟩ (fun j _ => vp_updV_set hln _ j)⟩
    rcases hfin with hfin | ⟨hin2, hdecl⟩
    · have hlay2 := hts _ (hin _ (u_in_lay hk))
      unfold u_lay at hlay2
      rw [if_neg (by rw [hfin]; decide)] at hlay2
      have h6 := u_store hfc hkC hkind hlay2 hi (ht2 b hk) hn' hf'
      refine W.putK hx hb (f := f2) ⟨hown, hlink, ⟨_, _, _, hi⟩, hst⟩ (by rw [q2]; exact h6) q1 q3 (by rw [hsl]; exact k2_hasslot (q4 b hk)) rfl rfl hdg fun H' e1 e2 e3 => ?_
      rw [hsl] at e1 ⊢
      exact fin H' e1 e2 e3
    · cases hfin2 : (T b).2.2.2 with
      | false =>
        have hlay2 := hts _ (hin _ (u_in_lay hk))
        unfold u_lay at hlay2
        rw [if_neg (by rw [hfin2]; decide)] at hlay2
        have h6 := u_store hfc hkC hkind hlay2 hi (ht2 b hk) hn' hf'
        refine W.putK hx hb (f := f2) ⟨hown, hlink, ⟨_, _, _, hi⟩, hst⟩ (by rw [q2]; exact h6) q1 q3 (by rw [hsl]; exact k2_hasslot (q4 b hk)) rfl rfl hdg fun H' e1 e2 e3 => ?_
        rw [hsl] at e1 ⊢
        exact fin H' e1 e2 e3
      | true =>
        have hlay2 := hts _ (hin _ (u_in_lay hk))
        unfold u_lay at hlay2
        rw [if_pos hfin2] at hlay2
        have hcf : m.cls = cf := by
          obtain ⟨_, _, c', _, _, _, -, -, hf', -, -, -, hown2, -⟩ := Cond.laysFinal_spec hlay2
          have e1 : c' = cf := by have := hi.symm.trans hf'; simp at this; exact this.1.symm
          rw [hdecl] at hown2
          rw [← e1]; exact Option.some.inj (hown.symm.trans hown2)
        have h6 := u_fits hfc hkC hkind (Or.inr hlay2) hi (ht2 b hk) hn' hf'
        refine W.putFinK hx hb hown hlink hi hst hcf hin2 (by rw [q2]; exact h6) q1 q3 (by rw [hsl]; exact k2_hasslot (q4 b hk)) rfl rfl hdg fun H' e1 e2 e3 => ?_
        rw [hsl] at e1 ⊢
        exact fin H' e1 e2 e3
  · exact hz.elim
theorem s_new {C : String} {T : u_T} {N i : Nat} (hx : p.tables.exec = Jvm.exec) (hb : c.code = cc) (hdg : decode cc pc = .ok (.new i, 3)) (hts : ∀ w ∈ Ts, w.before args s = true) (hT : zTT tt cl Ts) (hown : s.vm.findClass own = some m.cls) (hK : va_K D cl (ztys dA) s) (hc : cl[a]? = some (C, T, N)) (hR : bc ≤ R.cells ∧ bs ≤ R.slots) (hcl : (Jvm.Cond.classLink own i C).before args s = true) (hinst : (Jvm.Cond.instantiable C N).before args s = true) (hini : (Jvm.Cond.initialized C).before args s = true) {z9 : Nat} (hz : zex2 tt G bc bs rt M ret (wX p l e R s m args below meth c Q B D cl dA aS nL bc bs) (.new z9, pc + 3, a, b, d, v) L st h cn sn) : wX p l e R s m args below meth c Q B D cl dA aS nL bc bs pc L st h cn sn := by
  intro hc1 hc2 H locs lsA hH hS hL
  unfold zex2 at hz
  dsimp only at hz
  obtain ⟨g1, g2, k⟩ := hz
  obtain ⟨ty, f, ht1, ht2, ht3, hin⟩ := hT a _ hc
  have e0 : zcls tt a = zfields ty N := by unfold zcls; rw [ht1]
  have e2 : (zcls tt a).length = N := by rw [e0]; simp [zfields]
  rw [e2] at g2 k
  have hKn := hK.1 a _ hc
  refine W.newcK hx hb hown hcl hinst hini rfl hdg (by omega) (by omega) hKn.2.1 rfl fun H1 kC hkC e1 z1 o1 => ?_
  have h9 := k (by omega) (by omega) H1 locs lsA (hH.push (e := .inr (a, zcls tt a)) ?_ z1 o1) (zS_push hS (by omega) o1) hL
  · have e3 : (Value.ref h.length :: st).map (zcv B aS) = .ref H.size :: st.map (zcv B aS) := by rw [hH.1]; rfl
    rw [e3] at h9
    exact h9
  · refine ⟨_, hc, (u_born ty hts hin hKn hkC e1 ht2).to (fun j hj => ?_)⟩
    show defaultValue (ty j) = vp_V ((zcls tt a).map (zcv B aS)) j
    rw [e0]
    exact zfields_V B aS ty hj
theorem zat_arr {D : va_G} {cl : List vw_C} {q : Nat} {H : Heap} {k N : Nat} (hk : k < 6) (e1 : H[q]? = some (arrV (dA k) N (fun _ => defaultValue (zty k)))) : va_at D cl (q, zcE B dA aS (zarr k N)) H := by
  rcases (by omega : k = 0 ∨ k = 1 ∨ k = 2 ∨ k = 3 ∨ k = 4 ∨ k = 5) with rfl | rfl | rfl | rfl | rfl | rfl
  all_goals
    show H[q]? = some (vp_cell _ _)
    rw [e1]
  · rw [show zcA B (N, .inl (fun _ => (0 : Int32))) = (N, .inl (fun _ => (0 : Int32))) from rfl, vp_cell_i]; rfl
  · rw [show zcA B (N, .inl (fun _ => (0 : Int32))) = (N, .inl (fun _ => (0 : Int32))) from rfl, vp_cell_i]; rfl
  · rw [show zcA B (N, .inl (fun _ => (0 : Int32))) = (N, .inl (fun _ => (0 : Int32))) from rfl, vp_cell_i]; rfl
  · rw [show zcA B (N, .inr (.inl (fun _ => (0 : Int64)))) = (N, .inr (.inl (fun _ => (0 : Int64)))) from rfl, vp_cell_l]; rfl
  · rw [show zcA B (N, .inr (.inr (.inr (.inr (fun _ => (none : Option Nat)))))) = (N, .inr (.inr (.inr (.inr (fun _ => (none : Option Nat)))))) from rfl, vp_cell_q]; rfl
  · rw [show zcA B (N, .inr (.inr (.inr (.inr (fun _ => (none : Option Nat)))))) = (N, .inr (.inr (.inr (.inr (fun _ => (none : Option Nat)))))) from rfl, vp_cell_q]; rfl
theorem zRA_find {k : Nat} {cA : ClassId} (hk : k < 6) (hK : va_K D cl (ztys dA) s) (hf : s.vm.findClass ("[" ++ (zty k).toString) = some cA) : cA = dA k := by
  have h9 := (hK.2 k _ (ztys_get dA hk)).2
  rcases (by omega : k = 0 ∨ k = 1 ∨ k = 2 ∨ k = 3 ∨ k = 4 ∨ k = 5) with rfl | rfl | rfl | rfl | rfl | rfl
  · exact Option.some.inj (hf.symm.trans h9)
  · exact Option.some.inj (hf.symm.trans h9)
  · exact Option.some.inj (hf.symm.trans h9)
  · exact Option.some.inj (hf.symm.trans h9)
  · exact Option.some.inj (hf.symm.trans h9)
  · obtain ⟨kA, comp, h1, h2, h3, h4⟩ := h9
    exact Option.some.inj (hf.symm.trans h4)
theorem s_newarray {t : ArrayType} (hx : p.tables.exec = Jvm.exec) (hb : c.code = cc) (hdg : decode cc pc = .ok (.newarray t, 2)) (hK : va_K D cl (ztys dA) s) (hR : bc ≤ R.cells ∧ bs ≤ R.slots) (harr : (Jvm.Cond.arrayClass (newarray.typeOf t)).before args s = true) (hz : zex2 tt G bc bs rt M ret (wX p l e R s m args below meth c Q B D cl dA aS nL bc bs) (.newarray t, pc + 2, a, b, d, v) L st h cn sn) : wX p l e R s m args below meth c Q B D cl dA aS nL bc bs pc L st h cn sn := by
  intro hc1 hc2 H locs lsA hH hS hL
  unfold zex2 at hz
  dsimp only at hz
  split at hz
  · rename_i x s9
    obtain ⟨g0, g3, g1, g2, g4, k⟩ := hz
    have hty : newarray.typeOf t = zty (zkind t) ∧ zkind t < 6 ∧ componentBytes (newarray.typeOf t) ≤ 8 := by
      cases t <;> first | exact ⟨rfl, by decide, by decide⟩ | (exfalso; revert g4; decide)
    have hbytes : x.toNatClampNeg * componentBytes (newarray.typeOf t) ≤ 536870912 := Nat.le_trans (Nat.mul_le_mul g3 hty.2.2) (by decide)
    refine va_newaK hx hb harr rfl hdg rfl g0 rfl hbytes (by omega) (by omega) rfl fun H1 cA e1 z1 o1 hAr hNm => ?_
    rw [hty.1] at hNm e1
    have ec := zRA_find hty.2.1 hK hNm
    subst ec
    have h9 := k (by omega) (by omega) H1 locs lsA (hH.push (e := zarr (zkind t) x.toNatClampNeg) (zat_arr hty.2.1 e1) z1 o1) (zS_push hS (by omega) o1) hL
    have e3 : (Value.ref h.length :: s9).map (zcv B aS) = .ref H.size :: s9.map (zcv B aS) := by rw [hH.1]; rfl
    rw [e3] at h9
    exact h9
  · exact hz.elim
end SIM2
end
section
theorem ztoNat {i : Int} (h : 0 ≤ i) : ((i.toNat : Nat) : Int) = i := Int.toNat_of_nonneg h
noncomputable def zPc (B : Nat) (D : va_G) (cl : List vw_C) (dA : Nat → ClassId) (aS : Nat → Nat) (Z : State → Prop) (as : List Value) (h : zH) : Array Value → State → Prop := va_Pc (as.map (zcv B aS)) (fun U => zhR B D cl dA aS h U.heap ∧ va_K D cl (ztys dA) U ∧ Z U)
noncomputable def zQc (B : Nat) (D : va_G) (cl : List vw_C) (dA : Nat → ClassId) (aS : Nat → Nat) (K : zQ) : Array Value → State → Outcome → State → Prop := fun _ st o t => (∃ (w : Option Value) (h2 : zH), o = .returned (w.map (zcv B aS)) ∧ K w h2 ∧ zhR B D cl dA aS h2 t.heap) ∧ va_F (fun q => B ≤ q) st t
noncomputable def zrm (d mc ms : Nat) : Room := { frames := d + 8, cells := mc, slots := ms, locals := d * 64 + 512 }
theorem zrm_loc (d mc ms : Nat) : (zrm d mc ms).locals = d * 64 + 512 := rfl
theorem zrm_fr (d mc ms : Nat) : (zrm d mc ms).frames = d + 8 := rfl
theorem zrm_ok {d mc ms nL2 : Nat} {R : Room} (h1 : d + 9 ≤ R.frames) (h2 : d * 64 + 576 ≤ R.locals) (h3 : nL2 ≤ 40) : (zrm d mc ms).frames + 1 ≤ R.frames ∧ 8 + (nL2 + 11) + (zrm d mc ms).locals ≤ R.locals := by
  have e1 := zrm_loc d mc ms
  have e2 := zrm_fr d mc ms
  generalize (zrm d mc ms).locals = x at e1 ⊢
  generalize (zrm d mc ms).frames = y at e2 ⊢
  generalize R.frames = f at h1 ⊢
  generalize R.locals = o at h2 ⊢
  generalize d * 64 = z at e1 h2
  exact ⟨by omega, by omega⟩
/-- what the callees of depth d are worth in the machine -/
noncomputable def zMet (l : Launch) (nm : List (MethodName × ByteArray × Nat)) (G : zG) (B : Nat) (D : va_G) (cl : List vw_C) (dA : Nat → ClassId) (aS : Nat → Nat) (Z : State → Prop) (Ts : List Jvm.Cond) (d : Nat) (M : zM) : Prop := ∀ (j : Nat) (as : List Value) (h : zH) (K : zQ), M j as h K → ∀ (y : MethodName) (bytes : ByteArray) (np : Nat) (cd : zK) (nL : Nat) (rt : Option FieldType) (mc ms : Nat), nm[j]? = some (y, bytes, np) → G.1[j]? = some (cd, nL, rt, mc, ms) → Met l y (.code y bytes nL rt :: Ts) (zrm d mc ms) (zPc B D cl dA aS Z as h) (zQc B D cl dA aS K) mc ms (fun q => B ≤ q)
/-- what is known below the world's own cells, and stays -/
noncomputable def zStays (B : Nat) (Z : State → Prop) : Prop := (∀ s U : State, s.WarmedH U.vm → s.heap.size ≤ U.heap.size → (∀ q : Nat, q < B → U.heap[q]? = s.heap[q]?) → Z s → Z U) ∧ ∀ U V : State, V.heap = U.heap → V.vm = U.vm → Z U → Z V
theorem zPc_blind {B : Nat} {D : va_G} {cl : List vw_C} {dA : Nat → ClassId} {aS : Nat → Nat} {Z : State → Prop} (hZ : zStays B Z) {as : List Value} {h : zH} : FrameBlind (zPc B D cl dA aS Z as h) := fun a U g mk q => ⟨q.1, q.2.1, va_K.moved (u := U) (U := U.calling g mk a) (Vm.Alike.refl U.vm) q.2.2.1, hZ.2 U _ rfl rfl q.2.2.2⟩
section SIM3
variable {p : Program} {l : Launch} {e : Env} {R : Room} {s : State} {m : MethodId} {args : Array Value} {below : List Frame} {meth : Method} {c : Code} {Q : State → Prop} {cc : ByteArray} {B : Nat} {D : va_G} {cl : List vw_C} {dA : Nat → ClassId} {aS : Nat → Nat} {nL bc bs pc : Nat}
variable {a b d : Nat} {v : Value} {L : zL} {st : List Value} {h : zH} {cn sn : Nat}
variable {tt : zT} {G : zG} {rt : Option FieldType} {M : zM} {ret : zQ} {Ts : List Jvm.Cond} {own : String} {Z : State → Prop}
theorem s_tableswitch {df lo hi dflt : Int} {tg offs : Array Int} {len : Nat} (hx : p.tables.exec = Jvm.exec) (hb : c.code = cc) (hdg : decode cc pc = .ok (.tableswitch dflt lo hi offs, len)) (h1 : df = (pc : Int) + dflt) (h2 : tg = offs.map (fun o => (pc : Int) + o)) (h3 : 0 ≤ df) (h4 : ∀ t ∈ tg, (0 : Int) ≤ t) {nx : Nat} (hz : zex2 tt G bc bs rt M ret (wX p l e R s m args below meth c Q B D cl dA aS nL bc bs) (.tableswitch df lo hi tg, nx, a, b, d, v) L st h cn sn) : wX p l e R s m args below meth c Q B D cl dA aS nL bc bs pc L st h cn sn := by
  intro hc1 hc2 H locs lsA hH hS hL
  unfold zex2 at hz
  dsimp only at hz
  split at hz
  · rename_i x s9
    by_cases q1 : x.toInt < lo ∨ hi < x.toInt
    · exact lv_tableOut hx hb hdg q1 (by rw [ztoNat h3, h1]) (hz.1 q1 hc1 hc2 _ _ _ hH hS hL)
    · have q2 : ¬ x.toInt < lo := fun q => q1 (Or.inl q)
      have q3 : ¬ hi < x.toInt := fun q => q1 (Or.inr q)
      obtain ⟨t, ht, k⟩ := hz.2 q2 q3
      have ht0 : 0 ≤ t := h4 t (Array.mem_of_getElem? ht)
      rw [h2, Array.getElem?_map] at ht
      obtain ⟨off, ho, rfl⟩ := Option.map_eq_some_iff.mp ht
      exact lv_tableIn hx hb hdg q2 q3 ho (by rw [ztoNat ht0]) (k hc1 hc2 _ _ _ hH hS hL)
  · exact hz.elim
theorem zoff_map (pc : Int) (x : Int) (df : Int) : ∀ ps : List (Int × Int), Op.lookupswitch.offset (ps.map (fun q => (q.1, pc + q.2))) (pc + df) x = pc + Op.lookupswitch.offset ps df x
  | [] => rfl
  | (k, o) :: r => by
    rw [List.map_cons]
    unfold Op.lookupswitch.offset
    by_cases q : k = x
    · rw [if_pos q, if_pos q]
    · rw [if_neg q, if_neg q]
      exact zoff_map pc x df r
theorem s_lookupswitch {df dflt : Int} {qs ps : Array (Int × Int)} {len : Nat} (hx : p.tables.exec = Jvm.exec) (hb : c.code = cc) (hdg : decode cc pc = .ok (.lookupswitch dflt ps, len)) (hp : (ps.toList.zip (ps.toList.drop 1)).all (fun (a, next) => a.1 < next.1) = true) (h1 : df = (pc : Int) + dflt) (h2 : qs.toList = ps.toList.map (fun q => (q.1, (pc : Int) + q.2))) (h3 : 0 ≤ df) (h4 : ∀ t ∈ qs.toList, (0 : Int) ≤ t.2) {nx : Nat} (hz : zex2 tt G bc bs rt M ret (wX p l e R s m args below meth c Q B D cl dA aS nL bc bs) (.lookupswitch df qs, nx, a, b, d, v) L st h cn sn) : wX p l e R s m args below meth c Q B D cl dA aS nL bc bs pc L st h cn sn := by
  intro hc1 hc2 H locs lsA hH hS hL
  unfold zex2 at hz
  dsimp only at hz
  split at hz
  · rename_i x s9
    have e1 : Op.lookupswitch.offset qs.toList df x.toInt = (pc : Int) + Op.lookupswitch.offset ps.toList dflt x.toInt := by rw [h2, h1, zoff_map]
    have e2 : ∀ (qs : List (Int × Int)) (df : Int), 0 ≤ df → (∀ t ∈ qs, (0 : Int) ≤ t.2) → 0 ≤ Op.lookupswitch.offset qs df x.toInt := by
      intro qs
      induction qs with
      | nil => intro df h3 _; exact h3
      | cons q r ih =>
        intro df h3 h4
        obtain ⟨k, o⟩ := q
        unfold Op.lookupswitch.offset
        by_cases q : k = x.toInt
        · rw [if_pos q]; exact h4 _ List.mem_cons_self
        · rw [if_neg q]; exact ih df h3 (fun t ht => h4 t (List.mem_cons_of_mem _ ht))
    have e3 := e2 qs.toList df h3 h4
    exact lv_lookup hx hb hdg hp rfl (by rw [ztoNat e3, e1]) (hz hc1 hc2 _ _ _ hH hS hL)
  · exact hz.elim
theorem s_objInit {i : Nat} (hx : p.tables.exec = Jvm.exec) (hb : c.code = cc) (hml : c.maxLocals = nL) (hdg : decode cc pc = .ok (.invokespecial i, 3)) (hown : s.vm.findClass own = some m.cls) (hlink : (Jvm.Cond.methodLink own i Lib.objectInit).before args s = true) (hinst : (Jvm.Cond.instanceMethod Lib.objectInit).before args s = true) (hcode : (Jvm.Cond.code Lib.objectInit ⟨#[0xb1]⟩ 1 none).before args s = true) (hR1 : 1 ≤ R.frames) (hR2 : 20 ≤ R.locals) (hz : zex2 tt G bc bs rt M ret (wX p l e R s m args below meth c Q B D cl dA aS nL bc bs) (.pop2, pc + 3, a, b, d, v) L st h cn sn) : wX p l e R s m args below meth c Q B D cl dA aS nL bc bs pc L st h cn sn := by
  intro hc1 hc2 H locs lsA hH hS hL
  unfold zex2 at hz
  dsimp only at hz
  split at hz
  · rename_i r s9
    have h8 : ((s9.map (zcv B aS)).map fun v => v.category).sum ≤ 8 := by rw [zcv_sum]; exact hz.1
    have h9 : 2 * (F0 m pc lsA ((Value.ref r :: s9).map (zcv B aS))).monitorRoom + ((s9.map (zcv B aS)).map fun v => v.category).sum ≤ 8 := lv_room h8
    exact W.objInit hx hb hown hlink hinst hcode rfl (hL.2.1.trans hml.symm) rfl hdg hR1 (by omega) (hz.2 hc1 hc2 _ _ _ hH hS hL)
  · exact hz.elim
/-- behind a call -/
theorem zcall {mc ms : Nat} {K : zQ} {arr : Array Value} {lsA : Array Slot} {st0 rest : List Value} {H : Heap} {locs : List Loc} (hr : va_Run p l e R s m args below meth c H locs cn sn mc ms (F0 m pc lsA st0) rest (zQc B D cl dA aS K arr) (fun q => B ≤ q)) (hS : va_S (fun q => B ≤ q) s.heap H locs)
    (kk : ∀ (w : Option Value) (h2 : zH) (H1 : Heap) (locs1 : List Loc), K w h2 → zhR B D cl dA aS h2 H1 → va_S (fun q => B ≤ q) s.heap H1 locs1 → W p l e R s m args below meth c H1 locs1 (cn + mc) (sn + ms) Q (F0 m (pc + 3) lsA ((w.map (zcv B aS)).toList ++ rest))) : W p l e R s m args below meth c H locs cn sn Q (F0 m pc lsA st0) := by
  intro T hT X
  obtain ⟨v9, st1, t, T', L9, h0, X', hL9, e1, e2, ⟨⟨w, h2, ho, hk, hh2⟩, hF1, hF2⟩, st9⟩ := hr T hT X
  rw [h0] at hF1 hF2
  cases ho
  obtain ⟨t2, a1, b1⟩ := kk w h2 T'.heap (locs ++ L9) hk (by rw [e1]; exact hh2) ⟨by rw [e1]; exact Nat.le_trans hS.1 hF1, fun q g1 g2 => by rw [e1, hF2 q (Nat.lt_of_lt_of_le g1 hS.1) g2]; exact hS.2.1 q g1 g2, fun q hq => by
    rcases List.mem_append.mp hq with h9 | h9
    · exact hS.2.2 q h9
    · exact hL9 q h9⟩ T' rfl X'
  exact ⟨t2, st9 t2 a1, b1⟩
theorem zcv_toList (w : Option Value) (s9 : List Value) : (w.toList ++ s9).map (zcv B aS) = (w.map (zcv B aS)).toList ++ s9.map (zcv B aS) := by cases w <;> rfl
/-- the callee's start, out of the caller's world -/
theorem zpre {as : List Value} {H : Heap} {locs : List Loc} (hZ : zStays B Z) (hBs : B ≤ s.heap.size) (hK : va_K D cl (ztys dA) s) (hZs : Z s) (hH : zhR B D cl dA aS h H) (hS : va_S (fun q => B ≤ q) s.heap H locs) (U : State) (hU : U.heap = H) (hW : s.WarmedH U.vm) : zPc B D cl dA aS Z as h (as.map (zcv B aS)).toArray U := by
  refine ⟨rfl, by rw [hU]; exact hH, va_K.moved hW.alike hK, hZ.1 s U hW (by rw [hU]; exact hS.1) (fun q hq => ?_) hZs⟩
  rw [hU]
  exact hS.2.1 q (by omega) (Nat.not_le.mpr hq)
theorem s_virt {nm : List (MethodName × ByteArray × Nat)} {y : MethodName} {bytes : ByteArray} {cd : zK} {nL2 mc ms i d9 : Nat} {rt2 : Option FieldType} {T : u_T} {N : Nat} (hx : p.tables.exec = Jvm.exec) (hb : c.code = cc) (hml : c.maxLocals = nL) (hdg : decode cc pc = .ok (.invokevirtual i, 3)) (hts : ∀ w ∈ Ts, w.before args s = true) (hG : GoodIn Ts Ts) (hown : s.vm.findClass own = some m.cls) (hK : va_K D cl (ztys dA) s) (hZ : zStays B Z) (hZs : Z s) (hBs : B ≤ s.heap.size) (hM : zMet l nm G B D cl dA aS Z Ts d9 M)
    (hR : bc ≤ R.cells ∧ bs ≤ R.slots) (hR1 : d9 + 9 ≤ R.frames) (hR2 : d9 * 64 + 576 ≤ R.locals) (h1 : nm[a]? = some (y, bytes, b)) (h2 : G.1[a]? = some (cd, nL2, rt2, mc, ms)) (h3 : nL2 ≤ 40) (hc : cl[d]? = some (y.cls, T, N)) (w1 : Jvm.Cond.methodLink own i y ∈ Ts) (w2 : Jvm.Cond.instanceMethod y ∈ Ts) (w3 : Jvm.Cond.selects y.cls y y ∈ Ts) (w4 : Jvm.Cond.initialized y.cls ∈ Ts) (w5 : Jvm.Cond.code y bytes nL2 rt2 ∈ Ts)
    (hd : y.cls ≠ "java/lang/invoke/MethodHandle" ∧ y.cls ≠ "java/lang/invoke/VarHandle" ∧ (parseMethodDescriptor y.desc).map (fun d => d.parameters.length) = some b) {z9 : Nat} (hz : zex2 tt G bc bs rt M ret (wX p l e R s m args below meth c Q B D cl dA aS nL bc bs) (.invokevirtual z9, pc + 3, a, b, d, v) L st h cn sn) : wX p l e R s m args below meth c Q B D cl dA aS nL bc bs pc L st h cn sn := by
  intro hc1 hc2 H locs lsA hH hS hL
  unfold zex2 at hz
  dsimp only at hz
  have hbud : zbud G a = (mc, ms) := by unfold zbud; rw [h2]
  rw [hbud] at hz
  split at hz
  · rename_i r s9 hdrop
    obtain ⟨g1, ⟨fs, g2⟩, g3, g4, g5, g6⟩ := hz
    have hst : st = (st.take b).reverse.reverse ++ .ref r :: s9 := by rw [List.reverse_reverse, ← hdrop, List.take_append_drop]
    generalize has : (st.take b).reverse = as at g6 hst
    have hlen : as.length = b := by rw [← has, List.length_reverse]; exact g1
    have hMet := hM a _ h _ g6 y bytes b cd nL2 rt2 mc ms h1 h2
    have hGc : GoodIn Ts (wsV own i y.cls y (.code y bytes nL2 rt2 :: Ts)) := fun w hw => by
      rcases List.mem_append.mp hw with q | q
      · rcases List.mem_cons.mp q with rfl | q
        · exact hG _ w1
        rcases List.mem_cons.mp q with rfl | q
        · exact hG _ w2
        rcases List.mem_cons.mp q with rfl | q
        · exact hG _ w3
        rcases List.mem_cons.mp q with rfl | q
        · exact hG _ w4
        cases q
      · rcases List.mem_cons.mp q with rfl | q
        · exact hG _ w5
        · exact hG _ q
    have h8 : ((s9.map (zcv B aS)).map fun v => v.category).sum ≤ 8 := by rw [zcv_sum]; exact g3
    have hstk : st.map (zcv B aS) = (as.map (zcv B aS)).reverse ++ .ref (B + r) :: s9.map (zcv B aS) := by rw [hst, List.map_append, List.map_reverse]; rfl
    refine zcall (va_runV (As := as.map (zcv B aS)) (rest := s9.map (zcv B aS)) ⟨hx, hb, hml, hown, hts⟩ hMet (cwV b hts hGc rfl rfl rfl ⟨rfl, hd⟩ (zrm_ok hR1 hR2 h3)) ⟨zPc_blind hZ, va_recv hK (zP1 (hH.2 _ _ g2)) (q0 := 0) hc rfl, fun U hU hW => zpre hZ hBs hK hZs hH hS U hU hW⟩ rfl (by rw [List.length_map]; exact hlen) hL.2.1 hstk (lv_room h8) hdg ⟨by omega, by omega⟩) hS (fun w h3 H1 locs1 hk hh2 hS2 => ?_)
    have h9 := hk (by omega) (by omega) H1 locs1 lsA hh2 hS2 hL
    rw [zcv_toList] at h9
    exact h9
  · exact hz.elim
theorem s_spec {nm : List (MethodName × ByteArray × Nat)} {y : MethodName} {bytes : ByteArray} {cd : zK} {nL2 mc ms i d9 : Nat} (hx : p.tables.exec = Jvm.exec) (hb : c.code = cc) (hml : c.maxLocals = nL) (hdg : decode cc pc = .ok (.invokespecial i, 3)) (hts : ∀ w ∈ Ts, w.before args s = true) (hG : GoodIn Ts Ts) (hown : s.vm.findClass own = some m.cls) (hK : va_K D cl (ztys dA) s) (hZ : zStays B Z) (hZs : Z s) (hBs : B ≤ s.heap.size) (hM : zMet l nm G B D cl dA aS Z Ts d9 M)
    (hR : bc ≤ R.cells ∧ bs ≤ R.slots) (hR1 : d9 + 9 ≤ R.frames) (hR2 : d9 * 64 + 576 ≤ R.locals) (h1 : nm[a]? = some (y, bytes, b)) (h2 : G.1[a]? = some (cd, nL2, none, mc, ms)) (h3 : nL2 ≤ 40) (w1 : Jvm.Cond.methodLink own i y ∈ Ts ∨ ∃ host, va_Nw (Jvm.Cond.methodLinkNest own i y host) s) (w2 : Jvm.Cond.instanceMethod y ∈ Ts) (w4 : Jvm.Cond.initialized y.cls ∈ Ts) (w5 : Jvm.Cond.code y bytes nL2 none ∈ Ts) (hy : y.name = "<init>")
    (hd : y.cls ≠ "java/lang/invoke/MethodHandle" ∧ y.cls ≠ "java/lang/invoke/VarHandle" ∧ (parseMethodDescriptor y.desc).map (fun d => d.parameters.length) = some b) {z9 : Nat} (hz : zex2 tt G bc bs rt M ret (wX p l e R s m args below meth c Q B D cl dA aS nL bc bs) (.invokespecial z9, pc + 3, a, b, d, v) L st h cn sn) : wX p l e R s m args below meth c Q B D cl dA aS nL bc bs pc L st h cn sn := by
  intro hc1 hc2 H locs lsA hH hS hL
  unfold zex2 at hz
  dsimp only at hz
  have hbud : zbud G a = (mc, ms) := by unfold zbud; rw [h2]
  rw [hbud] at hz
  split at hz
  · rename_i r s9 hdrop
    obtain ⟨g1, g3, g4, g5, g6⟩ := hz
    have hst : st = (st.take b).reverse.reverse ++ .ref r :: s9 := by rw [List.reverse_reverse, ← hdrop, List.take_append_drop]
    generalize has : (st.take b).reverse = as at g6 hst
    have hlen : as.length = b := by rw [← has, List.length_reverse]; exact g1
    have hMet := hM a _ h _ g6 y bytes b cd nL2 none mc ms h1 h2
    have hGc : GoodIn Ts (.code y bytes nL2 none :: Ts) := fun w hw => by
      rcases List.mem_cons.mp hw with rfl | q
      · exact hG _ w5
      · exact hG _ q
    have h8 : ((s9.map (zcv B aS)).map fun v => v.category).sum ≤ 8 := by rw [zcv_sum]; exact g3
    have hstk : st.map (zcv B aS) = (as.map (zcv B aS)).reverse ++ .ref (B + r) :: s9.map (zcv B aS) := by rw [hst, List.map_append, List.map_reverse]; rfl
    refine zcall (B := B) (D := D) (cl := cl) (dA := dA) (aS := aS) (K := fun w h2 => wX p l e R s m args below meth c Q B D cl dA aS nL bc bs (pc + 3) L (w.toList ++ s9) h2 (cn + mc) (sn + ms)) (mc := mc) (ms := ms) (rest := s9.map (zcv B aS)) (arr := (Value.ref (B + r) :: as.map (zcv B aS)).toArray) ?_ hS (fun w h3 H1 locs1 hk hh2 hS2 => ?_)
    · rcases w1 with w1 | ⟨host, w1⟩
      · exact va_runI (As := as.map (zcv B aS)) (rest := s9.map (zcv B aS)) ⟨hx, hb, hml, hown, hts⟩ hMet (cwI b hts hGc rfl rfl rfl (hts _ w4) (hts _ w1) (hts _ w2) hy hd (zrm_ok hR1 hR2 h3)) ⟨zPc_blind hZ, fun U hU hW => zpre hZ hBs hK hZs hH hS U hU hW⟩ rfl (by rw [List.length_map]; exact hlen) hL.2.1 hstk (lv_room h8) hdg ⟨by omega, by omega⟩
      · exact va_runIN (As := as.map (zcv B aS)) (rest := s9.map (zcv B aS)) ⟨hx, hb, hml, hown, hts⟩ hMet ⟨va_cnB b hts hGc rfl rfl rfl w1 (hts _ w4) hd (zrm_ok hR1 hR2 h3), hy, hts _ w2⟩ ⟨zPc_blind hZ, fun U hU hW => zpre hZ hBs hK hZs hH hS U hU hW⟩ rfl (by rw [List.length_map]; exact hlen) hL.2.1 hstk (lv_room h8) hdg ⟨by omega, by omega⟩
    · have h9 := hk (by omega) (by omega) H1 locs1 lsA hh2 hS2 hL
      rw [zcv_toList] at h9
      exact h9
  · exact hz.elim
theorem s_stat {nm : List (MethodName × ByteArray × Nat)} {y : MethodName} {bytes : ByteArray} {cd : zK} {nL2 mc ms i d9 : Nat} {rt2 : Option FieldType} (hx : p.tables.exec = Jvm.exec) (hb : c.code = cc) (hml : c.maxLocals = nL) (hdg : decode cc pc = .ok (.invokestatic i, 3)) (hts : ∀ w ∈ Ts, w.before args s = true) (hG : GoodIn Ts Ts) (hown : s.vm.findClass own = some m.cls) (hK : va_K D cl (ztys dA) s) (hZ : zStays B Z) (hZs : Z s) (hBs : B ≤ s.heap.size) (hM : zMet l nm G B D cl dA aS Z Ts d9 M)
    (hR : bc ≤ R.cells ∧ bs ≤ R.slots) (hR1 : d9 + 9 ≤ R.frames) (hR2 : d9 * 64 + 576 ≤ R.locals) (h1 : nm[a]? = some (y, bytes, b)) (h2 : G.1[a]? = some (cd, nL2, rt2, mc, ms)) (h3 : nL2 ≤ 40) (w1 : Jvm.Cond.methodLink own i y ∈ Ts ∨ ∃ host, va_Nw (Jvm.Cond.methodLinkNest own i y host) s) (w2 : Jvm.Cond.static y ∈ Ts) (w4 : Jvm.Cond.initialized y.cls ∈ Ts) (w5 : Jvm.Cond.code y bytes nL2 rt2 ∈ Ts)
    (hd : y.cls ≠ "java/lang/invoke/MethodHandle" ∧ y.cls ≠ "java/lang/invoke/VarHandle" ∧ (parseMethodDescriptor y.desc).map (fun d => d.parameters.length) = some b) {z9 : Nat} (hz : zex2 tt G bc bs rt M ret (wX p l e R s m args below meth c Q B D cl dA aS nL bc bs) (.invokestatic z9, pc + 3, a, b, d, v) L st h cn sn) : wX p l e R s m args below meth c Q B D cl dA aS nL bc bs pc L st h cn sn := by
  intro hc1 hc2 H locs lsA hH hS hL
  unfold zex2 at hz
  dsimp only at hz
  have hbud : zbud G a = (mc, ms) := by unfold zbud; rw [h2]
  rw [hbud] at hz
  obtain ⟨g1, g3, g4, g5, g6⟩ := hz
  have hst : st = (st.take b).reverse.reverse ++ st.drop b := by rw [List.reverse_reverse, List.take_append_drop]
  generalize has : (st.take b).reverse = as at g6 hst
  generalize hs9 : st.drop b = s9 at g6 g3 hst
  have hlen : as.length = b := by rw [← has, List.length_reverse]; exact g1
  have hMet := hM a _ h _ g6 y bytes b cd nL2 rt2 mc ms h1 h2
  have hGc : GoodIn Ts (.code y bytes nL2 rt2 :: Ts) := fun w hw => by
    rcases List.mem_cons.mp hw with rfl | q
    · exact hG _ w5
    · exact hG _ q
  have h8 : ((s9.map (zcv B aS)).map fun v => v.category).sum ≤ 8 := by rw [zcv_sum]; exact g3
  have hstk : st.map (zcv B aS) = (as.map (zcv B aS)).reverse ++ s9.map (zcv B aS) := by rw [hst, List.map_append, List.map_reverse]
  refine zcall (B := B) (D := D) (cl := cl) (dA := dA) (aS := aS) (K := fun w h2 => wX p l e R s m args below meth c Q B D cl dA aS nL bc bs (pc + 3) L (w.toList ++ s9) h2 (cn + mc) (sn + ms)) (mc := mc) (ms := ms) (rest := s9.map (zcv B aS)) (arr := (as.map (zcv B aS)).toArray) ?_ hS (fun w h3 H1 locs1 hk hh2 hS2 => ?_)
  · rcases w1 with w1 | ⟨host, w1⟩
    · refine va_runS (As := as.map (zcv B aS)) (rest := s9.map (zcv B aS)) ⟨hx, hb, hml, hown, hts⟩ hMet (va_cwS b hts (fun w hw => ?_) rfl rfl rfl hd (zrm_ok hR1 hR2 h3)) ⟨zPc_blind hZ, fun U hU hW => zpre hZ hBs hK hZs hH hS U hU hW⟩ rfl (by rw [List.length_map]; exact hlen) hL.2.1 hstk (lv_room h8) hdg ⟨by omega, by omega⟩
      rcases List.mem_append.mp hw with q | q
      · rcases List.mem_cons.mp q with rfl | q
        · exact hG _ w1
        rcases List.mem_cons.mp q with rfl | q
        · exact hG _ w2
        rcases List.mem_cons.mp q with rfl | q
        · exact hG _ w4
        cases q
      · exact hGc _ q
    · exact va_runSN (As := as.map (zcv B aS)) (rest := s9.map (zcv B aS)) ⟨hx, hb, hml, hown, hts⟩ hMet ⟨va_cnB b hts hGc rfl rfl rfl w1 (hts _ w4) hd (zrm_ok hR1 hR2 h3), hts _ w2, trivial⟩ ⟨zPc_blind hZ, fun U hU hW => zpre hZ hBs hK hZs hH hS U hU hW⟩ rfl (by rw [List.length_map]; exact hlen) hL.2.1 hstk (lv_room h8) hdg ⟨by omega, by omega⟩
  · have h9 := hk (by omega) (by omega) H1 locs1 lsA hh2 hS2 hL
    rw [zcv_toList] at h9
    exact h9
end SIM3
end
section
theorem zouter (c : ClassId) (N h0 : Nat) : ∀ i : Nat, Jvm.Free.Multi.outerC c N h0 i = arrV c N (fun j => va_rf (if j < i then some (h0 + 1 + j) else none))
  | 0 => by
    show ({ cls := c, slots := Array.replicate N .null, vm := .none } : Cell) = _
    rw [arrV_new]
    refine congrArg (arrV c N) (funext fun j => ?_)
    simp [va_rf]
  | i + 1 => by
    show (Jvm.Free.Multi.outerC c N h0 i).setSlot i (.ref (h0 + 1 + i)) = _
    rw [zouter c N h0 i, arrV_store]
    refine congrArg (arrV c N) (funext fun j => ?_)
    by_cases e : j = i
    · subst e
      simp [updV, va_rf]
    · by_cases h : j < i
      · simp [updV, e, h, Nat.lt_succ_of_lt h]
      · simp [updV, e, h, show ¬ j < i + 1 by omega]
section SIM4
variable {p : Program} {l : Launch} {e : Env} {R : Room} {s : State} {m : MethodId} {args : Array Value} {below : List Frame} {meth : Method} {c : Code} {Q : State → Prop} {cc : ByteArray} {B : Nat} {D : va_G} {cl : List vw_C} {dA : Nat → ClassId} {aS : Nat → Nat} {nL bc bs pc : Nat}
variable {a b d : Nat} {v : Value} {L : zL} {st : List Value} {h : zH} {cn sn : Nat}
variable {tt : zT} {G : zG} {rt : Option FieldType} {M : zM} {ret : zQ} {Ts : List Jvm.Cond} {own : String} {Z : State → Prop}
theorem s_anewarray {i : Nat} (hx : p.tables.exec = Jvm.exec) (hb : c.code = cc) (hdg : decode cc pc = .ok (.anewarray i, 3)) (hown : s.vm.findClass own = some m.cls) (hK : va_K D cl (ztys dA) s) (hR : bc ≤ R.cells ∧ bs ≤ R.slots) (hw : (a = 5 ∧ (Jvm.Cond.classLink own i "TankBehind$Car").before args s = true ∧ (Jvm.Cond.arrayOver (.object "TankBehind$Car")).before args s = true) ∨ (a = 4 ∧ (Jvm.Cond.classLink own i (FieldType.array .int).toString).before args s = true ∧ (Jvm.Cond.arrayOver (.array .int)).before args s = true)) {z9 : Nat} (hz : zex2 tt G bc bs rt M ret (wX p l e R s m args below meth c Q B D cl dA aS nL bc bs) (.anewarray z9, pc + 3, a, b, d, v) L st h cn sn) : wX p l e R s m args below meth c Q B D cl dA aS nL bc bs pc L st h cn sn := by
  intro hc1 hc2 H locs lsA hH hS hL
  unfold zex2 at hz
  dsimp only at hz
  split at hz
  · rename_i x s9
    obtain ⟨g0, g3, g1, g2, g4, k⟩ := hz
    have fin : ∀ cA : ClassId, s.vm.findClass ("[" ++ (zty a).toString) = some cA → a < 6 → (∀ (q : Nat) (H : Heap), H[q]? = some (arrV (dA a) x.toNatClampNeg (fun _ => .null)) → va_at D cl (q, zcE B dA aS (zarr a x.toNatClampNeg)) H) → W p l e R s m args below meth c (H.push { cls := cA, slots := Array.replicate x.toNatClampNeg .null, vm := .none }) locs (cn + 1) (sn + x.toNatClampNeg) Q (F0 m (pc + 3) lsA (.ref H.size :: s9.map (zcv B aS))) := by
      intro cA hf ha hat
      have ec := zRA_find ha hK hf
      subst ec
      generalize hH1 : H.push ({ cls := dA a, slots := Array.replicate x.toNatClampNeg .null, vm := .none } : Cell) = H1
      have z1 : H1.size = H.size + 1 := by rw [← hH1, Array.size_push]
      have e1 : H1[H.size]? = some (arrV (dA a) x.toNatClampNeg (fun _ => .null)) := by rw [← hH1, Array.getElem?_push_size, ← arrV_new]
      have o1 : ∀ q : Nat, q < H.size → H1[q]? = H[q]? := fun q hq => by rw [← hH1, Array.getElem?_push, if_neg (Nat.ne_of_lt hq)]
      have h9 := k (by omega) (by omega) H1 locs lsA (hH.push (e := zarr a x.toNatClampNeg) (hat _ _ e1) z1 o1) (zS_push hS (by omega) o1) hL
      have e3 : (Value.ref h.length :: s9).map (zcv B aS) = .ref H.size :: s9.map (zcv B aS) := by rw [hH.1]; rfl
      rw [e3] at h9
      exact h9
    rcases hw with ⟨rfl, hcl, hov⟩ | ⟨rfl, hcl, hov⟩
    · exact W.anew hx hb hown hcl hov rfl hdg rfl g0 (by omega) (by omega) (by omega) fun cA kA comp f1 f2 f3 f4 => fin cA f1 (by omega) (fun q H e1 => zat_arr (by omega) e1)
    · exact W.anewA hx hb hown hcl hov rfl hdg rfl g0 (by omega) (by omega) (by omega) fun cA kA comp f1 f2 f3 f4 => fin cA f1 (by omega) (fun q H e1 => zat_arr (by omega) e1)
  · exact hz.elim
theorem s_multi {i : Nat} (hx : p.tables.exec = Jvm.exec) (hb : c.code = cc) (hdg : decode cc pc = .ok (.multianewarray i 2, 4)) (hown : s.vm.findClass own = some m.cls) (hK : va_K D cl (ztys dA) s) (hR : bc ≤ R.cells ∧ bs ≤ R.slots) (hcl : (Jvm.Cond.classLink own i ("[" ++ (FieldType.array .int).toString)).before args s = true) (hov : (Jvm.Cond.arrayOver (.array .int)).before args s = true) (harr : (Jvm.Cond.arrayClass .int).before args s = true) {z9 y9 : Nat} (hz : zex2 tt G bc bs rt M ret (wX p l e R s m args below meth c Q B D cl dA aS nL bc bs) (.multianewarray z9 y9, pc + 4, a, b, d, v) L st h cn sn) : wX p l e R s m args below meth c Q B D cl dA aS nL bc bs pc L st h cn sn := by
  intro hc1 hc2 H locs lsA hH hS hL
  unfold zex2 at hz
  dsimp only at hz
  split at hz
  · rename_i y x s9
    obtain ⟨g0, g5, g3, g4, g1, g2, k⟩ := hz
    intro T hT X
    obtain ⟨vm₁, cA, comp, -, fA, fC, hO, -, X', step⟩ := X.multianewarray2F hx hown hcl hov harr (g := F0 m pc lsA ((Value.int y :: Value.int x :: s9).map (zcv B aS))) rfl (by rw [hb]; exact hdg) rfl g0 g5 (by omega) (by show _ * 4 ≤ _; omega) (by omega) rfl rfl (by omega) (by omega)
    have ea : cA = dA 4 := zRA_find (k := 4) (by omega) hK fA
    have ec : comp = dA 0 := zRA_find (k := 0) (by omega) hK fC
    subst ea
    subst ec
    generalize hF : Jvm.Free.Multi.fill (T.setVm vm₁) (dA 4) (dA 0) x.toNatClampNeg y.toNatClampNeg (defaultValue .int) x.toNatClampNeg = F at X' step
    have hTh : (T.setVm vm₁).heap = H := hT
    obtain ⟨f1, f2, -, -⟩ := Jvm.Free.Multi.fill_facts (T.setVm vm₁) (dA 4) (dA 0) x.toNatClampNeg y.toNatClampNeg (defaultValue .int) x.toNatClampNeg
    rw [hF, hTh] at f1 f2
    have hold : ∀ q : Nat, q < H.size → F.heap[q]? = H[q]? := fun q hq => by
      have := Jvm.Free.Multi.fill_old (T.setVm vm₁) (dA 4) (dA 0) x.toNatClampNeg y.toNatClampNeg (defaultValue .int) (a := q) (by rw [hTh]; exact hq) x.toNatClampNeg
      rw [hF, hTh] at this
      exact this
    have hrow : ∀ j : Nat, j < x.toNatClampNeg → F.heap[H.size + 1 + j]? = some (Jvm.Free.Multi.innerC (dA 0) y.toNatClampNeg (defaultValue .int)) := fun j hj => by
      have := Jvm.Free.Multi.fill_inner (T.setVm vm₁) (dA 4) (dA 0) x.toNatClampNeg y.toNatClampNeg (defaultValue .int) x.toNatClampNeg j hj
      rw [hF, hTh] at this
      exact this
    rw [zouter] at f2
    have hlen : (zrows h.length x.toNatClampNeg y.toNatClampNeg).length = 1 + x.toNatClampNeg := by
      unfold zrows
      rw [List.length_cons, List.length_replicate, Nat.add_comm]
    have hnew : zhR B D cl dA aS (h ++ zrows h.length x.toNatClampNeg y.toNatClampNeg) F.heap := by
      refine hH.app (fun j e9 he9 => ?_) (by rw [f1, hlen]; omega) hold
      unfold zrows at he9
      cases j with
      | zero =>
        cases he9
        show F.heap[H.size + 0]? = some (vp_cell _ _)
        rw [Nat.add_zero, f2]
        rw [show zcA B (x.toNatClampNeg, .inr (.inr (.inr (.inr (fun i => if i < x.toNatClampNeg then some (h.length + 1 + i) else none))))) = (x.toNatClampNeg, .inr (.inr (.inr (.inr (fun j => (if j < x.toNatClampNeg then some (h.length + 1 + j) else none).map (fun a => B + a)))))) from rfl, vp_cell_q]
        refine congrArg some (congrArg (arrV (dA 4) x.toNatClampNeg) (funext fun j => ?_))
        by_cases q : j < x.toNatClampNeg
        · rw [if_pos q, if_pos q, hH.1]
          show Value.ref (B + h.length + 1 + j) = Value.ref (B + (h.length + 1 + j))
          rw [Nat.add_assoc, Nat.add_assoc, Nat.add_assoc]
        · rw [if_neg q, if_neg q]
          rfl
      | succ j =>
        rw [List.getElem?_cons_succ, List.getElem?_replicate] at he9
        by_cases q : j < x.toNatClampNeg
        · rw [if_pos q] at he9
          cases he9
          show F.heap[H.size + (j + 1)]? = some (vp_cell _ _)
          rw [show H.size + (j + 1) = H.size + 1 + j by omega, hrow j q]
          rw [show zcA B (y.toNatClampNeg, .inl (fun _ => (0 : Int32))) = (y.toNatClampNeg, .inl (fun _ => (0 : Int32))) from rfl, vp_cell_i]
          exact congrArg some (arrV_new (dA 0) y.toNatClampNeg (.int 0))
        · rw [if_neg q] at he9
          cases he9
    have h9 := k (by omega) (by omega) F.heap locs lsA hnew (zS_push hS (by omega) hold) hL
    have e3 : (Value.ref h.length :: s9).map (zcv B aS) = .ref T.heap.size :: s9.map (zcv B aS) := by rw [hT, hH.1]; rfl
    rw [e3] at h9
    obtain ⟨t, a1, b1⟩ := h9 F rfl X'
    exact ⟨t, step t a1, b1⟩
  · exact hz.elim
end SIM4
end
section
/-! STRINGS: String.length and String.charAt of the constants, by their code -/
noncomputable abbrev zRS : String := "java/lang/String"
noncomputable abbrev zRL : String := "java/lang/StringLatin1"
noncomputable abbrev zRP : String := "jdk/internal/util/Preconditions"
noncomputable def zyLen : MethodName := ⟨zRS, "length", "()I"⟩
noncomputable def zyCod : MethodName := ⟨zRS, "coder", "()B"⟩
noncomputable def zyCh : MethodName := ⟨zRS, "charAt", "(I)C"⟩
noncomputable def zyLat : MethodName := ⟨zRS, "isLatin1", "()Z"⟩
noncomputable def zyCh1 : MethodName := ⟨zRL, "charAt", "([BI)C"⟩
noncomputable def zyChk : MethodName := ⟨zRS, "checkIndex", "(II)V"⟩
noncomputable def zyChP : MethodName := ⟨zRP, "checkIndex", "(IILjava/util/function/BiFunction;)I"⟩
noncomputable abbrev zbLen : ByteArray := prog_17_method_54_code
noncomputable abbrev zbCod : ByteArray := prog_17_method_152_code
noncomputable abbrev zbCh : ByteArray := prog_17_method_56_code
noncomputable abbrev zbLat : ByteArray := prog_17_method_154_code
noncomputable abbrev zbCh1 : ByteArray := prog_18_method_2_code
noncomputable abbrev zbChk : ByteArray := prog_17_method_155_code
noncomputable abbrev zbChP : ByteArray := prog_22_method_11_code
/-- the words of these methods -/
noncomputable def zSw : List Jvm.Cond := [.code zyLen zbLen 1 (some .int), .code zyCod zbCod 1 (some .byte), .code zyCh zbCh 2 (some .char), .code zyLat zbLat 1 (some .boolean), .code zyCh1 zbCh1 2 (some .char), .code zyChk zbChk 2 none, .code zyChP zbChP 3 (some .int),
  .fieldLink zRS 9 zRS "value" "[B", .methodLink zRS 335 zyCod, .instanceMethod zyCod, .selects zRS zyCod zyCod, .initialized zRS, .fieldLink zRS 38 zRS "COMPACT_STRINGS" "Z", .fieldLink zRS 15 zRS "coder" "B", .methodLink zRS 492 zyLat, .instanceMethod zyLat, .selects zRS zyLat zyLat, .methodLink zRS 495 zyCh1, .static zyCh1, .initialized zRL, .methodLink zRL 9 zyChk, .static zyChk,
  .fieldLink zRS 1053 zRP "SIOOBE_FORMATTER" "Ljava/util/function/BiFunction;", .methodLink zRS 1059 zyChP, .static zyChP, .initialized zRP, .instanceMethod zyLen, .selects zRS zyLen zyLen, .instanceMethod zyCh, .selects zRS zyCh zyCh,
  .static Lib.Math.max.name, .static Lib.Math.min.name, .static Lib.MathLoose.max_long.x, .static Lib.MathLoose.min_long.x, .initialized "java/lang/Math", .code Lib.Math.max.name Lib.Math.max.code 2 (some .int), .code Lib.Math.min.name Lib.Math.min.code 2 (some .int), .code Lib.MathLoose.max_long.x Lib.MathLoose.max_long.code 4 (some .long), .code Lib.MathLoose.min_long.x Lib.MathLoose.min_long.code 4 (some .long)]
/-- what is known of the constants' own objects -/
noncomputable def zSt (B : Nat) (aS aV : Nat → Nat) (tx : Nat → List Int32) (U : State) : Prop := va_Z zRS "COMPACT_STRINGS" "Z" (.int 1) (fun q => B ≤ q) U U.heap ∧ va_Zq zRP "SIOOBE_FORMATTER" "Ljava/util/function/BiFunction;" (fun q => B ≤ q) U U.heap ∧ ∀ k : Nat, tx k ≠ [] → va_O zRS (aS k) (fun q => B ≤ q) U U.heap ∧ va_OF zRS "coder" "B" (.int 0) (aS k) (fun q => B ≤ q) U U.heap ∧ va_OF zRS "value" "[B" (.ref (aV k)) (aS k) (fun q => B ≤ q) U U.heap ∧ va_T .byte (aV k) (tx k).length (fun j => .int ((tx k).getD j 0)) (fun q => B ≤ q) U U.heap
noncomputable def zJq (B : Nat) (v : Option Value) : Array Value → State → Outcome → State → Prop := fun _ st o t => o = .returned v ∧ t.heap = st.heap ∧ va_F (fun q => B ≤ q) st t
noncomputable def zjm (d : Nat) : Room := { frames := d, cells := 0, slots := 0, locals := d * 64 }
/-- a method that makes nothing and changes nothing: on these arguments it answers so -/
noncomputable def zJ (l : Launch) (B : Nat) (Z : State → Prop) (Ts : List Jvm.Cond) (d : Nat) (y : MethodName) (bytes : ByteArray) (nL : Nat) (rt : Option FieldType) (As : List Value) (v : Option Value) : Prop := Met l y (.code y bytes nL rt :: Ts) (zjm d) (va_Pc As Z) (zJq B v) 0 0 (fun q => B ≤ q)
theorem zJ_blind {B : Nat} {Z : State → Prop} (hZ : zStays B Z) {As : List Value} : FrameBlind (va_Pc As Z) := fun a U g mk q => ⟨q.1, hZ.2 U _ rfl rfl q.2⟩
theorem zJ_pre {B : Nat} {Z : State → Prop} {s : State} {H : Heap} {locs : List Loc} {As : List Value} (hZ : zStays B Z) (hBs : B ≤ s.heap.size) (hZs : Z s) (hS : va_S (fun q => B ≤ q) s.heap H locs) (U : State) (hU : U.heap = H) (hW : s.WarmedH U.vm) : va_Pc As Z As.toArray U := by
  refine ⟨rfl, hZ.1 s U hW (by rw [hU]; exact hS.1) (fun q hq => ?_) hZs⟩
  rw [hU]
  exact hS.2.1 q (by omega) (Nat.not_le.mpr hq)
theorem zJ_of {l : Launch} {B : Nat} {Z : State → Prop} {Ts : List Jvm.Cond} {d : Nat} {y : MethodName} {bytes : ByteArray} {nL : Nat} {rt : Option FieldType} {As : List Value} {v : Option Value} (hpl : plainName y.cls = true) (hl : (lg_sl As).length ≤ nL) (hB : ∀ s : State, Z s → B ≤ s.heap.size)
    (k : ∀ {p : Program} {e : Env} {R : Room} {s : State} {m : MethodId} {args : Array Value} {below : List Frame} {meth : Method} {c : Code} {Q : State → Prop} {ls : Array Slot}, p.tables.exec = Jvm.exec → c.code = bytes → c.maxLocals = nL → (∀ w ∈ Ts, w.before args s = true) → s.vm.findClass y.cls = some m.cls → Z s → B ≤ s.heap.size → R.frames = d ∧ R.locals = d * 64 → lv_has ls nL (lv_args 0 As) →
      (∀ (x : Int32) (t : FieldType) (pc : Nat) (lsA : Array Slot) (locs : List Loc), v = some (.int x) → rt = some t → narrow t (.int x) = .int x → va_S (fun q => B ≤ q) s.heap s.heap locs → decode bytes pc = .ok (.ireturn, 1) → W p l e R s m args below meth c s.heap locs 0 0 Q (F0 m pc lsA [.int x])) →
      (∀ (pc : Nat) (lsA : Array Slot) (locs : List Loc), v = none → rt = none → va_S (fun q => B ≤ q) s.heap s.heap locs → decode bytes pc = .ok (.return_, 1) → W p l e R s m args below meth c s.heap locs 0 0 Q (F0 m pc lsA [])) →
      W p l e R s m args below meth c s.heap [] 0 0 Q (F0 m 0 ls [])) : zJ l B Z Ts d y bytes nL rt As v := by
  refine Met.ofW (cc := bytes) (maxL := nL) (ret := rt) hpl rfl ?_
  intro p e s m args below meth c s₁ Bd hml hv
  obtain ⟨rfl, hZs⟩ := hv
  have hx := Bd.exec
  have hb := Bd.bytes
  have hr := Bd.returns
  have hts0 := atoms_spec (ws := .code y bytes nL rt :: Ts) Bd.pre
  have hts : ∀ w ∈ Ts, w.before As.toArray s = true := fun w hw => hts0 w (List.mem_cons_of_mem _ hw)
  have hown : s.vm.findClass y.cls = some m.cls := findClass_of_methodNamed Bd.named
  rw [lg_entry_eq]
  refine k hx hb hml hts hown hZs (hB s hZs) ⟨rfl, rfl⟩ (lv_entry As hl) ?_ ?_
  · intro x t pc lsA locs e1 e2 hn hS hdg
    subst e1
    subst e2
    exact W.zret hx hb hr hn (fun t ht hW => ⟨rfl, ht, hS.F ht⟩) hS.2.2 hdg
  · intro pc lsA locs e1 e2 hS hdg
    subst e1
    subst e2
    exact W.vret hx hb hr (fun t ht hW => ⟨rfl, ht, hS.F ht⟩) hS.2.2 hdg
section ZJ
variable {p : Program} {l : Launch} {e : Env} {R : Room} {s : State} {m : MethodId} {args : Array Value} {below : List Frame} {meth : Method} {c : Code} {Q : State → Prop} {cc : ByteArray} {B : Nat} {nL pc cn sn : Nat} {H : Heap} {locs : List Loc} {ls : Array Slot} {Ts : List Jvm.Cond} {own : String} {Z : State → Prop}
theorem zJcall {v : Option Value} {arr : Array Value} {st0 rest : List Value} (hr : va_Run p l e R s m args below meth c H locs cn sn 0 0 (F0 m pc ls st0) rest (zJq B v arr) (fun q => B ≤ q)) (hS : va_S (fun q => B ≤ q) s.heap H locs)
    (kk : ∀ locs1 : List Loc, va_S (fun q => B ≤ q) s.heap H locs1 → W p l e R s m args below meth c H locs1 cn sn Q (F0 m (pc + 3) ls (v.toList ++ rest))) : W p l e R s m args below meth c H locs cn sn Q (F0 m pc ls st0) := by
  intro T hT X
  obtain ⟨v9, st1, t, T', L9, h0, X', hL9, e1, e2, ⟨ho, hh, hF⟩, st9⟩ := hr T hT X
  cases ho
  have e3 : T'.heap = H := by rw [e1, hh, h0]
  obtain ⟨t2, a1, b1⟩ := kk (locs ++ L9) ⟨hS.1, hS.2.1, fun q hq => by
    rcases List.mem_append.mp hq with h9 | h9
    · exact hS.2.2 q h9
    · exact hL9 q h9⟩ T' e3 X'
  exact ⟨t2, st9 t2 a1, b1⟩
theorem zJstat {i nL2 d n : Nat} {y : MethodName} {bytes : ByteArray} {rt2 : Option FieldType} {As rest : List Value} {v : Option Value} {st0 : List Value} (hx : p.tables.exec = Jvm.exec) (hb : c.code = cc) (hml : c.maxLocals = nL) (hts : ∀ w ∈ Ts, w.before args s = true) (hG : GoodIn Ts Ts) (hown : s.vm.findClass own = some m.cls) (hZ : zStays B Z) (hZs : Z s) (hBs : B ≤ s.heap.size) (hS : va_S (fun q => B ≤ q) s.heap H locs) (hM : zJ l B Z Ts d y bytes nL2 rt2 As v) (hR1 : d + 1 ≤ R.frames) (hR2 : d * 64 + 64 ≤ R.locals) (h3 : nL2 ≤ 40)
    (w1 : Jvm.Cond.methodLink own i y ∈ Ts) (w2 : Jvm.Cond.static y ∈ Ts) (w4 : Jvm.Cond.initialized y.cls ∈ Ts) (w5 : Jvm.Cond.code y bytes nL2 rt2 ∈ Ts) (hd : y.cls ≠ "java/lang/invoke/MethodHandle" ∧ y.cls ≠ "java/lang/invoke/VarHandle" ∧ (parseMethodDescriptor y.desc).map (fun d => d.parameters.length) = some n) (hn : As.length = n) (hsz : ls.size = nL) (hst : st0 = As.reverse ++ rest) (h8 : (rest.map fun v => v.category).sum ≤ 8) (hdg : decode cc pc = .ok (.invokestatic i, 3)) (hc : cn ≤ R.cells ∧ sn ≤ R.slots)
    (kk : ∀ locs1 : List Loc, va_S (fun q => B ≤ q) s.heap H locs1 → W p l e R s m args below meth c H locs1 cn sn Q (F0 m (pc + 3) ls (v.toList ++ rest))) : W p l e R s m args below meth c H locs cn sn Q (F0 m pc ls st0) := by
  refine zJcall (v := v) (va_runS (As := As) (rest := rest) ⟨hx, hb, hml, hown, hts⟩ hM (va_cwS n hts (fun w hw => ?_) rfl rfl rfl hd ⟨hR1, by show 8 + (nL2 + 11) + d * 64 ≤ R.locals; omega⟩) ⟨zJ_blind hZ, fun U hU hW => zJ_pre hZ hBs hZs hS U hU hW⟩ rfl hn hsz hst (lv_room h8) hdg ⟨hc.1, hc.2⟩) hS kk
  rcases List.mem_append.mp hw with q | q
  · rcases List.mem_cons.mp q with rfl | q
    · exact hG _ w1
    rcases List.mem_cons.mp q with rfl | q
    · exact hG _ w2
    rcases List.mem_cons.mp q with rfl | q
    · exact hG _ w4
    cases q
  · rcases List.mem_cons.mp q with rfl | q
    · exact hG _ w5
    · exact hG _ q
theorem zJvirt {i nL2 d n b : Nat} {y : MethodName} {bytes : ByteArray} {rt2 : Option FieldType} {As rest : List Value} {v : Option Value} {st0 : List Value} (hx : p.tables.exec = Jvm.exec) (hb : c.code = cc) (hml : c.maxLocals = nL) (hts : ∀ w ∈ Ts, w.before args s = true) (hG : GoodIn Ts Ts) (hown : s.vm.findClass own = some m.cls) (hZ : zStays B Z) (hZs : Z s) (hBs : B ≤ s.heap.size) (hS : va_S (fun q => B ≤ q) s.heap H locs) (hM : zJ l B Z Ts d y bytes nL2 rt2 (.ref b :: As) v) (hR1 : d + 1 ≤ R.frames) (hR2 : d * 64 + 64 ≤ R.locals) (h3 : nL2 ≤ 40)
    (hO : va_O y.cls b (fun q => B ≤ q) s s.heap)
    (w1 : Jvm.Cond.methodLink own i y ∈ Ts) (w2 : Jvm.Cond.instanceMethod y ∈ Ts) (w3 : Jvm.Cond.selects y.cls y y ∈ Ts) (w4 : Jvm.Cond.initialized y.cls ∈ Ts) (w5 : Jvm.Cond.code y bytes nL2 rt2 ∈ Ts) (hd : y.cls ≠ "java/lang/invoke/MethodHandle" ∧ y.cls ≠ "java/lang/invoke/VarHandle" ∧ (parseMethodDescriptor y.desc).map (fun d => d.parameters.length) = some n) (hn : As.length = n) (hsz : ls.size = nL) (hst : st0 = As.reverse ++ .ref b :: rest) (h8 : (rest.map fun v => v.category).sum ≤ 8) (hdg : decode cc pc = .ok (.invokevirtual i, 3)) (hc : cn ≤ R.cells ∧ sn ≤ R.slots)
    (kk : ∀ locs1 : List Loc, va_S (fun q => B ≤ q) s.heap H locs1 → W p l e R s m args below meth c H locs1 cn sn Q (F0 m (pc + 3) ls (v.toList ++ rest))) : W p l e R s m args below meth c H locs cn sn Q (F0 m pc ls st0) := by
  have hGc : GoodIn Ts (wsV own i y.cls y (.code y bytes nL2 rt2 :: Ts)) := fun w hw => by
    rcases List.mem_append.mp hw with q | q
    · rcases List.mem_cons.mp q with rfl | q
      · exact hG _ w1
      rcases List.mem_cons.mp q with rfl | q
      · exact hG _ w2
      rcases List.mem_cons.mp q with rfl | q
      · exact hG _ w3
      rcases List.mem_cons.mp q with rfl | q
      · exact hG _ w4
      cases q
    · rcases List.mem_cons.mp q with rfl | q
      · exact hG _ w5
      · exact hG _ q
  have hrecv : ∃ cell : Cell, H[b]? = some cell ∧ cell.vm.isStatics = false ∧ s.vm.findClass y.cls = some cell.cls := by
    obtain ⟨cell, h1, h2, h3, -⟩ := hO.kept hS.2.1
    exact ⟨cell, h1, h2, h3⟩
  exact zJcall (v := v) (va_runV (As := As) (rest := rest) ⟨hx, hb, hml, hown, hts⟩ hM (cwV n hts hGc rfl rfl rfl ⟨rfl, hd⟩ ⟨hR1, by show 8 + (nL2 + 11) + d * 64 ≤ R.locals; omega⟩) ⟨zJ_blind hZ, hrecv, fun U hU hW => zJ_pre (As := .ref b :: As) hZ hBs hZs hS U hU hW⟩ rfl hn hsz hst (lv_room h8) hdg ⟨hc.1, hc.2⟩) hS kk
end ZJ
/-- what the text's int at a place is as a char -/
noncomputable def zch (x : Int32) : Int32 := ((x &&& 255).toUInt32 % 65536).toInt32
section ZS
variable {B : Nat} {Z : State → Prop} {Ts : List Jvm.Cond} {aS aV : Nat → Nat} {tx : Nat → List Int32}
theorem zJ_chP (l : Launch) (hG : GoodIn Ts Ts) (hZ : zStays B Z) (hB : ∀ s : State, Z s → B ≤ s.heap.size) (hZS : ∀ s : State, Z s → zSt B aS aV tx s) (hw : ∀ w ∈ zSw, w ∈ Ts) {i n : Int32} {f : Value} (hf : f = .null ∨ ∃ t, f = .ref t) (h1 : ¬ i < 0) (h2 : i < n) : zJ l B Z Ts 1 zyChP zbChP 3 (some .int) [.int i, .int n, f] (some (.int i)) := by
  have hc : f.category = 1 := by rcases hf with rfl | ⟨t, rfl⟩ <;> rfl
  refine zJ_of (by decide +kernel) (by rcases hf with rfl | ⟨t, rfl⟩ <;> exact Nat.le_of_ble_eq_true rfl) hB ?_
  intro p e R s m args below meth c Q ls hx hb hml hts hown hZs hBs hR hL hzr hvr
  have e0 := lv_at hL 0 (i := 0) (v := .int i) rfl
  have e1 := lv_at hL 1 (i := 1) (v := .int n) rfl
  refine lv_iload_n hx hb (k := 0) (i := 0) (by decide +kernel) rfl e0 ?_
  refine lv_if_lt hx hb (off := 8) (tgt := 9) (by decide +kernel) (by decide) (fun q => absurd q h1) (fun _ => ?_)
  refine lv_iload_n hx hb (k := 0) (i := 0) (by decide +kernel) rfl e0 ?_
  refine lv_iload_n hx hb (k := 1) (i := 1) (by decide +kernel) rfl e1 ?_
  refine lv_icmp_lt hx hb (off := 10) (tgt := 16) (by decide +kernel) (by decide) (fun _ => ?_) (fun q => absurd h2 q)
  refine lv_iload_n hx hb (k := 0) (i := 0) (by decide +kernel) rfl e0 ?_
  exact hzr i .int _ _ _ rfl rfl rfl va_S.rf (by decide +kernel)
theorem zJ_chk (l : Launch) (hG : GoodIn Ts Ts) (hZ : zStays B Z) (hB : ∀ s : State, Z s → B ≤ s.heap.size) (hZS : ∀ s : State, Z s → zSt B aS aV tx s) (hw : ∀ w ∈ zSw, w ∈ Ts) {i n : Int32} (h1 : ¬ i < 0) (h2 : i < n) : zJ l B Z Ts 2 zyChk zbChk 2 none [.int i, .int n] none := by
  refine zJ_of (by decide +kernel) (Nat.le_of_ble_eq_true rfl) hB ?_
  intro p e R s m args below meth c Q ls hx hb hml hts hown hZs hBs hR hL hzr hvr
  have e0 := lv_at hL 0 (i := 0) (v := .int i) rfl
  have e1 := lv_at hL 1 (i := 1) (v := .int n) rfl
  obtain ⟨-, g2, -⟩ := hZS s hZs
  have fin : ∀ f : Value, (f = .null ∨ ∃ t, f = .ref t) → W p l e R s m args below meth c s.heap [] 0 0 Q (F0 m 5 ls [f, .int n, .int i]) := fun f hf => by
    refine zJstat (As := [.int i, .int n, f]) (rest := []) (v := some (.int i)) (n := 3) (y := zyChP) (bytes := zbChP) (nL2 := 3) (rt2 := some .int) (i := 1059) hx hb hml hts hG hown hZ hZs hBs va_S.rf (zJ_chP l hG hZ hB hZS hw hf h1 h2) (by omega) (by omega) (by decide) (hw _ (List.mem_of_getElem? (i := 23) rfl)) (hw _ (List.mem_of_getElem? (i := 24) rfl)) (hw _ (List.mem_of_getElem? (i := 25) rfl)) (hw _ (List.mem_of_getElem? (i := 6) rfl)) (by decide +kernel) rfl hL.1 rfl (Nat.le_of_ble_eq_true rfl) (by decide +kernel) ⟨Nat.zero_le _, Nat.zero_le _⟩ (fun locs1 hS1 => ?_)
    refine lv_pop hx hb (by decide +kernel) rfl ?_
    exact hvr _ _ _ rfl rfl hS1 (by decide +kernel)
  refine lv_iload_n hx hb (k := 0) (i := 0) (by decide +kernel) rfl e0 ?_
  refine lv_iload_n hx hb (k := 1) (i := 1) (by decide +kernel) rfl e1 ?_
  have hlk := hts _ (hw _ (List.mem_of_getElem? (l := zSw) (i := 22) rfl))
  rcases g2 with g2 | ⟨t, g2⟩
  · exact va_gets hx hb g2 va_S.rf hown hlk (fun x h => h) (by decide +kernel) (fin _ (Or.inl rfl))
  · exact va_gets hx hb g2 va_S.rf hown hlk (fun x h => h) (by decide +kernel) (fin _ (Or.inr ⟨t, rfl⟩))
theorem zJ_cod (l : Launch) (hG : GoodIn Ts Ts) (hZ : zStays B Z) (hB : ∀ s : State, Z s → B ≤ s.heap.size) (hZS : ∀ s : State, Z s → zSt B aS aV tx s) (hw : ∀ w ∈ zSw, w ∈ Ts) {k : Nat} (hk : tx k ≠ []) : zJ l B Z Ts 1 zyCod zbCod 1 (some .byte) [.ref (aS k)] (some (.int 0)) := by
  refine zJ_of (by decide +kernel) (Nat.le_of_ble_eq_true rfl) hB ?_
  intro p e R s m args below meth c Q ls hx hb hml hts hown hZs hBs hR hL hzr hvr
  have e0 := lv_at hL 0 (i := 0) (v := .ref (aS k)) rfl
  obtain ⟨g1, -, g3⟩ := hZS s hZs
  obtain ⟨q1, q2, q3, q4⟩ := g3 k hk
  refine va_gets hx hb g1 va_S.rf hown (hts _ (hw _ (List.mem_of_getElem? (l := zSw) (i := 12) rfl))) (fun x h => h) (by decide +kernel) ?_
  refine lv_if_eq hx hb (off := 10) (tgt := 13) (by decide +kernel) (by decide) (fun q => absurd q (by decide)) (fun _ => ?_)
  refine lv_aload_n hx hb (k := 0) (i := 0) (by decide +kernel) rfl e0 ?_
  refine vk_getf hx hb q2 va_S.rf hown (hts _ (hw _ (List.mem_of_getElem? (l := zSw) (i := 13) rfl))) (fun x h => h) (by decide +kernel) ?_
  refine lv_goto hx hb (off := 4) (tgt := 14) (by decide +kernel) (by decide) ?_
  exact hzr 0 .byte _ _ _ rfl rfl (by decide) va_S.rf (by decide +kernel)
theorem zJ_lat (l : Launch) (hG : GoodIn Ts Ts) (hZ : zStays B Z) (hB : ∀ s : State, Z s → B ≤ s.heap.size) (hZS : ∀ s : State, Z s → zSt B aS aV tx s) (hw : ∀ w ∈ zSw, w ∈ Ts) {k : Nat} (hk : tx k ≠ []) : zJ l B Z Ts 1 zyLat zbLat 1 (some .boolean) [.ref (aS k)] (some (.int 1)) := by
  refine zJ_of (by decide +kernel) (Nat.le_of_ble_eq_true rfl) hB ?_
  intro p e R s m args below meth c Q ls hx hb hml hts hown hZs hBs hR hL hzr hvr
  have e0 := lv_at hL 0 (i := 0) (v := .ref (aS k)) rfl
  obtain ⟨g1, -, g3⟩ := hZS s hZs
  obtain ⟨q1, q2, q3, q4⟩ := g3 k hk
  refine va_gets hx hb g1 va_S.rf hown (hts _ (hw _ (List.mem_of_getElem? (l := zSw) (i := 12) rfl))) (fun x h => h) (by decide +kernel) ?_
  refine lv_if_eq hx hb (off := 14) (tgt := 17) (by decide +kernel) (by decide) (fun q => absurd q (by decide)) (fun _ => ?_)
  refine lv_aload_n hx hb (k := 0) (i := 0) (by decide +kernel) rfl e0 ?_
  refine vk_getf hx hb q2 va_S.rf hown (hts _ (hw _ (List.mem_of_getElem? (l := zSw) (i := 13) rfl))) (fun x h => h) (by decide +kernel) ?_
  refine lv_if_ne hx hb (off := 7) (tgt := 17) (by decide +kernel) (by decide) (fun q => absurd rfl q) (fun _ => ?_)
  refine lv_iconst hx hb (n := 1) (v := 1) (by decide +kernel) (by decide) ?_
  refine lv_goto hx hb (off := 4) (tgt := 18) (by decide +kernel) (by decide) ?_
  exact hzr 1 .boolean _ _ _ rfl rfl (by decide) va_S.rf (by decide +kernel)
theorem zJ_len (l : Launch) (hG : GoodIn Ts Ts) (hZ : zStays B Z) (hB : ∀ s : State, Z s → B ≤ s.heap.size) (hZS : ∀ s : State, Z s → zSt B aS aV tx s) (hw : ∀ w ∈ zSw, w ∈ Ts) {k : Nat} (hk : tx k ≠ []) (hN : (tx k).length < 2 ^ 31) : zJ l B Z Ts 2 zyLen zbLen 1 (some .int) [.ref (aS k)] (some (.int (Int32.ofNat (tx k).length))) := by
  refine zJ_of (by decide +kernel) (Nat.le_of_ble_eq_true rfl) hB ?_
  intro p e R s m args below meth c Q ls hx hb hml hts hown hZs hBs hR hL hzr hvr
  have e0 := lv_at hL 0 (i := 0) (v := .ref (aS k)) rfl
  obtain ⟨g1, -, g3⟩ := hZS s hZs
  obtain ⟨q1, q2, q3, q4⟩ := g3 k hk
  refine lv_aload_n hx hb (k := 0) (i := 0) (by decide +kernel) rfl e0 ?_
  refine vk_getf hx hb q3 va_S.rf hown (hts _ (hw _ (List.mem_of_getElem? (l := zSw) (i := 7) rfl))) (fun x h => h) (by decide +kernel) ?_
  refine va_tlen hx hb q4 va_S.rf rfl (by decide +kernel) ?_
  refine lv_aload_n hx hb (k := 0) (i := 0) (by decide +kernel) rfl e0 ?_
  refine zJvirt (As := []) (b := aS k) (rest := [.int (Int32.ofNat (tx k).length)]) (v := some (.int 0)) (n := 0) (y := zyCod) (bytes := zbCod) (nL2 := 1) (rt2 := some .byte) (i := 335) hx hb hml hts hG hown hZ hZs hBs va_S.rf (zJ_cod l hG hZ hB hZS hw hk) (by omega) (by omega) (by decide) q1 (hw _ (List.mem_of_getElem? (i := 8) rfl)) (hw _ (List.mem_of_getElem? (i := 9) rfl)) (hw _ (List.mem_of_getElem? (i := 10) rfl)) (hw _ (List.mem_of_getElem? (i := 11) rfl)) (hw _ (List.mem_of_getElem? (i := 1) rfl)) (by decide +kernel) rfl hL.1 rfl (Nat.le_of_ble_eq_true rfl) (by decide +kernel) ⟨Nat.zero_le _, Nat.zero_le _⟩ (fun locs1 hS1 => ?_)
  refine lv_ishr hx hb (by decide +kernel) ?_
  have e9 : Int32.ofNat (tx k).length >>> ((0 : Int32) &&& 31) = Int32.ofNat (tx k).length := by
    apply Int32.toInt_inj.mp
    rw [pk_shr _ _ 0 (by decide +kernel), Int.shiftRight_zero]
  rw [e9]
  exact hzr _ .int _ _ _ rfl rfl rfl hS1 (by decide +kernel)
theorem zJ_ch1 (l : Launch) (hG : GoodIn Ts Ts) (hZ : zStays B Z) (hB : ∀ s : State, Z s → B ≤ s.heap.size) (hZS : ∀ s : State, Z s → zSt B aS aV tx s) (hw : ∀ w ∈ zSw, w ∈ Ts) {k : Nat} {i : Int32} (hk : tx k ≠ []) (hN : (tx k).length < 2 ^ 31) (hi : vp_in i (tx k).length) (hlt : i < Int32.ofNat (tx k).length) (hch : narrow .char (.int (zch ((tx k).getD i.toNatClampNeg 0))) = .int (zch ((tx k).getD i.toNatClampNeg 0))) : zJ l B Z Ts 3 zyCh1 zbCh1 2 (some .char) [.ref (aV k), .int i] (some (.int (zch ((tx k).getD i.toNatClampNeg 0)))) := by
  refine zJ_of (by decide +kernel) (Nat.le_of_ble_eq_true rfl) hB ?_
  intro p e R s m args below meth c Q ls hx hb hml hts hown hZs hBs hR hL hzr hvr
  have e0 := lv_at hL 0 (i := 0) (v := .ref (aV k)) rfl
  have e1 := lv_at hL 1 (i := 1) (v := .int i) rfl
  obtain ⟨g1, -, g3⟩ := hZS s hZs
  obtain ⟨q1, q2, q3, q4⟩ := g3 k hk
  have h1 : ¬ i < 0 := fun q => hi (Or.inl q)
  refine lv_iload_n hx hb (k := 1) (i := 1) (by decide +kernel) rfl e1 ?_
  refine lv_aload_n hx hb (k := 0) (i := 0) (by decide +kernel) rfl e0 ?_
  refine va_tlen hx hb q4 va_S.rf rfl (by decide +kernel) ?_
  refine zJstat (As := [.int i, .int (Int32.ofNat (tx k).length)]) (rest := []) (v := none) (n := 2) (y := zyChk) (bytes := zbChk) (nL2 := 2) (rt2 := none) (i := 9) hx hb hml hts hG hown hZ hZs hBs va_S.rf (zJ_chk l hG hZ hB hZS hw h1 hlt) (by omega) (by omega) (by decide) (hw _ (List.mem_of_getElem? (i := 20) rfl)) (hw _ (List.mem_of_getElem? (i := 21) rfl)) (hw _ (List.mem_of_getElem? (i := 11) rfl)) (hw _ (List.mem_of_getElem? (i := 5) rfl)) (by decide +kernel) rfl hL.1 rfl (Nat.le_of_ble_eq_true rfl) (by decide +kernel) ⟨Nat.zero_le _, Nat.zero_le _⟩ (fun locs1 hS1 => ?_)
  refine lv_aload_n hx hb (k := 0) (i := 0) (by decide +kernel) rfl e0 ?_
  refine lv_iload_n hx hb (k := 1) (i := 1) (by decide +kernel) rfl e1 ?_
  refine va_tb hx hb q4 hS1 hi rfl (by decide +kernel) ?_
  refine lv_sipush hx hb (n := 255) (v := 255) (by decide +kernel) (by decide) ?_
  refine lv_iand hx hb (by decide +kernel) ?_
  refine lv_i2c hx hb (by decide +kernel) rfl ?_
  exact hzr _ .char _ _ _ rfl rfl hch hS1 (by decide +kernel)
theorem zJ_ch (l : Launch) (hG : GoodIn Ts Ts) (hZ : zStays B Z) (hB : ∀ s : State, Z s → B ≤ s.heap.size) (hZS : ∀ s : State, Z s → zSt B aS aV tx s) (hw : ∀ w ∈ zSw, w ∈ Ts) {k : Nat} {i : Int32} (hk : tx k ≠ []) (hN : (tx k).length < 2 ^ 31) (hi : vp_in i (tx k).length) (hlt : i < Int32.ofNat (tx k).length) (hch : narrow .char (.int (zch ((tx k).getD i.toNatClampNeg 0))) = .int (zch ((tx k).getD i.toNatClampNeg 0))) : zJ l B Z Ts 4 zyCh zbCh 2 (some .char) [.ref (aS k), .int i] (some (.int (zch ((tx k).getD i.toNatClampNeg 0)))) := by
  refine zJ_of (by decide +kernel) (Nat.le_of_ble_eq_true rfl) hB ?_
  intro p e R s m args below meth c Q ls hx hb hml hts hown hZs hBs hR hL hzr hvr
  have e0 := lv_at hL 0 (i := 0) (v := .ref (aS k)) rfl
  have e1 := lv_at hL 1 (i := 1) (v := .int i) rfl
  obtain ⟨g1, -, g3⟩ := hZS s hZs
  obtain ⟨q1, q2, q3, q4⟩ := g3 k hk
  refine lv_aload_n hx hb (k := 0) (i := 0) (by decide +kernel) rfl e0 ?_
  refine zJvirt (As := []) (b := aS k) (rest := []) (v := some (.int 1)) (n := 0) (y := zyLat) (bytes := zbLat) (nL2 := 1) (rt2 := some .boolean) (i := 492) hx hb hml hts hG hown hZ hZs hBs va_S.rf (zJ_lat l hG hZ hB hZS hw hk) (by omega) (by omega) (by decide) q1 (hw _ (List.mem_of_getElem? (i := 14) rfl)) (hw _ (List.mem_of_getElem? (i := 15) rfl)) (hw _ (List.mem_of_getElem? (i := 16) rfl)) (hw _ (List.mem_of_getElem? (i := 11) rfl)) (hw _ (List.mem_of_getElem? (i := 3) rfl)) (by decide +kernel) rfl hL.1 rfl (Nat.le_of_ble_eq_true rfl) (by decide +kernel) ⟨Nat.zero_le _, Nat.zero_le _⟩ (fun locs1 hS1 => ?_)
  refine lv_if_eq hx hb (off := 12) (tgt := 16) (by decide +kernel) (by decide) (fun q => absurd q (by decide)) (fun _ => ?_)
  refine lv_aload_n hx hb (k := 0) (i := 0) (by decide +kernel) rfl e0 ?_
  refine vk_getf hx hb q3 hS1 hown (hts _ (hw _ (List.mem_of_getElem? (l := zSw) (i := 7) rfl))) (fun x h => h) (by decide +kernel) ?_
  refine lv_iload_n hx hb (k := 1) (i := 1) (by decide +kernel) rfl e1 ?_
  refine zJstat (As := [.ref (aV k), .int i]) (rest := []) (v := some (.int (zch ((tx k).getD i.toNatClampNeg 0)))) (n := 2) (y := zyCh1) (bytes := zbCh1) (nL2 := 2) (rt2 := some .char) (i := 495) hx hb hml hts hG hown hZ hZs hBs hS1 (zJ_ch1 l hG hZ hB hZS hw hk hN hi hlt hch) (by omega) (by omega) (by decide) (hw _ (List.mem_of_getElem? (i := 17) rfl)) (hw _ (List.mem_of_getElem? (i := 18) rfl)) (hw _ (List.mem_of_getElem? (i := 19) rfl)) (hw _ (List.mem_of_getElem? (i := 4) rfl)) (by decide +kernel) rfl hL.1 rfl (Nat.le_of_ble_eq_true rfl) (by decide +kernel) ⟨Nat.zero_le _, Nat.zero_le _⟩ (fun locs2 hS2 => ?_)
  exact hzr _ .char _ _ _ rfl rfl hch hS2 (by decide +kernel)
end ZS
end
section
/-- what the strings' rows ask: their objects, the words, the texts, the constants' places -/
noncomputable def zSok (B : Nat) (Z : State → Prop) (Ts : List Jvm.Cond) (aS : Nat → Nat) (tx : Nat → List Int32) : Prop := (∀ s : State, Z s → B ≤ s.heap.size) ∧ (∃ aV : Nat → Nat, ∀ s : State, Z s → zSt B aS aV tx s) ∧ (∀ w ∈ zSw, w ∈ Ts) ∧ (∀ k : Nat, (tx k).length < 2 ^ 31 ∧ ∀ j : Nat, j < (tx k).length → zch ((tx k).getD j 0) = (tx k).getD j 0 ∧ narrow .char (.int ((tx k).getD j 0)) = .int ((tx k).getD j 0)) ∧ ∀ q ∈ zsg, ∀ s : State, Z s → ∃ t : String, vk_R q.1 q.2.1 t (aS q.2.2) s
noncomputable def zcstr (own : String) (i : Nat) (v : Value) : Bool := match v with
  | .retAddr k => zsg.contains (own, i, k)
  | _ => false
theorem zcstr_of {own : String} {i : Nat} {v : Value} (h : zcstr own i v = true) : ∃ k : Nat, v = .retAddr k ∧ (own, i, k) ∈ zsg := by
  cases v <;> first | exact ⟨_, rfl, List.contains_iff_mem.mp h⟩ | cases h
section SSTR
variable {p : Program} {l : Launch} {e : Env} {R : Room} {s : State} {m : MethodId} {args : Array Value} {below : List Frame} {meth : Method} {c : Code} {Q : State → Prop} {cc : ByteArray} {B : Nat} {D : va_G} {cl : List vw_C} {dA : Nat → ClassId} {aS : Nat → Nat} {nL bc bs pc : Nat}
variable {a b d : Nat} {v : Value} {L : zL} {st : List Value} {h : zH} {cn sn : Nat}
variable {tt : zT} {G : zG} {rt : Option FieldType} {M : zM} {ret : zQ} {Ts : List Jvm.Cond} {own : String} {Z : State → Prop} {H : Heap} {locs : List Loc} {ls : Array Slot} {rest : List Value}
theorem va_ldcwS (hexec : p.tables.exec = Jvm.exec) (hb : c.code = cc) {tx : String} {index q : Nat} (hown : s.vm.findClass own = some m.cls) (hZ : vk_R own index tx q s) (hdg : decode cc pc = .ok (.ldc_w index, 3))
    (k : W p l e R s m args below meth c H locs cn sn Q (F0 m (pc + 3) ls (.ref q :: rest))) : W p l e R s m args below meth c H locs cn sn Q (F0 m pc ls rest) := by
  intro T hT X
  obtain ⟨t, a1, b1⟩ := k T hT X
  refine ⟨t, ?_, b1⟩
  obtain ⟨k9, cf, i, a', hk, hcf, hcp, -, hr, hev'⟩ := Cond.stringRef_spec hown hZ.1
  cases hZ.2.symm.trans hev'
  obtain ⟨k', hk', he⟩ := X.warmed.alike.2.2 _ _ hk
  have hr' : k'.resolved[index]? = some (some (.string q)) := by
    rcases X.warmed.entry hk hk' index with h | ⟨h, -⟩
    · rw [h]; exact hr
    · rw [hr] at h; cases h
  jvm_step X.here [hexec, hb, hdg, ldc_w.wp_string (e := e) (s := T) (f := F0 m pc ls rest) X.here.top hk' (by rw [he]; exact hcf) hcp hr']
  exact a1
theorem s_ldcs {i k9 : Nat} {t9 : String} (hx : p.tables.exec = Jvm.exec) (hb : c.code = cc) (hdg : decode cc pc = .ok (.ldc i, 2)) (hv : v = .retAddr k9) (hown : s.vm.findClass own = some m.cls) (hR : vk_R own i t9 (aS k9) s) (hz : zex1 (wX p l e R s m args below meth c Q B D cl dA aS nL bc bs) (.aconst_null, pc + 2, a, b, d, v) L st h cn sn) : wX p l e R s m args below meth c Q B D cl dA aS nL bc bs pc L st h cn sn := by
  intro hc1 hc2 H locs lsA hH hS hL
  unfold zex1 at hz
  dsimp only at hz
  subst hv
  exact va_ldcS hx hb hown hR hdg (hz hc1 hc2 _ _ _ hH hS hL)
theorem s_ldcws {i k9 : Nat} {t9 : String} (hx : p.tables.exec = Jvm.exec) (hb : c.code = cc) (hdg : decode cc pc = .ok (.ldc_w i, 3)) (hv : v = .retAddr k9) (hown : s.vm.findClass own = some m.cls) (hR : vk_R own i t9 (aS k9) s) (hz : zex1 (wX p l e R s m args below meth c Q B D cl dA aS nL bc bs) (.aconst_null, pc + 3, a, b, d, v) L st h cn sn) : wX p l e R s m args below meth c Q B D cl dA aS nL bc bs pc L st h cn sn := by
  intro hc1 hc2 H locs lsA hH hS hL
  unfold zex1 at hz
  dsimp only at hz
  subst hv
  exact va_ldcwS hx hb hown hR hdg (hz hc1 hc2 _ _ _ hH hS hL)
theorem s_jlen {i : Nat} (hx : p.tables.exec = Jvm.exec) (hb : c.code = cc) (hml : c.maxLocals = nL) (hdg : decode cc pc = .ok (.invokevirtual i, 3)) (hts : ∀ w ∈ Ts, w.before args s = true) (hG : GoodIn Ts Ts) (hown : s.vm.findClass own = some m.cls) (hZ : zStays B Z) (hZs : Z s) (hBs : B ≤ s.heap.size) (hSo : zSok B Z Ts aS G.2.1) (hR : bc ≤ R.cells ∧ bs ≤ R.slots) (hR1 : 5 ≤ R.frames) (hR2 : 320 ≤ R.locals) (w1 : Jvm.Cond.methodLink own i zyLen ∈ Ts) (hz : zex2 tt G bc bs rt M ret (wX p l e R s m args below meth c Q B D cl dA aS nL bc bs) (.i2c, pc + 3, a, b, d, v) L st h cn sn) : wX p l e R s m args below meth c Q B D cl dA aS nL bc bs pc L st h cn sn := by
  intro hc1 hc2 H locs lsA hH hS hL
  unfold zex2 at hz
  dsimp only at hz
  obtain ⟨hB, ⟨aV, hZS⟩, hw, htx, -⟩ := hSo
  split at hz
  · rename_i k s9
    obtain ⟨g1, g2, g3⟩ := hz
    have hk : G.2.1 k ≠ [] := fun q => by rw [q] at g1; exact absurd g1 (by decide)
    obtain ⟨-, -, q3⟩ := hZS s hZs
    exact zJvirt (As := []) (b := aS k) (rest := s9.map (zcv B aS)) (v := some (.int (Int32.ofNat (G.2.1 k).length))) (n := 0) (y := zyLen) (bytes := zbLen) (nL2 := 1) (rt2 := some .int) (i := i) hx hb hml hts hG hown hZ hZs hBs hS (zJ_len l hG hZ hB hZS hw hk (htx k).1) (by omega) (by omega) (by decide) (q3 k hk).1 w1 (hw _ (List.mem_of_getElem? (i := 26) rfl)) (hw _ (List.mem_of_getElem? (i := 27) rfl)) (hw _ (List.mem_of_getElem? (i := 11) rfl)) (hw _ (List.mem_of_getElem? (i := 0) rfl)) (by decide +kernel) rfl hL.2.1 rfl (by rw [zcv_sum]; exact g2) hdg ⟨Nat.le_trans hc1 hR.1, Nat.le_trans hc2 hR.2⟩ (fun locs1 hS1 => g3 hc1 hc2 _ _ _ hH hS1 hL)
  · exact hz.elim
theorem s_jch {i : Nat} (hx : p.tables.exec = Jvm.exec) (hb : c.code = cc) (hml : c.maxLocals = nL) (hdg : decode cc pc = .ok (.invokevirtual i, 3)) (hts : ∀ w ∈ Ts, w.before args s = true) (hG : GoodIn Ts Ts) (hown : s.vm.findClass own = some m.cls) (hZ : zStays B Z) (hZs : Z s) (hBs : B ≤ s.heap.size) (hSo : zSok B Z Ts aS G.2.1) (hR : bc ≤ R.cells ∧ bs ≤ R.slots) (hR1 : 5 ≤ R.frames) (hR2 : 320 ≤ R.locals) (w1 : Jvm.Cond.methodLink own i zyCh ∈ Ts) (hz : zex2 tt G bc bs rt M ret (wX p l e R s m args below meth c Q B D cl dA aS nL bc bs) (.caload, pc + 3, a, b, d, v) L st h cn sn) : wX p l e R s m args below meth c Q B D cl dA aS nL bc bs pc L st h cn sn := by
  intro hc1 hc2 H locs lsA hH hS hL
  unfold zex2 at hz
  dsimp only at hz
  obtain ⟨hB, ⟨aV, hZS⟩, hw, htx, -⟩ := hSo
  split at hz
  · rename_i x k s9
    obtain ⟨g1, g2, g3⟩ := hz
    have hv := vp_in_iff.mp g1
    have hk : G.2.1 k ≠ [] := fun q => by rw [q] at hv; have := hv.1; have := hv.2; simp at this; omega
    have hj : x.toNatClampNeg < (G.2.1 k).length := by
      have e9 : x.toNatClampNeg = x.toInt.toNat := rfl
      rw [e9]; omega
    have hlt : x < Int32.ofNat (G.2.1 k).length := by
      rw [Int32.lt_iff_toInt_lt, show (Int32.ofNat (G.2.1 k).length).toInt = _ from nI_toInt (htx k).1]
      exact hv.2
    obtain ⟨c1, c2⟩ := (htx k).2 _ hj
    obtain ⟨-, -, q3⟩ := hZS s hZs
    have hM := zJ_ch l hG hZ hB hZS hw hk (htx k).1 g1 hlt (by rw [c1]; exact c2)
    rw [c1] at hM
    exact zJvirt (As := [.int x]) (b := aS k) (rest := s9.map (zcv B aS)) (v := some (.int ((G.2.1 k).getD x.toNatClampNeg 0))) (n := 1) (y := zyCh) (bytes := zbCh) (nL2 := 2) (rt2 := some .char) (i := i) hx hb hml hts hG hown hZ hZs hBs hS hM (by omega) (by omega) (by decide) (q3 k hk).1 w1 (hw _ (List.mem_of_getElem? (i := 28) rfl)) (hw _ (List.mem_of_getElem? (i := 29) rfl)) (hw _ (List.mem_of_getElem? (i := 11) rfl)) (hw _ (List.mem_of_getElem? (i := 2) rfl)) (by decide +kernel) rfl hL.2.1 rfl (by rw [zcv_sum]; exact g2) hdg ⟨Nat.le_trans hc1 hR.1, Nat.le_trans hc2 hR.2⟩ (fun locs1 hS1 => g3 hc1 hc2 _ _ _ hH hS1 hL)
  · exact hz.elim
end SSTR
end
section
section SMATH
variable {p : Program} {l : Launch} {e : Env} {R : Room} {s : State} {m : MethodId} {args : Array Value} {below : List Frame} {meth : Method} {c : Code} {Q : State → Prop} {cc : ByteArray} {B : Nat} {D : va_G} {cl : List vw_C} {dA : Nat → ClassId} {aS : Nat → Nat} {nL bc bs pc : Nat}
variable {a b d : Nat} {v : Value} {L : zL} {st : List Value} {h : zH} {cn sn : Nat}
variable {G : zG} {Ts : List Jvm.Cond} {own : String} {Z : State → Prop}
theorem s_imax {i : Nat} (hx : p.tables.exec = Jvm.exec) (hb : c.code = cc) (hml : c.maxLocals = nL) (hdg : decode cc pc = .ok (.invokestatic i, 3)) (hts : ∀ w ∈ Ts, w.before args s = true) (hown : s.vm.findClass own = some m.cls) (hSo : zSok B Z Ts aS G.2.1) (hR : bc ≤ R.cells ∧ bs ≤ R.slots) (hR1 : 1 ≤ R.frames) (hR2 : 30 ≤ R.locals) (w1 : Jvm.Cond.methodLink own i Lib.Math.max.name ∈ Ts) (hz : zex1 (wX p l e R s m args below meth c Q B D cl dA aS nL bc bs) (.fadd, pc + 3, a, b, d, v) L st h cn sn) : wX p l e R s m args below meth c Q B D cl dA aS nL bc bs pc L st h cn sn := by
  intro hc1 hc2 H locs lsA hH hS hL
  unfold zex1 at hz
  dsimp only at hz
  split at hz
  · exact va_mmax hx hb (hml.trans hL.2.1.symm) hown (hts _ w1) (hts _ (hSo.2.2.1 _ (List.mem_of_getElem? (i := 30) rfl))) (hts _ (hSo.2.2.1 _ (List.mem_of_getElem? (i := 34) rfl))) (hts _ (hSo.2.2.1 _ (List.mem_of_getElem? (i := 35) rfl))) hR1 (by rw [zcv_sum]; have := hz.1; omega) (Nat.le_trans hc1 hR.1) (Nat.le_trans hc2 hR.2) hdg (hz.2 hc1 hc2 _ _ _ hH hS hL)
  · exact hz.elim
theorem s_imin {i : Nat} (hx : p.tables.exec = Jvm.exec) (hb : c.code = cc) (hml : c.maxLocals = nL) (hdg : decode cc pc = .ok (.invokestatic i, 3)) (hts : ∀ w ∈ Ts, w.before args s = true) (hown : s.vm.findClass own = some m.cls) (hSo : zSok B Z Ts aS G.2.1) (hR : bc ≤ R.cells ∧ bs ≤ R.slots) (hR1 : 1 ≤ R.frames) (hR2 : 30 ≤ R.locals) (w1 : Jvm.Cond.methodLink own i Lib.Math.min.name ∈ Ts) (hz : zex1 (wX p l e R s m args below meth c Q B D cl dA aS nL bc bs) (.fsub, pc + 3, a, b, d, v) L st h cn sn) : wX p l e R s m args below meth c Q B D cl dA aS nL bc bs pc L st h cn sn := by
  intro hc1 hc2 H locs lsA hH hS hL
  unfold zex1 at hz
  dsimp only at hz
  split at hz
  · exact va_mmin hx hb (hml.trans hL.2.1.symm) hown (hts _ w1) (hts _ (hSo.2.2.1 _ (List.mem_of_getElem? (i := 31) rfl))) (hts _ (hSo.2.2.1 _ (List.mem_of_getElem? (i := 34) rfl))) (hts _ (hSo.2.2.1 _ (List.mem_of_getElem? (i := 36) rfl))) hR1 (by rw [zcv_sum]; have := hz.1; omega) (Nat.le_trans hc1 hR.1) (Nat.le_trans hc2 hR.2) hdg (hz.2 hc1 hc2 _ _ _ hH hS hL)
  · exact hz.elim
theorem s_lmax {i : Nat} (hx : p.tables.exec = Jvm.exec) (hb : c.code = cc) (hml : c.maxLocals = nL) (hdg : decode cc pc = .ok (.invokestatic i, 3)) (hts : ∀ w ∈ Ts, w.before args s = true) (hown : s.vm.findClass own = some m.cls) (hSo : zSok B Z Ts aS G.2.1) (hR : bc ≤ R.cells ∧ bs ≤ R.slots) (hR1 : 1 ≤ R.frames) (hR2 : 30 ≤ R.locals) (w1 : Jvm.Cond.methodLink own i Lib.MathLoose.max_long.x ∈ Ts) (hz : zex1 (wX p l e R s m args below meth c Q B D cl dA aS nL bc bs) (.dadd, pc + 3, a, b, d, v) L st h cn sn) : wX p l e R s m args below meth c Q B D cl dA aS nL bc bs pc L st h cn sn := by
  intro hc1 hc2 H locs lsA hH hS hL
  unfold zex1 at hz
  dsimp only at hz
  split at hz
  · exact va_mmax_long hx hb (hml.trans hL.2.1.symm) hown (hts _ w1) (hts _ (hSo.2.2.1 _ (List.mem_of_getElem? (i := 32) rfl))) (hts _ (hSo.2.2.1 _ (List.mem_of_getElem? (i := 34) rfl))) (hts _ (hSo.2.2.1 _ (List.mem_of_getElem? (i := 37) rfl))) hR1 (by rw [zcv_sum]; have := hz.1; omega) (Nat.le_trans hc1 hR.1) (Nat.le_trans hc2 hR.2) hdg (hz.2 hc1 hc2 _ _ _ hH hS hL)
  · exact hz.elim
theorem s_lmin {i : Nat} (hx : p.tables.exec = Jvm.exec) (hb : c.code = cc) (hml : c.maxLocals = nL) (hdg : decode cc pc = .ok (.invokestatic i, 3)) (hts : ∀ w ∈ Ts, w.before args s = true) (hown : s.vm.findClass own = some m.cls) (hSo : zSok B Z Ts aS G.2.1) (hR : bc ≤ R.cells ∧ bs ≤ R.slots) (hR1 : 1 ≤ R.frames) (hR2 : 30 ≤ R.locals) (w1 : Jvm.Cond.methodLink own i Lib.MathLoose.min_long.x ∈ Ts) (hz : zex1 (wX p l e R s m args below meth c Q B D cl dA aS nL bc bs) (.dsub, pc + 3, a, b, d, v) L st h cn sn) : wX p l e R s m args below meth c Q B D cl dA aS nL bc bs pc L st h cn sn := by
  intro hc1 hc2 H locs lsA hH hS hL
  unfold zex1 at hz
  dsimp only at hz
  split at hz
  · exact va_mmin_long hx hb (hml.trans hL.2.1.symm) hown (hts _ w1) (hts _ (hSo.2.2.1 _ (List.mem_of_getElem? (i := 33) rfl))) (hts _ (hSo.2.2.1 _ (List.mem_of_getElem? (i := 34) rfl))) (hts _ (hSo.2.2.1 _ (List.mem_of_getElem? (i := 38) rfl))) hR1 (by rw [zcv_sum]; have := hz.1; omega) (Nat.le_trans hc1 hR.1) (Nat.le_trans hc2 hR.2) hdg (hz.2 hc1 hc2 _ _ _ hH hS hL)
  · exact hz.elim
theorem s_pop2l (hx : p.tables.exec = Jvm.exec) (hb : c.code = cc) (hdg : decode cc pc = .ok (.pop2, 1)) (hz : zex1 (wX p l e R s m args below meth c Q B D cl dA aS nL bc bs) (.drem, pc + 1, a, b, d, v) L st h cn sn) : wX p l e R s m args below meth c Q B D cl dA aS nL bc bs pc L st h cn sn := by
  intro hc1 hc2 H locs lsA hH hS hL
  unfold zex1 at hz
  dsimp only at hz
  split at hz
  · rename_i w s9
    exact lv_pop2_2 hx hb hdg (by rw [zcv_cat]; exact hz.1) (hz.2 hc1 hc2 _ _ _ hH hS hL)
  · exact hz.elim
end SMATH
end
section
/-! arrays copied, cloned; stores of cells into arrays -/
theorem zover {args : Array Value} {s : State} {t : FieldType} (h : (Jvm.Cond.arrayOver (.array t)).before args s = true) : ∃ (comp c : ClassId) (k : Class), s.vm.findClass (FieldType.array t).toString = some comp ∧ s.vm.classes[c]? = some k ∧ k.kind = .array comp (.array t) ∧ s.vm.findClass ("[" ++ (FieldType.array t).toString) = some c := by
  simp only [Jvm.Cond.before, Jvm.Cond.holds, Jvm.Cond.value, beq_iff_eq] at h
  cases hc : s.vm.findClass (FieldType.array t).toString with
  | none => simp [hc] at h
  | some comp =>
    simp only [hc, Option.bind_some, Option.bind_eq_some_iff, Option.map_eq_some_iff] at h
    obtain ⟨c, hi, k, hk, hq⟩ := h
    obtain ⟨hlt, hp, -⟩ := Array.findIdx?_eq_some_iff_getElem.mp hi
    have e := (Array.getElem?_eq_some_iff.mp hk).2
    rw [e] at hp
    cases hkind : k.kind with
    | array component ty =>
      rw [hkind] at hq hp
      simp at hq hp
      exact ⟨comp, c, k, rfl, hk, by rw [hkind, hp, hq.1], hq.2⟩
    | _ => rw [hkind] at hq; simp at hq
section SIM7
variable {p : Program} {l : Launch} {e : Env} {R : Room} {s : State} {m : MethodId} {args : Array Value} {below : List Frame} {meth : Method} {c : Code} {Q : State → Prop} {cc : ByteArray} {B : Nat} {D : va_G} {cl : List vw_C} {dA : Nat → ClassId} {aS : Nat → Nat} {nL bc bs pc : Nat}
variable {L : zL} {st : List Value} {h : zH} {cn sn : Nat} {a b d : Nat} {v : Value}
variable {tt : zT} {G : zG} {rt : Option FieldType} {M : zM} {ret : zQ} {Ts : List Jvm.Cond} {own : String} {Z : State → Prop}
theorem s_aastore (hx : p.tables.exec = Jvm.exec) (hb : c.code = cc) (hdg : decode cc pc = .ok (.aastore, 1)) (hK : va_K D cl (ztys dA) s) (hov : (Jvm.Cond.arrayOver (.array .int)).before args s = true) (hd : (cl[d]?).map (fun q => q.1) = some "TankBehind$Car") (hz : zex2 tt G bc bs rt M ret (wX p l e R s m args below meth c Q B D cl dA aS nL bc bs) (.aastore, pc + 1, a, b, d, v) L st h cn sn) : wX p l e R s m args below meth c Q B D cl dA aS nL bc bs pc L st h cn sn := by
  intro hc1 hc2 H locs lsA hH hS hL
  unfold zex2 at hz
  dsimp only at hz
  split at hz
  · rename_i y i r s9
    obtain ⟨k0, N, f, hk, hr, hi, k⟩ := hz
    have hlt : i.toNatClampNeg < N := Nat.not_le.mp fun q => hi (Or.inr q)
    have h0 : ¬ i < 0 := fun q => hi (Or.inl q)
    have ha : H[B + r]? = some (vp_cell (dA k0) (N, .inr (.inr (.inr (.inr (fun j => (f j).map (fun a => B + a))))))) := hH.2 _ _ hr
    have fin : ∀ H1 : Heap, H1[B + r]? = some ((vp_cell (dA k0) (N, .inr (.inr (.inr (.inr (fun j => (f j).map (fun a => B + a))))))).setSlot i.toNatClampNeg (.ref (B + y))) → H1.size = H.size → (∀ q, q ≠ B + r → H1[q]? = H[q]?) → W p l e R s m args below meth c H1 (locs ++ [⟨B + r, i.toNatClampNeg⟩]) cn sn Q (F0 m (pc + 1) lsA (s9.map (zcv B aS))) := by
      intro H1 e9 z oq
      refine k hc1 hc2 _ _ _ (hH.set hr ?_ z oq) (hS.put z oq (Nat.le_add_right B r)) hL
      show H1[B + r]? = some (vp_cell _ _)
      rw [e9]
      rw [vp_cell_q, show zcA B (N, .inr (.inr (.inr (.inr (va_up f i.toNatClampNeg (some y)))))) = (N, .inr (.inr (.inr (.inr (fun j => (va_up f i.toNatClampNeg (some y) j).map (fun a => B + a)))))) from rfl, vp_cell_q, arrV_store]
      congr 2
      funext q
      by_cases hq : q = i.toNatClampNeg
      · subst hq
        simp [updV, va_up, va_rf]
      · simp [updV, va_up, hq]
    rcases hk with ⟨rfl, K, g, hy⟩ | ⟨rfl, fs, hy⟩
    · have hv : H[B + y]? = some (vp_cell (dA 0) (K, .inl g)) := hH.2 _ _ hy
      obtain ⟨comp, cA, kA, f1, f2, f3, f4⟩ := zover hov
      have ea : cA = dA 4 := zRA_find (k := 4) (by omega) hK f4
      have ec : comp = dA 0 := zRA_find (k := 0) (by omega) hK f1
      subst ea
      subst ec
      obtain ⟨-, kC, hkC, -, -⟩ := (hK.2 0 _ (ztys_get dA (by omega))).1 K (fun j => .int (g j))
      exact W.aast hx hb ha (fun q h => by cases h) (fun h => by cases h) f2 f3 rfl hkC ⟨h0, by show _ < (arrV _ _ _).slots.size; rw [arrV_size]; exact hlt⟩ hv (fun q h => by cases h) hkC (va_asg _ _) rfl rfl hdg fin
    · obtain ⟨q0, hq0, cellV, g1, g2, g3, -⟩ := hH.2 _ _ hy
      have hn : q0.1 = "TankBehind$Car" := by
        rw [hq0] at hd
        exact Option.some.inj hd
      have hcls := (hK.1 d q0 hq0).2
      obtain ⟨kA, comp, k1, k2, k3, -⟩ := (hK.2 5 _ (ztys_get dA (by omega))).2
      have hcomp : comp = D.1 d := by
        have := hcls.1
        rw [hn] at this
        exact Option.some.inj (k3.symm.trans this)
      subst hcomp
      obtain ⟨kC, hkC, -⟩ := hcls.2
      exact W.aast hx hb ha (fun q h => by cases h) (fun h => by cases h) k1 k2 rfl hkC ⟨h0, by show _ < (arrV _ _ _).slots.size; rw [arrV_size]; exact hlt⟩ g1 (fun q h => by rw [g3] at h; cases h) (by rw [g2]; exact hkC) (by rw [g2]; exact va_asg _ _) rfl rfl hdg fin
  · exact hz.elim
end SIM7
section SIM8
variable {p : Program} {l : Launch} {e : Env} {R : Room} {s : State} {m : MethodId} {args : Array Value} {below : List Frame} {meth : Method} {c : Code} {Q : State → Prop} {cc : ByteArray} {B : Nat} {D : va_G} {cl : List vw_C} {dA : Nat → ClassId} {aS : Nat → Nat} {nL bc bs pc : Nat}
variable {L : zL} {st : List Value} {h : zH} {cn sn : Nat} {a b d : Nat} {v : Value}
variable {tt : zT} {G : zG} {rt : Option FieldType} {M : zM} {ret : zQ} {Ts : List Jvm.Cond} {own : String} {Z : State → Prop}
theorem zsum_map (s9 : List Value) : ((s9.map (zcv B aS)).map fun v => v.category).sum = (s9.map fun v => v.category).sum := by rw [zcv_sum]
theorem s_cast {i : Nat} (hx : p.tables.exec = Jvm.exec) (hb : c.code = cc) (hdg : decode cc pc = .ok (.checkcast i, 3)) (hown : s.vm.findClass own = some m.cls) (hK : va_K D cl (ztys dA) s) (hlink : (Jvm.Cond.classLink own i ("[" ++ (zty 0).toString)).before args s = true) (hz : zex2 tt G bc bs rt M ret (wX p l e R s m args below meth c Q B D cl dA aS nL bc bs) (.fmul, pc + 3, a, b, d, v) L st h cn sn) : wX p l e R s m args below meth c Q B D cl dA aS nL bc bs pc L st h cn sn := by
  intro hc1 hc2 H locs lsA hH hS hL
  unfold zex2 at hz
  dsimp only at hz
  split at hz
  · rename_i r s9
    obtain ⟨N, f, hr, -, k⟩ := hz
    have ha : H[B + r]? = some (vp_cell (dA 0) (N, .inl f)) := hH.2 _ _ hr
    have hnm : s.vm.findClass ("[" ++ (zty 0).toString) = some (dA 0) := (hK.2 0 _ (ztys_get dA (by omega))).2
    intro T hT X
    obtain ⟨vm', X', stp⟩ := X.checkcastYes hx hown hlink (by rw [hT]; exact ha) rfl hnm (va_asg _ _) (g := F0 m pc lsA (.ref (B + r) :: s9.map (zcv B aS))) rfl rfl (by rw [hb]; exact hdg)
    obtain ⟨t, a1, b1⟩ := k hc1 hc2 H locs lsA hH hS hL (T.setVm vm') hT X'
    exact ⟨t, stp t a1, b1⟩
  · exact hz.elim
theorem s_copy {i : Nat} (hx : p.tables.exec = Jvm.exec) (hb : c.code = cc) (hml : c.maxLocals = nL) (hdg : decode cc pc = .ok (.invokestatic i, 3)) (hown : s.vm.findClass own = some m.cls) (hK : va_K D cl (ztys dA) s) (hlink : (Jvm.Cond.methodLink own i arraycopyName).before args s = true) (hnat : (Jvm.Cond.native arraycopyName).before args s = true) (hstat : (Jvm.Cond.static arraycopyName).before args s = true) (hini : (Jvm.Cond.initialized "java/lang/System").before args s = true) (hframes : 1 ≤ R.frames) (hlocals : nativeFrameWords "java/lang/System" "arraycopy" 5 + 30 ≤ R.locals) (hz : zex2 tt G bc bs rt M ret (wX p l e R s m args below meth c Q B D cl dA aS nL bc bs) (.sastore, pc + 3, a, b, d, v) L st h cn sn) : wX p l e R s m args below meth c Q B D cl dA aS nL bc bs pc L st h cn sn := by
  intro hc1 hc2 H locs lsA hH hS hL
  unfold zex2 at hz
  dsimp only at hz
  split at hz
  · rename_i n dp y sp r s9
    obtain ⟨N, K, f, g, hr, hy, ⟨rfl, rfl, hn, hN, hKn, hsum⟩, k⟩ := hz
    have hc0 : H[B + r]? = some (vp_cell (dA 0) (N, .inl f)) := hH.2 _ _ hr
    have hc1' : H[B + y]? = some (vp_cell (dA 0) (K, .inl g)) := hH.2 _ _ hy
    have nn : n.toInt = (n.toNatClampNeg : Int) := by
      have hz0 : (0 : Int) ≤ n.toInt := by
        have := Int32.not_lt.mp hn
        simpa using Int32.le_iff_toInt_le.mp this
      show n.toInt = ((n.toInt.toNat : Nat) : Int)
      omega
    have n0 : (0 : Int32).toNatClampNeg = 0 := rfl
    intro T hT X
    obtain ⟨-, k0, hk0, cm0, hkk0⟩ := (hK.2 0 _ (ztys_get dA (by omega))).1 N (fun j => .int (f j))
    obtain ⟨-, k1, hk1, cm1, hkk1⟩ := (hK.2 0 _ (ztys_get dA (by omega))).1 K (fun j => .int (g j))
    obtain ⟨vm', X', step⟩ := X.arraycopy hx hown hlink hnat hstat hini (src := B + r) (dst := B + y) (cs := vp_cell (dA 0) (N, .inl f)) (cd := vp_cell (dA 0) (K, .inl g)) (srcPos := 0) (destPos := 0) (n := n) (by rw [hT]; exact hc0) (by rw [hT]; exact hc1')
      (fun _ h => by cases h) (fun _ h => by cases h) (fun h => by cases h) (fun h => by cases h) hk0 hk1 hkk0 hkk1 (by rfl) (by decide) (by decide) hn
      (by rw [nn]; show ¬ _ > ((arrV (dA 0) N (fun j => .int (f j))).slots.size : Int); rw [arrV_size, show (0 : Int32).toInt = 0 from rfl]; omega)
      (by rw [nn]; show ¬ _ > ((arrV (dA 0) K (fun j => .int (g j))).slots.size : Int); rw [arrV_size, show (0 : Int32).toInt = 0 from rfl]; omega)
      (fun vm₁ _ i hi => by
        have e : (vp_cell (dA 0) (N, .inl f)).slots.getD ((0 : Int32).toNatClampNeg + i) .null = .int (f ((0 : Int32).toNatClampNeg + i)) := by
          show (arrV (dA 0) N (fun j => .int (f j))).slots.getD _ _ = _
          rw [Array.getD_eq_getD_getElem?, arrV_read _ _ (by rw [n0]; omega)]
          rfl
        refine ⟨?_, ?_⟩
        · rw [e]
          rfl
        · rw [e]
          exact trivial)
      (g := F0 m pc lsA (.int n :: .int 0 :: .ref (B + y) :: .int 0 :: .ref (B + r) :: s9.map (zcv B aS))) rfl (by rw [hml]; exact hL.2.1) (rest := s9.map (zcv B aS)) rfl (by rw [hb]; exact hdg) hframes (by show 2 * 0 + _ + _ ≤ _; rw [zsum_map]; omega)
    have e1 : copied (vp_cell (dA 0) (N, .inl f)) (vp_cell (dA 0) (K, .inl g)) 0 0 n = vp_cell (dA 0) (K, .inl (va_cpy f g 0 0 n.toNatClampNeg)) := va_copied (fun z => .int z) (dA 0) (dA 0) f g (by rw [n0]; omega)
    rw [e1] at X' step
    have hl : B + y < H.size := (Array.getElem?_eq_some_iff.mp hc1').1
    have hheap : ((T.setVm vm').setCell (B + y) (vp_cell (dA 0) (K, .inl (va_cpy f g 0 0 n.toNatClampNeg)))).heap = H.setIfInBounds (B + y) (vp_cell (dA 0) (K, .inl (va_cpy f g 0 0 n.toNatClampNeg))) := by rw [← hT]; rfl
    have oq : ∀ q : Nat, q ≠ B + y → (H.setIfInBounds (B + y) (vp_cell (dA 0) (K, .inl (va_cpy f g 0 0 n.toNatClampNeg))))[q]? = H[q]? := fun q hq => by simp [Array.getElem?_setIfInBounds, Ne.symm hq]
    obtain ⟨t, a1, b1⟩ := k hc1 hc2 _ _ lsA (hH.set hy (show (H.setIfInBounds (B + y) _)[B + y]? = some _ by simp [Array.getElem?_setIfInBounds, hl]; rfl) (by simp) oq) ⟨by simp; exact hS.1, fun q g1 g2 => by
        rw [oq q (fun e => g2 (by rw [e]; exact Nat.le_add_right B y))]
        exact hS.2.1 q g1 g2, fun q hq => by
        rcases List.mem_append.mp hq with h | h
        · exact hS.2.2 q h
        · obtain ⟨z, -, hz⟩ := List.mem_map.mp h
          rw [← hz]
          exact Nat.le_add_right B y⟩ hL _ hheap X'
    exact ⟨t, step t a1, b1⟩
  · exact hz.elim
theorem s_clone {i : Nat} {ad : String} (had : ad = "[" ++ (zty 0).toString) (hx : p.tables.exec = Jvm.exec) (hb : c.code = cc) (hml : c.maxLocals = nL) (hdg : decode cc pc = .ok (.invokevirtual i, 3)) (hown : s.vm.findClass own = some m.cls) (hK : va_K D cl (ztys dA) s) (hR : bc ≤ R.cells ∧ bs ≤ R.slots)
    (hlink : (Jvm.Cond.methodLink own i ⟨ad, "clone", "()Ljava/lang/Object;"⟩).before args s = true) (hsame : (Jvm.Cond.sameMethod ad "java/lang/Object" "clone" "()Ljava/lang/Object;").before args s = true) (hnat : (Jvm.Cond.native ⟨"java/lang/Object", "clone", "()Ljava/lang/Object;"⟩).before args s = true) (hinst : (Jvm.Cond.instanceMethod ⟨"java/lang/Object", "clone", "()Ljava/lang/Object;"⟩).before args s = true) (hsel : (Jvm.Cond.selects ad ⟨ad, "clone", "()Ljava/lang/Object;"⟩ ⟨"java/lang/Object", "clone", "()Ljava/lang/Object;"⟩).before args s = true) (hcl : va_Nw (.castable ad "java/lang/Cloneable") s)
    (hframes : 1 ≤ R.frames) (hlocals : 30 ≤ R.locals) (hz : zex2 tt G bc bs rt M ret (wX p l e R s m args below meth c Q B D cl dA aS nL bc bs) (.castore, pc + 3, a, b, d, v) L st h cn sn) : wX p l e R s m args below meth c Q B D cl dA aS nL bc bs pc L st h cn sn := by
  intro hc1 hc2 H locs lsA hH hS hL
  unfold zex2 at hz
  dsimp only at hz
  split at hz
  · rename_i r s9
    obtain ⟨N, f, hr, ⟨hsum, hcc, hss⟩, k⟩ := hz
    have ha : H[B + r]? = some (vp_cell (dA 0) (N, .inl f)) := hH.2 _ _ hr
    have hnm : s.vm.findClass ad = some (dA 0) := by rw [had]; exact (hK.2 0 _ (ztys_get dA (by omega))).2
    obtain ⟨c0, t0', f1, f2, f3⟩ := Cond.castable_spec (va_Nw.use (A := args) rfl hcl)
    cases hnm.symm.trans f1
    intro T hT X
    have hcellT : T.heap[B + r]? = some (vp_cell (dA 0) (N, .inl f)) := by rw [hT]; exact ha
    obtain ⟨-, kA, hkA, comp, hkind⟩ := State.isArrayOf_alike X.warmed.alike ((hK.2 0 _ (ztys_get dA (by omega))).1 0 (fun _ => .null))
    obtain ⟨-, kS, hkS, compS, hkindS⟩ := (hK.2 0 _ (ztys_get dA (by omega))).1 0 (fun _ => .null)
    obtain ⟨vm', X', stp⟩ := X.cloneArray hx hown hlink hsame hnat hinst hsel (a := B + r) (cell := vp_cell (dA 0) (N, .inl f)) hcellT (fun k h => by cases h) (fun h => by cases h) hnm f2 f3
      (fun i v hv => by
        have hk' : T.vm.classes[dA 0]? = some kA := hkA
        have hfit : fits (zty 0) v = true := by
          have : ∃ z : Int32, v = .int z := by
            rw [vp_cell_i] at hv
            by_cases hi : i < N
            · rw [arrV_read _ _ hi] at hv
              exact ⟨_, (Option.some.inj hv).symm⟩
            · rw [Array.getElem?_eq_none (by rw [arrV_size]; omega)] at hv
              cases hv
          obtain ⟨z, rfl⟩ := this
          rfl
        show State.fitsSlot _ (dA 0) _ _ _ = true
        simpa [State.fitsSlot, State.slotType?, hk', hkind] using hfit)
      (g := F0 m pc lsA (.ref (B + r) :: s9.map (zcv B aS))) rfl (by rw [hml]; exact hL.2.1) rfl (by rw [hb]; exact hdg) hframes (by show 2 * 0 + _ + 14 ≤ _; rw [zsum_map]; omega) (by omega) (by show _ + (arrV _ N _).slots.size ≤ _; rw [arrV_size]; omega) (hloader := Vm.clonesLoader_of_array hkS hkindS)
    have hsz : (vp_cell (dA 0) (N, .inl f)).slots.size = N := arrV_size _ _ _
    have hcellE : ({ cls := (vp_cell (dA 0) (N, .inl f)).cls, slots := (vp_cell (dA 0) (N, .inl f)).slots } : Cell) = vp_cell (dA 0) (N, .inl f) := rfl
    rw [hcellE, hsz] at X'
    generalize hH1 : H.push (vp_cell (dA 0) (N, .inl f)) = H1
    have z1 : H1.size = H.size + 1 := by rw [← hH1, Array.size_push]
    have e1 : H1[H.size]? = some (vp_cell (dA 0) (N, .inl f)) := by rw [← hH1, Array.getElem?_push_size]
    have o1 : ∀ q : Nat, q < H.size → H1[q]? = H[q]? := fun q hq => by rw [← hH1, Array.getElem?_push, if_neg (Nat.ne_of_lt hq)]
    have h9 := k (by omega) (by omega) H1 locs lsA (hH.push (e := .inl (0, N, .inl f)) e1 z1 o1) (zS_push hS (by omega) o1) hL
    have e3 : (Value.ref h.length :: s9).map (zcv B aS) = .ref H.size :: s9.map (zcv B aS) := by rw [hH.1]; rfl
    rw [e3] at h9
    obtain ⟨t, b1, b2⟩ := h9 ((T.setVm vm').pushCell (vp_cell (dA 0) (N, .inl f))) (by rw [← hH1, ← hT]; rfl) X'
    refine ⟨t, stp t ?_, b2⟩
    rw [hcellE, hT]
    exact b1
  · exact hz.elim
end SIM8
end
