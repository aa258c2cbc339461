noncomputable def zall (tb : List (List Jvm.Cond)) (cl : List vw_C) (nm : List (MethodName × ByteArray × Nat)) (km : List Nat) (law ini : Bool) (own : String) (bytes : ByteArray) : Nat → zK → List (List Nat) → Bool
  | pc, some e :: r, p :: ps => (match decode bytes pc with
    | .ok (raw, len) => decide (e.2.1 = pc + len) && zchk tb cl nm km law ini own raw len pc e p
    | .error _ => false) && zall tb cl nm km law ini own bytes (pc + 1) r ps
  | pc, none :: r, _ :: ps => zall tb cl nm km law ini own bytes (pc + 1) r ps
  | _, [], _ => true
  | _, _ :: _, [] => false
/-- each canonical instruction of a method stands in its code -/
noncomputable def zCok (tb : List (List Jvm.Cond)) (cl : List vw_C) (nm : List (MethodName × ByteArray × Nat)) (km : List Nat) (law ini : Bool) (own : String) (bytes : ByteArray) (cd : zK) : Prop := ∀ (pc : Nat) (e : zE), cd[pc]? = some (some e) → ∃ (raw : Instr) (len : Nat) (ps : List Nat), decode bytes pc = .ok (raw, len) ∧ e.2.1 = pc + len ∧ zchk tb cl nm km law ini own raw len pc e ps = true
theorem zall_ok {tb : List (List Jvm.Cond)} {cl : List vw_C} {nm : List (MethodName × ByteArray × Nat)} {km : List Nat} {law ini : Bool} {own : String} {bytes : ByteArray} : ∀ (cd : zK) (pp : List (List Nat)) (k : Nat), zall tb cl nm km law ini own bytes k cd pp = true → ∀ (i : Nat) (e : zE), cd[i]? = some (some e) → ∃ (raw : Instr) (len : Nat) (ps : List Nat), decode bytes (k + i) = .ok (raw, len) ∧ e.2.1 = k + i + len ∧ zchk tb cl nm km law ini own raw len (k + i) e ps = true
  | [], _, _, _, i, e, hi => by simp at hi
  | none :: r, [], k, h, i, e, hi => by cases h
  | some e0 :: r, [], k, h, i, e, hi => by cases h
  | none :: r, p :: ps, k, h, i, e, hi => by
    cases i with
    | zero => cases hi
    | succ i =>
      have h9 := zall_ok r ps (k + 1) h i e hi
      rw [show k + (i + 1) = k + 1 + i by omega]
      exact h9
  | some e0 :: r, p :: ps, k, h, i, e, hi => by
    unfold zall at h
    rw [Bool.and_eq_true] at h
    cases i with
    | zero =>
      cases hi
      have h1 := h.1
      split at h1
      · rename_i raw len hdec
        rw [Bool.and_eq_true, decide_eq_true_eq] at h1
        exact ⟨raw, len, p, hdec, h1.1, h1.2⟩
      · cases h1
    | succ i =>
      have h9 := zall_ok r ps (k + 1) h.2 i e hi
      rw [show k + (i + 1) = k + 1 + i by omega]
      exact h9
theorem zCok_of {tb : List (List Jvm.Cond)} {cl : List vw_C} {nm : List (MethodName × ByteArray × Nat)} {km : List Nat} {law ini : Bool} {own : String} {bytes : ByteArray} {cd : zK} (pp : List (List Nat)) (h : zall tb cl nm km law ini own bytes 0 cd pp = true) : zCok tb cl nm km law ini own bytes cd := fun pc e hi => by
  have h9 := zall_ok cd pp 0 h pc e hi
  rw [Nat.zero_add] at h9
  exact h9
noncomputable def zPok (tb : List (List Jvm.Cond)) (cl : List vw_C) (nm : List (MethodName × ByteArray × Nat)) (km : List Nat) (G : zG) : Prop := ∀ (j : Nat) (y : MethodName) (bytes : ByteArray) (np : Nat), nm[j]? = some (y, bytes, np) → ∀ (cd : zK) (nL : Nat) (rt : Option FieldType) (mc ms : Nat), G.1[j]? = some (cd, nL, rt, mc, ms) → plainFor y = true ∧ zCok tb cl nm km false (decide (y.name = "<init>")) y.cls bytes cd
theorem zargs_in (f : Value → Value) (hf : ∀ w, (f w).category = w.category) : ∀ (as : List Value) (k i : Nat) (v : Value), (zargs as).getD i none = some v → (k + i, f v) ∈ lv_args k (as.map f)
  | [], k, i, v, h => by simp [zargs] at h
  | a :: as, k, i, v, h => by
    unfold zargs at h
    by_cases hc : a.category = 2
    · rw [show (a.category == 2) = true by simp [hc]] at h
      rw [List.map_cons]
      unfold lv_args
      rw [if_pos (by rw [hf]; exact hc)]
      match i, h with
      | 0, h => cases h; exact List.mem_cons_self
      | 1, h => cases h
      | i + 2, h =>
        have h9 := zargs_in f hf as (k + 2) i v h
        rw [show k + (i + 2) = k + 2 + i by omega]
        exact List.mem_cons_of_mem _ h9
    · rw [show (a.category == 2) = false by simp [hc]] at h
      rw [List.map_cons]
      unfold lv_args
      rw [if_neg (by rw [hf]; exact hc)]
      match i, h with
      | 0, h => cases h; exact List.mem_cons_self
      | i + 1, h =>
        have h9 := zargs_in f hf as (k + 1) i v h
        rw [show k + (i + 1) = k + 1 + i by omega]
        exact List.mem_cons_of_mem _ h9
theorem zargs_len (f : Value → Value) (hf : ∀ w, (f w).category = w.category) : ∀ as : List Value, (zargs as).length = (lg_sl (as.map f)).length
  | [] => rfl
  | a :: as => by
    have ih := zargs_len f hf as
    rw [List.map_cons]
    unfold zargs
    unfold lg_sl at ih ⊢
    rw [List.flatMap_cons, List.length_append, ← ih, hf]
    by_cases hc : a.category = 2
    · rw [show (a.category == 2) = true by simp [hc], if_pos hc]
      show (some a :: none :: zargs as).length = _
      simp only [List.length_cons, List.length_nil]; omega
    · rw [show (a.category == 2) = false by simp [hc], if_neg hc]
      show (some a :: zargs as).length = _
      simp only [List.length_cons, List.length_nil]; omega
theorem zentry_has {f : Value → Value} (hf : ∀ w, (f w).category = w.category) {as : List Value} {nL : Nat} (hl : (zargs as).length ≤ nL) : zLs f nL (zentry as nL) ((lg_sl (as.map f) ++ List.replicate (nL - (lg_sl (as.map f)).length) Slot.unset).toArray) := by
  have h9 := lv_entry (as.map f) (n := nL) (by rw [← zargs_len f hf]; exact hl)
  refine ⟨by unfold zentry; rw [List.length_append, List.length_replicate]; omega, h9.1, h9.2.1, fun i v hv => ?_⟩
  have h1 : (zargs as).getD i none = some v := by
    unfold zentry at hv
    rw [List.getD_eq_getElem?_getD] at hv ⊢
    by_cases q : i < (zargs as).length
    · rw [List.getElem?_append_left q] at hv
      exact hv
    · rw [List.getElem?_append_right (by omega), List.getElem?_replicate] at hv
      split at hv <;> cases hv
  have h2 := h9.2.2 (0 + i, f v) (zargs_in f hf as 0 i v h1)
  rw [Nat.zero_add] at h2
  exact h2
set_option maxHeartbeats 4000000 in
/-- the head of a method that no row of the natives stands for -/
theorem zMetW {l : Launch} {y : MethodName} {ws ws' : List Jvm.Cond} {rm : Room} {Pc : Array Value → State → Prop} {Qc : Array Value → State → Outcome → State → Prop} {mc ms : Nat} {free : Addr → Prop} {cc : ByteArray} {maxL : Nat} {ret : Option FieldType} (hy : plainFor y = true) (hw : ws = Jvm.Cond.code y cc maxL ret :: ws')
    (body : ∀ p e s m args below meth c s₁, BodyLoose p l y (headSpec ws rm) cc maxL ret e s m args below meth c s₁ → c.maxLocals = maxL → Pc args s → W p l e (headSpec ws rm).room s m args below meth c s.heap [] 0 0 (MQ below Qc args s mc ms free) (entryFrame m args maxL)) : Met l y ws rm Pc Qc mc ms free := by
  refine MetFree.of_bodyRF (code := cc) (maxLocals := maxL) (ret := ret) hy ?_ ?_
  · intro args s m h hn
    obtain ⟨meth, c, h1, h2, h3, h4, h5, h6, -, -⟩ := Cond.code_spec hn (atoms_spec (ws := ws) h _ (by rw [hw]; exact List.mem_cons_self))
    exact ⟨meth, c, h1, h2, h3, h4, h5, h6⟩
  · intro p e s m args below meth c s₁ Bd hml hP _ hst
    have hh0 : s₁.heap = s.heap := by rw [Bd.state]; rfl
    obtain ⟨t, a1, o, b1, b2, b3⟩ := body p e s m args below meth c s₁ Bd hml hP s₁ hh0 (Stand.of_body Bd)
    exact ⟨t, o, hst.trans a1, b1, b2, ⟨b3.1, b3.2⟩⟩
/-- the methods of the program are worth in the machine what the small machine says of them -/
theorem zMet_all (l : Launch) {nm : List (MethodName × ByteArray × Nat)} {km : List Nat} {G : zG} {B : Nat} {D : va_G} {cl : List vw_C} {dA : Nat → ClassId} {aS : Nat → Nat} {Z : State → Prop} {Ts : List Jvm.Cond} {tt : zT} {tb : List (List Jvm.Cond)} (hit : ∀ (p : Nat) (w : Jvm.Cond), zin tb p w = true → w ∈ Ts) (hZU : ∀ U : State, Z U → ∀ (p : Nat) (w : Jvm.Cond), ziu tb p w = true → zspec w = true → w.before #[] U = true) (hG : GoodIn Ts Ts) (hT : zTT tt cl Ts) (hMk : zMok Ts nm km G) (hPk : zPok tb cl nm km G) (hZ : zStays B Z) (hSo : zSok B Z Ts aS G.2.1) : ∀ d : Nat, zMet l nm G B D cl dA aS Z Ts d (zW tt G d)
  | 0 => fun _ _ _ _ k => k.elim
  | d + 1 => by
    have ihM := zMet_all l (B := B) (D := D) (dA := dA) (aS := aS) hit hZU hG hT hMk hPk hZ hSo d
    intro j as h K k y bytes np cd nL rt mc ms h1 h2
    unfold zW at k
    rw [h2] at k
    obtain ⟨k1, k2⟩ := k
    obtain ⟨hpl, hcok⟩ := hPk j y bytes np h1 cd nL rt mc ms h2
    obtain ⟨cd', nL', rt', mc', ms', f1, f2, f3, f4, f5, f6, f7, f8⟩ := hMk j y bytes np h1
    rw [h2] at f1
    cases f1
    refine zMetW (cc := bytes) (maxL := nL) (ret := rt) hpl rfl ?_
    intro p e s m args below meth c s₁ Bd hml hv
    obtain ⟨rfl, hH, hK, hZs⟩ := hv
    have hx := Bd.exec
    have hb := Bd.bytes
    have hr := Bd.returns
    have hts0 := atoms_spec (ws := .code y bytes nL rt :: Ts) Bd.pre
    have hts : ∀ w ∈ Ts, w.before (as.map (zcv B aS)).toArray s = true := fun w hw => hts0 w (List.mem_cons_of_mem _ hw)
    have hown : s.vm.findClass y.cls = some m.cls := findClass_of_methodNamed Bd.named
    have hlocks := Bd.notSynchronized
    have hin : meth.name = y.name := (name_of_methodNamed Bd.named Bd.method).1
    have hBs : B ≤ s.heap.size := by rw [hH.1]; exact Nat.le_add_right _ _
    rw [lg_entry_eq]
    refine k2 (wX p l e (headSpec (.code y bytes nL rt :: Ts) (zrm (d + 1) mc ms)).room s m (as.map (zcv B aS)).toArray below meth c (MQ below (zQc B D cl dA aS K) (as.map (zcv B aS)).toArray s mc ms (fun q => B ≤ q)) B D cl dA aS nL mc ms) ?_ (Nat.zero_le _) (Nat.zero_le _) s.heap [] _ hH va_S.rf (zentry_has (zcv_cat B aS) k1)
    intro pc L st h' cn sn hz
    unfold zstep at hz
    split at hz
    · rename_i ze hze
      obtain ⟨raw, len, ps, g1, g2, g3⟩ := hcok pc ze hze
      refine zsnd (R := (headSpec (.code y bytes nL rt :: Ts) (zrm (d + 1) mc ms)).room) hx hb hml hts hG hT hMk hown (fun q => ?_) hK hZ hZs hBs ihM (fun q => by cases q) hSo ⟨Nat.le_refl _, Nat.le_refl _⟩ (by show d + 9 ≤ d + 1 + 8; omega) (by show d * 64 + 576 ≤ (d + 1) * 64 + 512; omega) ?_ ?_ ?_ ?_ g1 g2 hit (hZU s hZs) g3 hz
      · rw [hin]; exact of_decide_eq_true q
      · intro x h9 H locs lsA pc9 cn9 sn9 q1 q2 q3 q4 q5 q6 q7
        obtain ⟨t, rfl, hn⟩ := q7
        refine W.widen q2 q3 ?_
        exact W.zret hx hb hr hn (fun t ht hW => ⟨⟨some (.int x), h9, rfl, q1, by rw [ht]; exact q4⟩, q5.F ht⟩) q5.2.2 q6
      · intro x h9 H locs lsA pc9 cn9 sn9 q1 q2 q3 q4 q5 q6 q7
        subst q7
        refine W.widen q2 q3 ?_
        exact W.lret hx hb hr (fun t ht hW => ⟨⟨some (.long x), h9, rfl, q1, by rw [ht]; exact q4⟩, q5.F ht⟩) q5.2.2 q6
      · intro w h9 H locs lsA pc9 cn9 sn9 q0 q1 q2 q3 q4 q5 q6 q7
        obtain ⟨t, rfl, hn⟩ := q7
        refine W.widen q2 q3 ?_
        refine W.aret hx hb hr ?_ ?_ (fun t ht hW => ⟨⟨some w, h9, rfl, q1, by rw [ht]; exact q4⟩, q5.F ht⟩) q5.2.2 q6
        · cases t <;> first | exact Or.inl ⟨_, rfl⟩ | exact Or.inr ⟨_, rfl⟩ | cases hn
        · rcases q0 with rfl | ⟨r, rfl⟩ | ⟨r, rfl⟩
          · exact Or.inl rfl
          · exact Or.inr ⟨_, rfl⟩
          · exact Or.inr ⟨_, rfl⟩
      · intro h9 H locs lsA pc9 cn9 sn9 q1 q2 q3 q4 q5 q6 q7
        subst q7
        refine W.widen q2 q3 ?_
        exact W.vret hx hb hr (fun t ht hW => ⟨⟨none, h9, rfl, q1, by rw [ht]; exact q4⟩, q5.F ht⟩) q5.2.2 q6
    · exact hz.elim
