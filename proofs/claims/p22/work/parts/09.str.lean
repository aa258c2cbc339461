/-! STRINGS: String.length and String.charAt of the constants, by their code -/
noncomputable abbrev zRS : String := "java/lang/String"
noncomputable abbrev zRL : String := "java/lang/StringLatin1"
noncomputable abbrev zRP : String := "jdk/internal/util/Preconditions"
noncomputable def zyLen : MethodName := ⟨zRS, "length", "()I"⟩
noncomputable def zyCod : MethodName := ⟨zRS, "coder", "()B"⟩
noncomputable def zyCh : MethodName := ⟨zRS, "charAt", "(I)C"⟩
noncomputable def zyLat : MethodName := ⟨zRS, "isLatin1", "()Z"⟩
noncomputable def zyCh1 : MethodName := ⟨zRL, "charAt", "([BI)C"⟩
noncomputable def zyChk : MethodName := ⟨zRS, "checkIndex", "(II)V"⟩
noncomputable def zyChP : MethodName := ⟨zRP, "checkIndex", "(IILjava/util/function/BiFunction;)I"⟩
noncomputable abbrev zbLen : ByteArray := prog_17_method_54_code
noncomputable abbrev zbCod : ByteArray := prog_17_method_152_code
noncomputable abbrev zbCh : ByteArray := prog_17_method_56_code
noncomputable abbrev zbLat : ByteArray := prog_17_method_154_code
noncomputable abbrev zbCh1 : ByteArray := prog_18_method_2_code
noncomputable abbrev zbChk : ByteArray := prog_17_method_155_code
noncomputable abbrev zbChP : ByteArray := prog_22_method_11_code
/-- the words of these methods -/
noncomputable def zSw : List Jvm.Cond := [.code zyLen zbLen 1 (some .int), .code zyCod zbCod 1 (some .byte), .code zyCh zbCh 2 (some .char), .code zyLat zbLat 1 (some .boolean), .code zyCh1 zbCh1 2 (some .char), .code zyChk zbChk 2 none, .code zyChP zbChP 3 (some .int),
  .fieldLink zRS 9 zRS "value" "[B", .methodLink zRS 335 zyCod, .instanceMethod zyCod, .selects zRS zyCod zyCod, .initialized zRS, .fieldLink zRS 38 zRS "COMPACT_STRINGS" "Z", .fieldLink zRS 15 zRS "coder" "B", .methodLink zRS 492 zyLat, .instanceMethod zyLat, .selects zRS zyLat zyLat, .methodLink zRS 495 zyCh1, .static zyCh1, .initialized zRL, .methodLink zRL 9 zyChk, .static zyChk,
  .fieldLink zRS 1053 zRP "SIOOBE_FORMATTER" "Ljava/util/function/BiFunction;", .methodLink zRS 1059 zyChP, .static zyChP, .initialized zRP, .instanceMethod zyLen, .selects zRS zyLen zyLen, .instanceMethod zyCh, .selects zRS zyCh zyCh,
  .static Lib.Math.max.name, .static Lib.Math.min.name, .static Lib.MathLoose.max_long.x, .static Lib.MathLoose.min_long.x, .initialized "java/lang/Math", .code Lib.Math.max.name Lib.Math.max.code 2 (some .int), .code Lib.Math.min.name Lib.Math.min.code 2 (some .int), .code Lib.MathLoose.max_long.x Lib.MathLoose.max_long.code 4 (some .long), .code Lib.MathLoose.min_long.x Lib.MathLoose.min_long.code 4 (some .long)]
/-- what is known of the constants' own objects -/
noncomputable def zSt (B : Nat) (aS aV : Nat → Nat) (tx : Nat → List Int32) (U : State) : Prop := va_Z zRS "COMPACT_STRINGS" "Z" (.int 1) (fun q => B ≤ q) U U.heap ∧ va_Zq zRP "SIOOBE_FORMATTER" "Ljava/util/function/BiFunction;" (fun q => B ≤ q) U U.heap ∧ ∀ k : Nat, tx k ≠ [] → va_O zRS (aS k) (fun q => B ≤ q) U U.heap ∧ va_OF zRS "coder" "B" (.int 0) (aS k) (fun q => B ≤ q) U U.heap ∧ va_OF zRS "value" "[B" (.ref (aV k)) (aS k) (fun q => B ≤ q) U U.heap ∧ va_T .byte (aV k) (tx k).length (fun j => .int ((tx k).getD j 0)) (fun q => B ≤ q) U U.heap
noncomputable def zJq (B : Nat) (v : Option Value) : Array Value → State → Outcome → State → Prop := fun _ st o t => o = .returned v ∧ t.heap = st.heap ∧ va_F (fun q => B ≤ q) st t
noncomputable def zjm (d : Nat) : Room := { frames := d, cells := 0, slots := 0, locals := d * 64 }
/-- a method that makes nothing and changes nothing: on these arguments it answers so -/
noncomputable def zJ (l : Launch) (B : Nat) (Z : State → Prop) (Ts : List Jvm.Cond) (d : Nat) (y : MethodName) (bytes : ByteArray) (nL : Nat) (rt : Option FieldType) (As : List Value) (v : Option Value) : Prop := Met l y (.code y bytes nL rt :: Ts) (zjm d) (va_Pc As Z) (zJq B v) 0 0 (fun q => B ≤ q)
theorem zJ_blind {B : Nat} {Z : State → Prop} (hZ : zStays B Z) {As : List Value} : FrameBlind (va_Pc As Z) := fun a U g mk q => ⟨q.1, hZ.2 U _ rfl rfl q.2⟩
theorem zJ_pre {B : Nat} {Z : State → Prop} {s : State} {H : Heap} {locs : List Loc} {As : List Value} (hZ : zStays B Z) (hBs : B ≤ s.heap.size) (hZs : Z s) (hS : va_S (fun q => B ≤ q) s.heap H locs) (U : State) (hU : U.heap = H) (hW : s.WarmedH U.vm) : va_Pc As Z As.toArray U := by
  refine ⟨rfl, hZ.1 s U hW (by rw [hU]; exact hS.1) (fun q hq => ?_) hZs⟩
  rw [hU]
  exact hS.2.1 q (by omega) (Nat.not_le.mpr hq)
theorem zJ_of {l : Launch} {B : Nat} {Z : State → Prop} {Ts : List Jvm.Cond} {d : Nat} {y : MethodName} {bytes : ByteArray} {nL : Nat} {rt : Option FieldType} {As : List Value} {v : Option Value} (hpl : plainName y.cls = true) (hl : (lg_sl As).length ≤ nL) (hB : ∀ s : State, Z s → B ≤ s.heap.size)
    (k : ∀ {p : Program} {e : Env} {R : Room} {s : State} {m : MethodId} {args : Array Value} {below : List Frame} {meth : Method} {c : Code} {Q : State → Prop} {ls : Array Slot}, p.tables.exec = Jvm.exec → c.code = bytes → c.maxLocals = nL → (∀ w ∈ Ts, w.before args s = true) → s.vm.findClass y.cls = some m.cls → Z s → B ≤ s.heap.size → R.frames = d ∧ R.locals = d * 64 → lv_has ls nL (lv_args 0 As) →
      (∀ (x : Int32) (t : FieldType) (pc : Nat) (lsA : Array Slot) (locs : List Loc), v = some (.int x) → rt = some t → narrow t (.int x) = .int x → va_S (fun q => B ≤ q) s.heap s.heap locs → decode bytes pc = .ok (.ireturn, 1) → W p l e R s m args below meth c s.heap locs 0 0 Q (F0 m pc lsA [.int x])) →
      (∀ (pc : Nat) (lsA : Array Slot) (locs : List Loc), v = none → rt = none → va_S (fun q => B ≤ q) s.heap s.heap locs → decode bytes pc = .ok (.return_, 1) → W p l e R s m args below meth c s.heap locs 0 0 Q (F0 m pc lsA [])) →
      W p l e R s m args below meth c s.heap [] 0 0 Q (F0 m 0 ls [])) : zJ l B Z Ts d y bytes nL rt As v := by
  refine Met.ofW (cc := bytes) (maxL := nL) (ret := rt) hpl rfl ?_
  intro p e s m args below meth c s₁ Bd hml hv
  obtain ⟨rfl, hZs⟩ := hv
  have hx := Bd.exec
  have hb := Bd.bytes
  have hr := Bd.returns
  have hts0 := atoms_spec (ws := .code y bytes nL rt :: Ts) Bd.pre
  have hts : ∀ w ∈ Ts, w.before As.toArray s = true := fun w hw => hts0 w (List.mem_cons_of_mem _ hw)
  have hown : s.vm.findClass y.cls = some m.cls := findClass_of_methodNamed Bd.named
  rw [lg_entry_eq]
  refine k hx hb hml hts hown hZs (hB s hZs) ⟨rfl, rfl⟩ (lv_entry As hl) ?_ ?_
  · intro x t pc lsA locs e1 e2 hn hS hdg
    subst e1
    subst e2
    exact W.zret hx hb hr hn (fun t ht hW => ⟨rfl, ht, hS.F ht⟩) hS.2.2 hdg
  · intro pc lsA locs e1 e2 hS hdg
    subst e1
    subst e2
    exact W.vret hx hb hr (fun t ht hW => ⟨rfl, ht, hS.F ht⟩) hS.2.2 hdg
section ZJ
variable {p : Program} {l : Launch} {e : Env} {R : Room} {s : State} {m : MethodId} {args : Array Value} {below : List Frame} {meth : Method} {c : Code} {Q : State → Prop} {cc : ByteArray} {B : Nat} {nL pc cn sn : Nat} {H : Heap} {locs : List Loc} {ls : Array Slot} {Ts : List Jvm.Cond} {own : String} {Z : State → Prop}
theorem zJcall {v : Option Value} {arr : Array Value} {st0 rest : List Value} (hr : va_Run p l e R s m args below meth c H locs cn sn 0 0 (F0 m pc ls st0) rest (zJq B v arr) (fun q => B ≤ q)) (hS : va_S (fun q => B ≤ q) s.heap H locs)
    (kk : ∀ locs1 : List Loc, va_S (fun q => B ≤ q) s.heap H locs1 → W p l e R s m args below meth c H locs1 cn sn Q (F0 m (pc + 3) ls (v.toList ++ rest))) : W p l e R s m args below meth c H locs cn sn Q (F0 m pc ls st0) := by
  intro T hT X
  obtain ⟨v9, st1, t, T', L9, h0, X', hL9, e1, e2, ⟨ho, hh, hF⟩, st9⟩ := hr T hT X
  cases ho
  have e3 : T'.heap = H := by rw [e1, hh, h0]
  obtain ⟨t2, a1, b1⟩ := kk (locs ++ L9) ⟨hS.1, hS.2.1, fun q hq => by
    rcases List.mem_append.mp hq with h9 | h9
    · exact hS.2.2 q h9
    · exact hL9 q h9⟩ T' e3 X'
  exact ⟨t2, st9 t2 a1, b1⟩
theorem zJstat {i nL2 d n : Nat} {y : MethodName} {bytes : ByteArray} {rt2 : Option FieldType} {As rest : List Value} {v : Option Value} {st0 : List Value} (hx : p.tables.exec = Jvm.exec) (hb : c.code = cc) (hml : c.maxLocals = nL) (hts : ∀ w ∈ Ts, w.before args s = true) (hG : GoodIn Ts Ts) (hown : s.vm.findClass own = some m.cls) (hZ : zStays B Z) (hZs : Z s) (hBs : B ≤ s.heap.size) (hS : va_S (fun q => B ≤ q) s.heap H locs) (hM : zJ l B Z Ts d y bytes nL2 rt2 As v) (hR1 : d + 1 ≤ R.frames) (hR2 : d * 64 + 64 ≤ R.locals) (h3 : nL2 ≤ 40)
    (w1 : Jvm.Cond.methodLink own i y ∈ Ts) (w2 : Jvm.Cond.static y ∈ Ts) (w4 : Jvm.Cond.initialized y.cls ∈ Ts) (w5 : Jvm.Cond.code y bytes nL2 rt2 ∈ Ts) (hd : y.cls ≠ "java/lang/invoke/MethodHandle" ∧ y.cls ≠ "java/lang/invoke/VarHandle" ∧ (parseMethodDescriptor y.desc).map (fun d => d.parameters.length) = some n) (hn : As.length = n) (hsz : ls.size = nL) (hst : st0 = As.reverse ++ rest) (h8 : (rest.map fun v => v.category).sum ≤ 8) (hdg : decode cc pc = .ok (.invokestatic i, 3)) (hc : cn ≤ R.cells ∧ sn ≤ R.slots)
    (kk : ∀ locs1 : List Loc, va_S (fun q => B ≤ q) s.heap H locs1 → W p l e R s m args below meth c H locs1 cn sn Q (F0 m (pc + 3) ls (v.toList ++ rest))) : W p l e R s m args below meth c H locs cn sn Q (F0 m pc ls st0) := by
  refine zJcall (v := v) (va_runS (As := As) (rest := rest) ⟨hx, hb, hml, hown, hts⟩ hM (va_cwS n hts (fun w hw => ?_) rfl rfl rfl hd ⟨hR1, by show 8 + (nL2 + 11) + d * 64 ≤ R.locals; omega⟩) ⟨zJ_blind hZ, fun U hU hW => zJ_pre hZ hBs hZs hS U hU hW⟩ rfl hn hsz hst (lv_room h8) hdg ⟨hc.1, hc.2⟩) hS kk
  rcases List.mem_append.mp hw with q | q
  · rcases List.mem_cons.mp q with rfl | q
    · exact hG _ w1
    rcases List.mem_cons.mp q with rfl | q
    · exact hG _ w2
    rcases List.mem_cons.mp q with rfl | q
    · exact hG _ w4
    cases q
  · rcases List.mem_cons.mp q with rfl | q
    · exact hG _ w5
    · exact hG _ q
theorem zJvirt {i nL2 d n b : Nat} {y : MethodName} {bytes : ByteArray} {rt2 : Option FieldType} {As rest : List Value} {v : Option Value} {st0 : List Value} (hx : p.tables.exec = Jvm.exec) (hb : c.code = cc) (hml : c.maxLocals = nL) (hts : ∀ w ∈ Ts, w.before args s = true) (hG : GoodIn Ts Ts) (hown : s.vm.findClass own = some m.cls) (hZ : zStays B Z) (hZs : Z s) (hBs : B ≤ s.heap.size) (hS : va_S (fun q => B ≤ q) s.heap H locs) (hM : zJ l B Z Ts d y bytes nL2 rt2 (.ref b :: As) v) (hR1 : d + 1 ≤ R.frames) (hR2 : d * 64 + 64 ≤ R.locals) (h3 : nL2 ≤ 40)
    (hO : va_O y.cls b (fun q => B ≤ q) s s.heap)
    (w1 : Jvm.Cond.methodLink own i y ∈ Ts) (w2 : Jvm.Cond.instanceMethod y ∈ Ts) (w3 : Jvm.Cond.selects y.cls y y ∈ Ts) (w4 : Jvm.Cond.initialized y.cls ∈ Ts) (w5 : Jvm.Cond.code y bytes nL2 rt2 ∈ Ts) (hd : y.cls ≠ "java/lang/invoke/MethodHandle" ∧ y.cls ≠ "java/lang/invoke/VarHandle" ∧ (parseMethodDescriptor y.desc).map (fun d => d.parameters.length) = some n) (hn : As.length = n) (hsz : ls.size = nL) (hst : st0 = As.reverse ++ .ref b :: rest) (h8 : (rest.map fun v => v.category).sum ≤ 8) (hdg : decode cc pc = .ok (.invokevirtual i, 3)) (hc : cn ≤ R.cells ∧ sn ≤ R.slots)
    (kk : ∀ locs1 : List Loc, va_S (fun q => B ≤ q) s.heap H locs1 → W p l e R s m args below meth c H locs1 cn sn Q (F0 m (pc + 3) ls (v.toList ++ rest))) : W p l e R s m args below meth c H locs cn sn Q (F0 m pc ls st0) := by
  have hGc : GoodIn Ts (wsV own i y.cls y (.code y bytes nL2 rt2 :: Ts)) := fun w hw => by
    rcases List.mem_append.mp hw with q | q
    · rcases List.mem_cons.mp q with rfl | q
      · exact hG _ w1
      rcases List.mem_cons.mp q with rfl | q
      · exact hG _ w2
      rcases List.mem_cons.mp q with rfl | q
      · exact hG _ w3
      rcases List.mem_cons.mp q with rfl | q
      · exact hG _ w4
      cases q
    · rcases List.mem_cons.mp q with rfl | q
      · exact hG _ w5
      · exact hG _ q
  have hrecv : ∃ cell : Cell, H[b]? = some cell ∧ cell.vm.isStatics = false ∧ s.vm.findClass y.cls = some cell.cls := by
    obtain ⟨cell, h1, h2, h3, -⟩ := hO.kept hS.2.1
    exact ⟨cell, h1, h2, h3⟩
  exact zJcall (v := v) (va_runV (As := As) (rest := rest) ⟨hx, hb, hml, hown, hts⟩ hM (cwV n hts hGc rfl rfl rfl ⟨rfl, hd⟩ ⟨hR1, by show 8 + (nL2 + 11) + d * 64 ≤ R.locals; omega⟩) ⟨zJ_blind hZ, hrecv, fun U hU hW => zJ_pre (As := .ref b :: As) hZ hBs hZs hS U hU hW⟩ rfl hn hsz hst (lv_room h8) hdg ⟨hc.1, hc.2⟩) hS kk
end ZJ
/-- what the text's int at a place is as a char -/
noncomputable def zch (x : Int32) : Int32 := ((x &&& 255).toUInt32 % 65536).toInt32
section ZS
variable {B : Nat} {Z : State → Prop} {Ts : List Jvm.Cond} {aS aV : Nat → Nat} {tx : Nat → List Int32}
theorem zJ_chP (l : Launch) (hG : GoodIn Ts Ts) (hZ : zStays B Z) (hB : ∀ s : State, Z s → B ≤ s.heap.size) (hZS : ∀ s : State, Z s → zSt B aS aV tx s) (hw : ∀ w ∈ zSw, w ∈ Ts) {i n : Int32} {f : Value} (hf : f = .null ∨ ∃ t, f = .ref t) (h1 : ¬ i < 0) (h2 : i < n) : zJ l B Z Ts 1 zyChP zbChP 3 (some .int) [.int i, .int n, f] (some (.int i)) := by
  have hc : f.category = 1 := by rcases hf with rfl | ⟨t, rfl⟩ <;> rfl
  refine zJ_of (by decide +kernel) (by rcases hf with rfl | ⟨t, rfl⟩ <;> exact Nat.le_of_ble_eq_true rfl) hB ?_
  intro p e R s m args below meth c Q ls hx hb hml hts hown hZs hBs hR hL hzr hvr
  have e0 := lv_at hL 0 (i := 0) (v := .int i) rfl
  have e1 := lv_at hL 1 (i := 1) (v := .int n) rfl
  refine lv_iload_n hx hb (k := 0) (i := 0) (by decide +kernel) rfl e0 ?_
  refine lv_if_lt hx hb (off := 8) (tgt := 9) (by decide +kernel) (by decide) (fun q => absurd q h1) (fun _ => ?_)
  refine lv_iload_n hx hb (k := 0) (i := 0) (by decide +kernel) rfl e0 ?_
  refine lv_iload_n hx hb (k := 1) (i := 1) (by decide +kernel) rfl e1 ?_
  refine lv_icmp_lt hx hb (off := 10) (tgt := 16) (by decide +kernel) (by decide) (fun _ => ?_) (fun q => absurd h2 q)
  refine lv_iload_n hx hb (k := 0) (i := 0) (by decide +kernel) rfl e0 ?_
  exact hzr i .int _ _ _ rfl rfl rfl va_S.rf (by decide +kernel)
theorem zJ_chk (l : Launch) (hG : GoodIn Ts Ts) (hZ : zStays B Z) (hB : ∀ s : State, Z s → B ≤ s.heap.size) (hZS : ∀ s : State, Z s → zSt B aS aV tx s) (hw : ∀ w ∈ zSw, w ∈ Ts) {i n : Int32} (h1 : ¬ i < 0) (h2 : i < n) : zJ l B Z Ts 2 zyChk zbChk 2 none [.int i, .int n] none := by
  refine zJ_of (by decide +kernel) (Nat.le_of_ble_eq_true rfl) hB ?_
  intro p e R s m args below meth c Q ls hx hb hml hts hown hZs hBs hR hL hzr hvr
  have e0 := lv_at hL 0 (i := 0) (v := .int i) rfl
  have e1 := lv_at hL 1 (i := 1) (v := .int n) rfl
  obtain ⟨-, g2, -⟩ := hZS s hZs
  have fin : ∀ f : Value, (f = .null ∨ ∃ t, f = .ref t) → W p l e R s m args below meth c s.heap [] 0 0 Q (F0 m 5 ls [f, .int n, .int i]) := fun f hf => by
    refine zJstat (As := [.int i, .int n, f]) (rest := []) (v := some (.int i)) (n := 3) (y := zyChP) (bytes := zbChP) (nL2 := 3) (rt2 := some .int) (i := 1059) hx hb hml hts hG hown hZ hZs hBs va_S.rf (zJ_chP l hG hZ hB hZS hw hf h1 h2) (by omega) (by omega) (by decide) (hw _ (List.mem_of_getElem? (i := 23) rfl)) (hw _ (List.mem_of_getElem? (i := 24) rfl)) (hw _ (List.mem_of_getElem? (i := 25) rfl)) (hw _ (List.mem_of_getElem? (i := 6) rfl)) (by decide +kernel) rfl hL.1 rfl (Nat.le_of_ble_eq_true rfl) (by decide +kernel) ⟨Nat.zero_le _, Nat.zero_le _⟩ (fun locs1 hS1 => ?_)
    refine lv_pop hx hb (by decide +kernel) rfl ?_
    exact hvr _ _ _ rfl rfl hS1 (by decide +kernel)
  refine lv_iload_n hx hb (k := 0) (i := 0) (by decide +kernel) rfl e0 ?_
  refine lv_iload_n hx hb (k := 1) (i := 1) (by decide +kernel) rfl e1 ?_
  have hlk := hts _ (hw _ (List.mem_of_getElem? (l := zSw) (i := 22) rfl))
  rcases g2 with g2 | ⟨t, g2⟩
  · exact va_gets hx hb g2 va_S.rf hown hlk (fun x h => h) (by decide +kernel) (fin _ (Or.inl rfl))
  · exact va_gets hx hb g2 va_S.rf hown hlk (fun x h => h) (by decide +kernel) (fin _ (Or.inr ⟨t, rfl⟩))
theorem zJ_cod (l : Launch) (hG : GoodIn Ts Ts) (hZ : zStays B Z) (hB : ∀ s : State, Z s → B ≤ s.heap.size) (hZS : ∀ s : State, Z s → zSt B aS aV tx s) (hw : ∀ w ∈ zSw, w ∈ Ts) {k : Nat} (hk : tx k ≠ []) : zJ l B Z Ts 1 zyCod zbCod 1 (some .byte) [.ref (aS k)] (some (.int 0)) := by
  refine zJ_of (by decide +kernel) (Nat.le_of_ble_eq_true rfl) hB ?_
  intro p e R s m args below meth c Q ls hx hb hml hts hown hZs hBs hR hL hzr hvr
  have e0 := lv_at hL 0 (i := 0) (v := .ref (aS k)) rfl
  obtain ⟨g1, -, g3⟩ := hZS s hZs
  obtain ⟨q1, q2, q3, q4⟩ := g3 k hk
  refine va_gets hx hb g1 va_S.rf hown (hts _ (hw _ (List.mem_of_getElem? (l := zSw) (i := 12) rfl))) (fun x h => h) (by decide +kernel) ?_
  refine lv_if_eq hx hb (off := 10) (tgt := 13) (by decide +kernel) (by decide) (fun q => absurd q (by decide)) (fun _ => ?_)
  refine lv_aload_n hx hb (k := 0) (i := 0) (by decide +kernel) rfl e0 ?_
  refine vk_getf hx hb q2 va_S.rf hown (hts _ (hw _ (List.mem_of_getElem? (l := zSw) (i := 13) rfl))) (fun x h => h) (by decide +kernel) ?_
  refine lv_goto hx hb (off := 4) (tgt := 14) (by decide +kernel) (by decide) ?_
  exact hzr 0 .byte _ _ _ rfl rfl (by decide) va_S.rf (by decide +kernel)
theorem zJ_lat (l : Launch) (hG : GoodIn Ts Ts) (hZ : zStays B Z) (hB : ∀ s : State, Z s → B ≤ s.heap.size) (hZS : ∀ s : State, Z s → zSt B aS aV tx s) (hw : ∀ w ∈ zSw, w ∈ Ts) {k : Nat} (hk : tx k ≠ []) : zJ l B Z Ts 1 zyLat zbLat 1 (some .boolean) [.ref (aS k)] (some (.int 1)) := by
  refine zJ_of (by decide +kernel) (Nat.le_of_ble_eq_true rfl) hB ?_
  intro p e R s m args below meth c Q ls hx hb hml hts hown hZs hBs hR hL hzr hvr
  have e0 := lv_at hL 0 (i := 0) (v := .ref (aS k)) rfl
  obtain ⟨g1, -, g3⟩ := hZS s hZs
  obtain ⟨q1, q2, q3, q4⟩ := g3 k hk
  refine va_gets hx hb g1 va_S.rf hown (hts _ (hw _ (List.mem_of_getElem? (l := zSw) (i := 12) rfl))) (fun x h => h) (by decide +kernel) ?_
  refine lv_if_eq hx hb (off := 14) (tgt := 17) (by decide +kernel) (by decide) (fun q => absurd q (by decide)) (fun _ => ?_)
  refine lv_aload_n hx hb (k := 0) (i := 0) (by decide +kernel) rfl e0 ?_
  refine vk_getf hx hb q2 va_S.rf hown (hts _ (hw _ (List.mem_of_getElem? (l := zSw) (i := 13) rfl))) (fun x h => h) (by decide +kernel) ?_
  refine lv_if_ne hx hb (off := 7) (tgt := 17) (by decide +kernel) (by decide) (fun q => absurd rfl q) (fun _ => ?_)
  refine lv_iconst hx hb (n := 1) (v := 1) (by decide +kernel) (by decide) ?_
  refine lv_goto hx hb (off := 4) (tgt := 18) (by decide +kernel) (by decide) ?_
  exact hzr 1 .boolean _ _ _ rfl rfl (by decide) va_S.rf (by decide +kernel)
theorem zJ_len (l : Launch) (hG : GoodIn Ts Ts) (hZ : zStays B Z) (hB : ∀ s : State, Z s → B ≤ s.heap.size) (hZS : ∀ s : State, Z s → zSt B aS aV tx s) (hw : ∀ w ∈ zSw, w ∈ Ts) {k : Nat} (hk : tx k ≠ []) (hN : (tx k).length < 2 ^ 31) : zJ l B Z Ts 2 zyLen zbLen 1 (some .int) [.ref (aS k)] (some (.int (Int32.ofNat (tx k).length))) := by
  refine zJ_of (by decide +kernel) (Nat.le_of_ble_eq_true rfl) hB ?_
  intro p e R s m args below meth c Q ls hx hb hml hts hown hZs hBs hR hL hzr hvr
  have e0 := lv_at hL 0 (i := 0) (v := .ref (aS k)) rfl
  obtain ⟨g1, -, g3⟩ := hZS s hZs
  obtain ⟨q1, q2, q3, q4⟩ := g3 k hk
  refine lv_aload_n hx hb (k := 0) (i := 0) (by decide +kernel) rfl e0 ?_
  refine vk_getf hx hb q3 va_S.rf hown (hts _ (hw _ (List.mem_of_getElem? (l := zSw) (i := 7) rfl))) (fun x h => h) (by decide +kernel) ?_
  refine va_tlen hx hb q4 va_S.rf rfl (by decide +kernel) ?_
  refine lv_aload_n hx hb (k := 0) (i := 0) (by decide +kernel) rfl e0 ?_
  refine zJvirt (As := []) (b := aS k) (rest := [.int (Int32.ofNat (tx k).length)]) (v := some (.int 0)) (n := 0) (y := zyCod) (bytes := zbCod) (nL2 := 1) (rt2 := some .byte) (i := 335) hx hb hml hts hG hown hZ hZs hBs va_S.rf (zJ_cod l hG hZ hB hZS hw hk) (by omega) (by omega) (by decide) q1 (hw _ (List.mem_of_getElem? (i := 8) rfl)) (hw _ (List.mem_of_getElem? (i := 9) rfl)) (hw _ (List.mem_of_getElem? (i := 10) rfl)) (hw _ (List.mem_of_getElem? (i := 11) rfl)) (hw _ (List.mem_of_getElem? (i := 1) rfl)) (by decide +kernel) rfl hL.1 rfl (Nat.le_of_ble_eq_true rfl) (by decide +kernel) ⟨Nat.zero_le _, Nat.zero_le _⟩ (fun locs1 hS1 => ?_)
  refine lv_ishr hx hb (by decide +kernel) ?_
  have e9 : Int32.ofNat (tx k).length >>> ((0 : Int32) &&& 31) = Int32.ofNat (tx k).length := by
    apply Int32.toInt_inj.mp
    rw [pk_shr _ _ 0 (by decide +kernel), Int.shiftRight_zero]
  rw [e9]
  exact hzr _ .int _ _ _ rfl rfl rfl hS1 (by decide +kernel)
theorem zJ_ch1 (l : Launch) (hG : GoodIn Ts Ts) (hZ : zStays B Z) (hB : ∀ s : State, Z s → B ≤ s.heap.size) (hZS : ∀ s : State, Z s → zSt B aS aV tx s) (hw : ∀ w ∈ zSw, w ∈ Ts) {k : Nat} {i : Int32} (hk : tx k ≠ []) (hN : (tx k).length < 2 ^ 31) (hi : vp_in i (tx k).length) (hlt : i < Int32.ofNat (tx k).length) (hch : narrow .char (.int (zch ((tx k).getD i.toNatClampNeg 0))) = .int (zch ((tx k).getD i.toNatClampNeg 0))) : zJ l B Z Ts 3 zyCh1 zbCh1 2 (some .char) [.ref (aV k), .int i] (some (.int (zch ((tx k).getD i.toNatClampNeg 0)))) := by
  refine zJ_of (by decide +kernel) (Nat.le_of_ble_eq_true rfl) hB ?_
  intro p e R s m args below meth c Q ls hx hb hml hts hown hZs hBs hR hL hzr hvr
  have e0 := lv_at hL 0 (i := 0) (v := .ref (aV k)) rfl
  have e1 := lv_at hL 1 (i := 1) (v := .int i) rfl
  obtain ⟨g1, -, g3⟩ := hZS s hZs
  obtain ⟨q1, q2, q3, q4⟩ := g3 k hk
  have h1 : ¬ i < 0 := fun q => hi (Or.inl q)
  refine lv_iload_n hx hb (k := 1) (i := 1) (by decide +kernel) rfl e1 ?_
  refine lv_aload_n hx hb (k := 0) (i := 0) (by decide +kernel) rfl e0 ?_
  refine va_tlen hx hb q4 va_S.rf rfl (by decide +kernel) ?_
  refine zJstat (As := [.int i, .int (Int32.ofNat (tx k).length)]) (rest := []) (v := none) (n := 2) (y := zyChk) (bytes := zbChk) (nL2 := 2) (rt2 := none) (i := 9) hx hb hml hts hG hown hZ hZs hBs va_S.rf (zJ_chk l hG hZ hB hZS hw h1 hlt) (by omega) (by omega) (by decide) (hw _ (List.mem_of_getElem? (i := 20) rfl)) (hw _ (List.mem_of_getElem? (i := 21) rfl)) (hw _ (List.mem_of_getElem? (i := 11) rfl)) (hw _ (List.mem_of_getElem? (i := 5) rfl)) (by decide +kernel) rfl hL.1 rfl (Nat.le_of_ble_eq_true rfl) (by decide +kernel) ⟨Nat.zero_le _, Nat.zero_le _⟩ (fun locs1 hS1 => ?_)
  refine lv_aload_n hx hb (k := 0) (i := 0) (by decide +kernel) rfl e0 ?_
  refine lv_iload_n hx hb (k := 1) (i := 1) (by decide +kernel) rfl e1 ?_
  refine va_tb hx hb q4 hS1 hi rfl (by decide +kernel) ?_
  refine lv_sipush hx hb (n := 255) (v := 255) (by decide +kernel) (by decide) ?_
  refine lv_iand hx hb (by decide +kernel) ?_
  refine lv_i2c hx hb (by decide +kernel) rfl ?_
  exact hzr _ .char _ _ _ rfl rfl hch hS1 (by decide +kernel)
theorem zJ_ch (l : Launch) (hG : GoodIn Ts Ts) (hZ : zStays B Z) (hB : ∀ s : State, Z s → B ≤ s.heap.size) (hZS : ∀ s : State, Z s → zSt B aS aV tx s) (hw : ∀ w ∈ zSw, w ∈ Ts) {k : Nat} {i : Int32} (hk : tx k ≠ []) (hN : (tx k).length < 2 ^ 31) (hi : vp_in i (tx k).length) (hlt : i < Int32.ofNat (tx k).length) (hch : narrow .char (.int (zch ((tx k).getD i.toNatClampNeg 0))) = .int (zch ((tx k).getD i.toNatClampNeg 0))) : zJ l B Z Ts 4 zyCh zbCh 2 (some .char) [.ref (aS k), .int i] (some (.int (zch ((tx k).getD i.toNatClampNeg 0)))) := by
  refine zJ_of (by decide +kernel) (Nat.le_of_ble_eq_true rfl) hB ?_
  intro p e R s m args below meth c Q ls hx hb hml hts hown hZs hBs hR hL hzr hvr
  have e0 := lv_at hL 0 (i := 0) (v := .ref (aS k)) rfl
  have e1 := lv_at hL 1 (i := 1) (v := .int i) rfl
  obtain ⟨g1, -, g3⟩ := hZS s hZs
  obtain ⟨q1, q2, q3, q4⟩ := g3 k hk
  refine lv_aload_n hx hb (k := 0) (i := 0) (by decide +kernel) rfl e0 ?_
  refine zJvirt (As := []) (b := aS k) (rest := []) (v := some (.int 1)) (n := 0) (y := zyLat) (bytes := zbLat) (nL2 := 1) (rt2 := some .boolean) (i := 492) hx hb hml hts hG hown hZ hZs hBs va_S.rf (zJ_lat l hG hZ hB hZS hw hk) (by omega) (by omega) (by decide) q1 (hw _ (List.mem_of_getElem? (i := 14) rfl)) (hw _ (List.mem_of_getElem? (i := 15) rfl)) (hw _ (List.mem_of_getElem? (i := 16) rfl)) (hw _ (List.mem_of_getElem? (i := 11) rfl)) (hw _ (List.mem_of_getElem? (i := 3) rfl)) (by decide +kernel) rfl hL.1 rfl (Nat.le_of_ble_eq_true rfl) (by decide +kernel) ⟨Nat.zero_le _, Nat.zero_le _⟩ (fun locs1 hS1 => ?_)
  refine lv_if_eq hx hb (off := 12) (tgt := 16) (by decide +kernel) (by decide) (fun q => absurd q (by decide)) (fun _ => ?_)
  refine lv_aload_n hx hb (k := 0) (i := 0) (by decide +kernel) rfl e0 ?_
  refine vk_getf hx hb q3 hS1 hown (hts _ (hw _ (List.mem_of_getElem? (l := zSw) (i := 7) rfl))) (fun x h => h) (by decide +kernel) ?_
  refine lv_iload_n hx hb (k := 1) (i := 1) (by decide +kernel) rfl e1 ?_
  refine zJstat (As := [.ref (aV k), .int i]) (rest := []) (v := some (.int (zch ((tx k).getD i.toNatClampNeg 0)))) (n := 2) (y := zyCh1) (bytes := zbCh1) (nL2 := 2) (rt2 := some .char) (i := 495) hx hb hml hts hG hown hZ hZs hBs hS1 (zJ_ch1 l hG hZ hB hZS hw hk hN hi hlt hch) (by omega) (by omega) (by decide) (hw _ (List.mem_of_getElem? (i := 17) rfl)) (hw _ (List.mem_of_getElem? (i := 18) rfl)) (hw _ (List.mem_of_getElem? (i := 19) rfl)) (hw _ (List.mem_of_getElem? (i := 4) rfl)) (by decide +kernel) rfl hL.1 rfl (Nat.le_of_ble_eq_true rfl) (by decide +kernel) ⟨Nat.zero_le _, Nat.zero_le _⟩ (fun locs2 hS2 => ?_)
  exact hzr _ .char _ _ _ rfl rfl hch hS2 (by decide +kernel)
end ZS
