section
/-- a word of the tables, by its table and its place there -/
noncomputable def ziu (tb : List (List Jvm.Cond)) (p : Nat) (w : Jvm.Cond) : Bool := decide ((tb.getD (p / 1000) [])[p % 1000]? = some w)
noncomputable def zin (tb : List (List Jvm.Cond)) (p : Nat) (w : Jvm.Cond) : Bool := ziu tb p w && goodWord w
theorem zclI : "[I" = "[" ++ (zty 0).toString := by decide +kernel
theorem zcpw : nativeFrameWords "java/lang/System" "arraycopy" 5 + 30 ≤ 576 := by decide +kernel
/-- words that a change of the tables keeps, but not by the kit's own reading -/
noncomputable def zspec (w : Jvm.Cond) : Bool := match w with
  | .arrayOver _ => true
  | .methodLinkNest .. => true
  | .castable .. => true
  | _ => false
noncomputable def zcint (f : Int32 → Bool) (v : Value) : Bool := match v with
  | .int x => f x
  | _ => false
theorem zcint_of {f : Int32 → Bool} {v : Value} (h : zcint f v = true) : ∃ x, v = .int x ∧ f x = true := by
  cases v <;> first | exact ⟨_, rfl, h⟩ | cases h
noncomputable def zclong (f : Int64 → Bool) (v : Value) : Bool := match v with
  | .long x => f x
  | _ => false
theorem zclong_of {f : Int64 → Bool} {v : Value} (h : zclong f v = true) : ∃ x, v = .long x ∧ f x = true := by
  cases v <;> first | exact ⟨_, rfl, h⟩ | cases h
noncomputable def zcl (cl : List vw_C) (a : Nat) (f : String → u_T → Nat → Bool) : Bool := match cl[a]? with
  | some (C, T, N) => f C T N
  | none => false
theorem zcl_of {cl : List vw_C} {a : Nat} {f : String → u_T → Nat → Bool} (h : zcl cl a f = true) : ∃ C T N, cl[a]? = some (C, T, N) ∧ f C T N = true := by
  unfold zcl at h
  split at h
  · rename_i C T N hq
    exact ⟨C, T, N, hq, h⟩
  · cases h
noncomputable def zcm (nm : List (MethodName × ByteArray × Nat)) (a : Nat) (f : MethodName → Nat → Bool) : Bool := match nm[a]? with
  | some (y, _, np) => f y np
  | none => false
theorem zcm_of {nm : List (MethodName × ByteArray × Nat)} {a : Nat} {f : MethodName → Nat → Bool} (h : zcm nm a f = true) : ∃ y bytes np, nm[a]? = some (y, bytes, np) ∧ f y np = true := by
  unfold zcm at h
  split at h
  · rename_i y bytes np hq
    exact ⟨y, bytes, np, hq, h⟩
  · cases h
/-- a canonical instruction is what stands in the code -/
noncomputable def zchk (Ts : List (List Jvm.Cond)) (cl : List vw_C) (nm : List (MethodName × ByteArray × Nat)) (km : List Nat) (law ini : Bool) (own : String) (raw : Instr) (len pc : Nat) (e : zE) (ps : List Nat) : Bool := match e with
  | (ins, nx, a, b, d, v) => match ins with
    | .aconst_null => match raw with
      | .aconst_null => ((decide (len = 1)) && (decide (v = .null)))
      | .iconst i => ((decide (len = 1)) && (decide (v = .int (Int32.ofInt i))))
      | .bipush i => ((decide (len = 2)) && (decide (v = .int (Int8.ofInt i).toInt32)))
      | .sipush i => ((decide (len = 3)) && (decide (v = .int (Int16.ofInt i).toInt32)))
      | .lconst i => ((decide (len = 1)) && (decide (v = .long (Int64.ofNat (i : Nat)))))
      | .ldc i => ((decide (len = 2)) && (zcint (fun x => zin Ts (ps.getD 0 0) (.constant own i x)) v || zcstr own i v))
      | .ldc_w i => ((decide (len = 3)) && (zcint (fun x => zin Ts (ps.getD 0 0) (.constant own i x)) v || zcstr own i v))
      | .ldc2_w i => ((decide (len = 3)) && (zclong (fun x => zin Ts (ps.getD 0 0) (.constantLong own i x)) v))
      | _ => false
    | .iload _ => match raw with
      | .iload i => ((decide (len = 2)) && (decide (i = a)))
      | .iload_n k => ((decide (len = 1)) && (decide ((k : Nat) = a)))
      | _ => false
    | .lload _ => match raw with
      | .lload i => ((decide (len = 2)) && (decide (i = a)))
      | .lload_n k => ((decide (len = 1)) && (decide ((k : Nat) = a)))
      | _ => false
    | .aload _ => match raw with
      | .aload i => ((decide (len = 2)) && (decide (i = a)))
      | .aload_n k => ((decide (len = 1)) && (decide ((k : Nat) = a)))
      | _ => false
    | .istore _ => match raw with
      | .istore i => ((decide (len = 2)) && (decide (i = a)))
      | .istore_n k => ((decide (len = 1)) && (decide ((k : Nat) = a)))
      | _ => false
    | .lstore _ => match raw with
      | .lstore i => ((decide (len = 2)) && (decide (i = a)))
      | .lstore_n k => ((decide (len = 1)) && (decide ((k : Nat) = a)))
      | _ => false
    | .astore _ => match raw with
      | .astore i => ((decide (len = 2)) && (decide (i = a)))
      | .astore_n k => ((decide (len = 1)) && (decide ((k : Nat) = a)))
      | _ => false
    | .iinc _ _ => match raw with
      | .iinc i z => ((decide (len = 3)) && ((decide (i = a)) && (decide (v = .int (Int32.ofInt z)))))
      | _ => false
    | .pop => match raw with
      | .pop => (decide (len = 1))
      | _ => false
    | .dup => match raw with
      | .dup => (decide (len = 1))
      | _ => false
    | .dup_x1 => match raw with
      | .dup_x1 => (decide (len = 1))
      | _ => false
    | .dup2 => match raw with
      | .dup2 => (decide (len = 1))
      | _ => false
    | .dup2_x1 => match raw with
      | .dup2 => (decide (len = 1))
      | _ => false
    | .iadd => match raw with
      | .iadd => (decide (len = 1))
      | _ => false
    | .isub => match raw with
      | .isub => (decide (len = 1))
      | _ => false
    | .imul => match raw with
      | .imul => (decide (len = 1))
      | _ => false
    | .idiv => match raw with
      | .idiv => (decide (len = 1))
      | _ => false
    | .iand => match raw with
      | .iand => (decide (len = 1))
      | _ => false
    | .ior => match raw with
      | .ior => (decide (len = 1))
      | _ => false
    | .ishl => match raw with
      | .ishl => (decide (len = 1))
      | _ => false
    | .ishr => match raw with
      | .ishr => (decide (len = 1))
      | _ => false
    | .ladd => match raw with
      | .ladd => (decide (len = 1))
      | _ => false
    | .lsub => match raw with
      | .lsub => (decide (len = 1))
      | _ => false
    | .lmul => match raw with
      | .lmul => (decide (len = 1))
      | _ => false
    | .ldiv => match raw with
      | .ldiv => (decide (len = 1))
      | _ => false
    | .lrem => match raw with
      | .lrem => (decide (len = 1))
      | _ => false
    | .lneg => match raw with
      | .lneg => (decide (len = 1))
      | _ => false
    | .land => match raw with
      | .land => (decide (len = 1))
      | _ => false
    | .lor => match raw with
      | .lor => (decide (len = 1))
      | _ => false
    | .lxor => match raw with
      | .lxor => (decide (len = 1))
      | _ => false
    | .lshl => match raw with
      | .lshl => (decide (len = 1))
      | _ => false
    | .lshr => match raw with
      | .lshr => (decide (len = 1))
      | _ => false
    | .lcmp => match raw with
      | .lcmp => (decide (len = 1))
      | _ => false
    | .i2l => match raw with
      | .i2l => (decide (len = 1))
      | _ => false
    | .l2i => match raw with
      | .l2i => (decide (len = 1))
      | _ => false
    | .i2b => match raw with
      | .i2b => (decide (len = 1))
      | _ => false
    | .fadd => match raw with
      | .invokestatic i => ((decide (len = 3)) && (zin Ts (ps.getD 0 0) (.methodLink own i Lib.Math.max.name)))
      | _ => false
    | .fsub => match raw with
      | .invokestatic i => ((decide (len = 3)) && (zin Ts (ps.getD 0 0) (.methodLink own i Lib.Math.min.name)))
      | _ => false
    | .dadd => match raw with
      | .invokestatic i => ((decide (len = 3)) && (zin Ts (ps.getD 0 0) (.methodLink own i Lib.MathLoose.max_long.x)))
      | _ => false
    | .dsub => match raw with
      | .invokestatic i => ((decide (len = 3)) && (zin Ts (ps.getD 0 0) (.methodLink own i Lib.MathLoose.min_long.x)))
      | _ => false
    | .drem => match raw with
      | .pop2 => (decide (len = 1))
      | _ => false
    | .goto _ => match raw with
      | .goto i => ((decide (len = 3)) && (decide ((pc : Int) + i = (a : Int))))
      | _ => false
    | .ifnull _ => match raw with
      | .ifnull i => ((decide (len = 3)) && (decide ((pc : Int) + i = (a : Int))))
      | _ => false
    | .ifnonnull _ => match raw with
      | .ifnonnull i => ((decide (len = 3)) && (decide ((pc : Int) + i = (a : Int))))
      | _ => false
    | .ifCond o _ => match raw with
      | .ifCond o2 i => ((decide (len = 3)) && ((decide (o2 = o)) && (decide ((pc : Int) + i = (a : Int)))))
      | _ => false
    | .if_icmp o _ => match raw with
      | .if_icmp o2 i => ((decide (len = 3)) && ((decide (o2 = o)) && (decide ((pc : Int) + i = (a : Int)))))
      | _ => false
    | .tableswitch df lo hi tg => match raw with
      | .tableswitch dflt lo2 hi2 offs => ((decide (lo2 = lo)) && ((decide (hi2 = hi)) && ((decide (df = (pc : Int) + dflt)) && ((decide (tg = offs.map (fun o => (pc : Int) + o))) && ((decide (0 ≤ df)) && (tg.toList.all (fun t => decide ((0 : Int) ≤ t))))))))
      | _ => false
    | .lookupswitch df qs => match raw with
      | .lookupswitch dflt qr => (((qr.toList.zip (qr.toList.drop 1)).all (fun (a, next) => a.1 < next.1)) && ((decide (df = (pc : Int) + dflt)) && ((decide (qs.toList = qr.toList.map (fun q => (q.1, (pc : Int) + q.2)))) && ((decide (0 ≤ df)) && (qs.toList.all (fun t => decide ((0 : Int) ≤ t.2)))))))
      | _ => false
    | .iaload => match raw with
      | .iaload => (decide (len = 1))
      | _ => false
    | .baload => match raw with
      | .baload => (decide (len = 1))
      | _ => false
    | .laload => match raw with
      | .laload => (decide (len = 1))
      | _ => false
    | .aaload => match raw with
      | .aaload => (decide (len = 1))
      | _ => false
    | .iastore => match raw with
      | .iastore => (decide (len = 1))
      | _ => false
    | .bastore => match raw with
      | .bastore => (decide (len = 1))
      | _ => false
    | .lastore => match raw with
      | .lastore => (decide (len = 1))
      | _ => false
    | .aastore => match raw with
      | .aastore => ((decide (len = 1)) && ((ziu Ts (ps.getD 0 0) (.arrayOver (.array .int))) && (decide ((cl[d]?).map (fun q => q.1) = some "TankBehind$Car"))))
      | _ => false
    | .sastore => match raw with
      | .invokestatic i => ((decide (len = 3)) && ((zin Ts (ps.getD 0 0) (.methodLink own i arraycopyName)) && ((zin Ts (ps.getD 1 0) (.native arraycopyName)) && ((zin Ts (ps.getD 2 0) (.static arraycopyName)) && (zin Ts (ps.getD 3 0) (.initialized "java/lang/System"))))))
      | _ => false
    | .castore => match raw with
      | .invokevirtual i => ((decide (len = 3)) && ((zin Ts (ps.getD 0 0) (.methodLink own i ⟨"[I", "clone", "()Ljava/lang/Object;"⟩)) && ((zin Ts (ps.getD 1 0) (.sameMethod "[I" "java/lang/Object" "clone" "()Ljava/lang/Object;")) && ((zin Ts (ps.getD 2 0) (.native ⟨"java/lang/Object", "clone", "()Ljava/lang/Object;"⟩)) && ((zin Ts (ps.getD 3 0) (.instanceMethod ⟨"java/lang/Object", "clone", "()Ljava/lang/Object;"⟩)) && ((zin Ts (ps.getD 4 0) (.selects "[I" ⟨"[I", "clone", "()Ljava/lang/Object;"⟩ ⟨"java/lang/Object", "clone", "()Ljava/lang/Object;"⟩)) && (ziu Ts (ps.getD 5 0) (.castable "[I" "java/lang/Cloneable"))))))))
      | _ => false
    | .fmul => match raw with
      | .checkcast i => ((decide (len = 3)) && (zin Ts (ps.getD 0 0) (.classLink own i "[I")))
      | _ => false
    | .arraylength => match raw with
      | .arraylength => (decide (len = 1))
      | _ => false
    | .saload => match raw with
      | .iaload => ((decide (len = 1)) && (law))
      | _ => false
    | .i2s => match raw with
      | .arraylength => ((decide (len = 1)) && (law))
      | _ => false
    | .i2c => match raw with
      | .invokevirtual i => ((decide (len = 3)) && (zin Ts (ps.getD 0 0) (.methodLink own i zyLen)))
      | _ => false
    | .caload => match raw with
      | .invokevirtual i => ((decide (len = 3)) && (zin Ts (ps.getD 0 0) (.methodLink own i zyCh)))
      | _ => false
    | .newarray t => match raw with
      | .newarray t2 => ((decide (len = 2)) && ((decide (t2 = t)) && (zin Ts (ps.getD 0 0) (.arrayClass (newarray.typeOf t)))))
      | _ => false
    | .anewarray _ => match raw with
      | .anewarray i => ((decide (len = 3)) && ((decide (a = 5) && (zin Ts (ps.getD 0 0) (.classLink own i "TankBehind$Car") && ziu Ts (ps.getD 1 0) (.arrayOver (.object "TankBehind$Car")))) || (decide (a = 4) && (zin Ts (ps.getD 0 0) (.classLink own i (FieldType.array .int).toString) && ziu Ts (ps.getD 1 0) (.arrayOver (.array .int))))))
      | _ => false
    | .multianewarray _ _ => match raw with
      | .multianewarray i n2 => ((decide (len = 4)) && ((decide (n2 = 2)) && ((zin Ts (ps.getD 0 0) (.classLink own i ("[" ++ (FieldType.array .int).toString))) && ((ziu Ts (ps.getD 1 0) (.arrayOver (.array .int))) && (zin Ts (ps.getD 2 0) (.arrayClass .int))))))
      | _ => false
    | .new _ => match raw with
      | .new i => ((decide (len = 3)) && (zcl cl a (fun C T N => zin Ts (ps.getD 0 0) (.classLink own i C) && (zin Ts (ps.getD 1 0) (.instantiable C N) && zin Ts (ps.getD 2 0) (.initialized C)))))
      | _ => false
    | .getfield _ => match raw with
      | .getfield i => ((decide (len = 3)) && (zcl cl a (fun C T N => decide (b < N) && zin Ts (ps.getD 0 0) (.fieldLink own i (T b).1 (T b).2.1 (T b).2.2.1))))
      | _ => false
    | .putfield _ => match raw with
      | .putfield i => ((decide (len = 3)) && (zcl cl a (fun C T N => decide (b < N) && (zin Ts (ps.getD 0 0) (.fieldLink own i (T b).1 (T b).2.1 (T b).2.2.1) && (decide ((T b).2.2.2 = false) || (ini && decide ((T b).1 = own)))))))
      | _ => false
    | .pop2 => match raw with
      | .invokespecial i => ((decide (len = 3)) && ((zin Ts (ps.getD 0 0) (.methodLink own i Lib.objectInit)) && ((zin Ts (ps.getD 1 0) (.instanceMethod Lib.objectInit)) && (zin Ts (ps.getD 2 0) (.code Lib.objectInit ⟨#[0xb1]⟩ 1 none)))))
      | _ => false
    | .invokevirtual _ => match raw with
      | .invokevirtual i => ((decide (len = 3)) && (zcm nm a (fun y np => decide (np = b) && (zin Ts (ps.getD 0 0) (.methodLink own i y) && (decide ((cl[d]?).map (fun q => q.1) = some y.cls) && decide (km.getD a 9 = 1))))))
      | _ => false
    | .invokespecial _ => match raw with
      | .invokespecial i => ((decide (len = 3)) && (zcm nm a (fun y np => decide (np = b) && ((zin Ts (ps.getD 0 0) (.methodLink own i y) || ziu Ts (ps.getD 0 0) (.methodLinkNest own i y "TankBehind")) && decide (km.getD a 9 = 2)))))
      | _ => false
    | .invokestatic _ => match raw with
      | .invokestatic i => ((decide (len = 3)) && (zcm nm a (fun y np => decide (np = b) && ((zin Ts (ps.getD 0 0) (.methodLink own i y) || ziu Ts (ps.getD 0 0) (.methodLinkNest own i y "TankBehind")) && decide (km.getD a 9 = 0)))))
      | _ => false
    | .ireturn => match raw with
      | .ireturn => (decide (len = 1))
      | _ => false
    | .lreturn => match raw with
      | .lreturn => (decide (len = 1))
      | _ => false
    | .areturn => match raw with
      | .areturn => (decide (len = 1))
      | _ => false
    | .return_ => match raw with
      | .return_ => (decide (len = 1))
      | _ => false
    | _ => false
/-- what the methods' own words are -/
noncomputable def zMok (Ts : List Jvm.Cond) (nm : List (MethodName × ByteArray × Nat)) (km : List Nat) (G : zG) : Prop := ∀ (j : Nat) (y : MethodName) (bytes : ByteArray) (np : Nat), nm[j]? = some (y, bytes, np) → ∃ (cd : zK) (nL : Nat) (rt : Option FieldType) (mc ms : Nat), G.1[j]? = some (cd, nL, rt, mc, ms) ∧ nL ≤ 40 ∧ Jvm.Cond.initialized y.cls ∈ Ts ∧ Jvm.Cond.code y bytes nL rt ∈ Ts ∧ (y.cls ≠ "java/lang/invoke/MethodHandle" ∧ y.cls ≠ "java/lang/invoke/VarHandle" ∧ (parseMethodDescriptor y.desc).map (fun d => d.parameters.length) = some np) ∧ (km.getD j 9 = 0 → Jvm.Cond.static y ∈ Ts) ∧ (km.getD j 9 = 1 → Jvm.Cond.instanceMethod y ∈ Ts ∧ Jvm.Cond.selects y.cls y y ∈ Ts) ∧ (km.getD j 9 = 2 → Jvm.Cond.instanceMethod y ∈ Ts ∧ y.name = "<init>" ∧ rt = none)
section SIM5
variable {p : Program} {l : Launch} {e : Env} {R : Room} {s : State} {m : MethodId} {args : Array Value} {below : List Frame} {meth : Method} {c : Code} {Q : State → Prop} {cc : ByteArray} {B : Nat} {D : va_G} {cl : List vw_C} {dA : Nat → ClassId} {aS : Nat → Nat} {nL bc bs pc : Nat}
variable {L : zL} {st : List Value} {h : zH} {cn sn : Nat}
variable {tt : zT} {G : zG} {rt : Option FieldType} {M : zM} {ret : zQ} {Ts : List Jvm.Cond} {own : String} {Z : State → Prop}
set_option maxHeartbeats 4000000 in
theorem zsnd {nm : List (MethodName × ByteArray × Nat)} {km : List Nat} {law ini : Bool} {raw : Instr} {len d9 : Nat} {ze : zE} {ps : List Nat} {tb : List (List Jvm.Cond)} (hx : p.tables.exec = Jvm.exec) (hb : c.code = cc) (hml : c.maxLocals = nL) (hts : ∀ w ∈ Ts, w.before args s = true) (hG : GoodIn Ts Ts) (hT : zTT tt cl Ts) (hMk : zMok Ts nm km G) (hown : s.vm.findClass own = some m.cls) (hini : ini = true → meth.name = "<init>") (hK : va_K D cl (ztys dA) s) (hZ : zStays B Z) (hZs : Z s) (hBs : B ≤ s.heap.size) (hM : zMet l nm G B D cl dA aS Z Ts d9 M)
    (hX : law = true → aS 0 < s.heap.size ∧ ¬ B ≤ aS 0 ∧ va_X (aS 0) G.2.2.1 G.2.2.2 s s.heap) (hSo : zSok B Z Ts aS G.2.1) (hR : bc ≤ R.cells ∧ bs ≤ R.slots) (hR1 : d9 + 9 ≤ R.frames) (hR2 : d9 * 64 + 576 ≤ R.locals)
    (hri : ∀ (x : Int32) (h : zH) (H : Heap) (locs : List Loc) (lsA : Array Slot) (pc cn sn : Nat), ret (some (.int x)) h → cn ≤ bc → sn ≤ bs → zhR B D cl dA aS h H → va_S (fun q => B ≤ q) s.heap H locs → decode cc pc = .ok (.ireturn, 1) → (∃ t : FieldType, rt = some t ∧ narrow t (.int x) = .int x) → W p l e R s m args below meth c H locs cn sn Q (F0 m pc lsA [.int x]))
    (hrl : ∀ (x : Int64) (h : zH) (H : Heap) (locs : List Loc) (lsA : Array Slot) (pc cn sn : Nat), ret (some (.long x)) h → cn ≤ bc → sn ≤ bs → zhR B D cl dA aS h H → va_S (fun q => B ≤ q) s.heap H locs → decode cc pc = .ok (.lreturn, 1) → rt = some .long → W p l e R s m args below meth c H locs cn sn Q (F0 m pc lsA [.long x]))
    (hra : ∀ (w : Value) (h : zH) (H : Heap) (locs : List Loc) (lsA : Array Slot) (pc cn sn : Nat), (w = .null ∨ (∃ r, w = .ref r) ∨ ∃ r, w = .retAddr r) → ret (some w) h → cn ≤ bc → sn ≤ bs → zhR B D cl dA aS h H → va_S (fun q => B ≤ q) s.heap H locs → decode cc pc = .ok (.areturn, 1) → (∃ t : FieldType, rt = some t ∧ fits t .null = true) → W p l e R s m args below meth c H locs cn sn Q (F0 m pc lsA [zcv B aS w]))
    (hrv : ∀ (h : zH) (H : Heap) (locs : List Loc) (lsA : Array Slot) (pc cn sn : Nat), ret none h → cn ≤ bc → sn ≤ bs → zhR B D cl dA aS h H → va_S (fun q => B ≤ q) s.heap H locs → decode cc pc = .ok (.return_, 1) → rt = none → W p l e R s m args below meth c H locs cn sn Q (F0 m pc lsA []))
    (hdg : decode cc pc = .ok (raw, len)) (hnx : ze.2.1 = pc + len) (hin : ∀ (p : Nat) (w : Jvm.Cond), zin tb p w = true → w ∈ Ts) (hiu : ∀ (p : Nat) (w : Jvm.Cond), ziu tb p w = true → zspec w = true → w.before #[] s = true) (hk : zchk tb cl nm km law ini own raw len pc ze ps = true) (hz : zex tt G bc bs rt M ret (wX p l e R s m args below meth c Q B D cl dA aS nL bc bs) ze L st h cn sn) : wX p l e R s m args below meth c Q B D cl dA aS nL bc bs pc L st h cn sn := by
  obtain ⟨ins, nx, a, b, d, v⟩ := ze
  have hnx : nx = pc + len := hnx
  subst hnx
  unfold zchk at hk
  dsimp only at hk
  cases ins

  case aconst_null =>
    have Z1 := hz.resolve_right (fun q => q)
    dsimp only at hk
    split at hk
    · simp only [Bool.and_eq_true, Bool.or_eq_true, decide_eq_true_eq] at hk
      obtain ⟨h0, h1⟩ := hk
      subst h0
      exact s_null hx hb hdg h1 Z1
    · rename_i i
      simp only [Bool.and_eq_true, Bool.or_eq_true, decide_eq_true_eq] at hk
      obtain ⟨h0, h1⟩ := hk
      subst h0
      exact s_iconst hx hb hdg h1 Z1
    · rename_i i
      simp only [Bool.and_eq_true, Bool.or_eq_true, decide_eq_true_eq] at hk
      obtain ⟨h0, h1⟩ := hk
      subst h0
      exact s_bipush hx hb hdg h1 Z1
    · rename_i i
      simp only [Bool.and_eq_true, Bool.or_eq_true, decide_eq_true_eq] at hk
      obtain ⟨h0, h1⟩ := hk
      subst h0
      exact s_sipush hx hb hdg h1 Z1
    · rename_i i
      simp only [Bool.and_eq_true, Bool.or_eq_true, decide_eq_true_eq] at hk
      obtain ⟨h0, h1⟩ := hk
      subst h0
      exact s_lconst hx hb hdg h1 Z1
    · rename_i i
      simp only [Bool.and_eq_true, Bool.or_eq_true, decide_eq_true_eq] at hk
      obtain ⟨h0, h1⟩ := hk
      subst h0
      rcases h1 with h1 | h1
      · obtain ⟨x, e1, e2⟩ := zcint_of h1
        exact s_ldc hx hb hdg e1 hown (hts _ (hin _ _ e2)) Z1
      · obtain ⟨k9, e1, e2⟩ := zcstr_of h1
        obtain ⟨t9, e3⟩ := hSo.2.2.2.2 _ e2 s hZs
        exact s_ldcs hx hb hdg e1 hown e3 Z1
    · rename_i i
      simp only [Bool.and_eq_true, Bool.or_eq_true, decide_eq_true_eq] at hk
      obtain ⟨h0, h1⟩ := hk
      subst h0
      rcases h1 with h1 | h1
      · obtain ⟨x, e1, e2⟩ := zcint_of h1
        exact s_ldcw hx hb hdg e1 hown (hts _ (hin _ _ e2)) Z1
      · obtain ⟨k9, e1, e2⟩ := zcstr_of h1
        obtain ⟨t9, e3⟩ := hSo.2.2.2.2 _ e2 s hZs
        exact s_ldcws hx hb hdg e1 hown e3 Z1
    · rename_i i
      simp only [Bool.and_eq_true, Bool.or_eq_true, decide_eq_true_eq] at hk
      obtain ⟨h0, h1⟩ := hk
      subst h0
      obtain ⟨x, e1, e2⟩ := zclong_of h1
      exact s_ldc2 hx hb hdg e1 hown (hts _ (hin _ _ e2)) Z1
    · cases hk
  case iload w0 =>
    have Z1 := hz.resolve_right (fun q => q)
    dsimp only at hk
    split at hk
    · rename_i i
      simp only [Bool.and_eq_true, Bool.or_eq_true, decide_eq_true_eq] at hk
      obtain ⟨h0, h1⟩ := hk
      subst h0
      subst h1
      exact s_iload hx hb hdg Z1
    · rename_i k
      simp only [Bool.and_eq_true, Bool.or_eq_true, decide_eq_true_eq] at hk
      obtain ⟨h0, h1⟩ := hk
      subst h0
      exact s_iload_n hx hb hdg h1 Z1
    · cases hk
  case lload w0 =>
    have Z1 := hz.resolve_right (fun q => q)
    dsimp only at hk
    split at hk
    · rename_i i
      simp only [Bool.and_eq_true, Bool.or_eq_true, decide_eq_true_eq] at hk
      obtain ⟨h0, h1⟩ := hk
      subst h0
      subst h1
      exact s_lload hx hb hdg Z1
    · rename_i k
      simp only [Bool.and_eq_true, Bool.or_eq_true, decide_eq_true_eq] at hk
      obtain ⟨h0, h1⟩ := hk
      subst h0
      exact s_lload_n hx hb hdg h1 Z1
    · cases hk
  case aload w0 =>
    have Z1 := hz.resolve_right (fun q => q)
    dsimp only at hk
    split at hk
    · rename_i i
      simp only [Bool.and_eq_true, Bool.or_eq_true, decide_eq_true_eq] at hk
      obtain ⟨h0, h1⟩ := hk
      subst h0
      subst h1
      exact s_aload hx hb hdg Z1
    · rename_i k
      simp only [Bool.and_eq_true, Bool.or_eq_true, decide_eq_true_eq] at hk
      obtain ⟨h0, h1⟩ := hk
      subst h0
      exact s_aload_n hx hb hdg h1 Z1
    · cases hk
  case istore w0 =>
    have Z1 := hz.resolve_right (fun q => q)
    dsimp only at hk
    split at hk
    · rename_i i
      simp only [Bool.and_eq_true, Bool.or_eq_true, decide_eq_true_eq] at hk
      obtain ⟨h0, h1⟩ := hk
      subst h0
      subst h1
      exact s_istore hx hb hdg Z1
    · rename_i k
      simp only [Bool.and_eq_true, Bool.or_eq_true, decide_eq_true_eq] at hk
      obtain ⟨h0, h1⟩ := hk
      subst h0
      exact s_istore_n hx hb hdg h1 Z1
    · cases hk
  case lstore w0 =>
    have Z1 := hz.resolve_right (fun q => q)
    dsimp only at hk
    split at hk
    · rename_i i
      simp only [Bool.and_eq_true, Bool.or_eq_true, decide_eq_true_eq] at hk
      obtain ⟨h0, h1⟩ := hk
      subst h0
      subst h1
      exact s_lstore hx hb hdg Z1
    · rename_i k
      simp only [Bool.and_eq_true, Bool.or_eq_true, decide_eq_true_eq] at hk
      obtain ⟨h0, h1⟩ := hk
      subst h0
      exact s_lstore_n hx hb hdg h1 Z1
    · cases hk
  case astore w0 =>
    have Z1 := hz.resolve_right (fun q => q)
    dsimp only at hk
    split at hk
    · rename_i i
      simp only [Bool.and_eq_true, Bool.or_eq_true, decide_eq_true_eq] at hk
      obtain ⟨h0, h1⟩ := hk
      subst h0
      subst h1
      exact s_astore hx hb hdg Z1
    · rename_i k
      simp only [Bool.and_eq_true, Bool.or_eq_true, decide_eq_true_eq] at hk
      obtain ⟨h0, h1⟩ := hk
      subst h0
      exact s_astore_n hx hb hdg h1 Z1
    · cases hk
  case iinc w0 w1 =>
    have Z1 := hz.resolve_right (fun q => q)
    dsimp only at hk
    split at hk
    · rename_i i z
      simp only [Bool.and_eq_true, Bool.or_eq_true, decide_eq_true_eq] at hk
      obtain ⟨h0, h1, h2⟩ := hk
      subst h0
      subst h1
      exact s_iinc hx hb hdg h2 Z1
    · cases hk
  case pop =>
    have Z1 := hz.resolve_right (fun q => q)
    dsimp only at hk
    split at hk
    · simp only [Bool.and_eq_true, Bool.or_eq_true, decide_eq_true_eq] at hk
      have h0 := hk
      subst h0
      exact s_pop hx hb hdg Z1
    · cases hk
  case dup =>
    have Z1 := hz.resolve_right (fun q => q)
    dsimp only at hk
    split at hk
    · simp only [Bool.and_eq_true, Bool.or_eq_true, decide_eq_true_eq] at hk
      have h0 := hk
      subst h0
      exact s_dup hx hb hdg Z1
    · cases hk
  case dup_x1 =>
    have Z1 := hz.resolve_right (fun q => q)
    dsimp only at hk
    split at hk
    · simp only [Bool.and_eq_true, Bool.or_eq_true, decide_eq_true_eq] at hk
      have h0 := hk
      subst h0
      exact s_dup_x1 hx hb hdg Z1
    · cases hk
  case dup2 =>
    have Z1 := hz.resolve_right (fun q => q)
    dsimp only at hk
    split at hk
    · simp only [Bool.and_eq_true, Bool.or_eq_true, decide_eq_true_eq] at hk
      have h0 := hk
      subst h0
      exact s_dup2 hx hb hdg Z1
    · cases hk
  case dup2_x1 =>
    have Z1 := hz.resolve_right (fun q => q)
    dsimp only at hk
    split at hk
    · simp only [Bool.and_eq_true, Bool.or_eq_true, decide_eq_true_eq] at hk
      have h0 := hk
      subst h0
      exact s_dupl hx hb hdg Z1
    · cases hk
  case iadd =>
    have Z1 := hz.resolve_right (fun q => q)
    dsimp only at hk
    split at hk
    · simp only [Bool.and_eq_true, Bool.or_eq_true, decide_eq_true_eq] at hk
      have h0 := hk
      subst h0
      exact s_iadd hx hb hdg Z1
    · cases hk
  case isub =>
    have Z1 := hz.resolve_right (fun q => q)
    dsimp only at hk
    split at hk
    · simp only [Bool.and_eq_true, Bool.or_eq_true, decide_eq_true_eq] at hk
      have h0 := hk
      subst h0
      exact s_isub hx hb hdg Z1
    · cases hk
  case imul =>
    have Z1 := hz.resolve_right (fun q => q)
    dsimp only at hk
    split at hk
    · simp only [Bool.and_eq_true, Bool.or_eq_true, decide_eq_true_eq] at hk
      have h0 := hk
      subst h0
      exact s_imul hx hb hdg Z1
    · cases hk
  case idiv =>
    have Z1 := hz.resolve_right (fun q => q)
    dsimp only at hk
    split at hk
    · simp only [Bool.and_eq_true, Bool.or_eq_true, decide_eq_true_eq] at hk
      have h0 := hk
      subst h0
      exact s_idiv hx hb hdg Z1
    · cases hk
  case iand =>
    have Z1 := hz.resolve_right (fun q => q)
    dsimp only at hk
    split at hk
    · simp only [Bool.and_eq_true, Bool.or_eq_true, decide_eq_true_eq] at hk
      have h0 := hk
      subst h0
      exact s_iand hx hb hdg Z1
    · cases hk
  case ior =>
    have Z1 := hz.resolve_right (fun q => q)
    dsimp only at hk
    split at hk
    · simp only [Bool.and_eq_true, Bool.or_eq_true, decide_eq_true_eq] at hk
      have h0 := hk
      subst h0
      exact s_ior hx hb hdg Z1
    · cases hk
  case ishl =>
    have Z1 := hz.resolve_right (fun q => q)
    dsimp only at hk
    split at hk
    · simp only [Bool.and_eq_true, Bool.or_eq_true, decide_eq_true_eq] at hk
      have h0 := hk
      subst h0
      exact s_ishl hx hb hdg Z1
    · cases hk
  case ishr =>
    have Z1 := hz.resolve_right (fun q => q)
    dsimp only at hk
    split at hk
    · simp only [Bool.and_eq_true, Bool.or_eq_true, decide_eq_true_eq] at hk
      have h0 := hk
      subst h0
      exact s_ishr hx hb hdg Z1
    · cases hk
  case ladd =>
    have Z1 := hz.resolve_right (fun q => q)
    dsimp only at hk
    split at hk
    · simp only [Bool.and_eq_true, Bool.or_eq_true, decide_eq_true_eq] at hk
      have h0 := hk
      subst h0
      exact s_ladd hx hb hdg Z1
    · cases hk
  case lsub =>
    have Z1 := hz.resolve_right (fun q => q)
    dsimp only at hk
    split at hk
    · simp only [Bool.and_eq_true, Bool.or_eq_true, decide_eq_true_eq] at hk
      have h0 := hk
      subst h0
      exact s_lsub hx hb hdg Z1
    · cases hk
  case lmul =>
    have Z1 := hz.resolve_right (fun q => q)
    dsimp only at hk
    split at hk
    · simp only [Bool.and_eq_true, Bool.or_eq_true, decide_eq_true_eq] at hk
      have h0 := hk
      subst h0
      exact s_lmul hx hb hdg Z1
    · cases hk
  case ldiv =>
    have Z1 := hz.resolve_right (fun q => q)
    dsimp only at hk
    split at hk
    · simp only [Bool.and_eq_true, Bool.or_eq_true, decide_eq_true_eq] at hk
      have h0 := hk
      subst h0
      exact s_ldiv hx hb hdg Z1
    · cases hk
  case lrem =>
    have Z1 := hz.resolve_right (fun q => q)
    dsimp only at hk
    split at hk
    · simp only [Bool.and_eq_true, Bool.or_eq_true, decide_eq_true_eq] at hk
      have h0 := hk
      subst h0
      exact s_lrem hx hb hdg Z1
    · cases hk
  case lneg =>
    have Z1 := hz.resolve_right (fun q => q)
    dsimp only at hk
    split at hk
    · simp only [Bool.and_eq_true, Bool.or_eq_true, decide_eq_true_eq] at hk
      have h0 := hk
      subst h0
      exact s_lneg hx hb hdg Z1
    · cases hk
  case land =>
    have Z1 := hz.resolve_right (fun q => q)
    dsimp only at hk
    split at hk
    · simp only [Bool.and_eq_true, Bool.or_eq_true, decide_eq_true_eq] at hk
      have h0 := hk
      subst h0
      exact s_land hx hb hdg Z1
    · cases hk
  case lor =>
    have Z1 := hz.resolve_right (fun q => q)
    dsimp only at hk
    split at hk
    · simp only [Bool.and_eq_true, Bool.or_eq_true, decide_eq_true_eq] at hk
      have h0 := hk
      subst h0
      exact s_lor hx hb hdg Z1
    · cases hk
  case lxor =>
    have Z1 := hz.resolve_right (fun q => q)
    dsimp only at hk
    split at hk
    · simp only [Bool.and_eq_true, Bool.or_eq_true, decide_eq_true_eq] at hk
      have h0 := hk
      subst h0
      exact s_lxor hx hb hdg Z1
    · cases hk
  case lshl =>
    have Z1 := hz.resolve_right (fun q => q)
    dsimp only at hk
    split at hk
    · simp only [Bool.and_eq_true, Bool.or_eq_true, decide_eq_true_eq] at hk
      have h0 := hk
      subst h0
      exact s_lshl hx hb hdg Z1
    · cases hk
  case lshr =>
    have Z1 := hz.resolve_right (fun q => q)
    dsimp only at hk
    split at hk
    · simp only [Bool.and_eq_true, Bool.or_eq_true, decide_eq_true_eq] at hk
      have h0 := hk
      subst h0
      exact s_lshr hx hb hdg Z1
    · cases hk
  case lcmp =>
    have Z1 := hz.resolve_right (fun q => q)
    dsimp only at hk
    split at hk
    · simp only [Bool.and_eq_true, Bool.or_eq_true, decide_eq_true_eq] at hk
      have h0 := hk
      subst h0
      exact s_lcmp hx hb hdg Z1
    · cases hk
  case i2l =>
    have Z1 := hz.resolve_right (fun q => q)
    dsimp only at hk
    split at hk
    · simp only [Bool.and_eq_true, Bool.or_eq_true, decide_eq_true_eq] at hk
      have h0 := hk
      subst h0
      exact s_i2l hx hb hdg Z1
    · cases hk
  case l2i =>
    have Z1 := hz.resolve_right (fun q => q)
    dsimp only at hk
    split at hk
    · simp only [Bool.and_eq_true, Bool.or_eq_true, decide_eq_true_eq] at hk
      have h0 := hk
      subst h0
      exact s_l2i hx hb hdg Z1
    · cases hk
  case i2b =>
    have Z1 := hz.resolve_right (fun q => q)
    dsimp only at hk
    split at hk
    · simp only [Bool.and_eq_true, Bool.or_eq_true, decide_eq_true_eq] at hk
      have h0 := hk
      subst h0
      exact s_i2b hx hb hdg Z1
    · cases hk
  case fadd =>
    have Z1 := hz.resolve_right (fun q => q)
    dsimp only at hk
    split at hk
    · rename_i i
      simp only [Bool.and_eq_true, Bool.or_eq_true, decide_eq_true_eq] at hk
      obtain ⟨h0, h1⟩ := hk
      subst h0
      exact s_imax hx hb hml hdg hts hown hSo hR (by omega) (by omega) (hin _ _ h1) Z1
    · cases hk
  case fsub =>
    have Z1 := hz.resolve_right (fun q => q)
    dsimp only at hk
    split at hk
    · rename_i i
      simp only [Bool.and_eq_true, Bool.or_eq_true, decide_eq_true_eq] at hk
      obtain ⟨h0, h1⟩ := hk
      subst h0
      exact s_imin hx hb hml hdg hts hown hSo hR (by omega) (by omega) (hin _ _ h1) Z1
    · cases hk
  case dadd =>
    have Z1 := hz.resolve_right (fun q => q)
    dsimp only at hk
    split at hk
    · rename_i i
      simp only [Bool.and_eq_true, Bool.or_eq_true, decide_eq_true_eq] at hk
      obtain ⟨h0, h1⟩ := hk
      subst h0
      exact s_lmax hx hb hml hdg hts hown hSo hR (by omega) (by omega) (hin _ _ h1) Z1
    · cases hk
  case dsub =>
    have Z1 := hz.resolve_right (fun q => q)
    dsimp only at hk
    split at hk
    · rename_i i
      simp only [Bool.and_eq_true, Bool.or_eq_true, decide_eq_true_eq] at hk
      obtain ⟨h0, h1⟩ := hk
      subst h0
      exact s_lmin hx hb hml hdg hts hown hSo hR (by omega) (by omega) (hin _ _ h1) Z1
    · cases hk
  case drem =>
    have Z1 := hz.resolve_right (fun q => q)
    dsimp only at hk
    split at hk
    · simp only [Bool.and_eq_true, Bool.or_eq_true, decide_eq_true_eq] at hk
      have h0 := hk
      subst h0
      exact s_pop2l hx hb hdg Z1
    · cases hk
  case goto w0 =>
    have Z1 := hz.resolve_right (fun q => q)
    dsimp only at hk
    split at hk
    · rename_i i
      simp only [Bool.and_eq_true, Bool.or_eq_true, decide_eq_true_eq] at hk
      obtain ⟨h0, h1⟩ := hk
      subst h0
      exact s_goto hx hb hdg h1 Z1
    · cases hk
  case ifnull w0 =>
    have Z1 := hz.resolve_right (fun q => q)
    dsimp only at hk
    split at hk
    · rename_i i
      simp only [Bool.and_eq_true, Bool.or_eq_true, decide_eq_true_eq] at hk
      obtain ⟨h0, h1⟩ := hk
      subst h0
      exact s_ifnull hx hb hdg h1 Z1
    · cases hk
  case ifnonnull w0 =>
    have Z1 := hz.resolve_right (fun q => q)
    dsimp only at hk
    split at hk
    · rename_i i
      simp only [Bool.and_eq_true, Bool.or_eq_true, decide_eq_true_eq] at hk
      obtain ⟨h0, h1⟩ := hk
      subst h0
      exact s_ifnonnull hx hb hdg h1 Z1
    · cases hk
  case ifCond o w1 =>
    have Z1 := hz.resolve_right (fun q => q)
    dsimp only at hk
    split at hk
    · rename_i o2 i
      simp only [Bool.and_eq_true, Bool.or_eq_true, decide_eq_true_eq] at hk
      obtain ⟨h0, h1, h2⟩ := hk
      subst h0
      subst h1
      cases o2 <;> first | exact s_if_eq hx hb hdg h2 Z1 | exact s_if_ne hx hb hdg h2 Z1 | exact s_if_lt hx hb hdg h2 Z1 | exact s_if_ge hx hb hdg h2 Z1 | exact s_if_gt hx hb hdg h2 Z1 | exact s_if_le hx hb hdg h2 Z1
    · cases hk
  case if_icmp o w1 =>
    have Z1 := hz.resolve_right (fun q => q)
    dsimp only at hk
    split at hk
    · rename_i o2 i
      simp only [Bool.and_eq_true, Bool.or_eq_true, decide_eq_true_eq] at hk
      obtain ⟨h0, h1, h2⟩ := hk
      subst h0
      subst h1
      cases o2 <;> first | exact s_icmp_eq hx hb hdg h2 Z1 | exact s_icmp_ne hx hb hdg h2 Z1 | exact s_icmp_lt hx hb hdg h2 Z1 | exact s_icmp_ge hx hb hdg h2 Z1 | exact s_icmp_gt hx hb hdg h2 Z1 | exact s_icmp_le hx hb hdg h2 Z1
    · cases hk
  case tableswitch df lo hi tg =>
    have Z2 := hz.resolve_left (fun q => q)
    dsimp only at hk
    split at hk
    · rename_i dflt lo2 hi2 offs
      simp only [Bool.and_eq_true, Bool.or_eq_true, decide_eq_true_eq] at hk
      obtain ⟨h0, h1, h2, h3, h4, h5⟩ := hk
      subst h0
      subst h1
      exact s_tableswitch hx hb hdg h2 h3 h4 (fun t ht => of_decide_eq_true (List.all_eq_true.mp h5 t (Array.mem_toList_iff.mpr ht))) Z2
    · cases hk
  case lookupswitch df qs =>
    have Z2 := hz.resolve_left (fun q => q)
    dsimp only at hk
    split at hk
    · rename_i dflt qr
      simp only [Bool.and_eq_true, Bool.or_eq_true, decide_eq_true_eq] at hk
      obtain ⟨h0, h1, h2, h3, h4⟩ := hk
      exact s_lookupswitch hx hb hdg h0 h1 h2 h3 (fun t ht => of_decide_eq_true (List.all_eq_true.mp h4 t ht)) Z2
    · cases hk
  case iaload =>
    have Z2 := hz.resolve_left (fun q => q)
    dsimp only at hk
    split at hk
    · simp only [Bool.and_eq_true, Bool.or_eq_true, decide_eq_true_eq] at hk
      have h0 := hk
      subst h0
      exact s_iaload hx hb hdg hK Z2
    · cases hk
  case baload =>
    have Z2 := hz.resolve_left (fun q => q)
    dsimp only at hk
    split at hk
    · simp only [Bool.and_eq_true, Bool.or_eq_true, decide_eq_true_eq] at hk
      have h0 := hk
      subst h0
      exact s_baload hx hb hdg hK Z2
    · cases hk
  case laload =>
    have Z2 := hz.resolve_left (fun q => q)
    dsimp only at hk
    split at hk
    · simp only [Bool.and_eq_true, Bool.or_eq_true, decide_eq_true_eq] at hk
      have h0 := hk
      subst h0
      exact s_laload hx hb hdg hK Z2
    · cases hk
  case aaload =>
    have Z2 := hz.resolve_left (fun q => q)
    dsimp only at hk
    split at hk
    · simp only [Bool.and_eq_true, Bool.or_eq_true, decide_eq_true_eq] at hk
      have h0 := hk
      subst h0
      exact s_aaload hx hb hdg hK Z2
    · cases hk
  case iastore =>
    have Z2 := hz.resolve_left (fun q => q)
    dsimp only at hk
    split at hk
    · simp only [Bool.and_eq_true, Bool.or_eq_true, decide_eq_true_eq] at hk
      have h0 := hk
      subst h0
      exact s_iastore hx hb hdg hK Z2
    · cases hk
  case bastore =>
    have Z2 := hz.resolve_left (fun q => q)
    dsimp only at hk
    split at hk
    · simp only [Bool.and_eq_true, Bool.or_eq_true, decide_eq_true_eq] at hk
      have h0 := hk
      subst h0
      exact s_bastore hx hb hdg hK Z2
    · cases hk
  case lastore =>
    have Z2 := hz.resolve_left (fun q => q)
    dsimp only at hk
    split at hk
    · simp only [Bool.and_eq_true, Bool.or_eq_true, decide_eq_true_eq] at hk
      have h0 := hk
      subst h0
      exact s_lastore hx hb hdg hK Z2
    · cases hk
  case aastore =>
    have Z2 := hz.resolve_left (fun q => q)
    dsimp only at hk
    split at hk
    · simp only [Bool.and_eq_true, Bool.or_eq_true, decide_eq_true_eq] at hk
      obtain ⟨h0, h1, h2⟩ := hk
      subst h0
      exact s_aastore hx hb hdg hK (hiu _ _ h1 rfl) h2 Z2
    · cases hk
  case sastore =>
    have Z2 := hz.resolve_left (fun q => q)
    dsimp only at hk
    split at hk
    · rename_i i
      simp only [Bool.and_eq_true, Bool.or_eq_true, decide_eq_true_eq] at hk
      obtain ⟨h0, h1, h2, h3, h4⟩ := hk
      subst h0
      exact s_copy hx hb hml hdg hown hK (hts _ (hin _ _ h1)) (hts _ (hin _ _ h2)) (hts _ (hin _ _ h3)) (hts _ (hin _ _ h4)) (by omega) (Nat.le_trans zcpw (Nat.le_trans (Nat.le_add_left 576 _) hR2)) Z2
    · cases hk
  case castore =>
    have Z2 := hz.resolve_left (fun q => q)
    dsimp only at hk
    split at hk
    · rename_i i
      simp only [Bool.and_eq_true, Bool.or_eq_true, decide_eq_true_eq] at hk
      obtain ⟨h0, h1, h2, h3, h4, h5, h6⟩ := hk
      subst h0
      exact s_clone zclI hx hb hml hdg hown hK hR (hts _ (hin _ _ h1)) (hts _ (hin _ _ h2)) (hts _ (hin _ _ h3)) (hts _ (hin _ _ h4)) (hts _ (hin _ _ h5)) (hiu _ _ h6 rfl) (by omega) (by omega) Z2
    · cases hk
  case fmul =>
    have Z2 := hz.resolve_left (fun q => q)
    dsimp only at hk
    split at hk
    · rename_i i
      simp only [Bool.and_eq_true, Bool.or_eq_true, decide_eq_true_eq] at hk
      obtain ⟨h0, h1⟩ := hk
      subst h0
      exact s_cast hx hb hdg hown hK (by rw [← zclI]; exact hts _ (hin _ _ h1)) Z2
    · cases hk
  case arraylength =>
    have Z2 := hz.resolve_left (fun q => q)
    dsimp only at hk
    split at hk
    · simp only [Bool.and_eq_true, Bool.or_eq_true, decide_eq_true_eq] at hk
      have h0 := hk
      subst h0
      exact s_alen hx hb hdg hK Z2
    · cases hk
  case saload =>
    have Z2 := hz.resolve_left (fun q => q)
    dsimp only at hk
    split at hk
    · simp only [Bool.and_eq_true, Bool.or_eq_true, decide_eq_true_eq] at hk
      obtain ⟨h0, h1⟩ := hk
      subst h0
      exact s_saload hx hb hdg (hX h1) Z2
    · cases hk
  case i2s =>
    have Z2 := hz.resolve_left (fun q => q)
    dsimp only at hk
    split at hk
    · simp only [Bool.and_eq_true, Bool.or_eq_true, decide_eq_true_eq] at hk
      obtain ⟨h0, h1⟩ := hk
      subst h0
      exact s_slen hx hb hdg (hX h1) Z2
    · cases hk
  case i2c =>
    have Z2 := hz.resolve_left (fun q => q)
    dsimp only at hk
    split at hk
    · rename_i i
      simp only [Bool.and_eq_true, Bool.or_eq_true, decide_eq_true_eq] at hk
      obtain ⟨h0, h1⟩ := hk
      subst h0
      exact s_jlen hx hb hml hdg hts hG hown hZ hZs hBs hSo hR (by omega) (by omega) (hin _ _ h1) Z2
    · cases hk
  case caload =>
    have Z2 := hz.resolve_left (fun q => q)
    dsimp only at hk
    split at hk
    · rename_i i
      simp only [Bool.and_eq_true, Bool.or_eq_true, decide_eq_true_eq] at hk
      obtain ⟨h0, h1⟩ := hk
      subst h0
      exact s_jch hx hb hml hdg hts hG hown hZ hZs hBs hSo hR (by omega) (by omega) (hin _ _ h1) Z2
    · cases hk
  case newarray t =>
    have Z2 := hz.resolve_left (fun q => q)
    dsimp only at hk
    split at hk
    · rename_i t2
      simp only [Bool.and_eq_true, Bool.or_eq_true, decide_eq_true_eq] at hk
      obtain ⟨h0, h1, h2⟩ := hk
      subst h0
      subst h1
      exact s_newarray hx hb hdg hK hR (hts _ (hin _ _ h2)) Z2
    · cases hk
  case anewarray w0 =>
    have Z2 := hz.resolve_left (fun q => q)
    dsimp only at hk
    split at hk
    · rename_i i
      simp only [Bool.and_eq_true, Bool.or_eq_true, decide_eq_true_eq] at hk
      obtain ⟨h0, h1⟩ := hk
      subst h0
      exact s_anewarray hx hb hdg hown hK hR (h1.imp (fun q => ⟨q.1, hts _ (hin _ _ q.2.1), hiu _ _ q.2.2 rfl⟩) (fun q => ⟨q.1, hts _ (hin _ _ q.2.1), hiu _ _ q.2.2 rfl⟩)) Z2
    · cases hk
  case multianewarray w0 w1 =>
    have Z2 := hz.resolve_left (fun q => q)
    dsimp only at hk
    split at hk
    · rename_i i n2
      simp only [Bool.and_eq_true, Bool.or_eq_true, decide_eq_true_eq] at hk
      obtain ⟨h0, h1, h2, h3, h4⟩ := hk
      subst h0
      subst h1
      exact s_multi hx hb hdg hown hK hR (hts _ (hin _ _ h2)) (hiu _ _ h3 rfl) (hts _ (hin _ _ h4)) Z2
    · cases hk
  case new w0 =>
    have Z2 := hz.resolve_left (fun q => q)
    dsimp only at hk
    split at hk
    · rename_i i
      simp only [Bool.and_eq_true, Bool.or_eq_true, decide_eq_true_eq] at hk
      obtain ⟨h0, h1⟩ := hk
      subst h0
      obtain ⟨C, T, N, e1, e2⟩ := zcl_of h1
      simp only [Bool.and_eq_true] at e2
      exact s_new hx hb hdg hts hT hown hK e1 hR (hts _ (hin _ _ e2.1)) (hts _ (hin _ _ e2.2.1)) (hts _ (hin _ _ e2.2.2)) Z2
    · cases hk
  case getfield w0 =>
    have Z2 := hz.resolve_left (fun q => q)
    dsimp only at hk
    split at hk
    · rename_i i
      simp only [Bool.and_eq_true, Bool.or_eq_true, decide_eq_true_eq] at hk
      obtain ⟨h0, h1⟩ := hk
      subst h0
      obtain ⟨C, T, N, e1, e2⟩ := zcl_of h1
      simp only [Bool.and_eq_true, decide_eq_true_eq] at e2
      exact s_getfield hx hb hdg hts hT hown hK e1 e2.1 (hts _ (hin _ _ e2.2)) Z2
    · cases hk
  case putfield w0 =>
    have Z2 := hz.resolve_left (fun q => q)
    dsimp only at hk
    split at hk
    · rename_i i
      simp only [Bool.and_eq_true, Bool.or_eq_true, decide_eq_true_eq] at hk
      obtain ⟨h0, h1⟩ := hk
      subst h0
      obtain ⟨C, T, N, e1, e2⟩ := zcl_of h1
      simp only [Bool.and_eq_true, Bool.or_eq_true, decide_eq_true_eq] at e2
      exact s_putfield hx hb hdg hts hT hown hK e1 e2.1 (hts _ (hin _ _ e2.2.1)) (e2.2.2.imp id (fun q => ⟨hini q.1, q.2⟩)) Z2
    · cases hk
  case pop2 =>
    have Z2 := hz.resolve_left (fun q => q)
    dsimp only at hk
    split at hk
    · rename_i i
      simp only [Bool.and_eq_true, Bool.or_eq_true, decide_eq_true_eq] at hk
      obtain ⟨h0, h1, h2, h3⟩ := hk
      subst h0
      exact s_objInit hx hb hml hdg hown (hts _ (hin _ _ h1)) (hts _ (hin _ _ h2)) (hts _ (hin _ _ h3)) (by omega) (by omega) Z2
    · cases hk
  case invokevirtual w0 =>
    have Z2 := hz.resolve_left (fun q => q)
    dsimp only at hk
    split at hk
    · rename_i i
      simp only [Bool.and_eq_true, Bool.or_eq_true, decide_eq_true_eq] at hk
      obtain ⟨h0, h1⟩ := hk
      subst h0
      obtain ⟨y, bytes, np, e1, e2⟩ := zcm_of h1
      simp only [Bool.and_eq_true, decide_eq_true_eq] at e2
      obtain ⟨e3, e4, e5, e6⟩ := e2
      subst e3
      obtain ⟨cd2, nL2, rt2, mc2, ms2, f1, f2, f3, f4, f5, f6, f7, f8⟩ := hMk a _ _ _ e1
      obtain ⟨q9, g1, g2⟩ := Option.map_eq_some_iff.mp e5
      obtain ⟨C9, T9, N9⟩ := q9
      have g3 : C9 = y.cls := g2
      subst g3
      exact s_virt hx hb hml hdg hts hG hown hK hZ hZs hBs hM hR hR1 hR2 e1 f1 f2 g1 (hin _ _ e4) (f7 e6).1 (f7 e6).2 f3 f4 f5 Z2
    · cases hk
  case invokespecial w0 =>
    have Z2 := hz.resolve_left (fun q => q)
    dsimp only at hk
    split at hk
    · rename_i i
      simp only [Bool.and_eq_true, Bool.or_eq_true, decide_eq_true_eq] at hk
      obtain ⟨h0, h1⟩ := hk
      subst h0
      obtain ⟨y, bytes, np, e1, e2⟩ := zcm_of h1
      simp only [Bool.and_eq_true, Bool.or_eq_true, decide_eq_true_eq] at e2
      obtain ⟨e3, e4, e6⟩ := e2
      subst e3
      obtain ⟨cd2, nL2, rt2, mc2, ms2, f1, f2, f3, f4, f5, f6, f7, f8⟩ := hMk a _ _ _ e1
      obtain ⟨g1, g2, g3⟩ := f8 e6
      subst g3
      exact s_spec hx hb hml hdg hts hG hown hK hZ hZs hBs hM hR hR1 hR2 e1 f1 f2 (e4.imp (hin _ _) (fun q => ⟨_, hiu _ _ q rfl⟩)) g1 f3 f4 g2 f5 Z2
    · cases hk
  case invokestatic w0 =>
    have Z2 := hz.resolve_left (fun q => q)
    dsimp only at hk
    split at hk
    · rename_i i
      simp only [Bool.and_eq_true, Bool.or_eq_true, decide_eq_true_eq] at hk
      obtain ⟨h0, h1⟩ := hk
      subst h0
      obtain ⟨y, bytes, np, e1, e2⟩ := zcm_of h1
      simp only [Bool.and_eq_true, Bool.or_eq_true, decide_eq_true_eq] at e2
      obtain ⟨e3, e4, e6⟩ := e2
      subst e3
      obtain ⟨cd2, nL2, rt2, mc2, ms2, f1, f2, f3, f4, f5, f6, f7, f8⟩ := hMk a _ _ _ e1
      exact s_stat hx hb hml hdg hts hG hown hK hZ hZs hBs hM hR hR1 hR2 e1 f1 f2 (e4.imp (hin _ _) (fun q => ⟨_, hiu _ _ q rfl⟩)) (f6 e6) f3 f4 f5 Z2
    · cases hk
  case ireturn =>
    have Z2 := hz.resolve_left (fun q => q)
    dsimp only at hk
    split at hk
    · simp only [Bool.and_eq_true, Bool.or_eq_true, decide_eq_true_eq] at hk
      have h0 := hk
      subst h0
      intro hc1 hc2 H locs lsA hH hS hL
      unfold zex2 at Z2
      dsimp only at Z2
      split at Z2
      · exact hri _ _ _ _ _ _ _ _ Z2.2 hc1 hc2 hH hS hdg Z2.1
      · exact Z2.elim
    · cases hk
  case lreturn =>
    have Z2 := hz.resolve_left (fun q => q)
    dsimp only at hk
    split at hk
    · simp only [Bool.and_eq_true, Bool.or_eq_true, decide_eq_true_eq] at hk
      have h0 := hk
      subst h0
      intro hc1 hc2 H locs lsA hH hS hL
      unfold zex2 at Z2
      dsimp only at Z2
      split at Z2
      · exact hrl _ _ _ _ _ _ _ _ Z2.2 hc1 hc2 hH hS hdg Z2.1
      · exact Z2.elim
    · cases hk
  case areturn =>
    have Z2 := hz.resolve_left (fun q => q)
    dsimp only at hk
    split at hk
    · simp only [Bool.and_eq_true, Bool.or_eq_true, decide_eq_true_eq] at hk
      have h0 := hk
      subst h0
      intro hc1 hc2 H locs lsA hH hS hL
      unfold zex2 at Z2
      dsimp only at Z2
      split at Z2
      · exact hra _ _ _ _ _ _ _ _ (by exact Or.inr (Or.inl ⟨_, rfl⟩)) Z2.2 hc1 hc2 hH hS hdg Z2.1
      · exact hra _ _ _ _ _ _ _ _ (Or.inl rfl) Z2.2 hc1 hc2 hH hS hdg Z2.1
      · exact hra _ _ _ _ _ _ _ _ (Or.inr (Or.inr ⟨_, rfl⟩)) Z2.2 hc1 hc2 hH hS hdg Z2.1
      · exact Z2.elim
    · cases hk
  case return_ =>
    have Z2 := hz.resolve_left (fun q => q)
    dsimp only at hk
    split at hk
    · simp only [Bool.and_eq_true, Bool.or_eq_true, decide_eq_true_eq] at hk
      have h0 := hk
      subst h0
      intro hc1 hc2 H locs lsA hH hS hL
      unfold zex2 at Z2
      dsimp only at Z2
      split at Z2
      · exact hrv _ _ _ _ _ _ _ Z2.2 hc1 hc2 hH hS hdg Z2.1
      · exact Z2.elim
    · cases hk
  all_goals cases hk
end SIM5
end
section
noncomputable def zall (tb : List (List Jvm.Cond)) (cl : List vw_C) (nm : List (MethodName × ByteArray × Nat)) (km : List Nat) (law ini : Bool) (own : String) (bytes : ByteArray) : Nat → zK → List (List Nat) → Bool
  | pc, some e :: r, p :: ps => (match decode bytes pc with
    | .ok (raw, len) => decide (e.2.1 = pc + len) && zchk tb cl nm km law ini own raw len pc e p
    | .error _ => false) && zall tb cl nm km law ini own bytes (pc + 1) r ps
  | pc, none :: r, _ :: ps => zall tb cl nm km law ini own bytes (pc + 1) r ps
  | _, [], _ => true
  | _, _ :: _, [] => false
/-- each canonical instruction of a method stands in its code -/
noncomputable def zCok (tb : List (List Jvm.Cond)) (cl : List vw_C) (nm : List (MethodName × ByteArray × Nat)) (km : List Nat) (law ini : Bool) (own : String) (bytes : ByteArray) (cd : zK) : Prop := ∀ (pc : Nat) (e : zE), cd[pc]? = some (some e) → ∃ (raw : Instr) (len : Nat) (ps : List Nat), decode bytes pc = .ok (raw, len) ∧ e.2.1 = pc + len ∧ zchk tb cl nm km law ini own raw len pc e ps = true
theorem zall_ok {tb : List (List Jvm.Cond)} {cl : List vw_C} {nm : List (MethodName × ByteArray × Nat)} {km : List Nat} {law ini : Bool} {own : String} {bytes : ByteArray} : ∀ (cd : zK) (pp : List (List Nat)) (k : Nat), zall tb cl nm km law ini own bytes k cd pp = true → ∀ (i : Nat) (e : zE), cd[i]? = some (some e) → ∃ (raw : Instr) (len : Nat) (ps : List Nat), decode bytes (k + i) = .ok (raw, len) ∧ e.2.1 = k + i + len ∧ zchk tb cl nm km law ini own raw len (k + i) e ps = true
  | [], _, _, _, i, e, hi => by simp at hi
  | none :: r, [], k, h, i, e, hi => by cases h
  | some e0 :: r, [], k, h, i, e, hi => by cases h
  | none :: r, p :: ps, k, h, i, e, hi => by
    cases i with
    | zero => cases hi
    | succ i =>
      have h9 := zall_ok r ps (k + 1) h i e hi
      rw [show k + (i + 1) = k + 1 + i by omega]
      exact h9
  | some e0 :: r, p :: ps, k, h, i, e, hi => by
    unfold zall at h
    rw [Bool.and_eq_true] at h
    cases i with
    | zero =>
      cases hi
      have h1 := h.1
      split at h1
      · rename_i raw len hdec
        rw [Bool.and_eq_true, decide_eq_true_eq] at h1
        exact ⟨raw, len, p, hdec, h1.1, h1.2⟩
      · cases h1
    | succ i =>
      have h9 := zall_ok r ps (k + 1) h.2 i e hi
      rw [show k + (i + 1) = k + 1 + i by omega]
      exact h9
theorem zCok_of {tb : List (List Jvm.Cond)} {cl : List vw_C} {nm : List (MethodName × ByteArray × Nat)} {km : List Nat} {law ini : Bool} {own : String} {bytes : ByteArray} {cd : zK} (pp : List (List Nat)) (h : zall tb cl nm km law ini own bytes 0 cd pp = true) : zCok tb cl nm km law ini own bytes cd := fun pc e hi => by
  have h9 := zall_ok cd pp 0 h pc e hi
  rw [Nat.zero_add] at h9
  exact h9
noncomputable def zPok (tb : List (List Jvm.Cond)) (cl : List vw_C) (nm : List (MethodName × ByteArray × Nat)) (km : List Nat) (G : zG) : Prop := ∀ (j : Nat) (y : MethodName) (bytes : ByteArray) (np : Nat), nm[j]? = some (y, bytes, np) → ∀ (cd : zK) (nL : Nat) (rt : Option FieldType) (mc ms : Nat), G.1[j]? = some (cd, nL, rt, mc, ms) → plainFor y = true ∧ zCok tb cl nm km false (decide (y.name = "<init>")) y.cls bytes cd
theorem zargs_in (f : Value → Value) (hf : ∀ w, (f w).category = w.category) : ∀ (as : List Value) (k i : Nat) (v : Value), (zargs as).getD i none = some v → (k + i, f v) ∈ lv_args k (as.map f)
  | [], k, i, v, h => by simp [zargs] at h
  | a :: as, k, i, v, h => by
    unfold zargs at h
    by_cases hc : a.category = 2
    · rw [show (a.category == 2) = true by simp [hc]] at h
      rw [List.map_cons]
      unfold lv_args
      rw [if_pos (by rw [hf]; exact hc)]
      match i, h with
      | 0, h => cases h; exact List.mem_cons_self
      | 1, h => cases h
      | i + 2, h =>
        have h9 := zargs_in f hf as (k + 2) i v h
        rw [show k + (i + 2) = k + 2 + i by omega]
        exact List.mem_cons_of_mem _ h9
    · rw [show (a.category == 2) = false by simp [hc]] at h
      rw [List.map_cons]
      unfold lv_args
      rw [if_neg (by rw [hf]; exact hc)]
      match i, h with
      | 0, h => cases h; exact List.mem_cons_self
      | i + 1, h =>
        have h9 := zargs_in f hf as (k + 1) i v h
        rw [show k + (i + 1) = k + 1 + i by omega]
        exact List.mem_cons_of_mem _ h9
theorem zargs_len (f : Value → Value) (hf : ∀ w, (f w).category = w.category) : ∀ as : List Value, (zargs as).length = (lg_sl (as.map f)).length
  | [] => rfl
  | a :: as => by
    have ih := zargs_len f hf as
    rw [List.map_cons]
    unfold zargs
    unfold lg_sl at ih ⊢
    rw [List.flatMap_cons, List.length_append, ← ih, hf]
    by_cases hc : a.category = 2
    · rw [show (a.category == 2) = true by simp [hc], if_pos hc]
      show (some a :: none :: zargs as).length = _
      simp only [List.length_cons, List.length_nil]; omega
    · rw [show (a.category == 2) = false by simp [hc], if_neg hc]
      show (some a :: zargs as).length = _
      simp only [List.length_cons, List.length_nil]; omega
theorem zentry_has {f : Value → Value} (hf : ∀ w, (f w).category = w.category) {as : List Value} {nL : Nat} (hl : (zargs as).length ≤ nL) : zLs f nL (zentry as nL) ((lg_sl (as.map f) ++ List.replicate (nL - (lg_sl (as.map f)).length) Slot.unset).toArray) := by
  have h9 := lv_entry (as.map f) (n := nL) (by rw [← zargs_len f hf]; exact hl)
  refine ⟨by unfold zentry; rw [List.length_append, List.length_replicate]; omega, h9.1, h9.2.1, fun i v hv => ?_⟩
  have h1 : (zargs as).getD i none = some v := by
    unfold zentry at hv
    rw [List.getD_eq_getElem?_getD] at hv ⊢
    by_cases q : i < (zargs as).length
    · rw [List.getElem?_append_left q] at hv
      exact hv
    · rw [List.getElem?_append_right (by omega), List.getElem?_replicate] at hv
      split at hv <;> cases hv
  have h2 := h9.2.2 (0 + i, f v) (zargs_in f hf as 0 i v h1)
  rw [Nat.zero_add] at h2
  exact h2
set_option maxHeartbeats 4000000 in
/-- the head of a method that no row of the natives stands for -/
theorem zMetW {l : Launch} {y : MethodName} {ws ws' : List Jvm.Cond} {rm : Room} {Pc : Array Value → State → Prop} {Qc : Array Value → State → Outcome → State → Prop} {mc ms : Nat} {free : Addr → Prop} {cc : ByteArray} {maxL : Nat} {ret : Option FieldType} (hy : plainFor y = true) (hw : ws = Jvm.Cond.code y cc maxL ret :: ws')
    (body : ∀ p e s m args below meth c s₁, BodyLoose p l y (headSpec ws rm) cc maxL ret e s m args below meth c s₁ → c.maxLocals = maxL → Pc args s → W p l e (headSpec ws rm).room s m args below meth c s.heap [] 0 0 (MQ below Qc args s mc ms free) (entryFrame m args maxL)) : Met l y ws rm Pc Qc mc ms free := by
  refine MetFree.of_bodyRF (code := cc) (maxLocals := maxL) (ret := ret) hy ?_ ?_
  · intro args s m h hn
    obtain ⟨meth, c, h1, h2, h3, h4, h5, h6, -, -⟩ := Cond.code_spec hn (atoms_spec (ws := ws) h _ (by rw [hw]; exact List.mem_cons_self))
    exact ⟨meth, c, h1, h2, h3, h4, h5, h6⟩
  · intro p e s m args below meth c s₁ Bd hml hP _ hst
    have hh0 : s₁.heap = s.heap := by rw [Bd.state]; rfl
    obtain ⟨t, a1, o, b1, b2, b3⟩ := body p e s m args below meth c s₁ Bd hml hP s₁ hh0 (Stand.of_body Bd)
    exact ⟨t, o, hst.trans a1, b1, b2, ⟨b3.1, b3.2⟩⟩
/-- the methods of the program are worth in the machine what the small machine says of them -/
theorem zMet_all (l : Launch) {nm : List (MethodName × ByteArray × Nat)} {km : List Nat} {G : zG} {B : Nat} {D : va_G} {cl : List vw_C} {dA : Nat → ClassId} {aS : Nat → Nat} {Z : State → Prop} {Ts : List Jvm.Cond} {tt : zT} {tb : List (List Jvm.Cond)} (hit : ∀ (p : Nat) (w : Jvm.Cond), zin tb p w = true → w ∈ Ts) (hZU : ∀ U : State, Z U → ∀ (p : Nat) (w : Jvm.Cond), ziu tb p w = true → zspec w = true → w.before #[] U = true) (hG : GoodIn Ts Ts) (hT : zTT tt cl Ts) (hMk : zMok Ts nm km G) (hPk : zPok tb cl nm km G) (hZ : zStays B Z) (hSo : zSok B Z Ts aS G.2.1) : ∀ d : Nat, zMet l nm G B D cl dA aS Z Ts d (zW tt G d)
  | 0 => fun _ _ _ _ k => k.elim
  | d + 1 => by
    have ihM := zMet_all l (B := B) (D := D) (dA := dA) (aS := aS) hit hZU hG hT hMk hPk hZ hSo d
    intro j as h K k y bytes np cd nL rt mc ms h1 h2
    unfold zW at k
    rw [h2] at k
    obtain ⟨k1, k2⟩ := k
    obtain ⟨hpl, hcok⟩ := hPk j y bytes np h1 cd nL rt mc ms h2
    obtain ⟨cd', nL', rt', mc', ms', f1, f2, f3, f4, f5, f6, f7, f8⟩ := hMk j y bytes np h1
    rw [h2] at f1
    cases f1
    refine zMetW (cc := bytes) (maxL := nL) (ret := rt) hpl rfl ?_
    intro p e s m args below meth c s₁ Bd hml hv
    obtain ⟨rfl, hH, hK, hZs⟩ := hv
    have hx := Bd.exec
    have hb := Bd.bytes
    have hr := Bd.returns
    have hts0 := atoms_spec (ws := .code y bytes nL rt :: Ts) Bd.pre
    have hts : ∀ w ∈ Ts, w.before (as.map (zcv B aS)).toArray s = true := fun w hw => hts0 w (List.mem_cons_of_mem _ hw)
    have hown : s.vm.findClass y.cls = some m.cls := findClass_of_methodNamed Bd.named
    have hlocks := Bd.notSynchronized
    have hin : meth.name = y.name := (name_of_methodNamed Bd.named Bd.method).1
    have hBs : B ≤ s.heap.size := by rw [hH.1]; exact Nat.le_add_right _ _
    rw [lg_entry_eq]
    refine k2 (wX p l e (headSpec (.code y bytes nL rt :: Ts) (zrm (d + 1) mc ms)).room s m (as.map (zcv B aS)).toArray below meth c (MQ below (zQc B D cl dA aS K) (as.map (zcv B aS)).toArray s mc ms (fun q => B ≤ q)) B D cl dA aS nL mc ms) ?_ (Nat.zero_le _) (Nat.zero_le _) s.heap [] _ hH va_S.rf (zentry_has (zcv_cat B aS) k1)
    intro pc L st h' cn sn hz
    unfold zstep at hz
    split at hz
    · rename_i ze hze
      obtain ⟨raw, len, ps, g1, g2, g3⟩ := hcok pc ze hze
      refine zsnd (R := (headSpec (.code y bytes nL rt :: Ts) (zrm (d + 1) mc ms)).room) hx hb hml hts hG hT hMk hown (fun q => ?_) hK hZ hZs hBs ihM (fun q => by cases q) hSo ⟨Nat.le_refl _, Nat.le_refl _⟩ (by show d + 9 ≤ d + 1 + 8; omega) (by show d * 64 + 576 ≤ (d + 1) * 64 + 512; omega) ?_ ?_ ?_ ?_ g1 g2 hit (hZU s hZs) g3 hz
      · rw [hin]; exact of_decide_eq_true q
      · intro x h9 H locs lsA pc9 cn9 sn9 q1 q2 q3 q4 q5 q6 q7
        obtain ⟨t, rfl, hn⟩ := q7
        refine W.widen q2 q3 ?_
        exact W.zret hx hb hr hn (fun t ht hW => ⟨⟨some (.int x), h9, rfl, q1, by rw [ht]; exact q4⟩, q5.F ht⟩) q5.2.2 q6
      · intro x h9 H locs lsA pc9 cn9 sn9 q1 q2 q3 q4 q5 q6 q7
        subst q7
        refine W.widen q2 q3 ?_
        exact W.lret hx hb hr (fun t ht hW => ⟨⟨some (.long x), h9, rfl, q1, by rw [ht]; exact q4⟩, q5.F ht⟩) q5.2.2 q6
      · intro w h9 H locs lsA pc9 cn9 sn9 q0 q1 q2 q3 q4 q5 q6 q7
        obtain ⟨t, rfl, hn⟩ := q7
        refine W.widen q2 q3 ?_
        refine W.aret hx hb hr ?_ ?_ (fun t ht hW => ⟨⟨some w, h9, rfl, q1, by rw [ht]; exact q4⟩, q5.F ht⟩) q5.2.2 q6
        · cases t <;> first | exact Or.inl ⟨_, rfl⟩ | exact Or.inr ⟨_, rfl⟩ | cases hn
        · rcases q0 with rfl | ⟨r, rfl⟩ | ⟨r, rfl⟩
          · exact Or.inl rfl
          · exact Or.inr ⟨_, rfl⟩
          · exact Or.inr ⟨_, rfl⟩
      · intro h9 H locs lsA pc9 cn9 sn9 q1 q2 q3 q4 q5 q6 q7
        subst q7
        refine W.widen q2 q3 ?_
        exact W.vret hx hb hr (fun t ht hW => ⟨⟨none, h9, rfl, q1, by rw [ht]; exact q4⟩, q5.F ht⟩) q5.2.2 q6
    · exact hz.elim
end
section
/-! instructions read along the list of bytes: for the checks of the tables -/
noncomputable abbrev zBr (α : Type) : Type := Jvm.ClassFile.Decoder α
theorem zrun_bind {α β : Type} (r : zBr α) (f : α → zBr β) (A : ByteArray) (p : Nat) : Jvm.ClassFile.Reader.runAt (r >>= f) A p = (match Jvm.ClassFile.Reader.runAt r A p with
  | .ok (x, q) => Jvm.ClassFile.Reader.runAt (f x) A q
  | .error e => .error e) := by
  have e : Jvm.ClassFile.Reader.runAt (r >>= f) A p = Except.bind (r A p) (fun z => f z.1 A z.2) := rfl
  have e2 : Jvm.ClassFile.Reader.runAt r A p = r A p := rfl
  rw [e, e2]
  cases r A p <;> rfl
theorem zrun_ok {α β : Type} {r : zBr α} {f : α → zBr β} {A : ByteArray} {p : Nat} {x : α} {q : Nat} (h : Jvm.ClassFile.Reader.runAt r A p = .ok (x, q)) : Jvm.ClassFile.Reader.runAt (r >>= f) A p = Jvm.ClassFile.Reader.runAt (f x) A q := by rw [zrun_bind, h]
theorem zrun_map {α β : Type} (g : α → β) (r : zBr α) (A : ByteArray) (p : Nat) : Jvm.ClassFile.Reader.runAt (g <$> r) A p = (match Jvm.ClassFile.Reader.runAt r A p with
  | .ok (x, q) => .ok (g x, q)
  | .error e => .error e) := by
  have e : Jvm.ClassFile.Reader.runAt (g <$> r) A p = Except.bind (r A p) (fun z => Except.ok (g z.1, z.2)) := rfl
  have e2 : Jvm.ClassFile.Reader.runAt r A p = r A p := rfl
  rw [e, e2]
  cases r A p <;> rfl
theorem zdrop_at {A : ByteArray} {p : Nat} {b : UInt8} {r : List UInt8} (h : A.data.toList.drop p = b :: r) : ∃ hp : p < A.size, A[p] = b := by
  have hl : p < A.data.toList.length := by
    rcases Nat.lt_or_ge p A.data.toList.length with q | q
    · exact q
    · rw [List.drop_eq_nil_of_le q] at h; cases h
  have e : A.data.toList[p] = b := by
    have := List.drop_eq_getElem_cons hl
    rw [h] at this
    injection this with h1 _
    exact h1.symm
  exact ⟨hl, e⟩
theorem zdrop_tl {A : ByteArray} {p : Nat} {b : UInt8} {r : List UInt8} (h : A.data.toList.drop p = b :: r) : A.data.toList.drop (p + 1) = r := by
  have := congrArg List.tail h
  rw [List.tail_drop] at this
  exact this
theorem zu1_run {A : ByteArray} {p : Nat} {b : UInt8} {r : List UInt8} (h : A.data.toList.drop p = b :: r) : Jvm.ClassFile.Reader.runAt (Jvm.ClassFile.Reader.u1 : zBr Nat) A p = .ok (b.toNat, p + 1) := by
  obtain ⟨hp, e⟩ := zdrop_at h
  have e1 : Jvm.ClassFile.Reader.runAt (Jvm.ClassFile.Reader.u1 : zBr Nat) A p = (if h : p < A.size then (do set (p + 1); pure A[p].toNat) else throw (Jvm.ClassFile.HasTruncated.truncated p) : zBr Nat) A p := rfl
  rw [e1, dif_pos hp]
  show Except.ok (A[p].toNat, p + 1) = _
  rw [e]
theorem zu2_run {A : ByteArray} {p : Nat} {b c : UInt8} {r : List UInt8} (h : A.data.toList.drop p = b :: c :: r) : Jvm.ClassFile.Reader.runAt (Jvm.ClassFile.Reader.u2 : zBr Nat) A p = .ok (b.toNat * 256 + c.toNat, p + 2) := by
  have e : (Jvm.ClassFile.Reader.u2 : zBr Nat) = (Jvm.ClassFile.Reader.u1 >>= fun hi => Jvm.ClassFile.Reader.u1 >>= fun lo => pure (hi * 256 + lo)) := rfl
  rw [e, zrun_bind, zu1_run h]
  dsimp only
  rw [zrun_bind, zu1_run (zdrop_tl h)]
  rfl
theorem zs1_run {A : ByteArray} {p : Nat} {b : UInt8} {r : List UInt8} (h : A.data.toList.drop p = b :: r) : Jvm.ClassFile.Reader.runAt (Jvm.ClassFile.Reader.s1 : zBr Int) A p = .ok (Jvm.ClassFile.Reader.signed 8 b.toNat, p + 1) := by
  have e : (Jvm.ClassFile.Reader.s1 : zBr Int) = (Jvm.ClassFile.Reader.signed 8 <$> Jvm.ClassFile.Reader.u1) := rfl
  rw [e, zrun_map, zu1_run h]
theorem zs2_run {A : ByteArray} {p : Nat} {b c : UInt8} {r : List UInt8} (h : A.data.toList.drop p = b :: c :: r) : Jvm.ClassFile.Reader.runAt (Jvm.ClassFile.Reader.s2 : zBr Int) A p = .ok (Jvm.ClassFile.Reader.signed 16 (b.toNat * 256 + c.toNat), p + 2) := by
  have e : (Jvm.ClassFile.Reader.s2 : zBr Int) = (Jvm.ClassFile.Reader.signed 16 <$> Jvm.ClassFile.Reader.u2) := rfl
  rw [e, zrun_map, zu2_run h]
theorem zdecode_of {A : ByteArray} {pc q : Nat} {ins : Instr} (h : Jvm.ClassFile.Reader.runAt (Jvm.ClassFile.Decoder.instr pc) A pc = .ok (ins, pc + q)) : decode A pc = .ok (ins, q) := by
  unfold decode
  rw [h]
  show Except.ok (ins, pc + q - pc) = _
  rw [Nat.add_sub_cancel_left]
section ZD
variable {A : ByteArray} {pc : Nat} {b x y : UInt8} {r : List UInt8}
theorem dq_1 (h : A.data.toList.drop pc = b :: r) (hb : b.toNat = 1) : decode A pc = .ok (.aconst_null, 1) := by
  refine zdecode_of ?_
  unfold Jvm.ClassFile.Decoder.instr
  rw [zrun_ok (zu1_run h), hb]
  rfl
theorem dq_2 (h : A.data.toList.drop pc = b :: r) (hb : b.toNat = 2) : decode A pc = .ok ((.iconst (-1)), 1) := by
  refine zdecode_of ?_
  unfold Jvm.ClassFile.Decoder.instr
  rw [zrun_ok (zu1_run h), hb]
  rfl
theorem dq_3 (h : A.data.toList.drop pc = b :: r) (hb : b.toNat = 3) : decode A pc = .ok ((.iconst 0), 1) := by
  refine zdecode_of ?_
  unfold Jvm.ClassFile.Decoder.instr
  rw [zrun_ok (zu1_run h), hb]
  rfl
theorem dq_4 (h : A.data.toList.drop pc = b :: r) (hb : b.toNat = 4) : decode A pc = .ok ((.iconst 1), 1) := by
  refine zdecode_of ?_
  unfold Jvm.ClassFile.Decoder.instr
  rw [zrun_ok (zu1_run h), hb]
  rfl
theorem dq_5 (h : A.data.toList.drop pc = b :: r) (hb : b.toNat = 5) : decode A pc = .ok ((.iconst 2), 1) := by
  refine zdecode_of ?_
  unfold Jvm.ClassFile.Decoder.instr
  rw [zrun_ok (zu1_run h), hb]
  rfl
theorem dq_6 (h : A.data.toList.drop pc = b :: r) (hb : b.toNat = 6) : decode A pc = .ok ((.iconst 3), 1) := by
  refine zdecode_of ?_
  unfold Jvm.ClassFile.Decoder.instr
  rw [zrun_ok (zu1_run h), hb]
  rfl
theorem dq_7 (h : A.data.toList.drop pc = b :: r) (hb : b.toNat = 7) : decode A pc = .ok ((.iconst 4), 1) := by
  refine zdecode_of ?_
  unfold Jvm.ClassFile.Decoder.instr
  rw [zrun_ok (zu1_run h), hb]
  rfl
theorem dq_8 (h : A.data.toList.drop pc = b :: r) (hb : b.toNat = 8) : decode A pc = .ok ((.iconst 5), 1) := by
  refine zdecode_of ?_
  unfold Jvm.ClassFile.Decoder.instr
  rw [zrun_ok (zu1_run h), hb]
  rfl
theorem dq_9 (h : A.data.toList.drop pc = b :: r) (hb : b.toNat = 9) : decode A pc = .ok ((.lconst 0), 1) := by
  refine zdecode_of ?_
  unfold Jvm.ClassFile.Decoder.instr
  rw [zrun_ok (zu1_run h), hb]
  rfl
theorem dq_10 (h : A.data.toList.drop pc = b :: r) (hb : b.toNat = 10) : decode A pc = .ok ((.lconst 1), 1) := by
  refine zdecode_of ?_
  unfold Jvm.ClassFile.Decoder.instr
  rw [zrun_ok (zu1_run h), hb]
  rfl
theorem dq_16 (h : A.data.toList.drop pc = b :: x :: r) (hb : b.toNat = 16) : decode A pc = .ok (.bipush (Jvm.ClassFile.Reader.signed 8 x.toNat), 2) := by
  refine zdecode_of ?_
  unfold Jvm.ClassFile.Decoder.instr
  rw [zrun_ok (zu1_run h), hb]
  show Jvm.ClassFile.Reader.runAt ((Jvm.ClassFile.Reader.s1 : zBr Int) >>= fun z => (pure (.bipush z : Instr) : zBr Instr)) A (pc + 1) = _
  rw [zrun_ok (zs1_run (zdrop_tl h))]
  rfl
theorem dq_17 (h : A.data.toList.drop pc = b :: x :: y :: r) (hb : b.toNat = 17) : decode A pc = .ok (.sipush (Jvm.ClassFile.Reader.signed 16 (x.toNat * 256 + y.toNat)), 3) := by
  refine zdecode_of ?_
  unfold Jvm.ClassFile.Decoder.instr
  rw [zrun_ok (zu1_run h), hb]
  show Jvm.ClassFile.Reader.runAt ((Jvm.ClassFile.Reader.s2 : zBr Int) >>= fun z => (pure (.sipush z : Instr) : zBr Instr)) A (pc + 1) = _
  rw [zrun_ok (zs2_run (zdrop_tl h))]
  rfl
theorem dq_18 (h : A.data.toList.drop pc = b :: x :: r) (hb : b.toNat = 18) : decode A pc = .ok (.ldc (x.toNat), 2) := by
  refine zdecode_of ?_
  unfold Jvm.ClassFile.Decoder.instr
  rw [zrun_ok (zu1_run h), hb]
  show Jvm.ClassFile.Reader.runAt ((Jvm.ClassFile.Reader.u1 : zBr Nat) >>= fun z => (pure (.ldc z : Instr) : zBr Instr)) A (pc + 1) = _
  rw [zrun_ok (zu1_run (zdrop_tl h))]
  rfl
theorem dq_19 (h : A.data.toList.drop pc = b :: x :: y :: r) (hb : b.toNat = 19) : decode A pc = .ok (.ldc_w (x.toNat * 256 + y.toNat), 3) := by
  refine zdecode_of ?_
  unfold Jvm.ClassFile.Decoder.instr
  rw [zrun_ok (zu1_run h), hb]
  show Jvm.ClassFile.Reader.runAt ((Jvm.ClassFile.Reader.u2 : zBr Nat) >>= fun z => (pure (.ldc_w z : Instr) : zBr Instr)) A (pc + 1) = _
  rw [zrun_ok (zu2_run (zdrop_tl h))]
  rfl
theorem dq_20 (h : A.data.toList.drop pc = b :: x :: y :: r) (hb : b.toNat = 20) : decode A pc = .ok (.ldc2_w (x.toNat * 256 + y.toNat), 3) := by
  refine zdecode_of ?_
  unfold Jvm.ClassFile.Decoder.instr
  rw [zrun_ok (zu1_run h), hb]
  show Jvm.ClassFile.Reader.runAt ((Jvm.ClassFile.Reader.u2 : zBr Nat) >>= fun z => (pure (.ldc2_w z : Instr) : zBr Instr)) A (pc + 1) = _
  rw [zrun_ok (zu2_run (zdrop_tl h))]
  rfl
theorem dq_21 (h : A.data.toList.drop pc = b :: x :: r) (hb : b.toNat = 21) : decode A pc = .ok (.iload (x.toNat), 2) := by
  refine zdecode_of ?_
  unfold Jvm.ClassFile.Decoder.instr
  rw [zrun_ok (zu1_run h), hb]
  show Jvm.ClassFile.Reader.runAt ((Jvm.ClassFile.Reader.u1 : zBr Nat) >>= fun z => (pure (.iload z : Instr) : zBr Instr)) A (pc + 1) = _
  rw [zrun_ok (zu1_run (zdrop_tl h))]
  rfl
theorem dq_22 (h : A.data.toList.drop pc = b :: x :: r) (hb : b.toNat = 22) : decode A pc = .ok (.lload (x.toNat), 2) := by
  refine zdecode_of ?_
  unfold Jvm.ClassFile.Decoder.instr
  rw [zrun_ok (zu1_run h), hb]
  show Jvm.ClassFile.Reader.runAt ((Jvm.ClassFile.Reader.u1 : zBr Nat) >>= fun z => (pure (.lload z : Instr) : zBr Instr)) A (pc + 1) = _
  rw [zrun_ok (zu1_run (zdrop_tl h))]
  rfl
theorem dq_25 (h : A.data.toList.drop pc = b :: x :: r) (hb : b.toNat = 25) : decode A pc = .ok (.aload (x.toNat), 2) := by
  refine zdecode_of ?_
  unfold Jvm.ClassFile.Decoder.instr
  rw [zrun_ok (zu1_run h), hb]
  show Jvm.ClassFile.Reader.runAt ((Jvm.ClassFile.Reader.u1 : zBr Nat) >>= fun z => (pure (.aload z : Instr) : zBr Instr)) A (pc + 1) = _
  rw [zrun_ok (zu1_run (zdrop_tl h))]
  rfl
theorem dq_26 (h : A.data.toList.drop pc = b :: r) (hb : b.toNat = 26) : decode A pc = .ok ((.iload_n 0), 1) := by
  refine zdecode_of ?_
  unfold Jvm.ClassFile.Decoder.instr
  rw [zrun_ok (zu1_run h), hb]
  rfl
theorem dq_27 (h : A.data.toList.drop pc = b :: r) (hb : b.toNat = 27) : decode A pc = .ok ((.iload_n 1), 1) := by
  refine zdecode_of ?_
  unfold Jvm.ClassFile.Decoder.instr
  rw [zrun_ok (zu1_run h), hb]
  rfl
theorem dq_28 (h : A.data.toList.drop pc = b :: r) (hb : b.toNat = 28) : decode A pc = .ok ((.iload_n 2), 1) := by
  refine zdecode_of ?_
  unfold Jvm.ClassFile.Decoder.instr
  rw [zrun_ok (zu1_run h), hb]
  rfl
theorem dq_29 (h : A.data.toList.drop pc = b :: r) (hb : b.toNat = 29) : decode A pc = .ok ((.iload_n 3), 1) := by
  refine zdecode_of ?_
  unfold Jvm.ClassFile.Decoder.instr
  rw [zrun_ok (zu1_run h), hb]
  rfl
theorem dq_30 (h : A.data.toList.drop pc = b :: r) (hb : b.toNat = 30) : decode A pc = .ok ((.lload_n 0), 1) := by
  refine zdecode_of ?_
  unfold Jvm.ClassFile.Decoder.instr
  rw [zrun_ok (zu1_run h), hb]
  rfl
theorem dq_31 (h : A.data.toList.drop pc = b :: r) (hb : b.toNat = 31) : decode A pc = .ok ((.lload_n 1), 1) := by
  refine zdecode_of ?_
  unfold Jvm.ClassFile.Decoder.instr
  rw [zrun_ok (zu1_run h), hb]
  rfl
theorem dq_32 (h : A.data.toList.drop pc = b :: r) (hb : b.toNat = 32) : decode A pc = .ok ((.lload_n 2), 1) := by
  refine zdecode_of ?_
  unfold Jvm.ClassFile.Decoder.instr
  rw [zrun_ok (zu1_run h), hb]
  rfl
theorem dq_33 (h : A.data.toList.drop pc = b :: r) (hb : b.toNat = 33) : decode A pc = .ok ((.lload_n 3), 1) := by
  refine zdecode_of ?_
  unfold Jvm.ClassFile.Decoder.instr
  rw [zrun_ok (zu1_run h), hb]
  rfl
theorem dq_42 (h : A.data.toList.drop pc = b :: r) (hb : b.toNat = 42) : decode A pc = .ok ((.aload_n 0), 1) := by
  refine zdecode_of ?_
  unfold Jvm.ClassFile.Decoder.instr
  rw [zrun_ok (zu1_run h), hb]
  rfl
theorem dq_43 (h : A.data.toList.drop pc = b :: r) (hb : b.toNat = 43) : decode A pc = .ok ((.aload_n 1), 1) := by
  refine zdecode_of ?_
  unfold Jvm.ClassFile.Decoder.instr
  rw [zrun_ok (zu1_run h), hb]
  rfl
theorem dq_44 (h : A.data.toList.drop pc = b :: r) (hb : b.toNat = 44) : decode A pc = .ok ((.aload_n 2), 1) := by
  refine zdecode_of ?_
  unfold Jvm.ClassFile.Decoder.instr
  rw [zrun_ok (zu1_run h), hb]
  rfl
theorem dq_45 (h : A.data.toList.drop pc = b :: r) (hb : b.toNat = 45) : decode A pc = .ok ((.aload_n 3), 1) := by
  refine zdecode_of ?_
  unfold Jvm.ClassFile.Decoder.instr
  rw [zrun_ok (zu1_run h), hb]
  rfl
theorem dq_46 (h : A.data.toList.drop pc = b :: r) (hb : b.toNat = 46) : decode A pc = .ok (.iaload, 1) := by
  refine zdecode_of ?_
  unfold Jvm.ClassFile.Decoder.instr
  rw [zrun_ok (zu1_run h), hb]
  rfl
theorem dq_47 (h : A.data.toList.drop pc = b :: r) (hb : b.toNat = 47) : decode A pc = .ok (.laload, 1) := by
  refine zdecode_of ?_
  unfold Jvm.ClassFile.Decoder.instr
  rw [zrun_ok (zu1_run h), hb]
  rfl
theorem dq_50 (h : A.data.toList.drop pc = b :: r) (hb : b.toNat = 50) : decode A pc = .ok (.aaload, 1) := by
  refine zdecode_of ?_
  unfold Jvm.ClassFile.Decoder.instr
  rw [zrun_ok (zu1_run h), hb]
  rfl
theorem dq_51 (h : A.data.toList.drop pc = b :: r) (hb : b.toNat = 51) : decode A pc = .ok (.baload, 1) := by
  refine zdecode_of ?_
  unfold Jvm.ClassFile.Decoder.instr
  rw [zrun_ok (zu1_run h), hb]
  rfl
theorem dq_54 (h : A.data.toList.drop pc = b :: x :: r) (hb : b.toNat = 54) : decode A pc = .ok (.istore (x.toNat), 2) := by
  refine zdecode_of ?_
  unfold Jvm.ClassFile.Decoder.instr
  rw [zrun_ok (zu1_run h), hb]
  show Jvm.ClassFile.Reader.runAt ((Jvm.ClassFile.Reader.u1 : zBr Nat) >>= fun z => (pure (.istore z : Instr) : zBr Instr)) A (pc + 1) = _
  rw [zrun_ok (zu1_run (zdrop_tl h))]
  rfl
theorem dq_55 (h : A.data.toList.drop pc = b :: x :: r) (hb : b.toNat = 55) : decode A pc = .ok (.lstore (x.toNat), 2) := by
  refine zdecode_of ?_
  unfold Jvm.ClassFile.Decoder.instr
  rw [zrun_ok (zu1_run h), hb]
  show Jvm.ClassFile.Reader.runAt ((Jvm.ClassFile.Reader.u1 : zBr Nat) >>= fun z => (pure (.lstore z : Instr) : zBr Instr)) A (pc + 1) = _
  rw [zrun_ok (zu1_run (zdrop_tl h))]
  rfl
theorem dq_58 (h : A.data.toList.drop pc = b :: x :: r) (hb : b.toNat = 58) : decode A pc = .ok (.astore (x.toNat), 2) := by
  refine zdecode_of ?_
  unfold Jvm.ClassFile.Decoder.instr
  rw [zrun_ok (zu1_run h), hb]
  show Jvm.ClassFile.Reader.runAt ((Jvm.ClassFile.Reader.u1 : zBr Nat) >>= fun z => (pure (.astore z : Instr) : zBr Instr)) A (pc + 1) = _
  rw [zrun_ok (zu1_run (zdrop_tl h))]
  rfl
theorem dq_60 (h : A.data.toList.drop pc = b :: r) (hb : b.toNat = 60) : decode A pc = .ok ((.istore_n 1), 1) := by
  refine zdecode_of ?_
  unfold Jvm.ClassFile.Decoder.instr
  rw [zrun_ok (zu1_run h), hb]
  rfl
theorem dq_61 (h : A.data.toList.drop pc = b :: r) (hb : b.toNat = 61) : decode A pc = .ok ((.istore_n 2), 1) := by
  refine zdecode_of ?_
  unfold Jvm.ClassFile.Decoder.instr
  rw [zrun_ok (zu1_run h), hb]
  rfl
theorem dq_62 (h : A.data.toList.drop pc = b :: r) (hb : b.toNat = 62) : decode A pc = .ok ((.istore_n 3), 1) := by
  refine zdecode_of ?_
  unfold Jvm.ClassFile.Decoder.instr
  rw [zrun_ok (zu1_run h), hb]
  rfl
theorem dq_65 (h : A.data.toList.drop pc = b :: r) (hb : b.toNat = 65) : decode A pc = .ok ((.lstore_n 2), 1) := by
  refine zdecode_of ?_
  unfold Jvm.ClassFile.Decoder.instr
  rw [zrun_ok (zu1_run h), hb]
  rfl
theorem dq_76 (h : A.data.toList.drop pc = b :: r) (hb : b.toNat = 76) : decode A pc = .ok ((.astore_n 1), 1) := by
  refine zdecode_of ?_
  unfold Jvm.ClassFile.Decoder.instr
  rw [zrun_ok (zu1_run h), hb]
  rfl
theorem dq_77 (h : A.data.toList.drop pc = b :: r) (hb : b.toNat = 77) : decode A pc = .ok ((.astore_n 2), 1) := by
  refine zdecode_of ?_
  unfold Jvm.ClassFile.Decoder.instr
  rw [zrun_ok (zu1_run h), hb]
  rfl
theorem dq_78 (h : A.data.toList.drop pc = b :: r) (hb : b.toNat = 78) : decode A pc = .ok ((.astore_n 3), 1) := by
  refine zdecode_of ?_
  unfold Jvm.ClassFile.Decoder.instr
  rw [zrun_ok (zu1_run h), hb]
  rfl
theorem dq_79 (h : A.data.toList.drop pc = b :: r) (hb : b.toNat = 79) : decode A pc = .ok (.iastore, 1) := by
  refine zdecode_of ?_
  unfold Jvm.ClassFile.Decoder.instr
  rw [zrun_ok (zu1_run h), hb]
  rfl
theorem dq_80 (h : A.data.toList.drop pc = b :: r) (hb : b.toNat = 80) : decode A pc = .ok (.lastore, 1) := by
  refine zdecode_of ?_
  unfold Jvm.ClassFile.Decoder.instr
  rw [zrun_ok (zu1_run h), hb]
  rfl
theorem dq_83 (h : A.data.toList.drop pc = b :: r) (hb : b.toNat = 83) : decode A pc = .ok (.aastore, 1) := by
  refine zdecode_of ?_
  unfold Jvm.ClassFile.Decoder.instr
  rw [zrun_ok (zu1_run h), hb]
  rfl
theorem dq_84 (h : A.data.toList.drop pc = b :: r) (hb : b.toNat = 84) : decode A pc = .ok (.bastore, 1) := by
  refine zdecode_of ?_
  unfold Jvm.ClassFile.Decoder.instr
  rw [zrun_ok (zu1_run h), hb]
  rfl
theorem dq_87 (h : A.data.toList.drop pc = b :: r) (hb : b.toNat = 87) : decode A pc = .ok (.pop, 1) := by
  refine zdecode_of ?_
  unfold Jvm.ClassFile.Decoder.instr
  rw [zrun_ok (zu1_run h), hb]
  rfl
theorem dq_88 (h : A.data.toList.drop pc = b :: r) (hb : b.toNat = 88) : decode A pc = .ok (.pop2, 1) := by
  refine zdecode_of ?_
  unfold Jvm.ClassFile.Decoder.instr
  rw [zrun_ok (zu1_run h), hb]
  rfl
theorem dq_89 (h : A.data.toList.drop pc = b :: r) (hb : b.toNat = 89) : decode A pc = .ok (.dup, 1) := by
  refine zdecode_of ?_
  unfold Jvm.ClassFile.Decoder.instr
  rw [zrun_ok (zu1_run h), hb]
  rfl
theorem dq_90 (h : A.data.toList.drop pc = b :: r) (hb : b.toNat = 90) : decode A pc = .ok (.dup_x1, 1) := by
  refine zdecode_of ?_
  unfold Jvm.ClassFile.Decoder.instr
  rw [zrun_ok (zu1_run h), hb]
  rfl
theorem dq_92 (h : A.data.toList.drop pc = b :: r) (hb : b.toNat = 92) : decode A pc = .ok (.dup2, 1) := by
  refine zdecode_of ?_
  unfold Jvm.ClassFile.Decoder.instr
  rw [zrun_ok (zu1_run h), hb]
  rfl
theorem dq_96 (h : A.data.toList.drop pc = b :: r) (hb : b.toNat = 96) : decode A pc = .ok (.iadd, 1) := by
  refine zdecode_of ?_
  unfold Jvm.ClassFile.Decoder.instr
  rw [zrun_ok (zu1_run h), hb]
  rfl
theorem dq_97 (h : A.data.toList.drop pc = b :: r) (hb : b.toNat = 97) : decode A pc = .ok (.ladd, 1) := by
  refine zdecode_of ?_
  unfold Jvm.ClassFile.Decoder.instr
  rw [zrun_ok (zu1_run h), hb]
  rfl
theorem dq_100 (h : A.data.toList.drop pc = b :: r) (hb : b.toNat = 100) : decode A pc = .ok (.isub, 1) := by
  refine zdecode_of ?_
  unfold Jvm.ClassFile.Decoder.instr
  rw [zrun_ok (zu1_run h), hb]
  rfl
theorem dq_101 (h : A.data.toList.drop pc = b :: r) (hb : b.toNat = 101) : decode A pc = .ok (.lsub, 1) := by
  refine zdecode_of ?_
  unfold Jvm.ClassFile.Decoder.instr
  rw [zrun_ok (zu1_run h), hb]
  rfl
theorem dq_104 (h : A.data.toList.drop pc = b :: r) (hb : b.toNat = 104) : decode A pc = .ok (.imul, 1) := by
  refine zdecode_of ?_
  unfold Jvm.ClassFile.Decoder.instr
  rw [zrun_ok (zu1_run h), hb]
  rfl
theorem dq_105 (h : A.data.toList.drop pc = b :: r) (hb : b.toNat = 105) : decode A pc = .ok (.lmul, 1) := by
  refine zdecode_of ?_
  unfold Jvm.ClassFile.Decoder.instr
  rw [zrun_ok (zu1_run h), hb]
  rfl
theorem dq_108 (h : A.data.toList.drop pc = b :: r) (hb : b.toNat = 108) : decode A pc = .ok (.idiv, 1) := by
  refine zdecode_of ?_
  unfold Jvm.ClassFile.Decoder.instr
  rw [zrun_ok (zu1_run h), hb]
  rfl
theorem dq_109 (h : A.data.toList.drop pc = b :: r) (hb : b.toNat = 109) : decode A pc = .ok (.ldiv, 1) := by
  refine zdecode_of ?_
  unfold Jvm.ClassFile.Decoder.instr
  rw [zrun_ok (zu1_run h), hb]
  rfl
theorem dq_113 (h : A.data.toList.drop pc = b :: r) (hb : b.toNat = 113) : decode A pc = .ok (.lrem, 1) := by
  refine zdecode_of ?_
  unfold Jvm.ClassFile.Decoder.instr
  rw [zrun_ok (zu1_run h), hb]
  rfl
theorem dq_117 (h : A.data.toList.drop pc = b :: r) (hb : b.toNat = 117) : decode A pc = .ok (.lneg, 1) := by
  refine zdecode_of ?_
  unfold Jvm.ClassFile.Decoder.instr
  rw [zrun_ok (zu1_run h), hb]
  rfl
theorem dq_120 (h : A.data.toList.drop pc = b :: r) (hb : b.toNat = 120) : decode A pc = .ok (.ishl, 1) := by
  refine zdecode_of ?_
  unfold Jvm.ClassFile.Decoder.instr
  rw [zrun_ok (zu1_run h), hb]
  rfl
theorem dq_121 (h : A.data.toList.drop pc = b :: r) (hb : b.toNat = 121) : decode A pc = .ok (.lshl, 1) := by
  refine zdecode_of ?_
  unfold Jvm.ClassFile.Decoder.instr
  rw [zrun_ok (zu1_run h), hb]
  rfl
theorem dq_122 (h : A.data.toList.drop pc = b :: r) (hb : b.toNat = 122) : decode A pc = .ok (.ishr, 1) := by
  refine zdecode_of ?_
  unfold Jvm.ClassFile.Decoder.instr
  rw [zrun_ok (zu1_run h), hb]
  rfl
theorem dq_123 (h : A.data.toList.drop pc = b :: r) (hb : b.toNat = 123) : decode A pc = .ok (.lshr, 1) := by
  refine zdecode_of ?_
  unfold Jvm.ClassFile.Decoder.instr
  rw [zrun_ok (zu1_run h), hb]
  rfl
theorem dq_126 (h : A.data.toList.drop pc = b :: r) (hb : b.toNat = 126) : decode A pc = .ok (.iand, 1) := by
  refine zdecode_of ?_
  unfold Jvm.ClassFile.Decoder.instr
  rw [zrun_ok (zu1_run h), hb]
  rfl
theorem dq_127 (h : A.data.toList.drop pc = b :: r) (hb : b.toNat = 127) : decode A pc = .ok (.land, 1) := by
  refine zdecode_of ?_
  unfold Jvm.ClassFile.Decoder.instr
  rw [zrun_ok (zu1_run h), hb]
  rfl
theorem dq_128 (h : A.data.toList.drop pc = b :: r) (hb : b.toNat = 128) : decode A pc = .ok (.ior, 1) := by
  refine zdecode_of ?_
  unfold Jvm.ClassFile.Decoder.instr
  rw [zrun_ok (zu1_run h), hb]
  rfl
theorem dq_129 (h : A.data.toList.drop pc = b :: r) (hb : b.toNat = 129) : decode A pc = .ok (.lor, 1) := by
  refine zdecode_of ?_
  unfold Jvm.ClassFile.Decoder.instr
  rw [zrun_ok (zu1_run h), hb]
  rfl
theorem dq_131 (h : A.data.toList.drop pc = b :: r) (hb : b.toNat = 131) : decode A pc = .ok (.lxor, 1) := by
  refine zdecode_of ?_
  unfold Jvm.ClassFile.Decoder.instr
  rw [zrun_ok (zu1_run h), hb]
  rfl
theorem dq_132 (h : A.data.toList.drop pc = b :: x :: y :: r) (hb : b.toNat = 132) : decode A pc = .ok (.iinc x.toNat (Jvm.ClassFile.Reader.signed 8 y.toNat), 3) := by
  refine zdecode_of ?_
  unfold Jvm.ClassFile.Decoder.instr
  rw [zrun_ok (zu1_run h), hb]
  show Jvm.ClassFile.Reader.runAt ((Jvm.ClassFile.Reader.u1 : zBr Nat) >>= fun z => (Jvm.ClassFile.Reader.s1 : zBr Int) >>= fun u => (pure (.iinc z u : Instr) : zBr Instr)) A (pc + 1) = _
  rw [zrun_ok (zu1_run (zdrop_tl h)), zrun_ok (zs1_run (zdrop_tl (zdrop_tl h)))]
  rfl
theorem dq_133 (h : A.data.toList.drop pc = b :: r) (hb : b.toNat = 133) : decode A pc = .ok (.i2l, 1) := by
  refine zdecode_of ?_
  unfold Jvm.ClassFile.Decoder.instr
  rw [zrun_ok (zu1_run h), hb]
  rfl
theorem dq_136 (h : A.data.toList.drop pc = b :: r) (hb : b.toNat = 136) : decode A pc = .ok (.l2i, 1) := by
  refine zdecode_of ?_
  unfold Jvm.ClassFile.Decoder.instr
  rw [zrun_ok (zu1_run h), hb]
  rfl
theorem dq_145 (h : A.data.toList.drop pc = b :: r) (hb : b.toNat = 145) : decode A pc = .ok (.i2b, 1) := by
  refine zdecode_of ?_
  unfold Jvm.ClassFile.Decoder.instr
  rw [zrun_ok (zu1_run h), hb]
  rfl
theorem dq_148 (h : A.data.toList.drop pc = b :: r) (hb : b.toNat = 148) : decode A pc = .ok (.lcmp, 1) := by
  refine zdecode_of ?_
  unfold Jvm.ClassFile.Decoder.instr
  rw [zrun_ok (zu1_run h), hb]
  rfl
theorem dq_153 (h : A.data.toList.drop pc = b :: x :: y :: r) (hb : b.toNat = 153) : decode A pc = .ok (.ifCond .eq (Jvm.ClassFile.Reader.signed 16 (x.toNat * 256 + y.toNat)), 3) := by
  refine zdecode_of ?_
  unfold Jvm.ClassFile.Decoder.instr
  rw [zrun_ok (zu1_run h), hb]
  show Jvm.ClassFile.Reader.runAt ((Jvm.ClassFile.Reader.s2 : zBr Int) >>= fun z => (pure (.ifCond .eq z : Instr) : zBr Instr)) A (pc + 1) = _
  rw [zrun_ok (zs2_run (zdrop_tl h))]
  rfl
theorem dq_154 (h : A.data.toList.drop pc = b :: x :: y :: r) (hb : b.toNat = 154) : decode A pc = .ok (.ifCond .ne (Jvm.ClassFile.Reader.signed 16 (x.toNat * 256 + y.toNat)), 3) := by
  refine zdecode_of ?_
  unfold Jvm.ClassFile.Decoder.instr
  rw [zrun_ok (zu1_run h), hb]
  show Jvm.ClassFile.Reader.runAt ((Jvm.ClassFile.Reader.s2 : zBr Int) >>= fun z => (pure (.ifCond .ne z : Instr) : zBr Instr)) A (pc + 1) = _
  rw [zrun_ok (zs2_run (zdrop_tl h))]
  rfl
theorem dq_155 (h : A.data.toList.drop pc = b :: x :: y :: r) (hb : b.toNat = 155) : decode A pc = .ok (.ifCond .lt (Jvm.ClassFile.Reader.signed 16 (x.toNat * 256 + y.toNat)), 3) := by
  refine zdecode_of ?_
  unfold Jvm.ClassFile.Decoder.instr
  rw [zrun_ok (zu1_run h), hb]
  show Jvm.ClassFile.Reader.runAt ((Jvm.ClassFile.Reader.s2 : zBr Int) >>= fun z => (pure (.ifCond .lt z : Instr) : zBr Instr)) A (pc + 1) = _
  rw [zrun_ok (zs2_run (zdrop_tl h))]
  rfl
theorem dq_156 (h : A.data.toList.drop pc = b :: x :: y :: r) (hb : b.toNat = 156) : decode A pc = .ok (.ifCond .ge (Jvm.ClassFile.Reader.signed 16 (x.toNat * 256 + y.toNat)), 3) := by
  refine zdecode_of ?_
  unfold Jvm.ClassFile.Decoder.instr
  rw [zrun_ok (zu1_run h), hb]
  show Jvm.ClassFile.Reader.runAt ((Jvm.ClassFile.Reader.s2 : zBr Int) >>= fun z => (pure (.ifCond .ge z : Instr) : zBr Instr)) A (pc + 1) = _
  rw [zrun_ok (zs2_run (zdrop_tl h))]
  rfl
theorem dq_157 (h : A.data.toList.drop pc = b :: x :: y :: r) (hb : b.toNat = 157) : decode A pc = .ok (.ifCond .gt (Jvm.ClassFile.Reader.signed 16 (x.toNat * 256 + y.toNat)), 3) := by
  refine zdecode_of ?_
  unfold Jvm.ClassFile.Decoder.instr
  rw [zrun_ok (zu1_run h), hb]
  show Jvm.ClassFile.Reader.runAt ((Jvm.ClassFile.Reader.s2 : zBr Int) >>= fun z => (pure (.ifCond .gt z : Instr) : zBr Instr)) A (pc + 1) = _
  rw [zrun_ok (zs2_run (zdrop_tl h))]
  rfl
theorem dq_158 (h : A.data.toList.drop pc = b :: x :: y :: r) (hb : b.toNat = 158) : decode A pc = .ok (.ifCond .le (Jvm.ClassFile.Reader.signed 16 (x.toNat * 256 + y.toNat)), 3) := by
  refine zdecode_of ?_
  unfold Jvm.ClassFile.Decoder.instr
  rw [zrun_ok (zu1_run h), hb]
  show Jvm.ClassFile.Reader.runAt ((Jvm.ClassFile.Reader.s2 : zBr Int) >>= fun z => (pure (.ifCond .le z : Instr) : zBr Instr)) A (pc + 1) = _
  rw [zrun_ok (zs2_run (zdrop_tl h))]
  rfl
theorem dq_159 (h : A.data.toList.drop pc = b :: x :: y :: r) (hb : b.toNat = 159) : decode A pc = .ok (.if_icmp .eq (Jvm.ClassFile.Reader.signed 16 (x.toNat * 256 + y.toNat)), 3) := by
  refine zdecode_of ?_
  unfold Jvm.ClassFile.Decoder.instr
  rw [zrun_ok (zu1_run h), hb]
  show Jvm.ClassFile.Reader.runAt ((Jvm.ClassFile.Reader.s2 : zBr Int) >>= fun z => (pure (.if_icmp .eq z : Instr) : zBr Instr)) A (pc + 1) = _
  rw [zrun_ok (zs2_run (zdrop_tl h))]
  rfl
theorem dq_160 (h : A.data.toList.drop pc = b :: x :: y :: r) (hb : b.toNat = 160) : decode A pc = .ok (.if_icmp .ne (Jvm.ClassFile.Reader.signed 16 (x.toNat * 256 + y.toNat)), 3) := by
  refine zdecode_of ?_
  unfold Jvm.ClassFile.Decoder.instr
  rw [zrun_ok (zu1_run h), hb]
  show Jvm.ClassFile.Reader.runAt ((Jvm.ClassFile.Reader.s2 : zBr Int) >>= fun z => (pure (.if_icmp .ne z : Instr) : zBr Instr)) A (pc + 1) = _
  rw [zrun_ok (zs2_run (zdrop_tl h))]
  rfl
theorem dq_161 (h : A.data.toList.drop pc = b :: x :: y :: r) (hb : b.toNat = 161) : decode A pc = .ok (.if_icmp .lt (Jvm.ClassFile.Reader.signed 16 (x.toNat * 256 + y.toNat)), 3) := by
  refine zdecode_of ?_
  unfold Jvm.ClassFile.Decoder.instr
  rw [zrun_ok (zu1_run h), hb]
  show Jvm.ClassFile.Reader.runAt ((Jvm.ClassFile.Reader.s2 : zBr Int) >>= fun z => (pure (.if_icmp .lt z : Instr) : zBr Instr)) A (pc + 1) = _
  rw [zrun_ok (zs2_run (zdrop_tl h))]
  rfl
theorem dq_162 (h : A.data.toList.drop pc = b :: x :: y :: r) (hb : b.toNat = 162) : decode A pc = .ok (.if_icmp .ge (Jvm.ClassFile.Reader.signed 16 (x.toNat * 256 + y.toNat)), 3) := by
  refine zdecode_of ?_
  unfold Jvm.ClassFile.Decoder.instr
  rw [zrun_ok (zu1_run h), hb]
  show Jvm.ClassFile.Reader.runAt ((Jvm.ClassFile.Reader.s2 : zBr Int) >>= fun z => (pure (.if_icmp .ge z : Instr) : zBr Instr)) A (pc + 1) = _
  rw [zrun_ok (zs2_run (zdrop_tl h))]
  rfl
theorem dq_163 (h : A.data.toList.drop pc = b :: x :: y :: r) (hb : b.toNat = 163) : decode A pc = .ok (.if_icmp .gt (Jvm.ClassFile.Reader.signed 16 (x.toNat * 256 + y.toNat)), 3) := by
  refine zdecode_of ?_
  unfold Jvm.ClassFile.Decoder.instr
  rw [zrun_ok (zu1_run h), hb]
  show Jvm.ClassFile.Reader.runAt ((Jvm.ClassFile.Reader.s2 : zBr Int) >>= fun z => (pure (.if_icmp .gt z : Instr) : zBr Instr)) A (pc + 1) = _
  rw [zrun_ok (zs2_run (zdrop_tl h))]
  rfl
theorem dq_164 (h : A.data.toList.drop pc = b :: x :: y :: r) (hb : b.toNat = 164) : decode A pc = .ok (.if_icmp .le (Jvm.ClassFile.Reader.signed 16 (x.toNat * 256 + y.toNat)), 3) := by
  refine zdecode_of ?_
  unfold Jvm.ClassFile.Decoder.instr
  rw [zrun_ok (zu1_run h), hb]
  show Jvm.ClassFile.Reader.runAt ((Jvm.ClassFile.Reader.s2 : zBr Int) >>= fun z => (pure (.if_icmp .le z : Instr) : zBr Instr)) A (pc + 1) = _
  rw [zrun_ok (zs2_run (zdrop_tl h))]
  rfl
theorem dq_167 (h : A.data.toList.drop pc = b :: x :: y :: r) (hb : b.toNat = 167) : decode A pc = .ok (.goto (Jvm.ClassFile.Reader.signed 16 (x.toNat * 256 + y.toNat)), 3) := by
  refine zdecode_of ?_
  unfold Jvm.ClassFile.Decoder.instr
  rw [zrun_ok (zu1_run h), hb]
  show Jvm.ClassFile.Reader.runAt ((Jvm.ClassFile.Reader.s2 : zBr Int) >>= fun z => (pure (.goto z : Instr) : zBr Instr)) A (pc + 1) = _
  rw [zrun_ok (zs2_run (zdrop_tl h))]
  rfl
theorem dq_172 (h : A.data.toList.drop pc = b :: r) (hb : b.toNat = 172) : decode A pc = .ok (.ireturn, 1) := by
  refine zdecode_of ?_
  unfold Jvm.ClassFile.Decoder.instr
  rw [zrun_ok (zu1_run h), hb]
  rfl
theorem dq_173 (h : A.data.toList.drop pc = b :: r) (hb : b.toNat = 173) : decode A pc = .ok (.lreturn, 1) := by
  refine zdecode_of ?_
  unfold Jvm.ClassFile.Decoder.instr
  rw [zrun_ok (zu1_run h), hb]
  rfl
theorem dq_176 (h : A.data.toList.drop pc = b :: r) (hb : b.toNat = 176) : decode A pc = .ok (.areturn, 1) := by
  refine zdecode_of ?_
  unfold Jvm.ClassFile.Decoder.instr
  rw [zrun_ok (zu1_run h), hb]
  rfl
theorem dq_177 (h : A.data.toList.drop pc = b :: r) (hb : b.toNat = 177) : decode A pc = .ok (.return_, 1) := by
  refine zdecode_of ?_
  unfold Jvm.ClassFile.Decoder.instr
  rw [zrun_ok (zu1_run h), hb]
  rfl
theorem dq_180 (h : A.data.toList.drop pc = b :: x :: y :: r) (hb : b.toNat = 180) : decode A pc = .ok (.getfield (x.toNat * 256 + y.toNat), 3) := by
  refine zdecode_of ?_
  unfold Jvm.ClassFile.Decoder.instr
  rw [zrun_ok (zu1_run h), hb]
  show Jvm.ClassFile.Reader.runAt ((Jvm.ClassFile.Reader.u2 : zBr Nat) >>= fun z => (pure (.getfield z : Instr) : zBr Instr)) A (pc + 1) = _
  rw [zrun_ok (zu2_run (zdrop_tl h))]
  rfl
theorem dq_181 (h : A.data.toList.drop pc = b :: x :: y :: r) (hb : b.toNat = 181) : decode A pc = .ok (.putfield (x.toNat * 256 + y.toNat), 3) := by
  refine zdecode_of ?_
  unfold Jvm.ClassFile.Decoder.instr
  rw [zrun_ok (zu1_run h), hb]
  show Jvm.ClassFile.Reader.runAt ((Jvm.ClassFile.Reader.u2 : zBr Nat) >>= fun z => (pure (.putfield z : Instr) : zBr Instr)) A (pc + 1) = _
  rw [zrun_ok (zu2_run (zdrop_tl h))]
  rfl
theorem dq_182 (h : A.data.toList.drop pc = b :: x :: y :: r) (hb : b.toNat = 182) : decode A pc = .ok (.invokevirtual (x.toNat * 256 + y.toNat), 3) := by
  refine zdecode_of ?_
  unfold Jvm.ClassFile.Decoder.instr
  rw [zrun_ok (zu1_run h), hb]
  show Jvm.ClassFile.Reader.runAt ((Jvm.ClassFile.Reader.u2 : zBr Nat) >>= fun z => (pure (.invokevirtual z : Instr) : zBr Instr)) A (pc + 1) = _
  rw [zrun_ok (zu2_run (zdrop_tl h))]
  rfl
theorem dq_183 (h : A.data.toList.drop pc = b :: x :: y :: r) (hb : b.toNat = 183) : decode A pc = .ok (.invokespecial (x.toNat * 256 + y.toNat), 3) := by
  refine zdecode_of ?_
  unfold Jvm.ClassFile.Decoder.instr
  rw [zrun_ok (zu1_run h), hb]
  show Jvm.ClassFile.Reader.runAt ((Jvm.ClassFile.Reader.u2 : zBr Nat) >>= fun z => (pure (.invokespecial z : Instr) : zBr Instr)) A (pc + 1) = _
  rw [zrun_ok (zu2_run (zdrop_tl h))]
  rfl
theorem dq_184 (h : A.data.toList.drop pc = b :: x :: y :: r) (hb : b.toNat = 184) : decode A pc = .ok (.invokestatic (x.toNat * 256 + y.toNat), 3) := by
  refine zdecode_of ?_
  unfold Jvm.ClassFile.Decoder.instr
  rw [zrun_ok (zu1_run h), hb]
  show Jvm.ClassFile.Reader.runAt ((Jvm.ClassFile.Reader.u2 : zBr Nat) >>= fun z => (pure (.invokestatic z : Instr) : zBr Instr)) A (pc + 1) = _
  rw [zrun_ok (zu2_run (zdrop_tl h))]
  rfl
theorem dq_187 (h : A.data.toList.drop pc = b :: x :: y :: r) (hb : b.toNat = 187) : decode A pc = .ok (.new (x.toNat * 256 + y.toNat), 3) := by
  refine zdecode_of ?_
  unfold Jvm.ClassFile.Decoder.instr
  rw [zrun_ok (zu1_run h), hb]
  show Jvm.ClassFile.Reader.runAt ((Jvm.ClassFile.Reader.u2 : zBr Nat) >>= fun z => (pure (.new z : Instr) : zBr Instr)) A (pc + 1) = _
  rw [zrun_ok (zu2_run (zdrop_tl h))]
  rfl
theorem dq_189 (h : A.data.toList.drop pc = b :: x :: y :: r) (hb : b.toNat = 189) : decode A pc = .ok (.anewarray (x.toNat * 256 + y.toNat), 3) := by
  refine zdecode_of ?_
  unfold Jvm.ClassFile.Decoder.instr
  rw [zrun_ok (zu1_run h), hb]
  show Jvm.ClassFile.Reader.runAt ((Jvm.ClassFile.Reader.u2 : zBr Nat) >>= fun z => (pure (.anewarray z : Instr) : zBr Instr)) A (pc + 1) = _
  rw [zrun_ok (zu2_run (zdrop_tl h))]
  rfl
theorem dq_190 (h : A.data.toList.drop pc = b :: r) (hb : b.toNat = 190) : decode A pc = .ok (.arraylength, 1) := by
  refine zdecode_of ?_
  unfold Jvm.ClassFile.Decoder.instr
  rw [zrun_ok (zu1_run h), hb]
  rfl
theorem dq_192 (h : A.data.toList.drop pc = b :: x :: y :: r) (hb : b.toNat = 192) : decode A pc = .ok (.checkcast (x.toNat * 256 + y.toNat), 3) := by
  refine zdecode_of ?_
  unfold Jvm.ClassFile.Decoder.instr
  rw [zrun_ok (zu1_run h), hb]
  show Jvm.ClassFile.Reader.runAt ((Jvm.ClassFile.Reader.u2 : zBr Nat) >>= fun z => (pure (.checkcast z : Instr) : zBr Instr)) A (pc + 1) = _
  rw [zrun_ok (zu2_run (zdrop_tl h))]
  rfl
theorem dq_198 (h : A.data.toList.drop pc = b :: x :: y :: r) (hb : b.toNat = 198) : decode A pc = .ok (.ifnull (Jvm.ClassFile.Reader.signed 16 (x.toNat * 256 + y.toNat)), 3) := by
  refine zdecode_of ?_
  unfold Jvm.ClassFile.Decoder.instr
  rw [zrun_ok (zu1_run h), hb]
  show Jvm.ClassFile.Reader.runAt ((Jvm.ClassFile.Reader.s2 : zBr Int) >>= fun z => (pure (.ifnull z : Instr) : zBr Instr)) A (pc + 1) = _
  rw [zrun_ok (zs2_run (zdrop_tl h))]
  rfl
theorem dq_199 (h : A.data.toList.drop pc = b :: x :: y :: r) (hb : b.toNat = 199) : decode A pc = .ok (.ifnonnull (Jvm.ClassFile.Reader.signed 16 (x.toNat * 256 + y.toNat)), 3) := by
  refine zdecode_of ?_
  unfold Jvm.ClassFile.Decoder.instr
  rw [zrun_ok (zu1_run h), hb]
  show Jvm.ClassFile.Reader.runAt ((Jvm.ClassFile.Reader.s2 : zBr Int) >>= fun z => (pure (.ifnonnull z : Instr) : zBr Instr)) A (pc + 1) = _
  rw [zrun_ok (zs2_run (zdrop_tl h))]
  rfl
end ZD
noncomputable def zd_6 (r : List UInt8) (k : Nat) : Option (Instr × Nat) := bif Nat.beq k 1 then some (.aconst_null, 1) else none
noncomputable def zd_8 (r : List UInt8) (k : Nat) : Option (Instr × Nat) := bif Nat.beq k 2 then some ((.iconst (-1)), 1) else none
noncomputable def zd_9 (r : List UInt8) (k : Nat) : Option (Instr × Nat) := bif Nat.beq k 3 then some ((.iconst 0), 1) else none
noncomputable def zd_7 (r : List UInt8) (k : Nat) : Option (Instr × Nat) := bif Nat.ble k 2 then zd_8 r k else zd_9 r k
noncomputable def zd_5 (r : List UInt8) (k : Nat) : Option (Instr × Nat) := bif Nat.ble k 1 then zd_6 r k else zd_7 r k
noncomputable def zd_11 (r : List UInt8) (k : Nat) : Option (Instr × Nat) := bif Nat.beq k 4 then some ((.iconst 1), 1) else none
noncomputable def zd_13 (r : List UInt8) (k : Nat) : Option (Instr × Nat) := bif Nat.beq k 5 then some ((.iconst 2), 1) else none
noncomputable def zd_14 (r : List UInt8) (k : Nat) : Option (Instr × Nat) := bif Nat.beq k 6 then some ((.iconst 3), 1) else none
noncomputable def zd_12 (r : List UInt8) (k : Nat) : Option (Instr × Nat) := bif Nat.ble k 5 then zd_13 r k else zd_14 r k
noncomputable def zd_10 (r : List UInt8) (k : Nat) : Option (Instr × Nat) := bif Nat.ble k 4 then zd_11 r k else zd_12 r k
noncomputable def zd_4 (r : List UInt8) (k : Nat) : Option (Instr × Nat) := bif Nat.ble k 3 then zd_5 r k else zd_10 r k
noncomputable def zd_17 (r : List UInt8) (k : Nat) : Option (Instr × Nat) := bif Nat.beq k 7 then some ((.iconst 4), 1) else none
noncomputable def zd_19 (r : List UInt8) (k : Nat) : Option (Instr × Nat) := bif Nat.beq k 8 then some ((.iconst 5), 1) else none
noncomputable def zd_20 (r : List UInt8) (k : Nat) : Option (Instr × Nat) := bif Nat.beq k 9 then some ((.lconst 0), 1) else none
noncomputable def zd_18 (r : List UInt8) (k : Nat) : Option (Instr × Nat) := bif Nat.ble k 8 then zd_19 r k else zd_20 r k
noncomputable def zd_16 (r : List UInt8) (k : Nat) : Option (Instr × Nat) := bif Nat.ble k 7 then zd_17 r k else zd_18 r k
noncomputable def zd_23 (r : List UInt8) (k : Nat) : Option (Instr × Nat) := bif Nat.beq k 10 then some ((.lconst 1), 1) else none
noncomputable def zd_24 (r : List UInt8) (k : Nat) : Option (Instr × Nat) := bif Nat.beq k 16 then (match r with | x :: _ => some (.bipush (Jvm.ClassFile.Reader.signed 8 x.toNat), 2) | _ => none) else none
noncomputable def zd_22 (r : List UInt8) (k : Nat) : Option (Instr × Nat) := bif Nat.ble k 10 then zd_23 r k else zd_24 r k
noncomputable def zd_26 (r : List UInt8) (k : Nat) : Option (Instr × Nat) := bif Nat.beq k 17 then (match r with | x :: y :: _ => some (.sipush (Jvm.ClassFile.Reader.signed 16 (x.toNat * 256 + y.toNat)), 3) | _ => none) else none
noncomputable def zd_27 (r : List UInt8) (k : Nat) : Option (Instr × Nat) := bif Nat.beq k 18 then (match r with | x :: _ => some (.ldc x.toNat, 2) | _ => none) else none
noncomputable def zd_25 (r : List UInt8) (k : Nat) : Option (Instr × Nat) := bif Nat.ble k 17 then zd_26 r k else zd_27 r k
noncomputable def zd_21 (r : List UInt8) (k : Nat) : Option (Instr × Nat) := bif Nat.ble k 16 then zd_22 r k else zd_25 r k
noncomputable def zd_15 (r : List UInt8) (k : Nat) : Option (Instr × Nat) := bif Nat.ble k 9 then zd_16 r k else zd_21 r k
noncomputable def zd_3 (r : List UInt8) (k : Nat) : Option (Instr × Nat) := bif Nat.ble k 6 then zd_4 r k else zd_15 r k
noncomputable def zd_31 (r : List UInt8) (k : Nat) : Option (Instr × Nat) := bif Nat.beq k 19 then (match r with | x :: y :: _ => some (.ldc_w (x.toNat * 256 + y.toNat), 3) | _ => none) else none
noncomputable def zd_33 (r : List UInt8) (k : Nat) : Option (Instr × Nat) := bif Nat.beq k 20 then (match r with | x :: y :: _ => some (.ldc2_w (x.toNat * 256 + y.toNat), 3) | _ => none) else none
noncomputable def zd_34 (r : List UInt8) (k : Nat) : Option (Instr × Nat) := bif Nat.beq k 21 then (match r with | x :: _ => some (.iload x.toNat, 2) | _ => none) else none
noncomputable def zd_32 (r : List UInt8) (k : Nat) : Option (Instr × Nat) := bif Nat.ble k 20 then zd_33 r k else zd_34 r k
noncomputable def zd_30 (r : List UInt8) (k : Nat) : Option (Instr × Nat) := bif Nat.ble k 19 then zd_31 r k else zd_32 r k
noncomputable def zd_36 (r : List UInt8) (k : Nat) : Option (Instr × Nat) := bif Nat.beq k 22 then (match r with | x :: _ => some (.lload x.toNat, 2) | _ => none) else none
noncomputable def zd_38 (r : List UInt8) (k : Nat) : Option (Instr × Nat) := bif Nat.beq k 25 then (match r with | x :: _ => some (.aload x.toNat, 2) | _ => none) else none
noncomputable def zd_39 (r : List UInt8) (k : Nat) : Option (Instr × Nat) := bif Nat.beq k 26 then some ((.iload_n 0), 1) else none
noncomputable def zd_37 (r : List UInt8) (k : Nat) : Option (Instr × Nat) := bif Nat.ble k 25 then zd_38 r k else zd_39 r k
noncomputable def zd_35 (r : List UInt8) (k : Nat) : Option (Instr × Nat) := bif Nat.ble k 22 then zd_36 r k else zd_37 r k
noncomputable def zd_29 (r : List UInt8) (k : Nat) : Option (Instr × Nat) := bif Nat.ble k 21 then zd_30 r k else zd_35 r k
noncomputable def zd_42 (r : List UInt8) (k : Nat) : Option (Instr × Nat) := bif Nat.beq k 27 then some ((.iload_n 1), 1) else none
noncomputable def zd_44 (r : List UInt8) (k : Nat) : Option (Instr × Nat) := bif Nat.beq k 28 then some ((.iload_n 2), 1) else none
noncomputable def zd_45 (r : List UInt8) (k : Nat) : Option (Instr × Nat) := bif Nat.beq k 29 then some ((.iload_n 3), 1) else none
noncomputable def zd_43 (r : List UInt8) (k : Nat) : Option (Instr × Nat) := bif Nat.ble k 28 then zd_44 r k else zd_45 r k
noncomputable def zd_41 (r : List UInt8) (k : Nat) : Option (Instr × Nat) := bif Nat.ble k 27 then zd_42 r k else zd_43 r k
noncomputable def zd_48 (r : List UInt8) (k : Nat) : Option (Instr × Nat) := bif Nat.beq k 30 then some ((.lload_n 0), 1) else none
noncomputable def zd_49 (r : List UInt8) (k : Nat) : Option (Instr × Nat) := bif Nat.beq k 31 then some ((.lload_n 1), 1) else none
noncomputable def zd_47 (r : List UInt8) (k : Nat) : Option (Instr × Nat) := bif Nat.ble k 30 then zd_48 r k else zd_49 r k
noncomputable def zd_51 (r : List UInt8) (k : Nat) : Option (Instr × Nat) := bif Nat.beq k 32 then some ((.lload_n 2), 1) else none
noncomputable def zd_52 (r : List UInt8) (k : Nat) : Option (Instr × Nat) := bif Nat.beq k 33 then some ((.lload_n 3), 1) else none
noncomputable def zd_50 (r : List UInt8) (k : Nat) : Option (Instr × Nat) := bif Nat.ble k 32 then zd_51 r k else zd_52 r k
noncomputable def zd_46 (r : List UInt8) (k : Nat) : Option (Instr × Nat) := bif Nat.ble k 31 then zd_47 r k else zd_50 r k
noncomputable def zd_40 (r : List UInt8) (k : Nat) : Option (Instr × Nat) := bif Nat.ble k 29 then zd_41 r k else zd_46 r k
noncomputable def zd_28 (r : List UInt8) (k : Nat) : Option (Instr × Nat) := bif Nat.ble k 26 then zd_29 r k else zd_40 r k
noncomputable def zd_2 (r : List UInt8) (k : Nat) : Option (Instr × Nat) := bif Nat.ble k 18 then zd_3 r k else zd_28 r k
noncomputable def zd_57 (r : List UInt8) (k : Nat) : Option (Instr × Nat) := bif Nat.beq k 42 then some ((.aload_n 0), 1) else none
noncomputable def zd_59 (r : List UInt8) (k : Nat) : Option (Instr × Nat) := bif Nat.beq k 43 then some ((.aload_n 1), 1) else none
noncomputable def zd_60 (r : List UInt8) (k : Nat) : Option (Instr × Nat) := bif Nat.beq k 44 then some ((.aload_n 2), 1) else none
noncomputable def zd_58 (r : List UInt8) (k : Nat) : Option (Instr × Nat) := bif Nat.ble k 43 then zd_59 r k else zd_60 r k
noncomputable def zd_56 (r : List UInt8) (k : Nat) : Option (Instr × Nat) := bif Nat.ble k 42 then zd_57 r k else zd_58 r k
noncomputable def zd_62 (r : List UInt8) (k : Nat) : Option (Instr × Nat) := bif Nat.beq k 45 then some ((.aload_n 3), 1) else none
noncomputable def zd_64 (r : List UInt8) (k : Nat) : Option (Instr × Nat) := bif Nat.beq k 46 then some (.iaload, 1) else none
noncomputable def zd_65 (r : List UInt8) (k : Nat) : Option (Instr × Nat) := bif Nat.beq k 47 then some (.laload, 1) else none
noncomputable def zd_63 (r : List UInt8) (k : Nat) : Option (Instr × Nat) := bif Nat.ble k 46 then zd_64 r k else zd_65 r k
noncomputable def zd_61 (r : List UInt8) (k : Nat) : Option (Instr × Nat) := bif Nat.ble k 45 then zd_62 r k else zd_63 r k
noncomputable def zd_55 (r : List UInt8) (k : Nat) : Option (Instr × Nat) := bif Nat.ble k 44 then zd_56 r k else zd_61 r k
noncomputable def zd_68 (r : List UInt8) (k : Nat) : Option (Instr × Nat) := bif Nat.beq k 50 then some (.aaload, 1) else none
noncomputable def zd_70 (r : List UInt8) (k : Nat) : Option (Instr × Nat) := bif Nat.beq k 51 then some (.baload, 1) else none
noncomputable def zd_71 (r : List UInt8) (k : Nat) : Option (Instr × Nat) := bif Nat.beq k 54 then (match r with | x :: _ => some (.istore x.toNat, 2) | _ => none) else none
noncomputable def zd_69 (r : List UInt8) (k : Nat) : Option (Instr × Nat) := bif Nat.ble k 51 then zd_70 r k else zd_71 r k
noncomputable def zd_67 (r : List UInt8) (k : Nat) : Option (Instr × Nat) := bif Nat.ble k 50 then zd_68 r k else zd_69 r k
noncomputable def zd_74 (r : List UInt8) (k : Nat) : Option (Instr × Nat) := bif Nat.beq k 55 then (match r with | x :: _ => some (.lstore x.toNat, 2) | _ => none) else none
noncomputable def zd_75 (r : List UInt8) (k : Nat) : Option (Instr × Nat) := bif Nat.beq k 58 then (match r with | x :: _ => some (.astore x.toNat, 2) | _ => none) else none
noncomputable def zd_73 (r : List UInt8) (k : Nat) : Option (Instr × Nat) := bif Nat.ble k 55 then zd_74 r k else zd_75 r k
noncomputable def zd_77 (r : List UInt8) (k : Nat) : Option (Instr × Nat) := bif Nat.beq k 60 then some ((.istore_n 1), 1) else none
noncomputable def zd_78 (r : List UInt8) (k : Nat) : Option (Instr × Nat) := bif Nat.beq k 61 then some ((.istore_n 2), 1) else none
noncomputable def zd_76 (r : List UInt8) (k : Nat) : Option (Instr × Nat) := bif Nat.ble k 60 then zd_77 r k else zd_78 r k
noncomputable def zd_72 (r : List UInt8) (k : Nat) : Option (Instr × Nat) := bif Nat.ble k 58 then zd_73 r k else zd_76 r k
noncomputable def zd_66 (r : List UInt8) (k : Nat) : Option (Instr × Nat) := bif Nat.ble k 54 then zd_67 r k else zd_72 r k
noncomputable def zd_54 (r : List UInt8) (k : Nat) : Option (Instr × Nat) := bif Nat.ble k 47 then zd_55 r k else zd_66 r k
noncomputable def zd_82 (r : List UInt8) (k : Nat) : Option (Instr × Nat) := bif Nat.beq k 62 then some ((.istore_n 3), 1) else none
noncomputable def zd_84 (r : List UInt8) (k : Nat) : Option (Instr × Nat) := bif Nat.beq k 65 then some ((.lstore_n 2), 1) else none
noncomputable def zd_85 (r : List UInt8) (k : Nat) : Option (Instr × Nat) := bif Nat.beq k 76 then some ((.astore_n 1), 1) else none
noncomputable def zd_83 (r : List UInt8) (k : Nat) : Option (Instr × Nat) := bif Nat.ble k 65 then zd_84 r k else zd_85 r k
noncomputable def zd_81 (r : List UInt8) (k : Nat) : Option (Instr × Nat) := bif Nat.ble k 62 then zd_82 r k else zd_83 r k
noncomputable def zd_87 (r : List UInt8) (k : Nat) : Option (Instr × Nat) := bif Nat.beq k 77 then some ((.astore_n 2), 1) else none
noncomputable def zd_89 (r : List UInt8) (k : Nat) : Option (Instr × Nat) := bif Nat.beq k 78 then some ((.astore_n 3), 1) else none
noncomputable def zd_90 (r : List UInt8) (k : Nat) : Option (Instr × Nat) := bif Nat.beq k 79 then some (.iastore, 1) else none
noncomputable def zd_88 (r : List UInt8) (k : Nat) : Option (Instr × Nat) := bif Nat.ble k 78 then zd_89 r k else zd_90 r k
noncomputable def zd_86 (r : List UInt8) (k : Nat) : Option (Instr × Nat) := bif Nat.ble k 77 then zd_87 r k else zd_88 r k
noncomputable def zd_80 (r : List UInt8) (k : Nat) : Option (Instr × Nat) := bif Nat.ble k 76 then zd_81 r k else zd_86 r k
noncomputable def zd_93 (r : List UInt8) (k : Nat) : Option (Instr × Nat) := bif Nat.beq k 80 then some (.lastore, 1) else none
noncomputable def zd_95 (r : List UInt8) (k : Nat) : Option (Instr × Nat) := bif Nat.beq k 83 then some (.aastore, 1) else none
noncomputable def zd_96 (r : List UInt8) (k : Nat) : Option (Instr × Nat) := bif Nat.beq k 84 then some (.bastore, 1) else none
noncomputable def zd_94 (r : List UInt8) (k : Nat) : Option (Instr × Nat) := bif Nat.ble k 83 then zd_95 r k else zd_96 r k
noncomputable def zd_92 (r : List UInt8) (k : Nat) : Option (Instr × Nat) := bif Nat.ble k 80 then zd_93 r k else zd_94 r k
noncomputable def zd_99 (r : List UInt8) (k : Nat) : Option (Instr × Nat) := bif Nat.beq k 87 then some (.pop, 1) else none
noncomputable def zd_100 (r : List UInt8) (k : Nat) : Option (Instr × Nat) := bif Nat.beq k 88 then some (.pop2, 1) else none
noncomputable def zd_98 (r : List UInt8) (k : Nat) : Option (Instr × Nat) := bif Nat.ble k 87 then zd_99 r k else zd_100 r k
noncomputable def zd_102 (r : List UInt8) (k : Nat) : Option (Instr × Nat) := bif Nat.beq k 89 then some (.dup, 1) else none
noncomputable def zd_103 (r : List UInt8) (k : Nat) : Option (Instr × Nat) := bif Nat.beq k 90 then some (.dup_x1, 1) else none
noncomputable def zd_101 (r : List UInt8) (k : Nat) : Option (Instr × Nat) := bif Nat.ble k 89 then zd_102 r k else zd_103 r k
noncomputable def zd_97 (r : List UInt8) (k : Nat) : Option (Instr × Nat) := bif Nat.ble k 88 then zd_98 r k else zd_101 r k
noncomputable def zd_91 (r : List UInt8) (k : Nat) : Option (Instr × Nat) := bif Nat.ble k 84 then zd_92 r k else zd_97 r k
noncomputable def zd_79 (r : List UInt8) (k : Nat) : Option (Instr × Nat) := bif Nat.ble k 79 then zd_80 r k else zd_91 r k
noncomputable def zd_53 (r : List UInt8) (k : Nat) : Option (Instr × Nat) := bif Nat.ble k 61 then zd_54 r k else zd_79 r k
noncomputable def zd_1 (r : List UInt8) (k : Nat) : Option (Instr × Nat) := bif Nat.ble k 33 then zd_2 r k else zd_53 r k
noncomputable def zd_109 (r : List UInt8) (k : Nat) : Option (Instr × Nat) := bif Nat.beq k 92 then some (.dup2, 1) else none
noncomputable def zd_111 (r : List UInt8) (k : Nat) : Option (Instr × Nat) := bif Nat.beq k 96 then some (.iadd, 1) else none
noncomputable def zd_112 (r : List UInt8) (k : Nat) : Option (Instr × Nat) := bif Nat.beq k 97 then some (.ladd, 1) else none
noncomputable def zd_110 (r : List UInt8) (k : Nat) : Option (Instr × Nat) := bif Nat.ble k 96 then zd_111 r k else zd_112 r k
noncomputable def zd_108 (r : List UInt8) (k : Nat) : Option (Instr × Nat) := bif Nat.ble k 92 then zd_109 r k else zd_110 r k
noncomputable def zd_114 (r : List UInt8) (k : Nat) : Option (Instr × Nat) := bif Nat.beq k 100 then some (.isub, 1) else none
noncomputable def zd_116 (r : List UInt8) (k : Nat) : Option (Instr × Nat) := bif Nat.beq k 101 then some (.lsub, 1) else none
noncomputable def zd_117 (r : List UInt8) (k : Nat) : Option (Instr × Nat) := bif Nat.beq k 104 then some (.imul, 1) else none
noncomputable def zd_115 (r : List UInt8) (k : Nat) : Option (Instr × Nat) := bif Nat.ble k 101 then zd_116 r k else zd_117 r k
noncomputable def zd_113 (r : List UInt8) (k : Nat) : Option (Instr × Nat) := bif Nat.ble k 100 then zd_114 r k else zd_115 r k
noncomputable def zd_107 (r : List UInt8) (k : Nat) : Option (Instr × Nat) := bif Nat.ble k 97 then zd_108 r k else zd_113 r k
noncomputable def zd_120 (r : List UInt8) (k : Nat) : Option (Instr × Nat) := bif Nat.beq k 105 then some (.lmul, 1) else none
noncomputable def zd_122 (r : List UInt8) (k : Nat) : Option (Instr × Nat) := bif Nat.beq k 108 then some (.idiv, 1) else none
noncomputable def zd_123 (r : List UInt8) (k : Nat) : Option (Instr × Nat) := bif Nat.beq k 109 then some (.ldiv, 1) else none
noncomputable def zd_121 (r : List UInt8) (k : Nat) : Option (Instr × Nat) := bif Nat.ble k 108 then zd_122 r k else zd_123 r k
noncomputable def zd_119 (r : List UInt8) (k : Nat) : Option (Instr × Nat) := bif Nat.ble k 105 then zd_120 r k else zd_121 r k
noncomputable def zd_126 (r : List UInt8) (k : Nat) : Option (Instr × Nat) := bif Nat.beq k 113 then some (.lrem, 1) else none
noncomputable def zd_127 (r : List UInt8) (k : Nat) : Option (Instr × Nat) := bif Nat.beq k 117 then some (.lneg, 1) else none
noncomputable def zd_125 (r : List UInt8) (k : Nat) : Option (Instr × Nat) := bif Nat.ble k 113 then zd_126 r k else zd_127 r k
noncomputable def zd_129 (r : List UInt8) (k : Nat) : Option (Instr × Nat) := bif Nat.beq k 120 then some (.ishl, 1) else none
noncomputable def zd_130 (r : List UInt8) (k : Nat) : Option (Instr × Nat) := bif Nat.beq k 121 then some (.lshl, 1) else none
noncomputable def zd_128 (r : List UInt8) (k : Nat) : Option (Instr × Nat) := bif Nat.ble k 120 then zd_129 r k else zd_130 r k
noncomputable def zd_124 (r : List UInt8) (k : Nat) : Option (Instr × Nat) := bif Nat.ble k 117 then zd_125 r k else zd_128 r k
noncomputable def zd_118 (r : List UInt8) (k : Nat) : Option (Instr × Nat) := bif Nat.ble k 109 then zd_119 r k else zd_124 r k
noncomputable def zd_106 (r : List UInt8) (k : Nat) : Option (Instr × Nat) := bif Nat.ble k 104 then zd_107 r k else zd_118 r k
noncomputable def zd_134 (r : List UInt8) (k : Nat) : Option (Instr × Nat) := bif Nat.beq k 122 then some (.ishr, 1) else none
noncomputable def zd_136 (r : List UInt8) (k : Nat) : Option (Instr × Nat) := bif Nat.beq k 123 then some (.lshr, 1) else none
noncomputable def zd_137 (r : List UInt8) (k : Nat) : Option (Instr × Nat) := bif Nat.beq k 126 then some (.iand, 1) else none
noncomputable def zd_135 (r : List UInt8) (k : Nat) : Option (Instr × Nat) := bif Nat.ble k 123 then zd_136 r k else zd_137 r k
noncomputable def zd_133 (r : List UInt8) (k : Nat) : Option (Instr × Nat) := bif Nat.ble k 122 then zd_134 r k else zd_135 r k
noncomputable def zd_139 (r : List UInt8) (k : Nat) : Option (Instr × Nat) := bif Nat.beq k 127 then some (.land, 1) else none
noncomputable def zd_141 (r : List UInt8) (k : Nat) : Option (Instr × Nat) := bif Nat.beq k 128 then some (.ior, 1) else none
noncomputable def zd_142 (r : List UInt8) (k : Nat) : Option (Instr × Nat) := bif Nat.beq k 129 then some (.lor, 1) else none
noncomputable def zd_140 (r : List UInt8) (k : Nat) : Option (Instr × Nat) := bif Nat.ble k 128 then zd_141 r k else zd_142 r k
noncomputable def zd_138 (r : List UInt8) (k : Nat) : Option (Instr × Nat) := bif Nat.ble k 127 then zd_139 r k else zd_140 r k
noncomputable def zd_132 (r : List UInt8) (k : Nat) : Option (Instr × Nat) := bif Nat.ble k 126 then zd_133 r k else zd_138 r k
noncomputable def zd_145 (r : List UInt8) (k : Nat) : Option (Instr × Nat) := bif Nat.beq k 131 then some (.lxor, 1) else none
noncomputable def zd_147 (r : List UInt8) (k : Nat) : Option (Instr × Nat) := bif Nat.beq k 132 then (match r with | x :: y :: _ => some (.iinc x.toNat (Jvm.ClassFile.Reader.signed 8 y.toNat), 3) | _ => none) else none
noncomputable def zd_148 (r : List UInt8) (k : Nat) : Option (Instr × Nat) := bif Nat.beq k 133 then some (.i2l, 1) else none
noncomputable def zd_146 (r : List UInt8) (k : Nat) : Option (Instr × Nat) := bif Nat.ble k 132 then zd_147 r k else zd_148 r k
noncomputable def zd_144 (r : List UInt8) (k : Nat) : Option (Instr × Nat) := bif Nat.ble k 131 then zd_145 r k else zd_146 r k
noncomputable def zd_151 (r : List UInt8) (k : Nat) : Option (Instr × Nat) := bif Nat.beq k 136 then some (.l2i, 1) else none
noncomputable def zd_152 (r : List UInt8) (k : Nat) : Option (Instr × Nat) := bif Nat.beq k 145 then some (.i2b, 1) else none
noncomputable def zd_150 (r : List UInt8) (k : Nat) : Option (Instr × Nat) := bif Nat.ble k 136 then zd_151 r k else zd_152 r k
noncomputable def zd_154 (r : List UInt8) (k : Nat) : Option (Instr × Nat) := bif Nat.beq k 148 then some (.lcmp, 1) else none
noncomputable def zd_155 (r : List UInt8) (k : Nat) : Option (Instr × Nat) := bif Nat.beq k 153 then (match r with | x :: y :: _ => some (.ifCond .eq (Jvm.ClassFile.Reader.signed 16 (x.toNat * 256 + y.toNat)), 3) | _ => none) else none
noncomputable def zd_153 (r : List UInt8) (k : Nat) : Option (Instr × Nat) := bif Nat.ble k 148 then zd_154 r k else zd_155 r k
noncomputable def zd_149 (r : List UInt8) (k : Nat) : Option (Instr × Nat) := bif Nat.ble k 145 then zd_150 r k else zd_153 r k
noncomputable def zd_143 (r : List UInt8) (k : Nat) : Option (Instr × Nat) := bif Nat.ble k 133 then zd_144 r k else zd_149 r k
noncomputable def zd_131 (r : List UInt8) (k : Nat) : Option (Instr × Nat) := bif Nat.ble k 129 then zd_132 r k else zd_143 r k
noncomputable def zd_105 (r : List UInt8) (k : Nat) : Option (Instr × Nat) := bif Nat.ble k 121 then zd_106 r k else zd_131 r k
noncomputable def zd_160 (r : List UInt8) (k : Nat) : Option (Instr × Nat) := bif Nat.beq k 154 then (match r with | x :: y :: _ => some (.ifCond .ne (Jvm.ClassFile.Reader.signed 16 (x.toNat * 256 + y.toNat)), 3) | _ => none) else none
noncomputable def zd_162 (r : List UInt8) (k : Nat) : Option (Instr × Nat) := bif Nat.beq k 155 then (match r with | x :: y :: _ => some (.ifCond .lt (Jvm.ClassFile.Reader.signed 16 (x.toNat * 256 + y.toNat)), 3) | _ => none) else none
noncomputable def zd_163 (r : List UInt8) (k : Nat) : Option (Instr × Nat) := bif Nat.beq k 156 then (match r with | x :: y :: _ => some (.ifCond .ge (Jvm.ClassFile.Reader.signed 16 (x.toNat * 256 + y.toNat)), 3) | _ => none) else none
noncomputable def zd_161 (r : List UInt8) (k : Nat) : Option (Instr × Nat) := bif Nat.ble k 155 then zd_162 r k else zd_163 r k
noncomputable def zd_159 (r : List UInt8) (k : Nat) : Option (Instr × Nat) := bif Nat.ble k 154 then zd_160 r k else zd_161 r k
noncomputable def zd_165 (r : List UInt8) (k : Nat) : Option (Instr × Nat) := bif Nat.beq k 157 then (match r with | x :: y :: _ => some (.ifCond .gt (Jvm.ClassFile.Reader.signed 16 (x.toNat * 256 + y.toNat)), 3) | _ => none) else none
noncomputable def zd_167 (r : List UInt8) (k : Nat) : Option (Instr × Nat) := bif Nat.beq k 158 then (match r with | x :: y :: _ => some (.ifCond .le (Jvm.ClassFile.Reader.signed 16 (x.toNat * 256 + y.toNat)), 3) | _ => none) else none
noncomputable def zd_168 (r : List UInt8) (k : Nat) : Option (Instr × Nat) := bif Nat.beq k 159 then (match r with | x :: y :: _ => some (.if_icmp .eq (Jvm.ClassFile.Reader.signed 16 (x.toNat * 256 + y.toNat)), 3) | _ => none) else none
noncomputable def zd_166 (r : List UInt8) (k : Nat) : Option (Instr × Nat) := bif Nat.ble k 158 then zd_167 r k else zd_168 r k
noncomputable def zd_164 (r : List UInt8) (k : Nat) : Option (Instr × Nat) := bif Nat.ble k 157 then zd_165 r k else zd_166 r k
noncomputable def zd_158 (r : List UInt8) (k : Nat) : Option (Instr × Nat) := bif Nat.ble k 156 then zd_159 r k else zd_164 r k
noncomputable def zd_171 (r : List UInt8) (k : Nat) : Option (Instr × Nat) := bif Nat.beq k 160 then (match r with | x :: y :: _ => some (.if_icmp .ne (Jvm.ClassFile.Reader.signed 16 (x.toNat * 256 + y.toNat)), 3) | _ => none) else none
noncomputable def zd_173 (r : List UInt8) (k : Nat) : Option (Instr × Nat) := bif Nat.beq k 161 then (match r with | x :: y :: _ => some (.if_icmp .lt (Jvm.ClassFile.Reader.signed 16 (x.toNat * 256 + y.toNat)), 3) | _ => none) else none
noncomputable def zd_174 (r : List UInt8) (k : Nat) : Option (Instr × Nat) := bif Nat.beq k 162 then (match r with | x :: y :: _ => some (.if_icmp .ge (Jvm.ClassFile.Reader.signed 16 (x.toNat * 256 + y.toNat)), 3) | _ => none) else none
noncomputable def zd_172 (r : List UInt8) (k : Nat) : Option (Instr × Nat) := bif Nat.ble k 161 then zd_173 r k else zd_174 r k
noncomputable def zd_170 (r : List UInt8) (k : Nat) : Option (Instr × Nat) := bif Nat.ble k 160 then zd_171 r k else zd_172 r k
noncomputable def zd_177 (r : List UInt8) (k : Nat) : Option (Instr × Nat) := bif Nat.beq k 163 then (match r with | x :: y :: _ => some (.if_icmp .gt (Jvm.ClassFile.Reader.signed 16 (x.toNat * 256 + y.toNat)), 3) | _ => none) else none
noncomputable def zd_178 (r : List UInt8) (k : Nat) : Option (Instr × Nat) := bif Nat.beq k 164 then (match r with | x :: y :: _ => some (.if_icmp .le (Jvm.ClassFile.Reader.signed 16 (x.toNat * 256 + y.toNat)), 3) | _ => none) else none
noncomputable def zd_176 (r : List UInt8) (k : Nat) : Option (Instr × Nat) := bif Nat.ble k 163 then zd_177 r k else zd_178 r k
noncomputable def zd_180 (r : List UInt8) (k : Nat) : Option (Instr × Nat) := bif Nat.beq k 167 then (match r with | x :: y :: _ => some (.goto (Jvm.ClassFile.Reader.signed 16 (x.toNat * 256 + y.toNat)), 3) | _ => none) else none
noncomputable def zd_181 (r : List UInt8) (k : Nat) : Option (Instr × Nat) := bif Nat.beq k 172 then some (.ireturn, 1) else none
noncomputable def zd_179 (r : List UInt8) (k : Nat) : Option (Instr × Nat) := bif Nat.ble k 167 then zd_180 r k else zd_181 r k
noncomputable def zd_175 (r : List UInt8) (k : Nat) : Option (Instr × Nat) := bif Nat.ble k 164 then zd_176 r k else zd_179 r k
noncomputable def zd_169 (r : List UInt8) (k : Nat) : Option (Instr × Nat) := bif Nat.ble k 162 then zd_170 r k else zd_175 r k
noncomputable def zd_157 (r : List UInt8) (k : Nat) : Option (Instr × Nat) := bif Nat.ble k 159 then zd_158 r k else zd_169 r k
noncomputable def zd_185 (r : List UInt8) (k : Nat) : Option (Instr × Nat) := bif Nat.beq k 173 then some (.lreturn, 1) else none
noncomputable def zd_187 (r : List UInt8) (k : Nat) : Option (Instr × Nat) := bif Nat.beq k 176 then some (.areturn, 1) else none
noncomputable def zd_188 (r : List UInt8) (k : Nat) : Option (Instr × Nat) := bif Nat.beq k 177 then some (.return_, 1) else none
noncomputable def zd_186 (r : List UInt8) (k : Nat) : Option (Instr × Nat) := bif Nat.ble k 176 then zd_187 r k else zd_188 r k
noncomputable def zd_184 (r : List UInt8) (k : Nat) : Option (Instr × Nat) := bif Nat.ble k 173 then zd_185 r k else zd_186 r k
noncomputable def zd_191 (r : List UInt8) (k : Nat) : Option (Instr × Nat) := bif Nat.beq k 180 then (match r with | x :: y :: _ => some (.getfield (x.toNat * 256 + y.toNat), 3) | _ => none) else none
noncomputable def zd_192 (r : List UInt8) (k : Nat) : Option (Instr × Nat) := bif Nat.beq k 181 then (match r with | x :: y :: _ => some (.putfield (x.toNat * 256 + y.toNat), 3) | _ => none) else none
noncomputable def zd_190 (r : List UInt8) (k : Nat) : Option (Instr × Nat) := bif Nat.ble k 180 then zd_191 r k else zd_192 r k
noncomputable def zd_194 (r : List UInt8) (k : Nat) : Option (Instr × Nat) := bif Nat.beq k 182 then (match r with | x :: y :: _ => some (.invokevirtual (x.toNat * 256 + y.toNat), 3) | _ => none) else none
noncomputable def zd_195 (r : List UInt8) (k : Nat) : Option (Instr × Nat) := bif Nat.beq k 183 then (match r with | x :: y :: _ => some (.invokespecial (x.toNat * 256 + y.toNat), 3) | _ => none) else none
noncomputable def zd_193 (r : List UInt8) (k : Nat) : Option (Instr × Nat) := bif Nat.ble k 182 then zd_194 r k else zd_195 r k
noncomputable def zd_189 (r : List UInt8) (k : Nat) : Option (Instr × Nat) := bif Nat.ble k 181 then zd_190 r k else zd_193 r k
noncomputable def zd_183 (r : List UInt8) (k : Nat) : Option (Instr × Nat) := bif Nat.ble k 177 then zd_184 r k else zd_189 r k
noncomputable def zd_198 (r : List UInt8) (k : Nat) : Option (Instr × Nat) := bif Nat.beq k 184 then (match r with | x :: y :: _ => some (.invokestatic (x.toNat * 256 + y.toNat), 3) | _ => none) else none
noncomputable def zd_200 (r : List UInt8) (k : Nat) : Option (Instr × Nat) := bif Nat.beq k 187 then (match r with | x :: y :: _ => some (.new (x.toNat * 256 + y.toNat), 3) | _ => none) else none
noncomputable def zd_201 (r : List UInt8) (k : Nat) : Option (Instr × Nat) := bif Nat.beq k 189 then (match r with | x :: y :: _ => some (.anewarray (x.toNat * 256 + y.toNat), 3) | _ => none) else none
noncomputable def zd_199 (r : List UInt8) (k : Nat) : Option (Instr × Nat) := bif Nat.ble k 187 then zd_200 r k else zd_201 r k
noncomputable def zd_197 (r : List UInt8) (k : Nat) : Option (Instr × Nat) := bif Nat.ble k 184 then zd_198 r k else zd_199 r k
noncomputable def zd_204 (r : List UInt8) (k : Nat) : Option (Instr × Nat) := bif Nat.beq k 190 then some (.arraylength, 1) else none
noncomputable def zd_205 (r : List UInt8) (k : Nat) : Option (Instr × Nat) := bif Nat.beq k 192 then (match r with | x :: y :: _ => some (.checkcast (x.toNat * 256 + y.toNat), 3) | _ => none) else none
noncomputable def zd_203 (r : List UInt8) (k : Nat) : Option (Instr × Nat) := bif Nat.ble k 190 then zd_204 r k else zd_205 r k
noncomputable def zd_207 (r : List UInt8) (k : Nat) : Option (Instr × Nat) := bif Nat.beq k 198 then (match r with | x :: y :: _ => some (.ifnull (Jvm.ClassFile.Reader.signed 16 (x.toNat * 256 + y.toNat)), 3) | _ => none) else none
noncomputable def zd_208 (r : List UInt8) (k : Nat) : Option (Instr × Nat) := bif Nat.beq k 199 then (match r with | x :: y :: _ => some (.ifnonnull (Jvm.ClassFile.Reader.signed 16 (x.toNat * 256 + y.toNat)), 3) | _ => none) else none
noncomputable def zd_206 (r : List UInt8) (k : Nat) : Option (Instr × Nat) := bif Nat.ble k 198 then zd_207 r k else zd_208 r k
noncomputable def zd_202 (r : List UInt8) (k : Nat) : Option (Instr × Nat) := bif Nat.ble k 192 then zd_203 r k else zd_206 r k
noncomputable def zd_196 (r : List UInt8) (k : Nat) : Option (Instr × Nat) := bif Nat.ble k 189 then zd_197 r k else zd_202 r k
noncomputable def zd_182 (r : List UInt8) (k : Nat) : Option (Instr × Nat) := bif Nat.ble k 183 then zd_183 r k else zd_196 r k
noncomputable def zd_156 (r : List UInt8) (k : Nat) : Option (Instr × Nat) := bif Nat.ble k 172 then zd_157 r k else zd_182 r k
noncomputable def zd_104 (r : List UInt8) (k : Nat) : Option (Instr × Nat) := bif Nat.ble k 153 then zd_105 r k else zd_156 r k
noncomputable def zd_0 (r : List UInt8) (k : Nat) : Option (Instr × Nat) := bif Nat.ble k 90 then zd_1 r k else zd_104 r k
theorem zdk_6 {A : ByteArray} {pc : Nat} {b : UInt8} {r : List UInt8} {ins : Instr} {len : Nat} (h : A.data.toList.drop pc = b :: r) (q : zd_6 r b.toNat = some (ins, len)) : decode A pc = .ok (ins, len) := by
  unfold zd_6 at q
  cases hq : Nat.beq b.toNat 1 with
  | false => rw [hq] at q; cases q
  | true =>
    rw [hq, cond_true] at q
    have hb := Nat.eq_of_beq_eq_true hq
    cases q
    exact dq_1 h hb
theorem zdk_8 {A : ByteArray} {pc : Nat} {b : UInt8} {r : List UInt8} {ins : Instr} {len : Nat} (h : A.data.toList.drop pc = b :: r) (q : zd_8 r b.toNat = some (ins, len)) : decode A pc = .ok (ins, len) := by
  unfold zd_8 at q
  cases hq : Nat.beq b.toNat 2 with
  | false => rw [hq] at q; cases q
  | true =>
    rw [hq, cond_true] at q
    have hb := Nat.eq_of_beq_eq_true hq
    cases q
    exact dq_2 h hb
theorem zdk_9 {A : ByteArray} {pc : Nat} {b : UInt8} {r : List UInt8} {ins : Instr} {len : Nat} (h : A.data.toList.drop pc = b :: r) (q : zd_9 r b.toNat = some (ins, len)) : decode A pc = .ok (ins, len) := by
  unfold zd_9 at q
  cases hq : Nat.beq b.toNat 3 with
  | false => rw [hq] at q; cases q
  | true =>
    rw [hq, cond_true] at q
    have hb := Nat.eq_of_beq_eq_true hq
    cases q
    exact dq_3 h hb
theorem zdk_7 {A : ByteArray} {pc : Nat} {b : UInt8} {r : List UInt8} {ins : Instr} {len : Nat} (h : A.data.toList.drop pc = b :: r) (q : zd_7 r b.toNat = some (ins, len)) : decode A pc = .ok (ins, len) := by
  unfold zd_7 at q
  cases hq : Nat.ble b.toNat 2 with
  | true => rw [hq, cond_true] at q; exact zdk_8 h q
  | false => rw [hq, cond_false] at q; exact zdk_9 h q
theorem zdk_5 {A : ByteArray} {pc : Nat} {b : UInt8} {r : List UInt8} {ins : Instr} {len : Nat} (h : A.data.toList.drop pc = b :: r) (q : zd_5 r b.toNat = some (ins, len)) : decode A pc = .ok (ins, len) := by
  unfold zd_5 at q
  cases hq : Nat.ble b.toNat 1 with
  | true => rw [hq, cond_true] at q; exact zdk_6 h q
  | false => rw [hq, cond_false] at q; exact zdk_7 h q
theorem zdk_11 {A : ByteArray} {pc : Nat} {b : UInt8} {r : List UInt8} {ins : Instr} {len : Nat} (h : A.data.toList.drop pc = b :: r) (q : zd_11 r b.toNat = some (ins, len)) : decode A pc = .ok (ins, len) := by
  unfold zd_11 at q
  cases hq : Nat.beq b.toNat 4 with
  | false => rw [hq] at q; cases q
  | true =>
    rw [hq, cond_true] at q
    have hb := Nat.eq_of_beq_eq_true hq
    cases q
    exact dq_4 h hb
theorem zdk_13 {A : ByteArray} {pc : Nat} {b : UInt8} {r : List UInt8} {ins : Instr} {len : Nat} (h : A.data.toList.drop pc = b :: r) (q : zd_13 r b.toNat = some (ins, len)) : decode A pc = .ok (ins, len) := by
  unfold zd_13 at q
  cases hq : Nat.beq b.toNat 5 with
  | false => rw [hq] at q; cases q
  | true =>
    rw [hq, cond_true] at q
    have hb := Nat.eq_of_beq_eq_true hq
    cases q
    exact dq_5 h hb
theorem zdk_14 {A : ByteArray} {pc : Nat} {b : UInt8} {r : List UInt8} {ins : Instr} {len : Nat} (h : A.data.toList.drop pc = b :: r) (q : zd_14 r b.toNat = some (ins, len)) : decode A pc = .ok (ins, len) := by
  unfold zd_14 at q
  cases hq : Nat.beq b.toNat 6 with
  | false => rw [hq] at q; cases q
  | true =>
    rw [hq, cond_true] at q
    have hb := Nat.eq_of_beq_eq_true hq
    cases q
    exact dq_6 h hb
theorem zdk_12 {A : ByteArray} {pc : Nat} {b : UInt8} {r : List UInt8} {ins : Instr} {len : Nat} (h : A.data.toList.drop pc = b :: r) (q : zd_12 r b.toNat = some (ins, len)) : decode A pc = .ok (ins, len) := by
  unfold zd_12 at q
  cases hq : Nat.ble b.toNat 5 with
  | true => rw [hq, cond_true] at q; exact zdk_13 h q
  | false => rw [hq, cond_false] at q; exact zdk_14 h q
theorem zdk_10 {A : ByteArray} {pc : Nat} {b : UInt8} {r : List UInt8} {ins : Instr} {len : Nat} (h : A.data.toList.drop pc = b :: r) (q : zd_10 r b.toNat = some (ins, len)) : decode A pc = .ok (ins, len) := by
  unfold zd_10 at q
  cases hq : Nat.ble b.toNat 4 with
  | true => rw [hq, cond_true] at q; exact zdk_11 h q
  | false => rw [hq, cond_false] at q; exact zdk_12 h q
theorem zdk_4 {A : ByteArray} {pc : Nat} {b : UInt8} {r : List UInt8} {ins : Instr} {len : Nat} (h : A.data.toList.drop pc = b :: r) (q : zd_4 r b.toNat = some (ins, len)) : decode A pc = .ok (ins, len) := by
  unfold zd_4 at q
  cases hq : Nat.ble b.toNat 3 with
  | true => rw [hq, cond_true] at q; exact zdk_5 h q
  | false => rw [hq, cond_false] at q; exact zdk_10 h q
theorem zdk_17 {A : ByteArray} {pc : Nat} {b : UInt8} {r : List UInt8} {ins : Instr} {len : Nat} (h : A.data.toList.drop pc = b :: r) (q : zd_17 r b.toNat = some (ins, len)) : decode A pc = .ok (ins, len) := by
  unfold zd_17 at q
  cases hq : Nat.beq b.toNat 7 with
  | false => rw [hq] at q; cases q
  | true =>
    rw [hq, cond_true] at q
    have hb := Nat.eq_of_beq_eq_true hq
    cases q
    exact dq_7 h hb
theorem zdk_19 {A : ByteArray} {pc : Nat} {b : UInt8} {r : List UInt8} {ins : Instr} {len : Nat} (h : A.data.toList.drop pc = b :: r) (q : zd_19 r b.toNat = some (ins, len)) : decode A pc = .ok (ins, len) := by
  unfold zd_19 at q
  cases hq : Nat.beq b.toNat 8 with
  | false => rw [hq] at q; cases q
  | true =>
    rw [hq, cond_true] at q
    have hb := Nat.eq_of_beq_eq_true hq
    cases q
    exact dq_8 h hb
theorem zdk_20 {A : ByteArray} {pc : Nat} {b : UInt8} {r : List UInt8} {ins : Instr} {len : Nat} (h : A.data.toList.drop pc = b :: r) (q : zd_20 r b.toNat = some (ins, len)) : decode A pc = .ok (ins, len) := by
  unfold zd_20 at q
  cases hq : Nat.beq b.toNat 9 with
  | false => rw [hq] at q; cases q
  | true =>
    rw [hq, cond_true] at q
    have hb := Nat.eq_of_beq_eq_true hq
    cases q
    exact dq_9 h hb
theorem zdk_18 {A : ByteArray} {pc : Nat} {b : UInt8} {r : List UInt8} {ins : Instr} {len : Nat} (h : A.data.toList.drop pc = b :: r) (q : zd_18 r b.toNat = some (ins, len)) : decode A pc = .ok (ins, len) := by
  unfold zd_18 at q
  cases hq : Nat.ble b.toNat 8 with
  | true => rw [hq, cond_true] at q; exact zdk_19 h q
  | false => rw [hq, cond_false] at q; exact zdk_20 h q
theorem zdk_16 {A : ByteArray} {pc : Nat} {b : UInt8} {r : List UInt8} {ins : Instr} {len : Nat} (h : A.data.toList.drop pc = b :: r) (q : zd_16 r b.toNat = some (ins, len)) : decode A pc = .ok (ins, len) := by
  unfold zd_16 at q
  cases hq : Nat.ble b.toNat 7 with
  | true => rw [hq, cond_true] at q; exact zdk_17 h q
  | false => rw [hq, cond_false] at q; exact zdk_18 h q
theorem zdk_23 {A : ByteArray} {pc : Nat} {b : UInt8} {r : List UInt8} {ins : Instr} {len : Nat} (h : A.data.toList.drop pc = b :: r) (q : zd_23 r b.toNat = some (ins, len)) : decode A pc = .ok (ins, len) := by
  unfold zd_23 at q
  cases hq : Nat.beq b.toNat 10 with
  | false => rw [hq] at q; cases q
  | true =>
    rw [hq, cond_true] at q
    have hb := Nat.eq_of_beq_eq_true hq
    cases q
    exact dq_10 h hb
theorem zdk_24 {A : ByteArray} {pc : Nat} {b : UInt8} {r : List UInt8} {ins : Instr} {len : Nat} (h : A.data.toList.drop pc = b :: r) (q : zd_24 r b.toNat = some (ins, len)) : decode A pc = .ok (ins, len) := by
  unfold zd_24 at q
  cases hq : Nat.beq b.toNat 16 with
  | false => rw [hq] at q; cases q
  | true =>
    rw [hq, cond_true] at q
    have hb := Nat.eq_of_beq_eq_true hq
    match r, q, h with
    | x :: r, q, h => cases q; exact dq_16 h hb
    | [], q, _ => cases q
theorem zdk_22 {A : ByteArray} {pc : Nat} {b : UInt8} {r : List UInt8} {ins : Instr} {len : Nat} (h : A.data.toList.drop pc = b :: r) (q : zd_22 r b.toNat = some (ins, len)) : decode A pc = .ok (ins, len) := by
  unfold zd_22 at q
  cases hq : Nat.ble b.toNat 10 with
  | true => rw [hq, cond_true] at q; exact zdk_23 h q
  | false => rw [hq, cond_false] at q; exact zdk_24 h q
theorem zdk_26 {A : ByteArray} {pc : Nat} {b : UInt8} {r : List UInt8} {ins : Instr} {len : Nat} (h : A.data.toList.drop pc = b :: r) (q : zd_26 r b.toNat = some (ins, len)) : decode A pc = .ok (ins, len) := by
  unfold zd_26 at q
  cases hq : Nat.beq b.toNat 17 with
  | false => rw [hq] at q; cases q
  | true =>
    rw [hq, cond_true] at q
    have hb := Nat.eq_of_beq_eq_true hq
    match r, q, h with
    | x :: y :: r, q, h => cases q; exact dq_17 h hb
    | [_], q, _ => cases q
    | [], q, _ => cases q
theorem zdk_27 {A : ByteArray} {pc : Nat} {b : UInt8} {r : List UInt8} {ins : Instr} {len : Nat} (h : A.data.toList.drop pc = b :: r) (q : zd_27 r b.toNat = some (ins, len)) : decode A pc = .ok (ins, len) := by
  unfold zd_27 at q
  cases hq : Nat.beq b.toNat 18 with
  | false => rw [hq] at q; cases q
  | true =>
    rw [hq, cond_true] at q
    have hb := Nat.eq_of_beq_eq_true hq
    match r, q, h with
    | x :: r, q, h => cases q; exact dq_18 h hb
    | [], q, _ => cases q
theorem zdk_25 {A : ByteArray} {pc : Nat} {b : UInt8} {r : List UInt8} {ins : Instr} {len : Nat} (h : A.data.toList.drop pc = b :: r) (q : zd_25 r b.toNat = some (ins, len)) : decode A pc = .ok (ins, len) := by
  unfold zd_25 at q
  cases hq : Nat.ble b.toNat 17 with
  | true => rw [hq, cond_true] at q; exact zdk_26 h q
  | false => rw [hq, cond_false] at q; exact zdk_27 h q
theorem zdk_21 {A : ByteArray} {pc : Nat} {b : UInt8} {r : List UInt8} {ins : Instr} {len : Nat} (h : A.data.toList.drop pc = b :: r) (q : zd_21 r b.toNat = some (ins, len)) : decode A pc = .ok (ins, len) := by
  unfold zd_21 at q
  cases hq : Nat.ble b.toNat 16 with
  | true => rw [hq, cond_true] at q; exact zdk_22 h q
  | false => rw [hq, cond_false] at q; exact zdk_25 h q
theorem zdk_15 {A : ByteArray} {pc : Nat} {b : UInt8} {r : List UInt8} {ins : Instr} {len : Nat} (h : A.data.toList.drop pc = b :: r) (q : zd_15 r b.toNat = some (ins, len)) : decode A pc = .ok (ins, len) := by
  unfold zd_15 at q
  cases hq : Nat.ble b.toNat 9 with
  | true => rw [hq, cond_true] at q; exact zdk_16 h q
  | false => rw [hq, cond_false] at q; exact zdk_21 h q
theorem zdk_3 {A : ByteArray} {pc : Nat} {b : UInt8} {r : List UInt8} {ins : Instr} {len : Nat} (h : A.data.toList.drop pc = b :: r) (q : zd_3 r b.toNat = some (ins, len)) : decode A pc = .ok (ins, len) := by
  unfold zd_3 at q
  cases hq : Nat.ble b.toNat 6 with
  | true => rw [hq, cond_true] at q; exact zdk_4 h q
  | false => rw [hq, cond_false] at q; exact zdk_15 h q
theorem zdk_31 {A : ByteArray} {pc : Nat} {b : UInt8} {r : List UInt8} {ins : Instr} {len : Nat} (h : A.data.toList.drop pc = b :: r) (q : zd_31 r b.toNat = some (ins, len)) : decode A pc = .ok (ins, len) := by
  unfold zd_31 at q
  cases hq : Nat.beq b.toNat 19 with
  | false => rw [hq] at q; cases q
  | true =>
    rw [hq, cond_true] at q
    have hb := Nat.eq_of_beq_eq_true hq
    match r, q, h with
    | x :: y :: r, q, h => cases q; exact dq_19 h hb
    | [_], q, _ => cases q
    | [], q, _ => cases q
theorem zdk_33 {A : ByteArray} {pc : Nat} {b : UInt8} {r : List UInt8} {ins : Instr} {len : Nat} (h : A.data.toList.drop pc = b :: r) (q : zd_33 r b.toNat = some (ins, len)) : decode A pc = .ok (ins, len) := by
  unfold zd_33 at q
  cases hq : Nat.beq b.toNat 20 with
  | false => rw [hq] at q; cases q
  | true =>
    rw [hq, cond_true] at q
    have hb := Nat.eq_of_beq_eq_true hq
    match r, q, h with
    | x :: y :: r, q, h => cases q; exact dq_20 h hb
    | [_], q, _ => cases q
    | [], q, _ => cases q
theorem zdk_34 {A : ByteArray} {pc : Nat} {b : UInt8} {r : List UInt8} {ins : Instr} {len : Nat} (h : A.data.toList.drop pc = b :: r) (q : zd_34 r b.toNat = some (ins, len)) : decode A pc = .ok (ins, len) := by
  unfold zd_34 at q
  cases hq : Nat.beq b.toNat 21 with
  | false => rw [hq] at q; cases q
  | true =>
    rw [hq, cond_true] at q
    have hb := Nat.eq_of_beq_eq_true hq
    match r, q, h with
    | x :: r, q, h => cases q; exact dq_21 h hb
    | [], q, _ => cases q
theorem zdk_32 {A : ByteArray} {pc : Nat} {b : UInt8} {r : List UInt8} {ins : Instr} {len : Nat} (h : A.data.toList.drop pc = b :: r) (q : zd_32 r b.toNat = some (ins, len)) : decode A pc = .ok (ins, len) := by
  unfold zd_32 at q
  cases hq : Nat.ble b.toNat 20 with
  | true => rw [hq, cond_true] at q; exact zdk_33 h q
  | false => rw [hq, cond_false] at q; exact zdk_34 h q
theorem zdk_30 {A : ByteArray} {pc : Nat} {b : UInt8} {r : List UInt8} {ins : Instr} {len : Nat} (h : A.data.toList.drop pc = b :: r) (q : zd_30 r b.toNat = some (ins, len)) : decode A pc = .ok (ins, len) := by
  unfold zd_30 at q
  cases hq : Nat.ble b.toNat 19 with
  | true => rw [hq, cond_true] at q; exact zdk_31 h q
  | false => rw [hq, cond_false] at q; exact zdk_32 h q
theorem zdk_36 {A : ByteArray} {pc : Nat} {b : UInt8} {r : List UInt8} {ins : Instr} {len : Nat} (h : A.data.toList.drop pc = b :: r) (q : zd_36 r b.toNat = some (ins, len)) : decode A pc = .ok (ins, len) := by
  unfold zd_36 at q
  cases hq : Nat.beq b.toNat 22 with
  | false => rw [hq] at q; cases q
  | true =>
    rw [hq, cond_true] at q
    have hb := Nat.eq_of_beq_eq_true hq
    match r, q, h with
    | x :: r, q, h => cases q; exact dq_22 h hb
    | [], q, _ => cases q
theorem zdk_38 {A : ByteArray} {pc : Nat} {b : UInt8} {r : List UInt8} {ins : Instr} {len : Nat} (h : A.data.toList.drop pc = b :: r) (q : zd_38 r b.toNat = some (ins, len)) : decode A pc = .ok (ins, len) := by
  unfold zd_38 at q
  cases hq : Nat.beq b.toNat 25 with
  | false => rw [hq] at q; cases q
  | true =>
    rw [hq, cond_true] at q
    have hb := Nat.eq_of_beq_eq_true hq
    match r, q, h with
    | x :: r, q, h => cases q; exact dq_25 h hb
    | [], q, _ => cases q
theorem zdk_39 {A : ByteArray} {pc : Nat} {b : UInt8} {r : List UInt8} {ins : Instr} {len : Nat} (h : A.data.toList.drop pc = b :: r) (q : zd_39 r b.toNat = some (ins, len)) : decode A pc = .ok (ins, len) := by
  unfold zd_39 at q
  cases hq : Nat.beq b.toNat 26 with
  | false => rw [hq] at q; cases q
  | true =>
    rw [hq, cond_true] at q
    have hb := Nat.eq_of_beq_eq_true hq
    cases q
    exact dq_26 h hb
theorem zdk_37 {A : ByteArray} {pc : Nat} {b : UInt8} {r : List UInt8} {ins : Instr} {len : Nat} (h : A.data.toList.drop pc = b :: r) (q : zd_37 r b.toNat = some (ins, len)) : decode A pc = .ok (ins, len) := by
  unfold zd_37 at q
  cases hq : Nat.ble b.toNat 25 with
  | true => rw [hq, cond_true] at q; exact zdk_38 h q
  | false => rw [hq, cond_false] at q; exact zdk_39 h q
theorem zdk_35 {A : ByteArray} {pc : Nat} {b : UInt8} {r : List UInt8} {ins : Instr} {len : Nat} (h : A.data.toList.drop pc = b :: r) (q : zd_35 r b.toNat = some (ins, len)) : decode A pc = .ok (ins, len) := by
  unfold zd_35 at q
  cases hq : Nat.ble b.toNat 22 with
  | true => rw [hq, cond_true] at q; exact zdk_36 h q
  | false => rw [hq, cond_false] at q; exact zdk_37 h q
theorem zdk_29 {A : ByteArray} {pc : Nat} {b : UInt8} {r : List UInt8} {ins : Instr} {len : Nat} (h : A.data.toList.drop pc = b :: r) (q : zd_29 r b.toNat = some (ins, len)) : decode A pc = .ok (ins, len) := by
  unfold zd_29 at q
  cases hq : Nat.ble b.toNat 21 with
  | true => rw [hq, cond_true] at q; exact zdk_30 h q
  | false => rw [hq, cond_false] at q; exact zdk_35 h q
theorem zdk_42 {A : ByteArray} {pc : Nat} {b : UInt8} {r : List UInt8} {ins : Instr} {len : Nat} (h : A.data.toList.drop pc = b :: r) (q : zd_42 r b.toNat = some (ins, len)) : decode A pc = .ok (ins, len) := by
  unfold zd_42 at q
  cases hq : Nat.beq b.toNat 27 with
  | false => rw [hq] at q; cases q
  | true =>
    rw [hq, cond_true] at q
    have hb := Nat.eq_of_beq_eq_true hq
    cases q
    exact dq_27 h hb
theorem zdk_44 {A : ByteArray} {pc : Nat} {b : UInt8} {r : List UInt8} {ins : Instr} {len : Nat} (h : A.data.toList.drop pc = b :: r) (q : zd_44 r b.toNat = some (ins, len)) : decode A pc = .ok (ins, len) := by
  unfold zd_44 at q
  cases hq : Nat.beq b.toNat 28 with
  | false => rw [hq] at q; cases q
  | true =>
    rw [hq, cond_true] at q
    have hb := Nat.eq_of_beq_eq_true hq
    cases q
    exact dq_28 h hb
theorem zdk_45 {A : ByteArray} {pc : Nat} {b : UInt8} {r : List UInt8} {ins : Instr} {len : Nat} (h : A.data.toList.drop pc = b :: r) (q : zd_45 r b.toNat = some (ins, len)) : decode A pc = .ok (ins, len) := by
  unfold zd_45 at q
  cases hq : Nat.beq b.toNat 29 with
  | false => rw [hq] at q; cases q
  | true =>
    rw [hq, cond_true] at q
    have hb := Nat.eq_of_beq_eq_true hq
    cases q
    exact dq_29 h hb
theorem zdk_43 {A : ByteArray} {pc : Nat} {b : UInt8} {r : List UInt8} {ins : Instr} {len : Nat} (h : A.data.toList.drop pc = b :: r) (q : zd_43 r b.toNat = some (ins, len)) : decode A pc = .ok (ins, len) := by
  unfold zd_43 at q
  cases hq : Nat.ble b.toNat 28 with
  | true => rw [hq, cond_true] at q; exact zdk_44 h q
  | false => rw [hq, cond_false] at q; exact zdk_45 h q
theorem zdk_41 {A : ByteArray} {pc : Nat} {b : UInt8} {r : List UInt8} {ins : Instr} {len : Nat} (h : A.data.toList.drop pc = b :: r) (q : zd_41 r b.toNat = some (ins, len)) : decode A pc = .ok (ins, len) := by
  unfold zd_41 at q
  cases hq : Nat.ble b.toNat 27 with
  | true => rw [hq, cond_true] at q; exact zdk_42 h q
  | false => rw [hq, cond_false] at q; exact zdk_43 h q
theorem zdk_48 {A : ByteArray} {pc : Nat} {b : UInt8} {r : List UInt8} {ins : Instr} {len : Nat} (h : A.data.toList.drop pc = b :: r) (q : zd_48 r b.toNat = some (ins, len)) : decode A pc = .ok (ins, len) := by
  unfold zd_48 at q
  cases hq : Nat.beq b.toNat 30 with
  | false => rw [hq] at q; cases q
  | true =>
    rw [hq, cond_true] at q
    have hb := Nat.eq_of_beq_eq_true hq
    cases q
    exact dq_30 h hb
theorem zdk_49 {A : ByteArray} {pc : Nat} {b : UInt8} {r : List UInt8} {ins : Instr} {len : Nat} (h : A.data.toList.drop pc = b :: r) (q : zd_49 r b.toNat = some (ins, len)) : decode A pc = .ok (ins, len) := by
  unfold zd_49 at q
  cases hq : Nat.beq b.toNat 31 with
  | false => rw [hq] at q; cases q
  | true =>
    rw [hq, cond_true] at q
    have hb := Nat.eq_of_beq_eq_true hq
    cases q
    exact dq_31 h hb
theorem zdk_47 {A : ByteArray} {pc : Nat} {b : UInt8} {r : List UInt8} {ins : Instr} {len : Nat} (h : A.data.toList.drop pc = b :: r) (q : zd_47 r b.toNat = some (ins, len)) : decode A pc = .ok (ins, len) := by
  unfold zd_47 at q
  cases hq : Nat.ble b.toNat 30 with
  | true => rw [hq, cond_true] at q; exact zdk_48 h q
  | false => rw [hq, cond_false] at q; exact zdk_49 h q
theorem zdk_51 {A : ByteArray} {pc : Nat} {b : UInt8} {r : List UInt8} {ins : Instr} {len : Nat} (h : A.data.toList.drop pc = b :: r) (q : zd_51 r b.toNat = some (ins, len)) : decode A pc = .ok (ins, len) := by
  unfold zd_51 at q
  cases hq : Nat.beq b.toNat 32 with
  | false => rw [hq] at q; cases q
  | true =>
    rw [hq, cond_true] at q
    have hb := Nat.eq_of_beq_eq_true hq
    cases q
    exact dq_32 h hb
theorem zdk_52 {A : ByteArray} {pc : Nat} {b : UInt8} {r : List UInt8} {ins : Instr} {len : Nat} (h : A.data.toList.drop pc = b :: r) (q : zd_52 r b.toNat = some (ins, len)) : decode A pc = .ok (ins, len) := by
  unfold zd_52 at q
  cases hq : Nat.beq b.toNat 33 with
  | false => rw [hq] at q; cases q
  | true =>
    rw [hq, cond_true] at q
    have hb := Nat.eq_of_beq_eq_true hq
    cases q
    exact dq_33 h hb
theorem zdk_50 {A : ByteArray} {pc : Nat} {b : UInt8} {r : List UInt8} {ins : Instr} {len : Nat} (h : A.data.toList.drop pc = b :: r) (q : zd_50 r b.toNat = some (ins, len)) : decode A pc = .ok (ins, len) := by
  unfold zd_50 at q
  cases hq : Nat.ble b.toNat 32 with
  | true => rw [hq, cond_true] at q; exact zdk_51 h q
  | false => rw [hq, cond_false] at q; exact zdk_52 h q
theorem zdk_46 {A : ByteArray} {pc : Nat} {b : UInt8} {r : List UInt8} {ins : Instr} {len : Nat} (h : A.data.toList.drop pc = b :: r) (q : zd_46 r b.toNat = some (ins, len)) : decode A pc = .ok (ins, len) := by
  unfold zd_46 at q
  cases hq : Nat.ble b.toNat 31 with
  | true => rw [hq, cond_true] at q; exact zdk_47 h q
  | false => rw [hq, cond_false] at q; exact zdk_50 h q
theorem zdk_40 {A : ByteArray} {pc : Nat} {b : UInt8} {r : List UInt8} {ins : Instr} {len : Nat} (h : A.data.toList.drop pc = b :: r) (q : zd_40 r b.toNat = some (ins, len)) : decode A pc = .ok (ins, len) := by
  unfold zd_40 at q
  cases hq : Nat.ble b.toNat 29 with
  | true => rw [hq, cond_true] at q; exact zdk_41 h q
  | false => rw [hq, cond_false] at q; exact zdk_46 h q
theorem zdk_28 {A : ByteArray} {pc : Nat} {b : UInt8} {r : List UInt8} {ins : Instr} {len : Nat} (h : A.data.toList.drop pc = b :: r) (q : zd_28 r b.toNat = some (ins, len)) : decode A pc = .ok (ins, len) := by
  unfold zd_28 at q
  cases hq : Nat.ble b.toNat 26 with
  | true => rw [hq, cond_true] at q; exact zdk_29 h q
  | false => rw [hq, cond_false] at q; exact zdk_40 h q
theorem zdk_2 {A : ByteArray} {pc : Nat} {b : UInt8} {r : List UInt8} {ins : Instr} {len : Nat} (h : A.data.toList.drop pc = b :: r) (q : zd_2 r b.toNat = some (ins, len)) : decode A pc = .ok (ins, len) := by
  unfold zd_2 at q
  cases hq : Nat.ble b.toNat 18 with
  | true => rw [hq, cond_true] at q; exact zdk_3 h q
  | false => rw [hq, cond_false] at q; exact zdk_28 h q
theorem zdk_57 {A : ByteArray} {pc : Nat} {b : UInt8} {r : List UInt8} {ins : Instr} {len : Nat} (h : A.data.toList.drop pc = b :: r) (q : zd_57 r b.toNat = some (ins, len)) : decode A pc = .ok (ins, len) := by
  unfold zd_57 at q
  cases hq : Nat.beq b.toNat 42 with
  | false => rw [hq] at q; cases q
  | true =>
    rw [hq, cond_true] at q
    have hb := Nat.eq_of_beq_eq_true hq
    cases q
    exact dq_42 h hb
theorem zdk_59 {A : ByteArray} {pc : Nat} {b : UInt8} {r : List UInt8} {ins : Instr} {len : Nat} (h : A.data.toList.drop pc = b :: r) (q : zd_59 r b.toNat = some (ins, len)) : decode A pc = .ok (ins, len) := by
  unfold zd_59 at q
  cases hq : Nat.beq b.toNat 43 with
  | false => rw [hq] at q; cases q
  | true =>
    rw [hq, cond_true] at q
    have hb := Nat.eq_of_beq_eq_true hq
    cases q
    exact dq_43 h hb
theorem zdk_60 {A : ByteArray} {pc : Nat} {b : UInt8} {r : List UInt8} {ins : Instr} {len : Nat} (h : A.data.toList.drop pc = b :: r) (q : zd_60 r b.toNat = some (ins, len)) : decode A pc = .ok (ins, len) := by
  unfold zd_60 at q
  cases hq : Nat.beq b.toNat 44 with
  | false => rw [hq] at q; cases q
  | true =>
    rw [hq, cond_true] at q
    have hb := Nat.eq_of_beq_eq_true hq
    cases q
    exact dq_44 h hb
theorem zdk_58 {A : ByteArray} {pc : Nat} {b : UInt8} {r : List UInt8} {ins : Instr} {len : Nat} (h : A.data.toList.drop pc = b :: r) (q : zd_58 r b.toNat = some (ins, len)) : decode A pc = .ok (ins, len) := by
  unfold zd_58 at q
  cases hq : Nat.ble b.toNat 43 with
  | true => rw [hq, cond_true] at q; exact zdk_59 h q
  | false => rw [hq, cond_false] at q; exact zdk_60 h q
theorem zdk_56 {A : ByteArray} {pc : Nat} {b : UInt8} {r : List UInt8} {ins : Instr} {len : Nat} (h : A.data.toList.drop pc = b :: r) (q : zd_56 r b.toNat = some (ins, len)) : decode A pc = .ok (ins, len) := by
  unfold zd_56 at q
  cases hq : Nat.ble b.toNat 42 with
  | true => rw [hq, cond_true] at q; exact zdk_57 h q
  | false => rw [hq, cond_false] at q; exact zdk_58 h q
theorem zdk_62 {A : ByteArray} {pc : Nat} {b : UInt8} {r : List UInt8} {ins : Instr} {len : Nat} (h : A.data.toList.drop pc = b :: r) (q : zd_62 r b.toNat = some (ins, len)) : decode A pc = .ok (ins, len) := by
  unfold zd_62 at q
  cases hq : Nat.beq b.toNat 45 with
  | false => rw [hq] at q; cases q
  | true =>
    rw [hq, cond_true] at q
    have hb := Nat.eq_of_beq_eq_true hq
    cases q
    exact dq_45 h hb
theorem zdk_64 {A : ByteArray} {pc : Nat} {b : UInt8} {r : List UInt8} {ins : Instr} {len : Nat} (h : A.data.toList.drop pc = b :: r) (q : zd_64 r b.toNat = some (ins, len)) : decode A pc = .ok (ins, len) := by
  unfold zd_64 at q
  cases hq : Nat.beq b.toNat 46 with
  | false => rw [hq] at q; cases q
  | true =>
    rw [hq, cond_true] at q
    have hb := Nat.eq_of_beq_eq_true hq
    cases q
    exact dq_46 h hb
theorem zdk_65 {A : ByteArray} {pc : Nat} {b : UInt8} {r : List UInt8} {ins : Instr} {len : Nat} (h : A.data.toList.drop pc = b :: r) (q : zd_65 r b.toNat = some (ins, len)) : decode A pc = .ok (ins, len) := by
  unfold zd_65 at q
  cases hq : Nat.beq b.toNat 47 with
  | false => rw [hq] at q; cases q
  | true =>
    rw [hq, cond_true] at q
    have hb := Nat.eq_of_beq_eq_true hq
    cases q
    exact dq_47 h hb
theorem zdk_63 {A : ByteArray} {pc : Nat} {b : UInt8} {r : List UInt8} {ins : Instr} {len : Nat} (h : A.data.toList.drop pc = b :: r) (q : zd_63 r b.toNat = some (ins, len)) : decode A pc = .ok (ins, len) := by
  unfold zd_63 at q
  cases hq : Nat.ble b.toNat 46 with
  | true => rw [hq, cond_true] at q; exact zdk_64 h q
  | false => rw [hq, cond_false] at q; exact zdk_65 h q
theorem zdk_61 {A : ByteArray} {pc : Nat} {b : UInt8} {r : List UInt8} {ins : Instr} {len : Nat} (h : A.data.toList.drop pc = b :: r) (q : zd_61 r b.toNat = some (ins, len)) : decode A pc = .ok (ins, len) := by
  unfold zd_61 at q
  cases hq : Nat.ble b.toNat 45 with
  | true => rw [hq, cond_true] at q; exact zdk_62 h q
  | false => rw [hq, cond_false] at q; exact zdk_63 h q
theorem zdk_55 {A : ByteArray} {pc : Nat} {b : UInt8} {r : List UInt8} {ins : Instr} {len : Nat} (h : A.data.toList.drop pc = b :: r) (q : zd_55 r b.toNat = some (ins, len)) : decode A pc = .ok (ins, len) := by
  unfold zd_55 at q
  cases hq : Nat.ble b.toNat 44 with
  | true => rw [hq, cond_true] at q; exact zdk_56 h q
  | false => rw [hq, cond_false] at q; exact zdk_61 h q
theorem zdk_68 {A : ByteArray} {pc : Nat} {b : UInt8} {r : List UInt8} {ins : Instr} {len : Nat} (h : A.data.toList.drop pc = b :: r) (q : zd_68 r b.toNat = some (ins, len)) : decode A pc = .ok (ins, len) := by
  unfold zd_68 at q
  cases hq : Nat.beq b.toNat 50 with
  | false => rw [hq] at q; cases q
  | true =>
    rw [hq, cond_true] at q
    have hb := Nat.eq_of_beq_eq_true hq
    cases q
    exact dq_50 h hb
theorem zdk_70 {A : ByteArray} {pc : Nat} {b : UInt8} {r : List UInt8} {ins : Instr} {len : Nat} (h : A.data.toList.drop pc = b :: r) (q : zd_70 r b.toNat = some (ins, len)) : decode A pc = .ok (ins, len) := by
  unfold zd_70 at q
  cases hq : Nat.beq b.toNat 51 with
  | false => rw [hq] at q; cases q
  | true =>
    rw [hq, cond_true] at q
    have hb := Nat.eq_of_beq_eq_true hq
    cases q
    exact dq_51 h hb
theorem zdk_71 {A : ByteArray} {pc : Nat} {b : UInt8} {r : List UInt8} {ins : Instr} {len : Nat} (h : A.data.toList.drop pc = b :: r) (q : zd_71 r b.toNat = some (ins, len)) : decode A pc = .ok (ins, len) := by
  unfold zd_71 at q
  cases hq : Nat.beq b.toNat 54 with
  | false => rw [hq] at q; cases q
  | true =>
    rw [hq, cond_true] at q
    have hb := Nat.eq_of_beq_eq_true hq
    match r, q, h with
    | x :: r, q, h => cases q; exact dq_54 h hb
    | [], q, _ => cases q
theorem zdk_69 {A : ByteArray} {pc : Nat} {b : UInt8} {r : List UInt8} {ins : Instr} {len : Nat} (h : A.data.toList.drop pc = b :: r) (q : zd_69 r b.toNat = some (ins, len)) : decode A pc = .ok (ins, len) := by
  unfold zd_69 at q
  cases hq : Nat.ble b.toNat 51 with
  | true => rw [hq, cond_true] at q; exact zdk_70 h q
  | false => rw [hq, cond_false] at q; exact zdk_71 h q
theorem zdk_67 {A : ByteArray} {pc : Nat} {b : UInt8} {r : List UInt8} {ins : Instr} {len : Nat} (h : A.data.toList.drop pc = b :: r) (q : zd_67 r b.toNat = some (ins, len)) : decode A pc = .ok (ins, len) := by
  unfold zd_67 at q
  cases hq : Nat.ble b.toNat 50 with
  | true => rw [hq, cond_true] at q; exact zdk_68 h q
  | false => rw [hq, cond_false] at q; exact zdk_69 h q
theorem zdk_74 {A : ByteArray} {pc : Nat} {b : UInt8} {r : List UInt8} {ins : Instr} {len : Nat} (h : A.data.toList.drop pc = b :: r) (q : zd_74 r b.toNat = some (ins, len)) : decode A pc = .ok (ins, len) := by
  unfold zd_74 at q
  cases hq : Nat.beq b.toNat 55 with
  | false => rw [hq] at q; cases q
  | true =>
    rw [hq, cond_true] at q
    have hb := Nat.eq_of_beq_eq_true hq
    match r, q, h with
    | x :: r, q, h => cases q; exact dq_55 h hb
    | [], q, _ => cases q
theorem zdk_75 {A : ByteArray} {pc : Nat} {b : UInt8} {r : List UInt8} {ins : Instr} {len : Nat} (h : A.data.toList.drop pc = b :: r) (q : zd_75 r b.toNat = some (ins, len)) : decode A pc = .ok (ins, len) := by
  unfold zd_75 at q
  cases hq : Nat.beq b.toNat 58 with
  | false => rw [hq] at q; cases q
  | true =>
    rw [hq, cond_true] at q
    have hb := Nat.eq_of_beq_eq_true hq
    match r, q, h with
    | x :: r, q, h => cases q; exact dq_58 h hb
    | [], q, _ => cases q
theorem zdk_73 {A : ByteArray} {pc : Nat} {b : UInt8} {r : List UInt8} {ins : Instr} {len : Nat} (h : A.data.toList.drop pc = b :: r) (q : zd_73 r b.toNat = some (ins, len)) : decode A pc = .ok (ins, len) := by
  unfold zd_73 at q
  cases hq : Nat.ble b.toNat 55 with
  | true => rw [hq, cond_true] at q; exact zdk_74 h q
  | false => rw [hq, cond_false] at q; exact zdk_75 h q
theorem zdk_77 {A : ByteArray} {pc : Nat} {b : UInt8} {r : List UInt8} {ins : Instr} {len : Nat} (h : A.data.toList.drop pc = b :: r) (q : zd_77 r b.toNat = some (ins, len)) : decode A pc = .ok (ins, len) := by
  unfold zd_77 at q
  cases hq : Nat.beq b.toNat 60 with
  | false => rw [hq] at q; cases q
  | true =>
    rw [hq, cond_true] at q
    have hb := Nat.eq_of_beq_eq_true hq
    cases q
    exact dq_60 h hb
theorem zdk_78 {A : ByteArray} {pc : Nat} {b : UInt8} {r : List UInt8} {ins : Instr} {len : Nat} (h : A.data.toList.drop pc = b :: r) (q : zd_78 r b.toNat = some (ins, len)) : decode A pc = .ok (ins, len) := by
  unfold zd_78 at q
  cases hq : Nat.beq b.toNat 61 with
  | false => rw [hq] at q; cases q
  | true =>
    rw [hq, cond_true] at q
    have hb := Nat.eq_of_beq_eq_true hq
    cases q
    exact dq_61 h hb
theorem zdk_76 {A : ByteArray} {pc : Nat} {b : UInt8} {r : List UInt8} {ins : Instr} {len : Nat} (h : A.data.toList.drop pc = b :: r) (q : zd_76 r b.toNat = some (ins, len)) : decode A pc = .ok (ins, len) := by
  unfold zd_76 at q
  cases hq : Nat.ble b.toNat 60 with
  | true => rw [hq, cond_true] at q; exact zdk_77 h q
  | false => rw [hq, cond_false] at q; exact zdk_78 h q
theorem zdk_72 {A : ByteArray} {pc : Nat} {b : UInt8} {r : List UInt8} {ins : Instr} {len : Nat} (h : A.data.toList.drop pc = b :: r) (q : zd_72 r b.toNat = some (ins, len)) : decode A pc = .ok (ins, len) := by
  unfold zd_72 at q
  cases hq : Nat.ble b.toNat 58 with
  | true => rw [hq, cond_true] at q; exact zdk_73 h q
  | false => rw [hq, cond_false] at q; exact zdk_76 h q
theorem zdk_66 {A : ByteArray} {pc : Nat} {b : UInt8} {r : List UInt8} {ins : Instr} {len : Nat} (h : A.data.toList.drop pc = b :: r) (q : zd_66 r b.toNat = some (ins, len)) : decode A pc = .ok (ins, len) := by
  unfold zd_66 at q
  cases hq : Nat.ble b.toNat 54 with
  | true => rw [hq, cond_true] at q; exact zdk_67 h q
  | false => rw [hq, cond_false] at q; exact zdk_72 h q
theorem zdk_54 {A : ByteArray} {pc : Nat} {b : UInt8} {r : List UInt8} {ins : Instr} {len : Nat} (h : A.data.toList.drop pc = b :: r) (q : zd_54 r b.toNat = some (ins, len)) : decode A pc = .ok (ins, len) := by
  unfold zd_54 at q
  cases hq : Nat.ble b.toNat 47 with
  | true => rw [hq, cond_true] at q; exact zdk_55 h q
  | false => rw [hq, cond_false] at q; exact zdk_66 h q
theorem zdk_82 {A : ByteArray} {pc : Nat} {b : UInt8} {r : List UInt8} {ins : Instr} {len : Nat} (h : A.data.toList.drop pc = b :: r) (q : zd_82 r b.toNat = some (ins, len)) : decode A pc = .ok (ins, len) := by
  unfold zd_82 at q
  cases hq : Nat.beq b.toNat 62 with
  | false => rw [hq] at q; cases q
  | true =>
    rw [hq, cond_true] at q
    have hb := Nat.eq_of_beq_eq_true hq
    cases q
    exact dq_62 h hb
theorem zdk_84 {A : ByteArray} {pc : Nat} {b : UInt8} {r : List UInt8} {ins : Instr} {len : Nat} (h : A.data.toList.drop pc = b :: r) (q : zd_84 r b.toNat = some (ins, len)) : decode A pc = .ok (ins, len) := by
  unfold zd_84 at q
  cases hq : Nat.beq b.toNat 65 with
  | false => rw [hq] at q; cases q
  | true =>
    rw [hq, cond_true] at q
    have hb := Nat.eq_of_beq_eq_true hq
    cases q
    exact dq_65 h hb
theorem zdk_85 {A : ByteArray} {pc : Nat} {b : UInt8} {r : List UInt8} {ins : Instr} {len : Nat} (h : A.data.toList.drop pc = b :: r) (q : zd_85 r b.toNat = some (ins, len)) : decode A pc = .ok (ins, len) := by
  unfold zd_85 at q
  cases hq : Nat.beq b.toNat 76 with
  | false => rw [hq] at q; cases q
  | true =>
    rw [hq, cond_true] at q
    have hb := Nat.eq_of_beq_eq_true hq
    cases q
    exact dq_76 h hb
theorem zdk_83 {A : ByteArray} {pc : Nat} {b : UInt8} {r : List UInt8} {ins : Instr} {len : Nat} (h : A.data.toList.drop pc = b :: r) (q : zd_83 r b.toNat = some (ins, len)) : decode A pc = .ok (ins, len) := by
  unfold zd_83 at q
  cases hq : Nat.ble b.toNat 65 with
  | true => rw [hq, cond_true] at q; exact zdk_84 h q
  | false => rw [hq, cond_false] at q; exact zdk_85 h q
theorem zdk_81 {A : ByteArray} {pc : Nat} {b : UInt8} {r : List UInt8} {ins : Instr} {len : Nat} (h : A.data.toList.drop pc = b :: r) (q : zd_81 r b.toNat = some (ins, len)) : decode A pc = .ok (ins, len) := by
  unfold zd_81 at q
  cases hq : Nat.ble b.toNat 62 with
  | true => rw [hq, cond_true] at q; exact zdk_82 h q
  | false => rw [hq, cond_false] at q; exact zdk_83 h q
theorem zdk_87 {A : ByteArray} {pc : Nat} {b : UInt8} {r : List UInt8} {ins : Instr} {len : Nat} (h : A.data.toList.drop pc = b :: r) (q : zd_87 r b.toNat = some (ins, len)) : decode A pc = .ok (ins, len) := by
  unfold zd_87 at q
  cases hq : Nat.beq b.toNat 77 with
  | false => rw [hq] at q; cases q
  | true =>
    rw [hq, cond_true] at q
    have hb := Nat.eq_of_beq_eq_true hq
    cases q
    exact dq_77 h hb
theorem zdk_89 {A : ByteArray} {pc : Nat} {b : UInt8} {r : List UInt8} {ins : Instr} {len : Nat} (h : A.data.toList.drop pc = b :: r) (q : zd_89 r b.toNat = some (ins, len)) : decode A pc = .ok (ins, len) := by
  unfold zd_89 at q
  cases hq : Nat.beq b.toNat 78 with
  | false => rw [hq] at q; cases q
  | true =>
    rw [hq, cond_true] at q
    have hb := Nat.eq_of_beq_eq_true hq
    cases q
    exact dq_78 h hb
theorem zdk_90 {A : ByteArray} {pc : Nat} {b : UInt8} {r : List UInt8} {ins : Instr} {len : Nat} (h : A.data.toList.drop pc = b :: r) (q : zd_90 r b.toNat = some (ins, len)) : decode A pc = .ok (ins, len) := by
  unfold zd_90 at q
  cases hq : Nat.beq b.toNat 79 with
  | false => rw [hq] at q; cases q
  | true =>
    rw [hq, cond_true] at q
    have hb := Nat.eq_of_beq_eq_true hq
    cases q
    exact dq_79 h hb
theorem zdk_88 {A : ByteArray} {pc : Nat} {b : UInt8} {r : List UInt8} {ins : Instr} {len : Nat} (h : A.data.toList.drop pc = b :: r) (q : zd_88 r b.toNat = some (ins, len)) : decode A pc = .ok (ins, len) := by
  unfold zd_88 at q
  cases hq : Nat.ble b.toNat 78 with
  | true => rw [hq, cond_true] at q; exact zdk_89 h q
  | false => rw [hq, cond_false] at q; exact zdk_90 h q
theorem zdk_86 {A : ByteArray} {pc : Nat} {b : UInt8} {r : List UInt8} {ins : Instr} {len : Nat} (h : A.data.toList.drop pc = b :: r) (q : zd_86 r b.toNat = some (ins, len)) : decode A pc = .ok (ins, len) := by
  unfold zd_86 at q
  cases hq : Nat.ble b.toNat 77 with
  | true => rw [hq, cond_true] at q; exact zdk_87 h q
  | false => rw [hq, cond_false] at q; exact zdk_88 h q
theorem zdk_80 {A : ByteArray} {pc : Nat} {b : UInt8} {r : List UInt8} {ins : Instr} {len : Nat} (h : A.data.toList.drop pc = b :: r) (q : zd_80 r b.toNat = some (ins, len)) : decode A pc = .ok (ins, len) := by
  unfold zd_80 at q
  cases hq : Nat.ble b.toNat 76 with
  | true => rw [hq, cond_true] at q; exact zdk_81 h q
  | false => rw [hq, cond_false] at q; exact zdk_86 h q
theorem zdk_93 {A : ByteArray} {pc : Nat} {b : UInt8} {r : List UInt8} {ins : Instr} {len : Nat} (h : A.data.toList.drop pc = b :: r) (q : zd_93 r b.toNat = some (ins, len)) : decode A pc = .ok (ins, len) := by
  unfold zd_93 at q
  cases hq : Nat.beq b.toNat 80 with
  | false => rw [hq] at q; cases q
  | true =>
    rw [hq, cond_true] at q
    have hb := Nat.eq_of_beq_eq_true hq
    cases q
    exact dq_80 h hb
theorem zdk_95 {A : ByteArray} {pc : Nat} {b : UInt8} {r : List UInt8} {ins : Instr} {len : Nat} (h : A.data.toList.drop pc = b :: r) (q : zd_95 r b.toNat = some (ins, len)) : decode A pc = .ok (ins, len) := by
  unfold zd_95 at q
  cases hq : Nat.beq b.toNat 83 with
  | false => rw [hq] at q; cases q
  | true =>
    rw [hq, cond_true] at q
    have hb := Nat.eq_of_beq_eq_true hq
    cases q
    exact dq_83 h hb
theorem zdk_96 {A : ByteArray} {pc : Nat} {b : UInt8} {r : List UInt8} {ins : Instr} {len : Nat} (h : A.data.toList.drop pc = b :: r) (q : zd_96 r b.toNat = some (ins, len)) : decode A pc = .ok (ins, len) := by
  unfold zd_96 at q
  cases hq : Nat.beq b.toNat 84 with
  | false => rw [hq] at q; cases q
  | true =>
    rw [hq, cond_true] at q
    have hb := Nat.eq_of_beq_eq_true hq
    cases q
    exact dq_84 h hb
theorem zdk_94 {A : ByteArray} {pc : Nat} {b : UInt8} {r : List UInt8} {ins : Instr} {len : Nat} (h : A.data.toList.drop pc = b :: r) (q : zd_94 r b.toNat = some (ins, len)) : decode A pc = .ok (ins, len) := by
  unfold zd_94 at q
  cases hq : Nat.ble b.toNat 83 with
  | true => rw [hq, cond_true] at q; exact zdk_95 h q
  | false => rw [hq, cond_false] at q; exact zdk_96 h q
theorem zdk_92 {A : ByteArray} {pc : Nat} {b : UInt8} {r : List UInt8} {ins : Instr} {len : Nat} (h : A.data.toList.drop pc = b :: r) (q : zd_92 r b.toNat = some (ins, len)) : decode A pc = .ok (ins, len) := by
  unfold zd_92 at q
  cases hq : Nat.ble b.toNat 80 with
  | true => rw [hq, cond_true] at q; exact zdk_93 h q
  | false => rw [hq, cond_false] at q; exact zdk_94 h q
theorem zdk_99 {A : ByteArray} {pc : Nat} {b : UInt8} {r : List UInt8} {ins : Instr} {len : Nat} (h : A.data.toList.drop pc = b :: r) (q : zd_99 r b.toNat = some (ins, len)) : decode A pc = .ok (ins, len) := by
  unfold zd_99 at q
  cases hq : Nat.beq b.toNat 87 with
  | false => rw [hq] at q; cases q
  | true =>
    rw [hq, cond_true] at q
    have hb := Nat.eq_of_beq_eq_true hq
    cases q
    exact dq_87 h hb
theorem zdk_100 {A : ByteArray} {pc : Nat} {b : UInt8} {r : List UInt8} {ins : Instr} {len : Nat} (h : A.data.toList.drop pc = b :: r) (q : zd_100 r b.toNat = some (ins, len)) : decode A pc = .ok (ins, len) := by
  unfold zd_100 at q
  cases hq : Nat.beq b.toNat 88 with
  | false => rw [hq] at q; cases q
  | true =>
    rw [hq, cond_true] at q
    have hb := Nat.eq_of_beq_eq_true hq
    cases q
    exact dq_88 h hb
theorem zdk_98 {A : ByteArray} {pc : Nat} {b : UInt8} {r : List UInt8} {ins : Instr} {len : Nat} (h : A.data.toList.drop pc = b :: r) (q : zd_98 r b.toNat = some (ins, len)) : decode A pc = .ok (ins, len) := by
  unfold zd_98 at q
  cases hq : Nat.ble b.toNat 87 with
  | true => rw [hq, cond_true] at q; exact zdk_99 h q
  | false => rw [hq, cond_false] at q; exact zdk_100 h q
theorem zdk_102 {A : ByteArray} {pc : Nat} {b : UInt8} {r : List UInt8} {ins : Instr} {len : Nat} (h : A.data.toList.drop pc = b :: r) (q : zd_102 r b.toNat = some (ins, len)) : decode A pc = .ok (ins, len) := by
  unfold zd_102 at q
  cases hq : Nat.beq b.toNat 89 with
  | false => rw [hq] at q; cases q
  | true =>
    rw [hq, cond_true] at q
    have hb := Nat.eq_of_beq_eq_true hq
    cases q
    exact dq_89 h hb
theorem zdk_103 {A : ByteArray} {pc : Nat} {b : UInt8} {r : List UInt8} {ins : Instr} {len : Nat} (h : A.data.toList.drop pc = b :: r) (q : zd_103 r b.toNat = some (ins, len)) : decode A pc = .ok (ins, len) := by
  unfold zd_103 at q
  cases hq : Nat.beq b.toNat 90 with
  | false => rw [hq] at q; cases q
  | true =>
    rw [hq, cond_true] at q
    have hb := Nat.eq_of_beq_eq_true hq
    cases q
    exact dq_90 h hb
theorem zdk_101 {A : ByteArray} {pc : Nat} {b : UInt8} {r : List UInt8} {ins : Instr} {len : Nat} (h : A.data.toList.drop pc = b :: r) (q : zd_101 r b.toNat = some (ins, len)) : decode A pc = .ok (ins, len) := by
  unfold zd_101 at q
  cases hq : Nat.ble b.toNat 89 with
  | true => rw [hq, cond_true] at q; exact zdk_102 h q
  | false => rw [hq, cond_false] at q; exact zdk_103 h q
theorem zdk_97 {A : ByteArray} {pc : Nat} {b : UInt8} {r : List UInt8} {ins : Instr} {len : Nat} (h : A.data.toList.drop pc = b :: r) (q : zd_97 r b.toNat = some (ins, len)) : decode A pc = .ok (ins, len) := by
  unfold zd_97 at q
  cases hq : Nat.ble b.toNat 88 with
  | true => rw [hq, cond_true] at q; exact zdk_98 h q
  | false => rw [hq, cond_false] at q; exact zdk_101 h q
theorem zdk_91 {A : ByteArray} {pc : Nat} {b : UInt8} {r : List UInt8} {ins : Instr} {len : Nat} (h : A.data.toList.drop pc = b :: r) (q : zd_91 r b.toNat = some (ins, len)) : decode A pc = .ok (ins, len) := by
  unfold zd_91 at q
  cases hq : Nat.ble b.toNat 84 with
  | true => rw [hq, cond_true] at q; exact zdk_92 h q
  | false => rw [hq, cond_false] at q; exact zdk_97 h q
theorem zdk_79 {A : ByteArray} {pc : Nat} {b : UInt8} {r : List UInt8} {ins : Instr} {len : Nat} (h : A.data.toList.drop pc = b :: r) (q : zd_79 r b.toNat = some (ins, len)) : decode A pc = .ok (ins, len) := by
  unfold zd_79 at q
  cases hq : Nat.ble b.toNat 79 with
  | true => rw [hq, cond_true] at q; exact zdk_80 h q
  | false => rw [hq, cond_false] at q; exact zdk_91 h q
theorem zdk_53 {A : ByteArray} {pc : Nat} {b : UInt8} {r : List UInt8} {ins : Instr} {len : Nat} (h : A.data.toList.drop pc = b :: r) (q : zd_53 r b.toNat = some (ins, len)) : decode A pc = .ok (ins, len) := by
  unfold zd_53 at q
  cases hq : Nat.ble b.toNat 61 with
  | true => rw [hq, cond_true] at q; exact zdk_54 h q
  | false => rw [hq, cond_false] at q; exact zdk_79 h q
theorem zdk_1 {A : ByteArray} {pc : Nat} {b : UInt8} {r : List UInt8} {ins : Instr} {len : Nat} (h : A.data.toList.drop pc = b :: r) (q : zd_1 r b.toNat = some (ins, len)) : decode A pc = .ok (ins, len) := by
  unfold zd_1 at q
  cases hq : Nat.ble b.toNat 33 with
  | true => rw [hq, cond_true] at q; exact zdk_2 h q
  | false => rw [hq, cond_false] at q; exact zdk_53 h q
theorem zdk_109 {A : ByteArray} {pc : Nat} {b : UInt8} {r : List UInt8} {ins : Instr} {len : Nat} (h : A.data.toList.drop pc = b :: r) (q : zd_109 r b.toNat = some (ins, len)) : decode A pc = .ok (ins, len) := by
  unfold zd_109 at q
  cases hq : Nat.beq b.toNat 92 with
  | false => rw [hq] at q; cases q
  | true =>
    rw [hq, cond_true] at q
    have hb := Nat.eq_of_beq_eq_true hq
    cases q
    exact dq_92 h hb
theorem zdk_111 {A : ByteArray} {pc : Nat} {b : UInt8} {r : List UInt8} {ins : Instr} {len : Nat} (h : A.data.toList.drop pc = b :: r) (q : zd_111 r b.toNat = some (ins, len)) : decode A pc = .ok (ins, len) := by
  unfold zd_111 at q
  cases hq : Nat.beq b.toNat 96 with
  | false => rw [hq] at q; cases q
  | true =>
    rw [hq, cond_true] at q
    have hb := Nat.eq_of_beq_eq_true hq
    cases q
    exact dq_96 h hb
theorem zdk_112 {A : ByteArray} {pc : Nat} {b : UInt8} {r : List UInt8} {ins : Instr} {len : Nat} (h : A.data.toList.drop pc = b :: r) (q : zd_112 r b.toNat = some (ins, len)) : decode A pc = .ok (ins, len) := by
  unfold zd_112 at q
  cases hq : Nat.beq b.toNat 97 with
  | false => rw [hq] at q; cases q
  | true =>
    rw [hq, cond_true] at q
    have hb := Nat.eq_of_beq_eq_true hq
    cases q
    exact dq_97 h hb
theorem zdk_110 {A : ByteArray} {pc : Nat} {b : UInt8} {r : List UInt8} {ins : Instr} {len : Nat} (h : A.data.toList.drop pc = b :: r) (q : zd_110 r b.toNat = some (ins, len)) : decode A pc = .ok (ins, len) := by
  unfold zd_110 at q
  cases hq : Nat.ble b.toNat 96 with
  | true => rw [hq, cond_true] at q; exact zdk_111 h q
  | false => rw [hq, cond_false] at q; exact zdk_112 h q
theorem zdk_108 {A : ByteArray} {pc : Nat} {b : UInt8} {r : List UInt8} {ins : Instr} {len : Nat} (h : A.data.toList.drop pc = b :: r) (q : zd_108 r b.toNat = some (ins, len)) : decode A pc = .ok (ins, len) := by
  unfold zd_108 at q
  cases hq : Nat.ble b.toNat 92 with
  | true => rw [hq, cond_true] at q; exact zdk_109 h q
  | false => rw [hq, cond_false] at q; exact zdk_110 h q
theorem zdk_114 {A : ByteArray} {pc : Nat} {b : UInt8} {r : List UInt8} {ins : Instr} {len : Nat} (h : A.data.toList.drop pc = b :: r) (q : zd_114 r b.toNat = some (ins, len)) : decode A pc = .ok (ins, len) := by
  unfold zd_114 at q
  cases hq : Nat.beq b.toNat 100 with
  | false => rw [hq] at q; cases q
  | true =>
    rw [hq, cond_true] at q
    have hb := Nat.eq_of_beq_eq_true hq
    cases q
    exact dq_100 h hb
theorem zdk_116 {A : ByteArray} {pc : Nat} {b : UInt8} {r : List UInt8} {ins : Instr} {len : Nat} (h : A.data.toList.drop pc = b :: r) (q : zd_116 r b.toNat = some (ins, len)) : decode A pc = .ok (ins, len) := by
  unfold zd_116 at q
  cases hq : Nat.beq b.toNat 101 with
  | false => rw [hq] at q; cases q
  | true =>
    rw [hq, cond_true] at q
    have hb := Nat.eq_of_beq_eq_true hq
    cases q
    exact dq_101 h hb
theorem zdk_117 {A : ByteArray} {pc : Nat} {b : UInt8} {r : List UInt8} {ins : Instr} {len : Nat} (h : A.data.toList.drop pc = b :: r) (q : zd_117 r b.toNat = some (ins, len)) : decode A pc = .ok (ins, len) := by
  unfold zd_117 at q
  cases hq : Nat.beq b.toNat 104 with
  | false => rw [hq] at q; cases q
  | true =>
    rw [hq, cond_true] at q
    have hb := Nat.eq_of_beq_eq_true hq
    cases q
    exact dq_104 h hb
theorem zdk_115 {A : ByteArray} {pc : Nat} {b : UInt8} {r : List UInt8} {ins : Instr} {len : Nat} (h : A.data.toList.drop pc = b :: r) (q : zd_115 r b.toNat = some (ins, len)) : decode A pc = .ok (ins, len) := by
  unfold zd_115 at q
  cases hq : Nat.ble b.toNat 101 with
  | true => rw [hq, cond_true] at q; exact zdk_116 h q
  | false => rw [hq, cond_false] at q; exact zdk_117 h q
theorem zdk_113 {A : ByteArray} {pc : Nat} {b : UInt8} {r : List UInt8} {ins : Instr} {len : Nat} (h : A.data.toList.drop pc = b :: r) (q : zd_113 r b.toNat = some (ins, len)) : decode A pc = .ok (ins, len) := by
  unfold zd_113 at q
  cases hq : Nat.ble b.toNat 100 with
  | true => rw [hq, cond_true] at q; exact zdk_114 h q
  | false => rw [hq, cond_false] at q; exact zdk_115 h q
theorem zdk_107 {A : ByteArray} {pc : Nat} {b : UInt8} {r : List UInt8} {ins : Instr} {len : Nat} (h : A.data.toList.drop pc = b :: r) (q : zd_107 r b.toNat = some (ins, len)) : decode A pc = .ok (ins, len) := by
  unfold zd_107 at q
  cases hq : Nat.ble b.toNat 97 with
  | true => rw [hq, cond_true] at q; exact zdk_108 h q
  | false => rw [hq, cond_false] at q; exact zdk_113 h q
theorem zdk_120 {A : ByteArray} {pc : Nat} {b : UInt8} {r : List UInt8} {ins : Instr} {len : Nat} (h : A.data.toList.drop pc = b :: r) (q : zd_120 r b.toNat = some (ins, len)) : decode A pc = .ok (ins, len) := by
  unfold zd_120 at q
  cases hq : Nat.beq b.toNat 105 with
  | false => rw [hq] at q; cases q
  | true =>
    rw [hq, cond_true] at q
    have hb := Nat.eq_of_beq_eq_true hq
    cases q
    exact dq_105 h hb
theorem zdk_122 {A : ByteArray} {pc : Nat} {b : UInt8} {r : List UInt8} {ins : Instr} {len : Nat} (h : A.data.toList.drop pc = b :: r) (q : zd_122 r b.toNat = some (ins, len)) : decode A pc = .ok (ins, len) := by
  unfold zd_122 at q
  cases hq : Nat.beq b.toNat 108 with
  | false => rw [hq] at q; cases q
  | true =>
    rw [hq, cond_true] at q
    have hb := Nat.eq_of_beq_eq_true hq
    cases q
    exact dq_108 h hb
theorem zdk_123 {A : ByteArray} {pc : Nat} {b : UInt8} {r : List UInt8} {ins : Instr} {len : Nat} (h : A.data.toList.drop pc = b :: r) (q : zd_123 r b.toNat = some (ins, len)) : decode A pc = .ok (ins, len) := by
  unfold zd_123 at q
  cases hq : Nat.beq b.toNat 109 with
  | false => rw [hq] at q; cases q
  | true =>
    rw [hq, cond_true] at q
    have hb := Nat.eq_of_beq_eq_true hq
    cases q
    exact dq_109 h hb
theorem zdk_121 {A : ByteArray} {pc : Nat} {b : UInt8} {r : List UInt8} {ins : Instr} {len : Nat} (h : A.data.toList.drop pc = b :: r) (q : zd_121 r b.toNat = some (ins, len)) : decode A pc = .ok (ins, len) := by
  unfold zd_121 at q
  cases hq : Nat.ble b.toNat 108 with
  | true => rw [hq, cond_true] at q; exact zdk_122 h q
  | false => rw [hq, cond_false] at q; exact zdk_123 h q
theorem zdk_119 {A : ByteArray} {pc : Nat} {b : UInt8} {r : List UInt8} {ins : Instr} {len : Nat} (h : A.data.toList.drop pc = b :: r) (q : zd_119 r b.toNat = some (ins, len)) : decode A pc = .ok (ins, len) := by
  unfold zd_119 at q
  cases hq : Nat.ble b.toNat 105 with
  | true => rw [hq, cond_true] at q; exact zdk_120 h q
  | false => rw [hq, cond_false] at q; exact zdk_121 h q
theorem zdk_126 {A : ByteArray} {pc : Nat} {b : UInt8} {r : List UInt8} {ins : Instr} {len : Nat} (h : A.data.toList.drop pc = b :: r) (q : zd_126 r b.toNat = some (ins, len)) : decode A pc = .ok (ins, len) := by
  unfold zd_126 at q
  cases hq : Nat.beq b.toNat 113 with
  | false => rw [hq] at q; cases q
  | true =>
    rw [hq, cond_true] at q
    have hb := Nat.eq_of_beq_eq_true hq
    cases q
    exact dq_113 h hb
theorem zdk_127 {A : ByteArray} {pc : Nat} {b : UInt8} {r : List UInt8} {ins : Instr} {len : Nat} (h : A.data.toList.drop pc = b :: r) (q : zd_127 r b.toNat = some (ins, len)) : decode A pc = .ok (ins, len) := by
  unfold zd_127 at q
  cases hq : Nat.beq b.toNat 117 with
  | false => rw [hq] at q; cases q
  | true =>
    rw [hq, cond_true] at q
    have hb := Nat.eq_of_beq_eq_true hq
    cases q
    exact dq_117 h hb
theorem zdk_125 {A : ByteArray} {pc : Nat} {b : UInt8} {r : List UInt8} {ins : Instr} {len : Nat} (h : A.data.toList.drop pc = b :: r) (q : zd_125 r b.toNat = some (ins, len)) : decode A pc = .ok (ins, len) := by
  unfold zd_125 at q
  cases hq : Nat.ble b.toNat 113 with
  | true => rw [hq, cond_true] at q; exact zdk_126 h q
  | false => rw [hq, cond_false] at q; exact zdk_127 h q
theorem zdk_129 {A : ByteArray} {pc : Nat} {b : UInt8} {r : List UInt8} {ins : Instr} {len : Nat} (h : A.data.toList.drop pc = b :: r) (q : zd_129 r b.toNat = some (ins, len)) : decode A pc = .ok (ins, len) := by
  unfold zd_129 at q
  cases hq : Nat.beq b.toNat 120 with
  | false => rw [hq] at q; cases q
  | true =>
    rw [hq, cond_true] at q
    have hb := Nat.eq_of_beq_eq_true hq
    cases q
    exact dq_120 h hb
theorem zdk_130 {A : ByteArray} {pc : Nat} {b : UInt8} {r : List UInt8} {ins : Instr} {len : Nat} (h : A.data.toList.drop pc = b :: r) (q : zd_130 r b.toNat = some (ins, len)) : decode A pc = .ok (ins, len) := by
  unfold zd_130 at q
  cases hq : Nat.beq b.toNat 121 with
  | false => rw [hq] at q; cases q
  | true =>
    rw [hq, cond_true] at q
    have hb := Nat.eq_of_beq_eq_true hq
    cases q
    exact dq_121 h hb
theorem zdk_128 {A : ByteArray} {pc : Nat} {b : UInt8} {r : List UInt8} {ins : Instr} {len : Nat} (h : A.data.toList.drop pc = b :: r) (q : zd_128 r b.toNat = some (ins, len)) : decode A pc = .ok (ins, len) := by
  unfold zd_128 at q
  cases hq : Nat.ble b.toNat 120 with
  | true => rw [hq, cond_true] at q; exact zdk_129 h q
  | false => rw [hq, cond_false] at q; exact zdk_130 h q
theorem zdk_124 {A : ByteArray} {pc : Nat} {b : UInt8} {r : List UInt8} {ins : Instr} {len : Nat} (h : A.data.toList.drop pc = b :: r) (q : zd_124 r b.toNat = some (ins, len)) : decode A pc = .ok (ins, len) := by
  unfold zd_124 at q
  cases hq : Nat.ble b.toNat 117 with
  | true => rw [hq, cond_true] at q; exact zdk_125 h q
  | false => rw [hq, cond_false] at q; exact zdk_128 h q
theorem zdk_118 {A : ByteArray} {pc : Nat} {b : UInt8} {r : List UInt8} {ins : Instr} {len : Nat} (h : A.data.toList.drop pc = b :: r) (q : zd_118 r b.toNat = some (ins, len)) : decode A pc = .ok (ins, len) := by
  unfold zd_118 at q
  cases hq : Nat.ble b.toNat 109 with
  | true => rw [hq, cond_true] at q; exact zdk_119 h q
  | false => rw [hq, cond_false] at q; exact zdk_124 h q
theorem zdk_106 {A : ByteArray} {pc : Nat} {b : UInt8} {r : List UInt8} {ins : Instr} {len : Nat} (h : A.data.toList.drop pc = b :: r) (q : zd_106 r b.toNat = some (ins, len)) : decode A pc = .ok (ins, len) := by
  unfold zd_106 at q
  cases hq : Nat.ble b.toNat 104 with
  | true => rw [hq, cond_true] at q; exact zdk_107 h q
  | false => rw [hq, cond_false] at q; exact zdk_118 h q
theorem zdk_134 {A : ByteArray} {pc : Nat} {b : UInt8} {r : List UInt8} {ins : Instr} {len : Nat} (h : A.data.toList.drop pc = b :: r) (q : zd_134 r b.toNat = some (ins, len)) : decode A pc = .ok (ins, len) := by
  unfold zd_134 at q
  cases hq : Nat.beq b.toNat 122 with
  | false => rw [hq] at q; cases q
  | true =>
    rw [hq, cond_true] at q
    have hb := Nat.eq_of_beq_eq_true hq
    cases q
    exact dq_122 h hb
theorem zdk_136 {A : ByteArray} {pc : Nat} {b : UInt8} {r : List UInt8} {ins : Instr} {len : Nat} (h : A.data.toList.drop pc = b :: r) (q : zd_136 r b.toNat = some (ins, len)) : decode A pc = .ok (ins, len) := by
  unfold zd_136 at q
  cases hq : Nat.beq b.toNat 123 with
  | false => rw [hq] at q; cases q
  | true =>
    rw [hq, cond_true] at q
    have hb := Nat.eq_of_beq_eq_true hq
    cases q
    exact dq_123 h hb
theorem zdk_137 {A : ByteArray} {pc : Nat} {b : UInt8} {r : List UInt8} {ins : Instr} {len : Nat} (h : A.data.toList.drop pc = b :: r) (q : zd_137 r b.toNat = some (ins, len)) : decode A pc = .ok (ins, len) := by
  unfold zd_137 at q
  cases hq : Nat.beq b.toNat 126 with
  | false => rw [hq] at q; cases q
  | true =>
    rw [hq, cond_true] at q
    have hb := Nat.eq_of_beq_eq_true hq
    cases q
    exact dq_126 h hb
theorem zdk_135 {A : ByteArray} {pc : Nat} {b : UInt8} {r : List UInt8} {ins : Instr} {len : Nat} (h : A.data.toList.drop pc = b :: r) (q : zd_135 r b.toNat = some (ins, len)) : decode A pc = .ok (ins, len) := by
  unfold zd_135 at q
  cases hq : Nat.ble b.toNat 123 with
  | true => rw [hq, cond_true] at q; exact zdk_136 h q
  | false => rw [hq, cond_false] at q; exact zdk_137 h q
theorem zdk_133 {A : ByteArray} {pc : Nat} {b : UInt8} {r : List UInt8} {ins : Instr} {len : Nat} (h : A.data.toList.drop pc = b :: r) (q : zd_133 r b.toNat = some (ins, len)) : decode A pc = .ok (ins, len) := by
  unfold zd_133 at q
  cases hq : Nat.ble b.toNat 122 with
  | true => rw [hq, cond_true] at q; exact zdk_134 h q
  | false => rw [hq, cond_false] at q; exact zdk_135 h q
theorem zdk_139 {A : ByteArray} {pc : Nat} {b : UInt8} {r : List UInt8} {ins : Instr} {len : Nat} (h : A.data.toList.drop pc = b :: r) (q : zd_139 r b.toNat = some (ins, len)) : decode A pc = .ok (ins, len) := by
  unfold zd_139 at q
  cases hq : Nat.beq b.toNat 127 with
  | false => rw [hq] at q; cases q
  | true =>
    rw [hq, cond_true] at q
    have hb := Nat.eq_of_beq_eq_true hq
    cases q
    exact dq_127 h hb
theorem zdk_141 {A : ByteArray} {pc : Nat} {b : UInt8} {r : List UInt8} {ins : Instr} {len : Nat} (h : A.data.toList.drop pc = b :: r) (q : zd_141 r b.toNat = some (ins, len)) : decode A pc = .ok (ins, len) := by
  unfold zd_141 at q
  cases hq : Nat.beq b.toNat 128 with
  | false => rw [hq] at q; cases q
  | true =>
    rw [hq, cond_true] at q
    have hb := Nat.eq_of_beq_eq_true hq
    cases q
    exact dq_128 h hb
theorem zdk_142 {A : ByteArray} {pc : Nat} {b : UInt8} {r : List UInt8} {ins : Instr} {len : Nat} (h : A.data.toList.drop pc = b :: r) (q : zd_142 r b.toNat = some (ins, len)) : decode A pc = .ok (ins, len) := by
  unfold zd_142 at q
  cases hq : Nat.beq b.toNat 129 with
  | false => rw [hq] at q; cases q
  | true =>
    rw [hq, cond_true] at q
    have hb := Nat.eq_of_beq_eq_true hq
    cases q
    exact dq_129 h hb
theorem zdk_140 {A : ByteArray} {pc : Nat} {b : UInt8} {r : List UInt8} {ins : Instr} {len : Nat} (h : A.data.toList.drop pc = b :: r) (q : zd_140 r b.toNat = some (ins, len)) : decode A pc = .ok (ins, len) := by
  unfold zd_140 at q
  cases hq : Nat.ble b.toNat 128 with
  | true => rw [hq, cond_true] at q; exact zdk_141 h q
  | false => rw [hq, cond_false] at q; exact zdk_142 h q
theorem zdk_138 {A : ByteArray} {pc : Nat} {b : UInt8} {r : List UInt8} {ins : Instr} {len : Nat} (h : A.data.toList.drop pc = b :: r) (q : zd_138 r b.toNat = some (ins, len)) : decode A pc = .ok (ins, len) := by
  unfold zd_138 at q
  cases hq : Nat.ble b.toNat 127 with
  | true => rw [hq, cond_true] at q; exact zdk_139 h q
  | false => rw [hq, cond_false] at q; exact zdk_140 h q
theorem zdk_132 {A : ByteArray} {pc : Nat} {b : UInt8} {r : List UInt8} {ins : Instr} {len : Nat} (h : A.data.toList.drop pc = b :: r) (q : zd_132 r b.toNat = some (ins, len)) : decode A pc = .ok (ins, len) := by
  unfold zd_132 at q
  cases hq : Nat.ble b.toNat 126 with
  | true => rw [hq, cond_true] at q; exact zdk_133 h q
  | false => rw [hq, cond_false] at q; exact zdk_138 h q
theorem zdk_145 {A : ByteArray} {pc : Nat} {b : UInt8} {r : List UInt8} {ins : Instr} {len : Nat} (h : A.data.toList.drop pc = b :: r) (q : zd_145 r b.toNat = some (ins, len)) : decode A pc = .ok (ins, len) := by
  unfold zd_145 at q
  cases hq : Nat.beq b.toNat 131 with
  | false => rw [hq] at q; cases q
  | true =>
    rw [hq, cond_true] at q
    have hb := Nat.eq_of_beq_eq_true hq
    cases q
    exact dq_131 h hb
theorem zdk_147 {A : ByteArray} {pc : Nat} {b : UInt8} {r : List UInt8} {ins : Instr} {len : Nat} (h : A.data.toList.drop pc = b :: r) (q : zd_147 r b.toNat = some (ins, len)) : decode A pc = .ok (ins, len) := by
  unfold zd_147 at q
  cases hq : Nat.beq b.toNat 132 with
  | false => rw [hq] at q; cases q
  | true =>
    rw [hq, cond_true] at q
    have hb := Nat.eq_of_beq_eq_true hq
    match r, q, h with
    | x :: y :: r, q, h => cases q; exact dq_132 h hb
    | [_], q, _ => cases q
    | [], q, _ => cases q
theorem zdk_148 {A : ByteArray} {pc : Nat} {b : UInt8} {r : List UInt8} {ins : Instr} {len : Nat} (h : A.data.toList.drop pc = b :: r) (q : zd_148 r b.toNat = some (ins, len)) : decode A pc = .ok (ins, len) := by
  unfold zd_148 at q
  cases hq : Nat.beq b.toNat 133 with
  | false => rw [hq] at q; cases q
  | true =>
    rw [hq, cond_true] at q
    have hb := Nat.eq_of_beq_eq_true hq
    cases q
    exact dq_133 h hb
theorem zdk_146 {A : ByteArray} {pc : Nat} {b : UInt8} {r : List UInt8} {ins : Instr} {len : Nat} (h : A.data.toList.drop pc = b :: r) (q : zd_146 r b.toNat = some (ins, len)) : decode A pc = .ok (ins, len) := by
  unfold zd_146 at q
  cases hq : Nat.ble b.toNat 132 with
  | true => rw [hq, cond_true] at q; exact zdk_147 h q
  | false => rw [hq, cond_false] at q; exact zdk_148 h q
theorem zdk_144 {A : ByteArray} {pc : Nat} {b : UInt8} {r : List UInt8} {ins : Instr} {len : Nat} (h : A.data.toList.drop pc = b :: r) (q : zd_144 r b.toNat = some (ins, len)) : decode A pc = .ok (ins, len) := by
  unfold zd_144 at q
  cases hq : Nat.ble b.toNat 131 with
  | true => rw [hq, cond_true] at q; exact zdk_145 h q
  | false => rw [hq, cond_false] at q; exact zdk_146 h q
theorem zdk_151 {A : ByteArray} {pc : Nat} {b : UInt8} {r : List UInt8} {ins : Instr} {len : Nat} (h : A.data.toList.drop pc = b :: r) (q : zd_151 r b.toNat = some (ins, len)) : decode A pc = .ok (ins, len) := by
  unfold zd_151 at q
  cases hq : Nat.beq b.toNat 136 with
  | false => rw [hq] at q; cases q
  | true =>
    rw [hq, cond_true] at q
    have hb := Nat.eq_of_beq_eq_true hq
    cases q
    exact dq_136 h hb
theorem zdk_152 {A : ByteArray} {pc : Nat} {b : UInt8} {r : List UInt8} {ins : Instr} {len : Nat} (h : A.data.toList.drop pc = b :: r) (q : zd_152 r b.toNat = some (ins, len)) : decode A pc = .ok (ins, len) := by
  unfold zd_152 at q
  cases hq : Nat.beq b.toNat 145 with
  | false => rw [hq] at q; cases q
  | true =>
    rw [hq, cond_true] at q
    have hb := Nat.eq_of_beq_eq_true hq
    cases q
    exact dq_145 h hb
theorem zdk_150 {A : ByteArray} {pc : Nat} {b : UInt8} {r : List UInt8} {ins : Instr} {len : Nat} (h : A.data.toList.drop pc = b :: r) (q : zd_150 r b.toNat = some (ins, len)) : decode A pc = .ok (ins, len) := by
  unfold zd_150 at q
  cases hq : Nat.ble b.toNat 136 with
  | true => rw [hq, cond_true] at q; exact zdk_151 h q
  | false => rw [hq, cond_false] at q; exact zdk_152 h q
theorem zdk_154 {A : ByteArray} {pc : Nat} {b : UInt8} {r : List UInt8} {ins : Instr} {len : Nat} (h : A.data.toList.drop pc = b :: r) (q : zd_154 r b.toNat = some (ins, len)) : decode A pc = .ok (ins, len) := by
  unfold zd_154 at q
  cases hq : Nat.beq b.toNat 148 with
  | false => rw [hq] at q; cases q
  | true =>
    rw [hq, cond_true] at q
    have hb := Nat.eq_of_beq_eq_true hq
    cases q
    exact dq_148 h hb
theorem zdk_155 {A : ByteArray} {pc : Nat} {b : UInt8} {r : List UInt8} {ins : Instr} {len : Nat} (h : A.data.toList.drop pc = b :: r) (q : zd_155 r b.toNat = some (ins, len)) : decode A pc = .ok (ins, len) := by
  unfold zd_155 at q
  cases hq : Nat.beq b.toNat 153 with
  | false => rw [hq] at q; cases q
  | true =>
    rw [hq, cond_true] at q
    have hb := Nat.eq_of_beq_eq_true hq
    match r, q, h with
    | x :: y :: r, q, h => cases q; exact dq_153 h hb
    | [_], q, _ => cases q
    | [], q, _ => cases q
theorem zdk_153 {A : ByteArray} {pc : Nat} {b : UInt8} {r : List UInt8} {ins : Instr} {len : Nat} (h : A.data.toList.drop pc = b :: r) (q : zd_153 r b.toNat = some (ins, len)) : decode A pc = .ok (ins, len) := by
  unfold zd_153 at q
  cases hq : Nat.ble b.toNat 148 with
  | true => rw [hq, cond_true] at q; exact zdk_154 h q
  | false => rw [hq, cond_false] at q; exact zdk_155 h q
theorem zdk_149 {A : ByteArray} {pc : Nat} {b : UInt8} {r : List UInt8} {ins : Instr} {len : Nat} (h : A.data.toList.drop pc = b :: r) (q : zd_149 r b.toNat = some (ins, len)) : decode A pc = .ok (ins, len) := by
  unfold zd_149 at q
  cases hq : Nat.ble b.toNat 145 with
  | true => rw [hq, cond_true] at q; exact zdk_150 h q
  | false => rw [hq, cond_false] at q; exact zdk_153 h q
theorem zdk_143 {A : ByteArray} {pc : Nat} {b : UInt8} {r : List UInt8} {ins : Instr} {len : Nat} (h : A.data.toList.drop pc = b :: r) (q : zd_143 r b.toNat = some (ins, len)) : decode A pc = .ok (ins, len) := by
  unfold zd_143 at q
  cases hq : Nat.ble b.toNat 133 with
  | true => rw [hq, cond_true] at q; exact zdk_144 h q
  | false => rw [hq, cond_false] at q; exact zdk_149 h q
theorem zdk_131 {A : ByteArray} {pc : Nat} {b : UInt8} {r : List UInt8} {ins : Instr} {len : Nat} (h : A.data.toList.drop pc = b :: r) (q : zd_131 r b.toNat = some (ins, len)) : decode A pc = .ok (ins, len) := by
  unfold zd_131 at q
  cases hq : Nat.ble b.toNat 129 with
  | true => rw [hq, cond_true] at q; exact zdk_132 h q
  | false => rw [hq, cond_false] at q; exact zdk_143 h q
theorem zdk_105 {A : ByteArray} {pc : Nat} {b : UInt8} {r : List UInt8} {ins : Instr} {len : Nat} (h : A.data.toList.drop pc = b :: r) (q : zd_105 r b.toNat = some (ins, len)) : decode A pc = .ok (ins, len) := by
  unfold zd_105 at q
  cases hq : Nat.ble b.toNat 121 with
  | true => rw [hq, cond_true] at q; exact zdk_106 h q
  | false => rw [hq, cond_false] at q; exact zdk_131 h q
theorem zdk_160 {A : ByteArray} {pc : Nat} {b : UInt8} {r : List UInt8} {ins : Instr} {len : Nat} (h : A.data.toList.drop pc = b :: r) (q : zd_160 r b.toNat = some (ins, len)) : decode A pc = .ok (ins, len) := by
  unfold zd_160 at q
  cases hq : Nat.beq b.toNat 154 with
  | false => rw [hq] at q; cases q
  | true =>
    rw [hq, cond_true] at q
    have hb := Nat.eq_of_beq_eq_true hq
    match r, q, h with
    | x :: y :: r, q, h => cases q; exact dq_154 h hb
    | [_], q, _ => cases q
    | [], q, _ => cases q
theorem zdk_162 {A : ByteArray} {pc : Nat} {b : UInt8} {r : List UInt8} {ins : Instr} {len : Nat} (h : A.data.toList.drop pc = b :: r) (q : zd_162 r b.toNat = some (ins, len)) : decode A pc = .ok (ins, len) := by
  unfold zd_162 at q
  cases hq : Nat.beq b.toNat 155 with
  | false => rw [hq] at q; cases q
  | true =>
    rw [hq, cond_true] at q
    have hb := Nat.eq_of_beq_eq_true hq
    match r, q, h with
    | x :: y :: r, q, h => cases q; exact dq_155 h hb
    | [_], q, _ => cases q
    | [], q, _ => cases q
theorem zdk_163 {A : ByteArray} {pc : Nat} {b : UInt8} {r : List UInt8} {ins : Instr} {len : Nat} (h : A.data.toList.drop pc = b :: r) (q : zd_163 r b.toNat = some (ins, len)) : decode A pc = .ok (ins, len) := by
  unfold zd_163 at q
  cases hq : Nat.beq b.toNat 156 with
  | false => rw [hq] at q; cases q
  | true =>
    rw [hq, cond_true] at q
    have hb := Nat.eq_of_beq_eq_true hq
    match r, q, h with
    | x :: y :: r, q, h => cases q; exact dq_156 h hb
    | [_], q, _ => cases q
    | [], q, _ => cases q
theorem zdk_161 {A : ByteArray} {pc : Nat} {b : UInt8} {r : List UInt8} {ins : Instr} {len : Nat} (h : A.data.toList.drop pc = b :: r) (q : zd_161 r b.toNat = some (ins, len)) : decode A pc = .ok (ins, len) := by
  unfold zd_161 at q
  cases hq : Nat.ble b.toNat 155 with
  | true => rw [hq, cond_true] at q; exact zdk_162 h q
  | false => rw [hq, cond_false] at q; exact zdk_163 h q
theorem zdk_159 {A : ByteArray} {pc : Nat} {b : UInt8} {r : List UInt8} {ins : Instr} {len : Nat} (h : A.data.toList.drop pc = b :: r) (q : zd_159 r b.toNat = some (ins, len)) : decode A pc = .ok (ins, len) := by
  unfold zd_159 at q
  cases hq : Nat.ble b.toNat 154 with
  | true => rw [hq, cond_true] at q; exact zdk_160 h q
  | false => rw [hq, cond_false] at q; exact zdk_161 h q
theorem zdk_165 {A : ByteArray} {pc : Nat} {b : UInt8} {r : List UInt8} {ins : Instr} {len : Nat} (h : A.data.toList.drop pc = b :: r) (q : zd_165 r b.toNat = some (ins, len)) : decode A pc = .ok (ins, len) := by
  unfold zd_165 at q
  cases hq : Nat.beq b.toNat 157 with
  | false => rw [hq] at q; cases q
  | true =>
    rw [hq, cond_true] at q
    have hb := Nat.eq_of_beq_eq_true hq
    match r, q, h with
    | x :: y :: r, q, h => cases q; exact dq_157 h hb
    | [_], q, _ => cases q
    | [], q, _ => cases q
theorem zdk_167 {A : ByteArray} {pc : Nat} {b : UInt8} {r : List UInt8} {ins : Instr} {len : Nat} (h : A.data.toList.drop pc = b :: r) (q : zd_167 r b.toNat = some (ins, len)) : decode A pc = .ok (ins, len) := by
  unfold zd_167 at q
  cases hq : Nat.beq b.toNat 158 with
  | false => rw [hq] at q; cases q
  | true =>
    rw [hq, cond_true] at q
    have hb := Nat.eq_of_beq_eq_true hq
    match r, q, h with
    | x :: y :: r, q, h => cases q; exact dq_158 h hb
    | [_], q, _ => cases q
    | [], q, _ => cases q
theorem zdk_168 {A : ByteArray} {pc : Nat} {b : UInt8} {r : List UInt8} {ins : Instr} {len : Nat} (h : A.data.toList.drop pc = b :: r) (q : zd_168 r b.toNat = some (ins, len)) : decode A pc = .ok (ins, len) := by
  unfold zd_168 at q
  cases hq : Nat.beq b.toNat 159 with
  | false => rw [hq] at q; cases q
  | true =>
    rw [hq, cond_true] at q
    have hb := Nat.eq_of_beq_eq_true hq
    match r, q, h with
    | x :: y :: r, q, h => cases q; exact dq_159 h hb
    | [_], q, _ => cases q
    | [], q, _ => cases q
theorem zdk_166 {A : ByteArray} {pc : Nat} {b : UInt8} {r : List UInt8} {ins : Instr} {len : Nat} (h : A.data.toList.drop pc = b :: r) (q : zd_166 r b.toNat = some (ins, len)) : decode A pc = .ok (ins, len) := by
  unfold zd_166 at q
  cases hq : Nat.ble b.toNat 158 with
  | true => rw [hq, cond_true] at q; exact zdk_167 h q
  | false => rw [hq, cond_false] at q; exact zdk_168 h q
theorem zdk_164 {A : ByteArray} {pc : Nat} {b : UInt8} {r : List UInt8} {ins : Instr} {len : Nat} (h : A.data.toList.drop pc = b :: r) (q : zd_164 r b.toNat = some (ins, len)) : decode A pc = .ok (ins, len) := by
  unfold zd_164 at q
  cases hq : Nat.ble b.toNat 157 with
  | true => rw [hq, cond_true] at q; exact zdk_165 h q
  | false => rw [hq, cond_false] at q; exact zdk_166 h q
theorem zdk_158 {A : ByteArray} {pc : Nat} {b : UInt8} {r : List UInt8} {ins : Instr} {len : Nat} (h : A.data.toList.drop pc = b :: r) (q : zd_158 r b.toNat = some (ins, len)) : decode A pc = .ok (ins, len) := by
  unfold zd_158 at q
  cases hq : Nat.ble b.toNat 156 with
  | true => rw [hq, cond_true] at q; exact zdk_159 h q
  | false => rw [hq, cond_false] at q; exact zdk_164 h q
theorem zdk_171 {A : ByteArray} {pc : Nat} {b : UInt8} {r : List UInt8} {ins : Instr} {len : Nat} (h : A.data.toList.drop pc = b :: r) (q : zd_171 r b.toNat = some (ins, len)) : decode A pc = .ok (ins, len) := by
  unfold zd_171 at q
  cases hq : Nat.beq b.toNat 160 with
  | false => rw [hq] at q; cases q
  | true =>
    rw [hq, cond_true] at q
    have hb := Nat.eq_of_beq_eq_true hq
    match r, q, h with
    | x :: y :: r, q, h => cases q; exact dq_160 h hb
    | [_], q, _ => cases q
    | [], q, _ => cases q
theorem zdk_173 {A : ByteArray} {pc : Nat} {b : UInt8} {r : List UInt8} {ins : Instr} {len : Nat} (h : A.data.toList.drop pc = b :: r) (q : zd_173 r b.toNat = some (ins, len)) : decode A pc = .ok (ins, len) := by
  unfold zd_173 at q
  cases hq : Nat.beq b.toNat 161 with
  | false => rw [hq] at q; cases q
  | true =>
    rw [hq, cond_true] at q
    have hb := Nat.eq_of_beq_eq_true hq
    match r, q, h with
    | x :: y :: r, q, h => cases q; exact dq_161 h hb
    | [_], q, _ => cases q
    | [], q, _ => cases q
theorem zdk_174 {A : ByteArray} {pc : Nat} {b : UInt8} {r : List UInt8} {ins : Instr} {len : Nat} (h : A.data.toList.drop pc = b :: r) (q : zd_174 r b.toNat = some (ins, len)) : decode A pc = .ok (ins, len) := by
  unfold zd_174 at q
  cases hq : Nat.beq b.toNat 162 with
  | false => rw [hq] at q; cases q
  | true =>
    rw [hq, cond_true] at q
    have hb := Nat.eq_of_beq_eq_true hq
    match r, q, h with
    | x :: y :: r, q, h => cases q; exact dq_162 h hb
    | [_], q, _ => cases q
    | [], q, _ => cases q
theorem zdk_172 {A : ByteArray} {pc : Nat} {b : UInt8} {r : List UInt8} {ins : Instr} {len : Nat} (h : A.data.toList.drop pc = b :: r) (q : zd_172 r b.toNat = some (ins, len)) : decode A pc = .ok (ins, len) := by
  unfold zd_172 at q
  cases hq : Nat.ble b.toNat 161 with
  | true => rw [hq, cond_true] at q; exact zdk_173 h q
  | false => rw [hq, cond_false] at q; exact zdk_174 h q
theorem zdk_170 {A : ByteArray} {pc : Nat} {b : UInt8} {r : List UInt8} {ins : Instr} {len : Nat} (h : A.data.toList.drop pc = b :: r) (q : zd_170 r b.toNat = some (ins, len)) : decode A pc = .ok (ins, len) := by
  unfold zd_170 at q
  cases hq : Nat.ble b.toNat 160 with
  | true => rw [hq, cond_true] at q; exact zdk_171 h q
  | false => rw [hq, cond_false] at q; exact zdk_172 h q
theorem zdk_177 {A : ByteArray} {pc : Nat} {b : UInt8} {r : List UInt8} {ins : Instr} {len : Nat} (h : A.data.toList.drop pc = b :: r) (q : zd_177 r b.toNat = some (ins, len)) : decode A pc = .ok (ins, len) := by
  unfold zd_177 at q
  cases hq : Nat.beq b.toNat 163 with
  | false => rw [hq] at q; cases q
  | true =>
    rw [hq, cond_true] at q
    have hb := Nat.eq_of_beq_eq_true hq
    match r, q, h with
    | x :: y :: r, q, h => cases q; exact dq_163 h hb
    | [_], q, _ => cases q
    | [], q, _ => cases q
theorem zdk_178 {A : ByteArray} {pc : Nat} {b : UInt8} {r : List UInt8} {ins : Instr} {len : Nat} (h : A.data.toList.drop pc = b :: r) (q : zd_178 r b.toNat = some (ins, len)) : decode A pc = .ok (ins, len) := by
  unfold zd_178 at q
  cases hq : Nat.beq b.toNat 164 with
  | false => rw [hq] at q; cases q
  | true =>
    rw [hq, cond_true] at q
    have hb := Nat.eq_of_beq_eq_true hq
    match r, q, h with
    | x :: y :: r, q, h => cases q; exact dq_164 h hb
    | [_], q, _ => cases q
    | [], q, _ => cases q
theorem zdk_176 {A : ByteArray} {pc : Nat} {b : UInt8} {r : List UInt8} {ins : Instr} {len : Nat} (h : A.data.toList.drop pc = b :: r) (q : zd_176 r b.toNat = some (ins, len)) : decode A pc = .ok (ins, len) := by
  unfold zd_176 at q
  cases hq : Nat.ble b.toNat 163 with
  | true => rw [hq, cond_true] at q; exact zdk_177 h q
  | false => rw [hq, cond_false] at q; exact zdk_178 h q
theorem zdk_180 {A : ByteArray} {pc : Nat} {b : UInt8} {r : List UInt8} {ins : Instr} {len : Nat} (h : A.data.toList.drop pc = b :: r) (q : zd_180 r b.toNat = some (ins, len)) : decode A pc = .ok (ins, len) := by
  unfold zd_180 at q
  cases hq : Nat.beq b.toNat 167 with
  | false => rw [hq] at q; cases q
  | true =>
    rw [hq, cond_true] at q
    have hb := Nat.eq_of_beq_eq_true hq
    match r, q, h with
    | x :: y :: r, q, h => cases q; exact dq_167 h hb
    | [_], q, _ => cases q
    | [], q, _ => cases q
theorem zdk_181 {A : ByteArray} {pc : Nat} {b : UInt8} {r : List UInt8} {ins : Instr} {len : Nat} (h : A.data.toList.drop pc = b :: r) (q : zd_181 r b.toNat = some (ins, len)) : decode A pc = .ok (ins, len) := by
  unfold zd_181 at q
  cases hq : Nat.beq b.toNat 172 with
  | false => rw [hq] at q; cases q
  | true =>
    rw [hq, cond_true] at q
    have hb := Nat.eq_of_beq_eq_true hq
    cases q
    exact dq_172 h hb
theorem zdk_179 {A : ByteArray} {pc : Nat} {b : UInt8} {r : List UInt8} {ins : Instr} {len : Nat} (h : A.data.toList.drop pc = b :: r) (q : zd_179 r b.toNat = some (ins, len)) : decode A pc = .ok (ins, len) := by
  unfold zd_179 at q
  cases hq : Nat.ble b.toNat 167 with
  | true => rw [hq, cond_true] at q; exact zdk_180 h q
  | false => rw [hq, cond_false] at q; exact zdk_181 h q
theorem zdk_175 {A : ByteArray} {pc : Nat} {b : UInt8} {r : List UInt8} {ins : Instr} {len : Nat} (h : A.data.toList.drop pc = b :: r) (q : zd_175 r b.toNat = some (ins, len)) : decode A pc = .ok (ins, len) := by
  unfold zd_175 at q
  cases hq : Nat.ble b.toNat 164 with
  | true => rw [hq, cond_true] at q; exact zdk_176 h q
  | false => rw [hq, cond_false] at q; exact zdk_179 h q
theorem zdk_169 {A : ByteArray} {pc : Nat} {b : UInt8} {r : List UInt8} {ins : Instr} {len : Nat} (h : A.data.toList.drop pc = b :: r) (q : zd_169 r b.toNat = some (ins, len)) : decode A pc = .ok (ins, len) := by
  unfold zd_169 at q
  cases hq : Nat.ble b.toNat 162 with
  | true => rw [hq, cond_true] at q; exact zdk_170 h q
  | false => rw [hq, cond_false] at q; exact zdk_175 h q
theorem zdk_157 {A : ByteArray} {pc : Nat} {b : UInt8} {r : List UInt8} {ins : Instr} {len : Nat} (h : A.data.toList.drop pc = b :: r) (q : zd_157 r b.toNat = some (ins, len)) : decode A pc = .ok (ins, len) := by
  unfold zd_157 at q
  cases hq : Nat.ble b.toNat 159 with
  | true => rw [hq, cond_true] at q; exact zdk_158 h q
  | false => rw [hq, cond_false] at q; exact zdk_169 h q
theorem zdk_185 {A : ByteArray} {pc : Nat} {b : UInt8} {r : List UInt8} {ins : Instr} {len : Nat} (h : A.data.toList.drop pc = b :: r) (q : zd_185 r b.toNat = some (ins, len)) : decode A pc = .ok (ins, len) := by
  unfold zd_185 at q
  cases hq : Nat.beq b.toNat 173 with
  | false => rw [hq] at q; cases q
  | true =>
    rw [hq, cond_true] at q
    have hb := Nat.eq_of_beq_eq_true hq
    cases q
    exact dq_173 h hb
theorem zdk_187 {A : ByteArray} {pc : Nat} {b : UInt8} {r : List UInt8} {ins : Instr} {len : Nat} (h : A.data.toList.drop pc = b :: r) (q : zd_187 r b.toNat = some (ins, len)) : decode A pc = .ok (ins, len) := by
  unfold zd_187 at q
  cases hq : Nat.beq b.toNat 176 with
  | false => rw [hq] at q; cases q
  | true =>
    rw [hq, cond_true] at q
    have hb := Nat.eq_of_beq_eq_true hq
    cases q
    exact dq_176 h hb
theorem zdk_188 {A : ByteArray} {pc : Nat} {b : UInt8} {r : List UInt8} {ins : Instr} {len : Nat} (h : A.data.toList.drop pc = b :: r) (q : zd_188 r b.toNat = some (ins, len)) : decode A pc = .ok (ins, len) := by
  unfold zd_188 at q
  cases hq : Nat.beq b.toNat 177 with
  | false => rw [hq] at q; cases q
  | true =>
    rw [hq, cond_true] at q
    have hb := Nat.eq_of_beq_eq_true hq
    cases q
    exact dq_177 h hb
theorem zdk_186 {A : ByteArray} {pc : Nat} {b : UInt8} {r : List UInt8} {ins : Instr} {len : Nat} (h : A.data.toList.drop pc = b :: r) (q : zd_186 r b.toNat = some (ins, len)) : decode A pc = .ok (ins, len) := by
  unfold zd_186 at q
  cases hq : Nat.ble b.toNat 176 with
  | true => rw [hq, cond_true] at q; exact zdk_187 h q
  | false => rw [hq, cond_false] at q; exact zdk_188 h q
theorem zdk_184 {A : ByteArray} {pc : Nat} {b : UInt8} {r : List UInt8} {ins : Instr} {len : Nat} (h : A.data.toList.drop pc = b :: r) (q : zd_184 r b.toNat = some (ins, len)) : decode A pc = .ok (ins, len) := by
  unfold zd_184 at q
  cases hq : Nat.ble b.toNat 173 with
  | true => rw [hq, cond_true] at q; exact zdk_185 h q
  | false => rw [hq, cond_false] at q; exact zdk_186 h q
theorem zdk_191 {A : ByteArray} {pc : Nat} {b : UInt8} {r : List UInt8} {ins : Instr} {len : Nat} (h : A.data.toList.drop pc = b :: r) (q : zd_191 r b.toNat = some (ins, len)) : decode A pc = .ok (ins, len) := by
  unfold zd_191 at q
  cases hq : Nat.beq b.toNat 180 with
  | false => rw [hq] at q; cases q
  | true =>
    rw [hq, cond_true] at q
    have hb := Nat.eq_of_beq_eq_true hq
    match r, q, h with
    | x :: y :: r, q, h => cases q; exact dq_180 h hb
    | [_], q, _ => cases q
    | [], q, _ => cases q
theorem zdk_192 {A : ByteArray} {pc : Nat} {b : UInt8} {r : List UInt8} {ins : Instr} {len : Nat} (h : A.data.toList.drop pc = b :: r) (q : zd_192 r b.toNat = some (ins, len)) : decode A pc = .ok (ins, len) := by
  unfold zd_192 at q
  cases hq : Nat.beq b.toNat 181 with
  | false => rw [hq] at q; cases q
  | true =>
    rw [hq, cond_true] at q
    have hb := Nat.eq_of_beq_eq_true hq
    match r, q, h with
    | x :: y :: r, q, h => cases q; exact dq_181 h hb
    | [_], q, _ => cases q
    | [], q, _ => cases q
theorem zdk_190 {A : ByteArray} {pc : Nat} {b : UInt8} {r : List UInt8} {ins : Instr} {len : Nat} (h : A.data.toList.drop pc = b :: r) (q : zd_190 r b.toNat = some (ins, len)) : decode A pc = .ok (ins, len) := by
  unfold zd_190 at q
  cases hq : Nat.ble b.toNat 180 with
  | true => rw [hq, cond_true] at q; exact zdk_191 h q
  | false => rw [hq, cond_false] at q; exact zdk_192 h q
theorem zdk_194 {A : ByteArray} {pc : Nat} {b : UInt8} {r : List UInt8} {ins : Instr} {len : Nat} (h : A.data.toList.drop pc = b :: r) (q : zd_194 r b.toNat = some (ins, len)) : decode A pc = .ok (ins, len) := by
  unfold zd_194 at q
  cases hq : Nat.beq b.toNat 182 with
  | false => rw [hq] at q; cases q
  | true =>
    rw [hq, cond_true] at q
    have hb := Nat.eq_of_beq_eq_true hq
    match r, q, h with
    | x :: y :: r, q, h => cases q; exact dq_182 h hb
    | [_], q, _ => cases q
    | [], q, _ => cases q
theorem zdk_195 {A : ByteArray} {pc : Nat} {b : UInt8} {r : List UInt8} {ins : Instr} {len : Nat} (h : A.data.toList.drop pc = b :: r) (q : zd_195 r b.toNat = some (ins, len)) : decode A pc = .ok (ins, len) := by
  unfold zd_195 at q
  cases hq : Nat.beq b.toNat 183 with
  | false => rw [hq] at q; cases q
  | true =>
    rw [hq, cond_true] at q
    have hb := Nat.eq_of_beq_eq_true hq
    match r, q, h with
    | x :: y :: r, q, h => cases q; exact dq_183 h hb
    | [_], q, _ => cases q
    | [], q, _ => cases q
theorem zdk_193 {A : ByteArray} {pc : Nat} {b : UInt8} {r : List UInt8} {ins : Instr} {len : Nat} (h : A.data.toList.drop pc = b :: r) (q : zd_193 r b.toNat = some (ins, len)) : decode A pc = .ok (ins, len) := by
  unfold zd_193 at q
  cases hq : Nat.ble b.toNat 182 with
  | true => rw [hq, cond_true] at q; exact zdk_194 h q
  | false => rw [hq, cond_false] at q; exact zdk_195 h q
theorem zdk_189 {A : ByteArray} {pc : Nat} {b : UInt8} {r : List UInt8} {ins : Instr} {len : Nat} (h : A.data.toList.drop pc = b :: r) (q : zd_189 r b.toNat = some (ins, len)) : decode A pc = .ok (ins, len) := by
  unfold zd_189 at q
  cases hq : Nat.ble b.toNat 181 with
  | true => rw [hq, cond_true] at q; exact zdk_190 h q
  | false => rw [hq, cond_false] at q; exact zdk_193 h q
theorem zdk_183 {A : ByteArray} {pc : Nat} {b : UInt8} {r : List UInt8} {ins : Instr} {len : Nat} (h : A.data.toList.drop pc = b :: r) (q : zd_183 r b.toNat = some (ins, len)) : decode A pc = .ok (ins, len) := by
  unfold zd_183 at q
  cases hq : Nat.ble b.toNat 177 with
  | true => rw [hq, cond_true] at q; exact zdk_184 h q
  | false => rw [hq, cond_false] at q; exact zdk_189 h q
theorem zdk_198 {A : ByteArray} {pc : Nat} {b : UInt8} {r : List UInt8} {ins : Instr} {len : Nat} (h : A.data.toList.drop pc = b :: r) (q : zd_198 r b.toNat = some (ins, len)) : decode A pc = .ok (ins, len) := by
  unfold zd_198 at q
  cases hq : Nat.beq b.toNat 184 with
  | false => rw [hq] at q; cases q
  | true =>
    rw [hq, cond_true] at q
    have hb := Nat.eq_of_beq_eq_true hq
    match r, q, h with
    | x :: y :: r, q, h => cases q; exact dq_184 h hb
    | [_], q, _ => cases q
    | [], q, _ => cases q
theorem zdk_200 {A : ByteArray} {pc : Nat} {b : UInt8} {r : List UInt8} {ins : Instr} {len : Nat} (h : A.data.toList.drop pc = b :: r) (q : zd_200 r b.toNat = some (ins, len)) : decode A pc = .ok (ins, len) := by
  unfold zd_200 at q
  cases hq : Nat.beq b.toNat 187 with
  | false => rw [hq] at q; cases q
  | true =>
    rw [hq, cond_true] at q
    have hb := Nat.eq_of_beq_eq_true hq
    match r, q, h with
    | x :: y :: r, q, h => cases q; exact dq_187 h hb
    | [_], q, _ => cases q
    | [], q, _ => cases q
theorem zdk_201 {A : ByteArray} {pc : Nat} {b : UInt8} {r : List UInt8} {ins : Instr} {len : Nat} (h : A.data.toList.drop pc = b :: r) (q : zd_201 r b.toNat = some (ins, len)) : decode A pc = .ok (ins, len) := by
  unfold zd_201 at q
  cases hq : Nat.beq b.toNat 189 with
  | false => rw [hq] at q; cases q
  | true =>
    rw [hq, cond_true] at q
    have hb := Nat.eq_of_beq_eq_true hq
    match r, q, h with
    | x :: y :: r, q, h => cases q; exact dq_189 h hb
    | [_], q, _ => cases q
    | [], q, _ => cases q
theorem zdk_199 {A : ByteArray} {pc : Nat} {b : UInt8} {r : List UInt8} {ins : Instr} {len : Nat} (h : A.data.toList.drop pc = b :: r) (q : zd_199 r b.toNat = some (ins, len)) : decode A pc = .ok (ins, len) := by
  unfold zd_199 at q
  cases hq : Nat.ble b.toNat 187 with
  | true => rw [hq, cond_true] at q; exact zdk_200 h q
  | false => rw [hq, cond_false] at q; exact zdk_201 h q
theorem zdk_197 {A : ByteArray} {pc : Nat} {b : UInt8} {r : List UInt8} {ins : Instr} {len : Nat} (h : A.data.toList.drop pc = b :: r) (q : zd_197 r b.toNat = some (ins, len)) : decode A pc = .ok (ins, len) := by
  unfold zd_197 at q
  cases hq : Nat.ble b.toNat 184 with
  | true => rw [hq, cond_true] at q; exact zdk_198 h q
  | false => rw [hq, cond_false] at q; exact zdk_199 h q
theorem zdk_204 {A : ByteArray} {pc : Nat} {b : UInt8} {r : List UInt8} {ins : Instr} {len : Nat} (h : A.data.toList.drop pc = b :: r) (q : zd_204 r b.toNat = some (ins, len)) : decode A pc = .ok (ins, len) := by
  unfold zd_204 at q
  cases hq : Nat.beq b.toNat 190 with
  | false => rw [hq] at q; cases q
  | true =>
    rw [hq, cond_true] at q
    have hb := Nat.eq_of_beq_eq_true hq
    cases q
    exact dq_190 h hb
theorem zdk_205 {A : ByteArray} {pc : Nat} {b : UInt8} {r : List UInt8} {ins : Instr} {len : Nat} (h : A.data.toList.drop pc = b :: r) (q : zd_205 r b.toNat = some (ins, len)) : decode A pc = .ok (ins, len) := by
  unfold zd_205 at q
  cases hq : Nat.beq b.toNat 192 with
  | false => rw [hq] at q; cases q
  | true =>
    rw [hq, cond_true] at q
    have hb := Nat.eq_of_beq_eq_true hq
    match r, q, h with
    | x :: y :: r, q, h => cases q; exact dq_192 h hb
    | [_], q, _ => cases q
    | [], q, _ => cases q
theorem zdk_203 {A : ByteArray} {pc : Nat} {b : UInt8} {r : List UInt8} {ins : Instr} {len : Nat} (h : A.data.toList.drop pc = b :: r) (q : zd_203 r b.toNat = some (ins, len)) : decode A pc = .ok (ins, len) := by
  unfold zd_203 at q
  cases hq : Nat.ble b.toNat 190 with
  | true => rw [hq, cond_true] at q; exact zdk_204 h q
  | false => rw [hq, cond_false] at q; exact zdk_205 h q
theorem zdk_207 {A : ByteArray} {pc : Nat} {b : UInt8} {r : List UInt8} {ins : Instr} {len : Nat} (h : A.data.toList.drop pc = b :: r) (q : zd_207 r b.toNat = some (ins, len)) : decode A pc = .ok (ins, len) := by
  unfold zd_207 at q
  cases hq : Nat.beq b.toNat 198 with
  | false => rw [hq] at q; cases q
  | true =>
    rw [hq, cond_true] at q
    have hb := Nat.eq_of_beq_eq_true hq
    match r, q, h with
    | x :: y :: r, q, h => cases q; exact dq_198 h hb
    | [_], q, _ => cases q
    | [], q, _ => cases q
theorem zdk_208 {A : ByteArray} {pc : Nat} {b : UInt8} {r : List UInt8} {ins : Instr} {len : Nat} (h : A.data.toList.drop pc = b :: r) (q : zd_208 r b.toNat = some (ins, len)) : decode A pc = .ok (ins, len) := by
  unfold zd_208 at q
  cases hq : Nat.beq b.toNat 199 with
  | false => rw [hq] at q; cases q
  | true =>
    rw [hq, cond_true] at q
    have hb := Nat.eq_of_beq_eq_true hq
    match r, q, h with
    | x :: y :: r, q, h => cases q; exact dq_199 h hb
    | [_], q, _ => cases q
    | [], q, _ => cases q
theorem zdk_206 {A : ByteArray} {pc : Nat} {b : UInt8} {r : List UInt8} {ins : Instr} {len : Nat} (h : A.data.toList.drop pc = b :: r) (q : zd_206 r b.toNat = some (ins, len)) : decode A pc = .ok (ins, len) := by
  unfold zd_206 at q
  cases hq : Nat.ble b.toNat 198 with
  | true => rw [hq, cond_true] at q; exact zdk_207 h q
  | false => rw [hq, cond_false] at q; exact zdk_208 h q
theorem zdk_202 {A : ByteArray} {pc : Nat} {b : UInt8} {r : List UInt8} {ins : Instr} {len : Nat} (h : A.data.toList.drop pc = b :: r) (q : zd_202 r b.toNat = some (ins, len)) : decode A pc = .ok (ins, len) := by
  unfold zd_202 at q
  cases hq : Nat.ble b.toNat 192 with
  | true => rw [hq, cond_true] at q; exact zdk_203 h q
  | false => rw [hq, cond_false] at q; exact zdk_206 h q
theorem zdk_196 {A : ByteArray} {pc : Nat} {b : UInt8} {r : List UInt8} {ins : Instr} {len : Nat} (h : A.data.toList.drop pc = b :: r) (q : zd_196 r b.toNat = some (ins, len)) : decode A pc = .ok (ins, len) := by
  unfold zd_196 at q
  cases hq : Nat.ble b.toNat 189 with
  | true => rw [hq, cond_true] at q; exact zdk_197 h q
  | false => rw [hq, cond_false] at q; exact zdk_202 h q
theorem zdk_182 {A : ByteArray} {pc : Nat} {b : UInt8} {r : List UInt8} {ins : Instr} {len : Nat} (h : A.data.toList.drop pc = b :: r) (q : zd_182 r b.toNat = some (ins, len)) : decode A pc = .ok (ins, len) := by
  unfold zd_182 at q
  cases hq : Nat.ble b.toNat 183 with
  | true => rw [hq, cond_true] at q; exact zdk_183 h q
  | false => rw [hq, cond_false] at q; exact zdk_196 h q
theorem zdk_156 {A : ByteArray} {pc : Nat} {b : UInt8} {r : List UInt8} {ins : Instr} {len : Nat} (h : A.data.toList.drop pc = b :: r) (q : zd_156 r b.toNat = some (ins, len)) : decode A pc = .ok (ins, len) := by
  unfold zd_156 at q
  cases hq : Nat.ble b.toNat 172 with
  | true => rw [hq, cond_true] at q; exact zdk_157 h q
  | false => rw [hq, cond_false] at q; exact zdk_182 h q
theorem zdk_104 {A : ByteArray} {pc : Nat} {b : UInt8} {r : List UInt8} {ins : Instr} {len : Nat} (h : A.data.toList.drop pc = b :: r) (q : zd_104 r b.toNat = some (ins, len)) : decode A pc = .ok (ins, len) := by
  unfold zd_104 at q
  cases hq : Nat.ble b.toNat 153 with
  | true => rw [hq, cond_true] at q; exact zdk_105 h q
  | false => rw [hq, cond_false] at q; exact zdk_156 h q
theorem zdk_0 {A : ByteArray} {pc : Nat} {b : UInt8} {r : List UInt8} {ins : Instr} {len : Nat} (h : A.data.toList.drop pc = b :: r) (q : zd_0 r b.toNat = some (ins, len)) : decode A pc = .ok (ins, len) := by
  unfold zd_0 at q
  cases hq : Nat.ble b.toNat 90 with
  | true => rw [hq, cond_true] at q; exact zdk_1 h q
  | false => rw [hq, cond_false] at q; exact zdk_104 h q
noncomputable def zdec (l : List UInt8) : Option (Instr × Nat) := match l with
  | [] => none
  | b :: r => zd_0 r b.toNat
theorem zdec_ok {A : ByteArray} {pc : Nat} {l : List UInt8} {ins : Instr} {len : Nat} (h : A.data.toList.drop pc = l) (q : zdec l = some (ins, len)) : decode A pc = .ok (ins, len) := by
  match l, h, q with
  | b :: r, h, q => exact zdk_0 h q
  | [], _, q => cases q
/-- 'zall' along the list -/
noncomputable def zal2 (tb : List (List Jvm.Cond)) (cl : List vw_C) (nm : List (MethodName × ByteArray × Nat)) (km : List Nat) (law ini : Bool) (own : String) (bytes : ByteArray) : Nat → List UInt8 → zK → List (List Nat) → Bool
  | pc, l, some e :: r, p :: ps => (match zdec l with
    | some (raw, len) => decide (e.2.1 = pc + len) && zchk tb cl nm km law ini own raw len pc e p
    | none => (match decode bytes pc with
      | .ok (raw, len) => decide (e.2.1 = pc + len) && zchk tb cl nm km law ini own raw len pc e p
      | .error _ => false)) && zal2 tb cl nm km law ini own bytes (pc + 1) l.tail r ps
  | pc, l, none :: r, _ :: ps => zal2 tb cl nm km law ini own bytes (pc + 1) l.tail r ps
  | _, _, [], _ => true
  | _, _, _ :: _, [] => false
theorem zal2_ok {tb : List (List Jvm.Cond)} {cl : List vw_C} {nm : List (MethodName × ByteArray × Nat)} {km : List Nat} {law ini : Bool} {own : String} {bytes : ByteArray} : ∀ (cd : zK) (pp : List (List Nat)) (pc : Nat) (l : List UInt8), bytes.data.toList.drop pc = l → zal2 tb cl nm km law ini own bytes pc l cd pp = true → zall tb cl nm km law ini own bytes pc cd pp = true
  | [], pp, pc, l, h, q => by unfold zall; rfl
  | some e :: r, [], pc, l, h, q => by cases q
  | none :: r, [], pc, l, h, q => by cases q
  | none :: r, p :: ps, pc, l, h, q => by
    unfold zal2 at q
    unfold zall
    exact zal2_ok r ps (pc + 1) l.tail (by rw [← h, List.tail_drop]) q
  | some e :: r, p :: ps, pc, l, h, q => by
    unfold zal2 at q
    unfold zall
    rw [Bool.and_eq_true] at q ⊢
    refine ⟨?_, zal2_ok r ps (pc + 1) l.tail (by rw [← h, List.tail_drop]) q.2⟩
    have q1 := q.1
    cases hz : zdec l with
    | none => rw [hz] at q1; exact q1
    | some x =>
      obtain ⟨raw, len⟩ := x
      rw [hz] at q1
      rw [zdec_ok h hz]
      exact q1
end
