/-- a word of the tables, by its table and its place there -/
noncomputable def ziu (tb : List (List Jvm.Cond)) (p : Nat) (w : Jvm.Cond) : Bool := decide ((tb.getD (p / 1000) [])[p % 1000]? = some w)
noncomputable def zin (tb : List (List Jvm.Cond)) (p : Nat) (w : Jvm.Cond) : Bool := ziu tb p w && goodWord w
theorem zclI : "[I" = "[" ++ (zty 0).toString := by decide +kernel
theorem zcpw : nativeFrameWords "java/lang/System" "arraycopy" 5 + 30 ≤ 576 := by decide +kernel
/-- words that a change of the tables keeps, but not by the kit's own reading -/
noncomputable def zspec (w : Jvm.Cond) : Bool := match w with
  | .arrayOver _ => true
  | .methodLinkNest .. => true
  | .castable .. => true
  | _ => false
noncomputable def zcint (f : Int32 → Bool) (v : Value) : Bool := match v with
  | .int x => f x
  | _ => false
theorem zcint_of {f : Int32 → Bool} {v : Value} (h : zcint f v = true) : ∃ x, v = .int x ∧ f x = true := by
  cases v <;> first | exact ⟨_, rfl, h⟩ | cases h
noncomputable def zclong (f : Int64 → Bool) (v : Value) : Bool := match v with
  | .long x => f x
  | _ => false
theorem zclong_of {f : Int64 → Bool} {v : Value} (h : zclong f v = true) : ∃ x, v = .long x ∧ f x = true := by
  cases v <;> first | exact ⟨_, rfl, h⟩ | cases h
noncomputable def zcl (cl : List vw_C) (a : Nat) (f : String → u_T → Nat → Bool) : Bool := match cl[a]? with
  | some (C, T, N) => f C T N
  | none => false
theorem zcl_of {cl : List vw_C} {a : Nat} {f : String → u_T → Nat → Bool} (h : zcl cl a f = true) : ∃ C T N, cl[a]? = some (C, T, N) ∧ f C T N = true := by
  unfold zcl at h
  split at h
  · rename_i C T N hq
    exact ⟨C, T, N, hq, h⟩
  · cases h
noncomputable def zcm (nm : List (MethodName × ByteArray × Nat)) (a : Nat) (f : MethodName → Nat → Bool) : Bool := match nm[a]? with
  | some (y, _, np) => f y np
  | none => false
theorem zcm_of {nm : List (MethodName × ByteArray × Nat)} {a : Nat} {f : MethodName → Nat → Bool} (h : zcm nm a f = true) : ∃ y bytes np, nm[a]? = some (y, bytes, np) ∧ f y np = true := by
  unfold zcm at h
  split at h
  · rename_i y bytes np hq
    exact ⟨y, bytes, np, hq, h⟩
  · cases h
/-- a canonical instruction is what stands in the code -/
noncomputable def zchk (Ts : List (List Jvm.Cond)) (cl : List vw_C) (nm : List (MethodName × ByteArray × Nat)) (km : List Nat) (law ini : Bool) (own : String) (raw : Instr) (len pc : Nat) (e : zE) (ps : List Nat) : Bool := match e with
  | (ins, nx, a, b, d, v) => match ins with
    | .aconst_null => match raw with
      | .aconst_null => ((decide (len = 1)) && (decide (v = .null)))
      | .iconst i => ((decide (len = 1)) && (decide (v = .int (Int32.ofInt i))))
      | .bipush i => ((decide (len = 2)) && (decide (v = .int (Int8.ofInt i).toInt32)))
      | .sipush i => ((decide (len = 3)) && (decide (v = .int (Int16.ofInt i).toInt32)))
      | .lconst i => ((decide (len = 1)) && (decide (v = .long (Int64.ofNat (i : Nat)))))
      | .ldc i => ((decide (len = 2)) && (zcint (fun x => zin Ts (ps.getD 0 0) (.constant own i x)) v || zcstr own i v))
      | .ldc_w i => ((decide (len = 3)) && (zcint (fun x => zin Ts (ps.getD 0 0) (.constant own i x)) v || zcstr own i v))
      | .ldc2_w i => ((decide (len = 3)) && (zclong (fun x => zin Ts (ps.getD 0 0) (.constantLong own i x)) v))
      | _ => false
    | .iload _ => match raw with
      | .iload i => ((decide (len = 2)) && (decide (i = a)))
      | .iload_n k => ((decide (len = 1)) && (decide ((k : Nat) = a)))
      | _ => false
    | .lload _ => match raw with
      | .lload i => ((decide (len = 2)) && (decide (i = a)))
      | .lload_n k => ((decide (len = 1)) && (decide ((k : Nat) = a)))
      | _ => false
    | .aload _ => match raw with
      | .aload i => ((decide (len = 2)) && (decide (i = a)))
      | .aload_n k => ((decide (len = 1)) && (decide ((k : Nat) = a)))
      | _ => false
    | .istore _ => match raw with
      | .istore i => ((decide (len = 2)) && (decide (i = a)))
      | .istore_n k => ((decide (len = 1)) && (decide ((k : Nat) = a)))
      | _ => false
    | .lstore _ => match raw with
      | .lstore i => ((decide (len = 2)) && (decide (i = a)))
      | .lstore_n k => ((decide (len = 1)) && (decide ((k : Nat) = a)))
      | _ => false
    | .astore _ => match raw with
      | .astore i => ((decide (len = 2)) && (decide (i = a)))
      | .astore_n k => ((decide (len = 1)) && (decide ((k : Nat) = a)))
      | _ => false
    | .iinc _ _ => match raw with
      | .iinc i z => ((decide (len = 3)) && ((decide (i = a)) && (decide (v = .int (Int32.ofInt z)))))
      | _ => false
    | .pop => match raw with
      | .pop => (decide (len = 1))
      | _ => false
    | .dup => match raw with
      | .dup => (decide (len = 1))
      | _ => false
    | .dup_x1 => match raw with
      | .dup_x1 => (decide (len = 1))
      | _ => false
    | .dup2 => match raw with
      | .dup2 => (decide (len = 1))
      | _ => false
    | .dup2_x1 => match raw with
      | .dup2 => (decide (len = 1))
      | _ => false
    | .iadd => match raw with
      | .iadd => (decide (len = 1))
      | _ => false
    | .isub => match raw with
      | .isub => (decide (len = 1))
      | _ => false
    | .imul => match raw with
      | .imul => (decide (len = 1))
      | _ => false
    | .idiv => match raw with
      | .idiv => (decide (len = 1))
      | _ => false
    | .iand => match raw with
      | .iand => (decide (len = 1))
      | _ => false
    | .ior => match raw with
      | .ior => (decide (len = 1))
      | _ => false
    | .ishl => match raw with
      | .ishl => (decide (len = 1))
      | _ => false
    | .ishr => match raw with
      | .ishr => (decide (len = 1))
      | _ => false
    | .ladd => match raw with
      | .ladd => (decide (len = 1))
      | _ => false
    | .lsub => match raw with
      | .lsub => (decide (len = 1))
      | _ => false
    | .lmul => match raw with
      | .lmul => (decide (len = 1))
      | _ => false
    | .ldiv => match raw with
      | .ldiv => (decide (len = 1))
      | _ => false
    | .lrem => match raw with
      | .lrem => (decide (len = 1))
      | _ => false
    | .lneg => match raw with
      | .lneg => (decide (len = 1))
      | _ => false
    | .land => match raw with
      | .land => (decide (len = 1))
      | _ => false
    | .lor => match raw with
      | .lor => (decide (len = 1))
      | _ => false
    | .lxor => match raw with
      | .lxor => (decide (len = 1))
      | _ => false
    | .lshl => match raw with
      | .lshl => (decide (len = 1))
      | _ => false
    | .lshr => match raw with
      | .lshr => (decide (len = 1))
      | _ => false
    | .lcmp => match raw with
      | .lcmp => (decide (len = 1))
      | _ => false
    | .i2l => match raw with
      | .i2l => (decide (len = 1))
      | _ => false
    | .l2i => match raw with
      | .l2i => (decide (len = 1))
      | _ => false
    | .i2b => match raw with
      | .i2b => (decide (len = 1))
      | _ => false
    | .fadd => match raw with
      | .invokestatic i => ((decide (len = 3)) && (zin Ts (ps.getD 0 0) (.methodLink own i Lib.Math.max.name)))
      | _ => false
    | .fsub => match raw with
      | .invokestatic i => ((decide (len = 3)) && (zin Ts (ps.getD 0 0) (.methodLink own i Lib.Math.min.name)))
      | _ => false
    | .dadd => match raw with
      | .invokestatic i => ((decide (len = 3)) && (zin Ts (ps.getD 0 0) (.methodLink own i Lib.MathLoose.max_long.x)))
      | _ => false
    | .dsub => match raw with
      | .invokestatic i => ((decide (len = 3)) && (zin Ts (ps.getD 0 0) (.methodLink own i Lib.MathLoose.min_long.x)))
      | _ => false
    | .drem => match raw with
      | .pop2 => (decide (len = 1))
      | _ => false
    | .goto _ => match raw with
      | .goto i => ((decide (len = 3)) && (decide ((pc : Int) + i = (a : Int))))
      | _ => false
    | .ifnull _ => match raw with
      | .ifnull i => ((decide (len = 3)) && (decide ((pc : Int) + i = (a : Int))))
      | _ => false
    | .ifnonnull _ => match raw with
      | .ifnonnull i => ((decide (len = 3)) && (decide ((pc : Int) + i = (a : Int))))
      | _ => false
    | .ifCond o _ => match raw with
      | .ifCond o2 i => ((decide (len = 3)) && ((decide (o2 = o)) && (decide ((pc : Int) + i = (a : Int)))))
      | _ => false
    | .if_icmp o _ => match raw with
      | .if_icmp o2 i => ((decide (len = 3)) && ((decide (o2 = o)) && (decide ((pc : Int) + i = (a : Int)))))
      | _ => false
    | .tableswitch df lo hi tg => match raw with
      | .tableswitch dflt lo2 hi2 offs => ((decide (lo2 = lo)) && ((decide (hi2 = hi)) && ((decide (df = (pc : Int) + dflt)) && ((decide (tg = offs.map (fun o => (pc : Int) + o))) && ((decide (0 ≤ df)) && (tg.toList.all (fun t => decide ((0 : Int) ≤ t))))))))
      | _ => false
    | .lookupswitch df qs => match raw with
      | .lookupswitch dflt qr => (((qr.toList.zip (qr.toList.drop 1)).all (fun (a, next) => a.1 < next.1)) && ((decide (df = (pc : Int) + dflt)) && ((decide (qs.toList = qr.toList.map (fun q => (q.1, (pc : Int) + q.2)))) && ((decide (0 ≤ df)) && (qs.toList.all (fun t => decide ((0 : Int) ≤ t.2)))))))
      | _ => false
    | .iaload => match raw with
      | .iaload => (decide (len = 1))
      | _ => false
    | .baload => match raw with
      | .baload => (decide (len = 1))
      | _ => false
    | .laload => match raw with
      | .laload => (decide (len = 1))
      | _ => false
    | .aaload => match raw with
      | .aaload => (decide (len = 1))
      | _ => false
    | .iastore => match raw with
      | .iastore => (decide (len = 1))
      | _ => false
    | .bastore => match raw with
      | .bastore => (decide (len = 1))
      | _ => false
    | .lastore => match raw with
      | .lastore => (decide (len = 1))
      | _ => false
    | .aastore => match raw with
      | .aastore => ((decide (len = 1)) && ((ziu Ts (ps.getD 0 0) (.arrayOver (.array .int))) && (decide ((cl[d]?).map (fun q => q.1) = some "TankBehind$Car"))))
      | _ => false
    | .sastore => match raw with
      | .invokestatic i => ((decide (len = 3)) && ((zin Ts (ps.getD 0 0) (.methodLink own i arraycopyName)) && ((zin Ts (ps.getD 1 0) (.native arraycopyName)) && ((zin Ts (ps.getD 2 0) (.static arraycopyName)) && (zin Ts (ps.getD 3 0) (.initialized "java/lang/System"))))))
      | _ => false
    | .castore => match raw with
      | .invokevirtual i => ((decide (len = 3)) && ((zin Ts (ps.getD 0 0) (.methodLink own i ⟨"[I", "clone", "()Ljava/lang/Object;"⟩)) && ((zin Ts (ps.getD 1 0) (.sameMethod "[I" "java/lang/Object" "clone" "()Ljava/lang/Object;")) && ((zin Ts (ps.getD 2 0) (.native ⟨"java/lang/Object", "clone", "()Ljava/lang/Object;"⟩)) && ((zin Ts (ps.getD 3 0) (.instanceMethod ⟨"java/lang/Object", "clone", "()Ljava/lang/Object;"⟩)) && ((zin Ts (ps.getD 4 0) (.selects "[I" ⟨"[I", "clone", "()Ljava/lang/Object;"⟩ ⟨"java/lang/Object", "clone", "()Ljava/lang/Object;"⟩)) && (ziu Ts (ps.getD 5 0) (.castable "[I" "java/lang/Cloneable"))))))))
      | _ => false
    | .fmul => match raw with
      | .checkcast i => ((decide (len = 3)) && (zin Ts (ps.getD 0 0) (.classLink own i "[I")))
      | _ => false
    | .arraylength => match raw with
      | .arraylength => (decide (len = 1))
      | _ => false
    | .saload => match raw with
      | .iaload => ((decide (len = 1)) && (law))
      | _ => false
    | .i2s => match raw with
      | .arraylength => ((decide (len = 1)) && (law))
      | _ => false
    | .i2c => match raw with
      | .invokevirtual i => ((decide (len = 3)) && (zin Ts (ps.getD 0 0) (.methodLink own i zyLen)))
      | _ => false
    | .caload => match raw with
      | .invokevirtual i => ((decide (len = 3)) && (zin Ts (ps.getD 0 0) (.methodLink own i zyCh)))
      | _ => false
    | .newarray t => match raw with
      | .newarray t2 => ((decide (len = 2)) && ((decide (t2 = t)) && (zin Ts (ps.getD 0 0) (.arrayClass (newarray.typeOf t)))))
      | _ => false
    | .anewarray _ => match raw with
      | .anewarray i => ((decide (len = 3)) && ((decide (a = 5) && (zin Ts (ps.getD 0 0) (.classLink own i "TankBehind$Car") && ziu Ts (ps.getD 1 0) (.arrayOver (.object "TankBehind$Car")))) || (decide (a = 4) && (zin Ts (ps.getD 0 0) (.classLink own i (FieldType.array .int).toString) && ziu Ts (ps.getD 1 0) (.arrayOver (.array .int))))))
      | _ => false
    | .multianewarray _ _ => match raw with
      | .multianewarray i n2 => ((decide (len = 4)) && ((decide (n2 = 2)) && ((zin Ts (ps.getD 0 0) (.classLink own i ("[" ++ (FieldType.array .int).toString))) && ((ziu Ts (ps.getD 1 0) (.arrayOver (.array .int))) && (zin Ts (ps.getD 2 0) (.arrayClass .int))))))
      | _ => false
    | .new _ => match raw with
      | .new i => ((decide (len = 3)) && (zcl cl a (fun C T N => zin Ts (ps.getD 0 0) (.classLink own i C) && (zin Ts (ps.getD 1 0) (.instantiable C N) && zin Ts (ps.getD 2 0) (.initialized C)))))
      | _ => false
    | .getfield _ => match raw with
      | .getfield i => ((decide (len = 3)) && (zcl cl a (fun C T N => decide (b < N) && zin Ts (ps.getD 0 0) (.fieldLink own i (T b).1 (T b).2.1 (T b).2.2.1))))
      | _ => false
    | .putfield _ => match raw with
      | .putfield i => ((decide (len = 3)) && (zcl cl a (fun C T N => decide (b < N) && (zin Ts (ps.getD 0 0) (.fieldLink own i (T b).1 (T b).2.1 (T b).2.2.1) && (decide ((T b).2.2.2 = false) || (ini && decide ((T b).1 = own)))))))
      | _ => false
    | .pop2 => match raw with
      | .invokespecial i => ((decide (len = 3)) && ((zin Ts (ps.getD 0 0) (.methodLink own i Lib.objectInit)) && ((zin Ts (ps.getD 1 0) (.instanceMethod Lib.objectInit)) && (zin Ts (ps.getD 2 0) (.code Lib.objectInit ⟨#[0xb1]⟩ 1 none)))))
      | _ => false
    | .invokevirtual _ => match raw with
      | .invokevirtual i => ((decide (len = 3)) && (zcm nm a (fun y np => decide (np = b) && (zin Ts (ps.getD 0 0) (.methodLink own i y) && (decide ((cl[d]?).map (fun q => q.1) = some y.cls) && decide (km.getD a 9 = 1))))))
      | _ => false
    | .invokespecial _ => match raw with
      | .invokespecial i => ((decide (len = 3)) && (zcm nm a (fun y np => decide (np = b) && ((zin Ts (ps.getD 0 0) (.methodLink own i y) || ziu Ts (ps.getD 0 0) (.methodLinkNest own i y "TankBehind")) && decide (km.getD a 9 = 2)))))
      | _ => false
    | .invokestatic _ => match raw with
      | .invokestatic i => ((decide (len = 3)) && (zcm nm a (fun y np => decide (np = b) && ((zin Ts (ps.getD 0 0) (.methodLink own i y) || ziu Ts (ps.getD 0 0) (.methodLinkNest own i y "TankBehind")) && decide (km.getD a 9 = 0)))))
      | _ => false
    | .ireturn => match raw with
      | .ireturn => (decide (len = 1))
      | _ => false
    | .lreturn => match raw with
      | .lreturn => (decide (len = 1))
      | _ => false
    | .areturn => match raw with
      | .areturn => (decide (len = 1))
      | _ => false
    | .return_ => match raw with
      | .return_ => (decide (len = 1))
      | _ => false
    | _ => false
/-- what the methods' own words are -/
noncomputable def zMok (Ts : List Jvm.Cond) (nm : List (MethodName × ByteArray × Nat)) (km : List Nat) (G : zG) : Prop := ∀ (j : Nat) (y : MethodName) (bytes : ByteArray) (np : Nat), nm[j]? = some (y, bytes, np) → ∃ (cd : zK) (nL : Nat) (rt : Option FieldType) (mc ms : Nat), G.1[j]? = some (cd, nL, rt, mc, ms) ∧ nL ≤ 40 ∧ Jvm.Cond.initialized y.cls ∈ Ts ∧ Jvm.Cond.code y bytes nL rt ∈ Ts ∧ (y.cls ≠ "java/lang/invoke/MethodHandle" ∧ y.cls ≠ "java/lang/invoke/VarHandle" ∧ (parseMethodDescriptor y.desc).map (fun d => d.parameters.length) = some np) ∧ (km.getD j 9 = 0 → Jvm.Cond.static y ∈ Ts) ∧ (km.getD j 9 = 1 → Jvm.Cond.instanceMethod y ∈ Ts ∧ Jvm.Cond.selects y.cls y y ∈ Ts) ∧ (km.getD j 9 = 2 → Jvm.Cond.instanceMethod y ∈ Ts ∧ y.name = "<init>" ∧ rt = none)
section SIM5
variable {p : Program} {l : Launch} {e : Env} {R : Room} {s : State} {m : MethodId} {args : Array Value} {below : List Frame} {meth : Method} {c : Code} {Q : State → Prop} {cc : ByteArray} {B : Nat} {D : va_G} {cl : List vw_C} {dA : Nat → ClassId} {aS : Nat → Nat} {nL bc bs pc : Nat}
variable {L : zL} {st : List Value} {h : zH} {cn sn : Nat}
variable {tt : zT} {G : zG} {rt : Option FieldType} {M : zM} {ret : zQ} {Ts : List Jvm.Cond} {own : String} {Z : State → Prop}
set_option maxHeartbeats 4000000 in
theorem zsnd {nm : List (MethodName × ByteArray × Nat)} {km : List Nat} {law ini : Bool} {raw : Instr} {len d9 : Nat} {ze : zE} {ps : List Nat} {tb : List (List Jvm.Cond)} (hx : p.tables.exec = Jvm.exec) (hb : c.code = cc) (hml : c.maxLocals = nL) (hts : ∀ w ∈ Ts, w.before args s = true) (hG : GoodIn Ts Ts) (hT : zTT tt cl Ts) (hMk : zMok Ts nm km G) (hown : s.vm.findClass own = some m.cls) (hini : ini = true → meth.name = "<init>") (hK : va_K D cl (ztys dA) s) (hZ : zStays B Z) (hZs : Z s) (hBs : B ≤ s.heap.size) (hM : zMet l nm G B D cl dA aS Z Ts d9 M)
    (hX : law = true → aS 0 < s.heap.size ∧ ¬ B ≤ aS 0 ∧ va_X (aS 0) G.2.2.1 G.2.2.2 s s.heap) (hSo : zSok B Z Ts aS G.2.1) (hR : bc ≤ R.cells ∧ bs ≤ R.slots) (hR1 : d9 + 9 ≤ R.frames) (hR2 : d9 * 64 + 576 ≤ R.locals)
    (hri : ∀ (x : Int32) (h : zH) (H : Heap) (locs : List Loc) (lsA : Array Slot) (pc cn sn : Nat), ret (some (.int x)) h → cn ≤ bc → sn ≤ bs → zhR B D cl dA aS h H → va_S (fun q => B ≤ q) s.heap H locs → decode cc pc = .ok (.ireturn, 1) → (∃ t : FieldType, rt = some t ∧ narrow t (.int x) = .int x) → W p l e R s m args below meth c H locs cn sn Q (F0 m pc lsA [.int x]))
    (hrl : ∀ (x : Int64) (h : zH) (H : Heap) (locs : List Loc) (lsA : Array Slot) (pc cn sn : Nat), ret (some (.long x)) h → cn ≤ bc → sn ≤ bs → zhR B D cl dA aS h H → va_S (fun q => B ≤ q) s.heap H locs → decode cc pc = .ok (.lreturn, 1) → rt = some .long → W p l e R s m args below meth c H locs cn sn Q (F0 m pc lsA [.long x]))
    (hra : ∀ (w : Value) (h : zH) (H : Heap) (locs : List Loc) (lsA : Array Slot) (pc cn sn : Nat), (w = .null ∨ (∃ r, w = .ref r) ∨ ∃ r, w = .retAddr r) → ret (some w) h → cn ≤ bc → sn ≤ bs → zhR B D cl dA aS h H → va_S (fun q => B ≤ q) s.heap H locs → decode cc pc = .ok (.areturn, 1) → (∃ t : FieldType, rt = some t ∧ fits t .null = true) → W p l e R s m args below meth c H locs cn sn Q (F0 m pc lsA [zcv B aS w]))
    (hrv : ∀ (h : zH) (H : Heap) (locs : List Loc) (lsA : Array Slot) (pc cn sn : Nat), ret none h → cn ≤ bc → sn ≤ bs → zhR B D cl dA aS h H → va_S (fun q => B ≤ q) s.heap H locs → decode cc pc = .ok (.return_, 1) → rt = none → W p l e R s m args below meth c H locs cn sn Q (F0 m pc lsA []))
    (hdg : decode cc pc = .ok (raw, len)) (hnx : ze.2.1 = pc + len) (hin : ∀ (p : Nat) (w : Jvm.Cond), zin tb p w = true → w ∈ Ts) (hiu : ∀ (p : Nat) (w : Jvm.Cond), ziu tb p w = true → zspec w = true → w.before #[] s = true) (hk : zchk tb cl nm km law ini own raw len pc ze ps = true) (hz : zex tt G bc bs rt M ret (wX p l e R s m args below meth c Q B D cl dA aS nL bc bs) ze L st h cn sn) : wX p l e R s m args below meth c Q B D cl dA aS nL bc bs pc L st h cn sn := by
  obtain ⟨ins, nx, a, b, d, v⟩ := ze
  have hnx : nx = pc + len := hnx
  subst hnx
  unfold zchk at hk
  dsimp only at hk
  cases ins

  case aconst_null =>
    have Z1 := hz.resolve_right (fun q => q)
    dsimp only at hk
    split at hk
    · simp only [Bool.and_eq_true, Bool.or_eq_true, decide_eq_true_eq] at hk
      obtain ⟨h0, h1⟩ := hk
      subst h0
      exact s_null hx hb hdg h1 Z1
    · rename_i i
      simp only [Bool.and_eq_true, Bool.or_eq_true, decide_eq_true_eq] at hk
      obtain ⟨h0, h1⟩ := hk
      subst h0
      exact s_iconst hx hb hdg h1 Z1
    · rename_i i
      simp only [Bool.and_eq_true, Bool.or_eq_true, decide_eq_true_eq] at hk
      obtain ⟨h0, h1⟩ := hk
      subst h0
      exact s_bipush hx hb hdg h1 Z1
    · rename_i i
      simp only [Bool.and_eq_true, Bool.or_eq_true, decide_eq_true_eq] at hk
      obtain ⟨h0, h1⟩ := hk
      subst h0
      exact s_sipush hx hb hdg h1 Z1
    · rename_i i
      simp only [Bool.and_eq_true, Bool.or_eq_true, decide_eq_true_eq] at hk
      obtain ⟨h0, h1⟩ := hk
      subst h0
      exact s_lconst hx hb hdg h1 Z1
    · rename_i i
      simp only [Bool.and_eq_true, Bool.or_eq_true, decide_eq_true_eq] at hk
      obtain ⟨h0, h1⟩ := hk
      subst h0
      rcases h1 with h1 | h1
      · obtain ⟨x, e1, e2⟩ := zcint_of h1
        exact s_ldc hx hb hdg e1 hown (hts _ (hin _ _ e2)) Z1
      · obtain ⟨k9, e1, e2⟩ := zcstr_of h1
        obtain ⟨t9, e3⟩ := hSo.2.2.2.2 _ e2 s hZs
        exact s_ldcs hx hb hdg e1 hown e3 Z1
    · rename_i i
      simp only [Bool.and_eq_true, Bool.or_eq_true, decide_eq_true_eq] at hk
      obtain ⟨h0, h1⟩ := hk
      subst h0
      rcases h1 with h1 | h1
      · obtain ⟨x, e1, e2⟩ := zcint_of h1
        exact s_ldcw hx hb hdg e1 hown (hts _ (hin _ _ e2)) Z1
      · obtain ⟨k9, e1, e2⟩ := zcstr_of h1
        obtain ⟨t9, e3⟩ := hSo.2.2.2.2 _ e2 s hZs
        exact s_ldcws hx hb hdg e1 hown e3 Z1
    · rename_i i
      simp only [Bool.and_eq_true, Bool.or_eq_true, decide_eq_true_eq] at hk
      obtain ⟨h0, h1⟩ := hk
      subst h0
      obtain ⟨x, e1, e2⟩ := zclong_of h1
      exact s_ldc2 hx hb hdg e1 hown (hts _ (hin _ _ e2)) Z1
    · cases hk
  case iload w0 =>
    have Z1 := hz.resolve_right (fun q => q)
    dsimp only at hk
    split at hk
    · rename_i i
      simp only [Bool.and_eq_true, Bool.or_eq_true, decide_eq_true_eq] at hk
      obtain ⟨h0, h1⟩ := hk
      subst h0
      subst h1
      exact s_iload hx hb hdg Z1
    · rename_i k
      simp only [Bool.and_eq_true, Bool.or_eq_true, decide_eq_true_eq] at hk
      obtain ⟨h0, h1⟩ := hk
      subst h0
      exact s_iload_n hx hb hdg h1 Z1
    · cases hk
  case lload w0 =>
    have Z1 := hz.resolve_right (fun q => q)
    dsimp only at hk
    split at hk
    · rename_i i
      simp only [Bool.and_eq_true, Bool.or_eq_true, decide_eq_true_eq] at hk
      obtain ⟨h0, h1⟩ := hk
      subst h0
      subst h1
      exact s_lload hx hb hdg Z1
    · rename_i k
      simp only [Bool.and_eq_true, Bool.or_eq_true, decide_eq_true_eq] at hk
      obtain ⟨h0, h1⟩ := hk
      subst h0
      exact s_lload_n hx hb hdg h1 Z1
    · cases hk
  case aload w0 =>
    have Z1 := hz.resolve_right (fun q => q)
    dsimp only at hk
    split at hk
    · rename_i i
      simp only [Bool.and_eq_true, Bool.or_eq_true, decide_eq_true_eq] at hk
      obtain ⟨h0, h1⟩ := hk
      subst h0
      subst h1
      exact s_aload hx hb hdg Z1
    · rename_i k
      simp only [Bool.and_eq_true, Bool.or_eq_true, decide_eq_true_eq] at hk
      obtain ⟨h0, h1⟩ := hk
      subst h0
      exact s_aload_n hx hb hdg h1 Z1
    · cases hk
  case istore w0 =>
    have Z1 := hz.resolve_right (fun q => q)
    dsimp only at hk
    split at hk
    · rename_i i
      simp only [Bool.and_eq_true, Bool.or_eq_true, decide_eq_true_eq] at hk
      obtain ⟨h0, h1⟩ := hk
      subst h0
      subst h1
      exact s_istore hx hb hdg Z1
    · rename_i k
      simp only [Bool.and_eq_true, Bool.or_eq_true, decide_eq_true_eq] at hk
      obtain ⟨h0, h1⟩ := hk
      subst h0
      exact s_istore_n hx hb hdg h1 Z1
    · cases hk
  case lstore w0 =>
    have Z1 := hz.resolve_right (fun q => q)
    dsimp only at hk
    split at hk
    · rename_i i
      simp only [Bool.and_eq_true, Bool.or_eq_true, decide_eq_true_eq] at hk
      obtain ⟨h0, h1⟩ := hk
      subst h0
      subst h1
      exact s_lstore hx hb hdg Z1
    · rename_i k
      simp only [Bool.and_eq_true, Bool.or_eq_true, decide_eq_true_eq] at hk
      obtain ⟨h0, h1⟩ := hk
      subst h0
      exact s_lstore_n hx hb hdg h1 Z1
    · cases hk
  case astore w0 =>
    have Z1 := hz.resolve_right (fun q => q)
    dsimp only at hk
    split at hk
    · rename_i i
      simp only [Bool.and_eq_true, Bool.or_eq_true, decide_eq_true_eq] at hk
      obtain ⟨h0, h1⟩ := hk
      subst h0
      subst h1
      exact s_astore hx hb hdg Z1
    · rename_i k
      simp only [Bool.and_eq_true, Bool.or_eq_true, decide_eq_true_eq] at hk
      obtain ⟨h0, h1⟩ := hk
      subst h0
      exact s_astore_n hx hb hdg h1 Z1
    · cases hk
  case iinc w0 w1 =>
    have Z1 := hz.resolve_right (fun q => q)
    dsimp only at hk
    split at hk
    · rename_i i z
      simp only [Bool.and_eq_true, Bool.or_eq_true, decide_eq_true_eq] at hk
      obtain ⟨h0, h1, h2⟩ := hk
      subst h0
      subst h1
      exact s_iinc hx hb hdg h2 Z1
    · cases hk
  case pop =>
    have Z1 := hz.resolve_right (fun q => q)
    dsimp only at hk
    split at hk
    · simp only [Bool.and_eq_true, Bool.or_eq_true, decide_eq_true_eq] at hk
      have h0 := hk
      subst h0
      exact s_pop hx hb hdg Z1
    · cases hk
  case dup =>
    have Z1 := hz.resolve_right (fun q => q)
    dsimp only at hk
    split at hk
    · simp only [Bool.and_eq_true, Bool.or_eq_true, decide_eq_true_eq] at hk
      have h0 := hk
      subst h0
      exact s_dup hx hb hdg Z1
    · cases hk
  case dup_x1 =>
    have Z1 := hz.resolve_right (fun q => q)
    dsimp only at hk
    split at hk
    · simp only [Bool.and_eq_true, Bool.or_eq_true, decide_eq_true_eq] at hk
      have h0 := hk
      subst h0
      exact s_dup_x1 hx hb hdg Z1
    · cases hk
  case dup2 =>
    have Z1 := hz.resolve_right (fun q => q)
    dsimp only at hk
    split at hk
    · simp only [Bool.and_eq_true, Bool.or_eq_true, decide_eq_true_eq] at hk
      have h0 := hk
      subst h0
      exact s_dup2 hx hb hdg Z1
    · cases hk
  case dup2_x1 =>
    have Z1 := hz.resolve_right (fun q => q)
    dsimp only at hk
    split at hk
    · simp only [Bool.and_eq_true, Bool.or_eq_true, decide_eq_true_eq] at hk
      have h0 := hk
      subst h0
      exact s_dupl hx hb hdg Z1
    · cases hk
  case iadd =>
    have Z1 := hz.resolve_right (fun q => q)
    dsimp only at hk
    split at hk
    · simp only [Bool.and_eq_true, Bool.or_eq_true, decide_eq_true_eq] at hk
      have h0 := hk
      subst h0
      exact s_iadd hx hb hdg Z1
    · cases hk
  case isub =>
    have Z1 := hz.resolve_right (fun q => q)
    dsimp only at hk
    split at hk
    · simp only [Bool.and_eq_true, Bool.or_eq_true, decide_eq_true_eq] at hk
      have h0 := hk
      subst h0
      exact s_isub hx hb hdg Z1
    · cases hk
  case imul =>
    have Z1 := hz.resolve_right (fun q => q)
    dsimp only at hk
    split at hk
    · simp only [Bool.and_eq_true, Bool.or_eq_true, decide_eq_true_eq] at hk
      have h0 := hk
      subst h0
      exact s_imul hx hb hdg Z1
    · cases hk
  case idiv =>
    have Z1 := hz.resolve_right (fun q => q)
    dsimp only at hk
    split at hk
    · simp only [Bool.and_eq_true, Bool.or_eq_true, decide_eq_true_eq] at hk
      have h0 := hk
      subst h0
      exact s_idiv hx hb hdg Z1
    · cases hk
  case iand =>
    have Z1 := hz.resolve_right (fun q => q)
    dsimp only at hk
    split at hk
    · simp only [Bool.and_eq_true, Bool.or_eq_true, decide_eq_true_eq] at hk
      have h0 := hk
      subst h0
      exact s_iand hx hb hdg Z1
    · cases hk
  case ior =>
    have Z1 := hz.resolve_right (fun q => q)
    dsimp only at hk
    split at hk
    · simp only [Bool.and_eq_true, Bool.or_eq_true, decide_eq_true_eq] at hk
      have h0 := hk
      subst h0
      exact s_ior hx hb hdg Z1
    · cases hk
  case ishl =>
    have Z1 := hz.resolve_right (fun q => q)
    dsimp only at hk
    split at hk
    · simp only [Bool.and_eq_true, Bool.or_eq_true, decide_eq_true_eq] at hk
      have h0 := hk
      subst h0
      exact s_ishl hx hb hdg Z1
    · cases hk
  case ishr =>
    have Z1 := hz.resolve_right (fun q => q)
    dsimp only at hk
    split at hk
    · simp only [Bool.and_eq_true, Bool.or_eq_true, decide_eq_true_eq] at hk
      have h0 := hk
      subst h0
      exact s_ishr hx hb hdg Z1
    · cases hk
  case ladd =>
    have Z1 := hz.resolve_right (fun q => q)
    dsimp only at hk
    split at hk
    · simp only [Bool.and_eq_true, Bool.or_eq_true, decide_eq_true_eq] at hk
      have h0 := hk
      subst h0
      exact s_ladd hx hb hdg Z1
    · cases hk
  case lsub =>
    have Z1 := hz.resolve_right (fun q => q)
    dsimp only at hk
    split at hk
    · simp only [Bool.and_eq_true, Bool.or_eq_true, decide_eq_true_eq] at hk
      have h0 := hk
      subst h0
      exact s_lsub hx hb hdg Z1
    · cases hk
  case lmul =>
    have Z1 := hz.resolve_right (fun q => q)
    dsimp only at hk
    split at hk
    · simp only [Bool.and_eq_true, Bool.or_eq_true, decide_eq_true_eq] at hk
      have h0 := hk
      subst h0
      exact s_lmul hx hb hdg Z1
    · cases hk
  case ldiv =>
    have Z1 := hz.resolve_right (fun q => q)
    dsimp only at hk
    split at hk
    · simp only [Bool.and_eq_true, Bool.or_eq_true, decide_eq_true_eq] at hk
      have h0 := hk
      subst h0
      exact s_ldiv hx hb hdg Z1
    · cases hk
  case lrem =>
    have Z1 := hz.resolve_right (fun q => q)
    dsimp only at hk
    split at hk
    · simp only [Bool.and_eq_true, Bool.or_eq_true, decide_eq_true_eq] at hk
      have h0 := hk
      subst h0
      exact s_lrem hx hb hdg Z1
    · cases hk
  case lneg =>
    have Z1 := hz.resolve_right (fun q => q)
    dsimp only at hk
    split at hk
    · simp only [Bool.and_eq_true, Bool.or_eq_true, decide_eq_true_eq] at hk
      have h0 := hk
      subst h0
      exact s_lneg hx hb hdg Z1
    · cases hk
  case land =>
    have Z1 := hz.resolve_right (fun q => q)
    dsimp only at hk
    split at hk
    · simp only [Bool.and_eq_true, Bool.or_eq_true, decide_eq_true_eq] at hk
      have h0 := hk
      subst h0
      exact s_land hx hb hdg Z1
    · cases hk
  case lor =>
    have Z1 := hz.resolve_right (fun q => q)
    dsimp only at hk
    split at hk
    · simp only [Bool.and_eq_true, Bool.or_eq_true, decide_eq_true_eq] at hk
      have h0 := hk
      subst h0
      exact s_lor hx hb hdg Z1
    · cases hk
  case lxor =>
    have Z1 := hz.resolve_right (fun q => q)
    dsimp only at hk
    split at hk
    · simp only [Bool.and_eq_true, Bool.or_eq_true, decide_eq_true_eq] at hk
      have h0 := hk
      subst h0
      exact s_lxor hx hb hdg Z1
    · cases hk
  case lshl =>
    have Z1 := hz.resolve_right (fun q => q)
    dsimp only at hk
    split at hk
    · simp only [Bool.and_eq_true, Bool.or_eq_true, decide_eq_true_eq] at hk
      have h0 := hk
      subst h0
      exact s_lshl hx hb hdg Z1
    · cases hk
  case lshr =>
    have Z1 := hz.resolve_right (fun q => q)
    dsimp only at hk
    split at hk
    · simp only [Bool.and_eq_true, Bool.or_eq_true, decide_eq_true_eq] at hk
      have h0 := hk
      subst h0
      exact s_lshr hx hb hdg Z1
    · cases hk
  case lcmp =>
    have Z1 := hz.resolve_right (fun q => q)
    dsimp only at hk
    split at hk
    · simp only [Bool.and_eq_true, Bool.or_eq_true, decide_eq_true_eq] at hk
      have h0 := hk
      subst h0
      exact s_lcmp hx hb hdg Z1
    · cases hk
  case i2l =>
    have Z1 := hz.resolve_right (fun q => q)
    dsimp only at hk
    split at hk
    · simp only [Bool.and_eq_true, Bool.or_eq_true, decide_eq_true_eq] at hk
      have h0 := hk
      subst h0
      exact s_i2l hx hb hdg Z1
    · cases hk
  case l2i =>
    have Z1 := hz.resolve_right (fun q => q)
    dsimp only at hk
    split at hk
    · simp only [Bool.and_eq_true, Bool.or_eq_true, decide_eq_true_eq] at hk
      have h0 := hk
      subst h0
      exact s_l2i hx hb hdg Z1
    · cases hk
  case i2b =>
    have Z1 := hz.resolve_right (fun q => q)
    dsimp only at hk
    split at hk
    · simp only [Bool.and_eq_true, Bool.or_eq_true, decide_eq_true_eq] at hk
      have h0 := hk
      subst h0
      exact s_i2b hx hb hdg Z1
    · cases hk
  case fadd =>
    have Z1 := hz.resolve_right (fun q => q)
    dsimp only at hk
    split at hk
    · rename_i i
      simp only [Bool.and_eq_true, Bool.or_eq_true, decide_eq_true_eq] at hk
      obtain ⟨h0, h1⟩ := hk
      subst h0
      exact s_imax hx hb hml hdg hts hown hSo hR (by omega) (by omega) (hin _ _ h1) Z1
    · cases hk
  case fsub =>
    have Z1 := hz.resolve_right (fun q => q)
    dsimp only at hk
    split at hk
    · rename_i i
      simp only [Bool.and_eq_true, Bool.or_eq_true, decide_eq_true_eq] at hk
      obtain ⟨h0, h1⟩ := hk
      subst h0
      exact s_imin hx hb hml hdg hts hown hSo hR (by omega) (by omega) (hin _ _ h1) Z1
    · cases hk
  case dadd =>
    have Z1 := hz.resolve_right (fun q => q)
    dsimp only at hk
    split at hk
    · rename_i i
      simp only [Bool.and_eq_true, Bool.or_eq_true, decide_eq_true_eq] at hk
      obtain ⟨h0, h1⟩ := hk
      subst h0
      exact s_lmax hx hb hml hdg hts hown hSo hR (by omega) (by omega) (hin _ _ h1) Z1
    · cases hk
  case dsub =>
    have Z1 := hz.resolve_right (fun q => q)
    dsimp only at hk
    split at hk
    · rename_i i
      simp only [Bool.and_eq_true, Bool.or_eq_true, decide_eq_true_eq] at hk
      obtain ⟨h0, h1⟩ := hk
      subst h0
      exact s_lmin hx hb hml hdg hts hown hSo hR (by omega) (by omega) (hin _ _ h1) Z1
    · cases hk
  case drem =>
    have Z1 := hz.resolve_right (fun q => q)
    dsimp only at hk
    split at hk
    · simp only [Bool.and_eq_true, Bool.or_eq_true, decide_eq_true_eq] at hk
      have h0 := hk
      subst h0
      exact s_pop2l hx hb hdg Z1
    · cases hk
  case goto w0 =>
    have Z1 := hz.resolve_right (fun q => q)
    dsimp only at hk
    split at hk
    · rename_i i
      simp only [Bool.and_eq_true, Bool.or_eq_true, decide_eq_true_eq] at hk
      obtain ⟨h0, h1⟩ := hk
      subst h0
      exact s_goto hx hb hdg h1 Z1
    · cases hk
  case ifnull w0 =>
    have Z1 := hz.resolve_right (fun q => q)
    dsimp only at hk
    split at hk
    · rename_i i
      simp only [Bool.and_eq_true, Bool.or_eq_true, decide_eq_true_eq] at hk
      obtain ⟨h0, h1⟩ := hk
      subst h0
      exact s_ifnull hx hb hdg h1 Z1
    · cases hk
  case ifnonnull w0 =>
    have Z1 := hz.resolve_right (fun q => q)
    dsimp only at hk
    split at hk
    · rename_i i
      simp only [Bool.and_eq_true, Bool.or_eq_true, decide_eq_true_eq] at hk
      obtain ⟨h0, h1⟩ := hk
      subst h0
      exact s_ifnonnull hx hb hdg h1 Z1
    · cases hk
  case ifCond o w1 =>
    have Z1 := hz.resolve_right (fun q => q)
    dsimp only at hk
    split at hk
    · rename_i o2 i
      simp only [Bool.and_eq_true, Bool.or_eq_true, decide_eq_true_eq] at hk
      obtain ⟨h0, h1, h2⟩ := hk
      subst h0
      subst h1
      cases o2 <;> first | exact s_if_eq hx hb hdg h2 Z1 | exact s_if_ne hx hb hdg h2 Z1 | exact s_if_lt hx hb hdg h2 Z1 | exact s_if_ge hx hb hdg h2 Z1 | exact s_if_gt hx hb hdg h2 Z1 | exact s_if_le hx hb hdg h2 Z1
    · cases hk
  case if_icmp o w1 =>
    have Z1 := hz.resolve_right (fun q => q)
    dsimp only at hk
    split at hk
    · rename_i o2 i
      simp only [Bool.and_eq_true, Bool.or_eq_true, decide_eq_true_eq] at hk
      obtain ⟨h0, h1, h2⟩ := hk
      subst h0
      subst h1
      cases o2 <;> first | exact s_icmp_eq hx hb hdg h2 Z1 | exact s_icmp_ne hx hb hdg h2 Z1 | exact s_icmp_lt hx hb hdg h2 Z1 | exact s_icmp_ge hx hb hdg h2 Z1 | exact s_icmp_gt hx hb hdg h2 Z1 | exact s_icmp_le hx hb hdg h2 Z1
    · cases hk
  case tableswitch df lo hi tg =>
    have Z2 := hz.resolve_left (fun q => q)
    dsimp only at hk
    split at hk
    · rename_i dflt lo2 hi2 offs
      simp only [Bool.and_eq_true, Bool.or_eq_true, decide_eq_true_eq] at hk
      obtain ⟨h0, h1, h2, h3, h4, h5⟩ := hk
      subst h0
      subst h1
      exact s_tableswitch hx hb hdg h2 h3 h4 (fun t ht => of_decide_eq_true (List.all_eq_true.mp h5 t (Array.mem_toList_iff.mpr ht))) Z2
    · cases hk
  case lookupswitch df qs =>
    have Z2 := hz.resolve_left (fun q => q)
    dsimp only at hk
    split at hk
    · rename_i dflt qr
      simp only [Bool.and_eq_true, Bool.or_eq_true, decide_eq_true_eq] at hk
      obtain ⟨h0, h1, h2, h3, h4⟩ := hk
      exact s_lookupswitch hx hb hdg h0 h1 h2 h3 (fun t ht => of_decide_eq_true (List.all_eq_true.mp h4 t ht)) Z2
    · cases hk
  case iaload =>
    have Z2 := hz.resolve_left (fun q => q)
    dsimp only at hk
    split at hk
    · simp only [Bool.and_eq_true, Bool.or_eq_true, decide_eq_true_eq] at hk
      have h0 := hk
      subst h0
      exact s_iaload hx hb hdg hK Z2
    · cases hk
  case baload =>
    have Z2 := hz.resolve_left (fun q => q)
    dsimp only at hk
    split at hk
    · simp only [Bool.and_eq_true, Bool.or_eq_true, decide_eq_true_eq] at hk
      have h0 := hk
      subst h0
      exact s_baload hx hb hdg hK Z2
    · cases hk
  case laload =>
    have Z2 := hz.resolve_left (fun q => q)
    dsimp only at hk
    split at hk
    · simp only [Bool.and_eq_true, Bool.or_eq_true, decide_eq_true_eq] at hk
      have h0 := hk
      subst h0
      exact s_laload hx hb hdg hK Z2
    · cases hk
  case aaload =>
    have Z2 := hz.resolve_left (fun q => q)
    dsimp only at hk
    split at hk
    · simp only [Bool.and_eq_true, Bool.or_eq_true, decide_eq_true_eq] at hk
      have h0 := hk
      subst h0
      exact s_aaload hx hb hdg hK Z2
    · cases hk
  case iastore =>
    have Z2 := hz.resolve_left (fun q => q)
    dsimp only at hk
    split at hk
    · simp only [Bool.and_eq_true, Bool.or_eq_true, decide_eq_true_eq] at hk
      have h0 := hk
      subst h0
      exact s_iastore hx hb hdg hK Z2
    · cases hk
  case bastore =>
    have Z2 := hz.resolve_left (fun q => q)
    dsimp only at hk
    split at hk
    · simp only [Bool.and_eq_true, Bool.or_eq_true, decide_eq_true_eq] at hk
      have h0 := hk
      subst h0
      exact s_bastore hx hb hdg hK Z2
    · cases hk
  case lastore =>
    have Z2 := hz.resolve_left (fun q => q)
    dsimp only at hk
    split at hk
    · simp only [Bool.and_eq_true, Bool.or_eq_true, decide_eq_true_eq] at hk
      have h0 := hk
      subst h0
      exact s_lastore hx hb hdg hK Z2
    · cases hk
  case aastore =>
    have Z2 := hz.resolve_left (fun q => q)
    dsimp only at hk
    split at hk
    · simp only [Bool.and_eq_true, Bool.or_eq_true, decide_eq_true_eq] at hk
      obtain ⟨h0, h1, h2⟩ := hk
      subst h0
      exact s_aastore hx hb hdg hK (hiu _ _ h1 rfl) h2 Z2
    · cases hk
  case sastore =>
    have Z2 := hz.resolve_left (fun q => q)
    dsimp only at hk
    split at hk
    · rename_i i
      simp only [Bool.and_eq_true, Bool.or_eq_true, decide_eq_true_eq] at hk
      obtain ⟨h0, h1, h2, h3, h4⟩ := hk
      subst h0
      exact s_copy hx hb hml hdg hown hK (hts _ (hin _ _ h1)) (hts _ (hin _ _ h2)) (hts _ (hin _ _ h3)) (hts _ (hin _ _ h4)) (by omega) (Nat.le_trans zcpw (Nat.le_trans (Nat.le_add_left 576 _) hR2)) Z2
    · cases hk
  case castore =>
    have Z2 := hz.resolve_left (fun q => q)
    dsimp only at hk
    split at hk
    · rename_i i
      simp only [Bool.and_eq_true, Bool.or_eq_true, decide_eq_true_eq] at hk
      obtain ⟨h0, h1, h2, h3, h4, h5, h6⟩ := hk
      subst h0
      exact s_clone zclI hx hb hml hdg hown hK hR (hts _ (hin _ _ h1)) (hts _ (hin _ _ h2)) (hts _ (hin _ _ h3)) (hts _ (hin _ _ h4)) (hts _ (hin _ _ h5)) (hiu _ _ h6 rfl) (by omega) (by omega) Z2
    · cases hk
  case fmul =>
    have Z2 := hz.resolve_left (fun q => q)
    dsimp only at hk
    split at hk
    · rename_i i
      simp only [Bool.and_eq_true, Bool.or_eq_true, decide_eq_true_eq] at hk
      obtain ⟨h0, h1⟩ := hk
      subst h0
      exact s_cast hx hb hdg hown hK (by rw [← zclI]; exact hts _ (hin _ _ h1)) Z2
    · cases hk
  case arraylength =>
    have Z2 := hz.resolve_left (fun q => q)
    dsimp only at hk
    split at hk
    · simp only [Bool.and_eq_true, Bool.or_eq_true, decide_eq_true_eq] at hk
      have h0 := hk
      subst h0
      exact s_alen hx hb hdg hK Z2
    · cases hk
  case saload =>
    have Z2 := hz.resolve_left (fun q => q)
    dsimp only at hk
    split at hk
    · simp only [Bool.and_eq_true, Bool.or_eq_true, decide_eq_true_eq] at hk
      obtain ⟨h0, h1⟩ := hk
      subst h0
      exact s_saload hx hb hdg (hX h1) Z2
    · cases hk
  case i2s =>
    have Z2 := hz.resolve_left (fun q => q)
    dsimp only at hk
    split at hk
    · simp only [Bool.and_eq_true, Bool.or_eq_true, decide_eq_true_eq] at hk
      obtain ⟨h0, h1⟩ := hk
      subst h0
      exact s_slen hx hb hdg (hX h1) Z2
    · cases hk
  case i2c =>
    have Z2 := hz.resolve_left (fun q => q)
    dsimp only at hk
    split at hk
    · rename_i i
      simp only [Bool.and_eq_true, Bool.or_eq_true, decide_eq_true_eq] at hk
      obtain ⟨h0, h1⟩ := hk
      subst h0
      exact s_jlen hx hb hml hdg hts hG hown hZ hZs hBs hSo hR (by omega) (by omega) (hin _ _ h1) Z2
    · cases hk
  case caload =>
    have Z2 := hz.resolve_left (fun q => q)
    dsimp only at hk
    split at hk
    · rename_i i
      simp only [Bool.and_eq_true, Bool.or_eq_true, decide_eq_true_eq] at hk
      obtain ⟨h0, h1⟩ := hk
      subst h0
      exact s_jch hx hb hml hdg hts hG hown hZ hZs hBs hSo hR (by omega) (by omega) (hin _ _ h1) Z2
    · cases hk
  case newarray t =>
    have Z2 := hz.resolve_left (fun q => q)
    dsimp only at hk
    split at hk
    · rename_i t2
      simp only [Bool.and_eq_true, Bool.or_eq_true, decide_eq_true_eq] at hk
      obtain ⟨h0, h1, h2⟩ := hk
      subst h0
      subst h1
      exact s_newarray hx hb hdg hK hR (hts _ (hin _ _ h2)) Z2
    · cases hk
  case anewarray w0 =>
    have Z2 := hz.resolve_left (fun q => q)
    dsimp only at hk
    split at hk
    · rename_i i
      simp only [Bool.and_eq_true, Bool.or_eq_true, decide_eq_true_eq] at hk
      obtain ⟨h0, h1⟩ := hk
      subst h0
      exact s_anewarray hx hb hdg hown hK hR (h1.imp (fun q => ⟨q.1, hts _ (hin _ _ q.2.1), hiu _ _ q.2.2 rfl⟩) (fun q => ⟨q.1, hts _ (hin _ _ q.2.1), hiu _ _ q.2.2 rfl⟩)) Z2
    · cases hk
  case multianewarray w0 w1 =>
    have Z2 := hz.resolve_left (fun q => q)
    dsimp only at hk
    split at hk
    · rename_i i n2
      simp only [Bool.and_eq_true, Bool.or_eq_true, decide_eq_true_eq] at hk
      obtain ⟨h0, h1, h2, h3, h4⟩ := hk
      subst h0
      subst h1
      exact s_multi hx hb hdg hown hK hR (hts _ (hin _ _ h2)) (hiu _ _ h3 rfl) (hts _ (hin _ _ h4)) Z2
    · cases hk
  case new w0 =>
    have Z2 := hz.resolve_left (fun q => q)
    dsimp only at hk
    split at hk
    · rename_i i
      simp only [Bool.and_eq_true, Bool.or_eq_true, decide_eq_true_eq] at hk
      obtain ⟨h0, h1⟩ := hk
      subst h0
      obtain ⟨C, T, N, e1, e2⟩ := zcl_of h1
      simp only [Bool.and_eq_true] at e2
      exact s_new hx hb hdg hts hT hown hK e1 hR (hts _ (hin _ _ e2.1)) (hts _ (hin _ _ e2.2.1)) (hts _ (hin _ _ e2.2.2)) Z2
    · cases hk
  case getfield w0 =>
    have Z2 := hz.resolve_left (fun q => q)
    dsimp only at hk
    split at hk
    · rename_i i
      simp only [Bool.and_eq_true, Bool.or_eq_true, decide_eq_true_eq] at hk
      obtain ⟨h0, h1⟩ := hk
      subst h0
      obtain ⟨C, T, N, e1, e2⟩ := zcl_of h1
      simp only [Bool.and_eq_true, decide_eq_true_eq] at e2
      exact s_getfield hx hb hdg hts hT hown hK e1 e2.1 (hts _ (hin _ _ e2.2)) Z2
    · cases hk
  case putfield w0 =>
    have Z2 := hz.resolve_left (fun q => q)
    dsimp only at hk
    split at hk
    · rename_i i
      simp only [Bool.and_eq_true, Bool.or_eq_true, decide_eq_true_eq] at hk
      obtain ⟨h0, h1⟩ := hk
      subst h0
      obtain ⟨C, T, N, e1, e2⟩ := zcl_of h1
      simp only [Bool.and_eq_true, Bool.or_eq_true, decide_eq_true_eq] at e2
      exact s_putfield hx hb hdg hts hT hown hK e1 e2.1 (hts _ (hin _ _ e2.2.1)) (e2.2.2.imp id (fun q => ⟨hini q.1, q.2⟩)) Z2
    · cases hk
  case pop2 =>
    have Z2 := hz.resolve_left (fun q => q)
    dsimp only at hk
    split at hk
    · rename_i i
      simp only [Bool.and_eq_true, Bool.or_eq_true, decide_eq_true_eq] at hk
      obtain ⟨h0, h1, h2, h3⟩ := hk
      subst h0
      exact s_objInit hx hb hml hdg hown (hts _ (hin _ _ h1)) (hts _ (hin _ _ h2)) (hts _ (hin _ _ h3)) (by omega) (by omega) Z2
    · cases hk
  case invokevirtual w0 =>
    have Z2 := hz.resolve_left (fun q => q)
    dsimp only at hk
    split at hk
    · rename_i i
      simp only [Bool.and_eq_true, Bool.or_eq_true, decide_eq_true_eq] at hk
      obtain ⟨h0, h1⟩ := hk
      subst h0
      obtain ⟨y, bytes, np, e1, e2⟩ := zcm_of h1
      simp only [Bool.and_eq_true, decide_eq_true_eq] at e2
      obtain ⟨e3, e4, e5, e6⟩ := e2
      subst e3
      obtain ⟨cd2, nL2, rt2, mc2, ms2, f1, f2, f3, f4, f5, f6, f7, f8⟩ := hMk a _ _ _ e1
      obtain ⟨q9, g1, g2⟩ := Option.map_eq_some_iff.mp e5
      obtain ⟨C9, T9, N9⟩ := q9
      have g3 : C9 = y.cls := g2
      subst g3
      exact s_virt hx hb hml hdg hts hG hown hK hZ hZs hBs hM hR hR1 hR2 e1 f1 f2 g1 (hin _ _ e4) (f7 e6).1 (f7 e6).2 f3 f4 f5 Z2
    · cases hk
  case invokespecial w0 =>
    have Z2 := hz.resolve_left (fun q => q)
    dsimp only at hk
    split at hk
    · rename_i i
      simp only [Bool.and_eq_true, Bool.or_eq_true, decide_eq_true_eq] at hk
      obtain ⟨h0, h1⟩ := hk
      subst h0
      obtain ⟨y, bytes, np, e1, e2⟩ := zcm_of h1
      simp only [Bool.and_eq_true, Bool.or_eq_true, decide_eq_true_eq] at e2
      obtain ⟨e3, e4, e6⟩ := e2
      subst e3
      obtain ⟨cd2, nL2, rt2, mc2, ms2, f1, f2, f3, f4, f5, f6, f7, f8⟩ := hMk a _ _ _ e1
      obtain ⟨g1, g2, g3⟩ := f8 e6
      subst g3
      exact s_spec hx hb hml hdg hts hG hown hK hZ hZs hBs hM hR hR1 hR2 e1 f1 f2 (e4.imp (hin _ _) (fun q => ⟨_, hiu _ _ q rfl⟩)) g1 f3 f4 g2 f5 Z2
    · cases hk
  case invokestatic w0 =>
    have Z2 := hz.resolve_left (fun q => q)
    dsimp only at hk
    split at hk
    · rename_i i
      simp only [Bool.and_eq_true, Bool.or_eq_true, decide_eq_true_eq] at hk
      obtain ⟨h0, h1⟩ := hk
      subst h0
      obtain ⟨y, bytes, np, e1, e2⟩ := zcm_of h1
      simp only [Bool.and_eq_true, Bool.or_eq_true, decide_eq_true_eq] at e2
      obtain ⟨e3, e4, e6⟩ := e2
      subst e3
      obtain ⟨cd2, nL2, rt2, mc2, ms2, f1, f2, f3, f4, f5, f6, f7, f8⟩ := hMk a _ _ _ e1
      exact s_stat hx hb hml hdg hts hG hown hK hZ hZs hBs hM hR hR1 hR2 e1 f1 f2 (e4.imp (hin _ _) (fun q => ⟨_, hiu _ _ q rfl⟩)) (f6 e6) f3 f4 f5 Z2
    · cases hk
  case ireturn =>
    have Z2 := hz.resolve_left (fun q => q)
    dsimp only at hk
    split at hk
    · simp only [Bool.and_eq_true, Bool.or_eq_true, decide_eq_true_eq] at hk
      have h0 := hk
      subst h0
      intro hc1 hc2 H locs lsA hH hS hL
      unfold zex2 at Z2
      dsimp only at Z2
      split at Z2
      · exact hri _ _ _ _ _ _ _ _ Z2.2 hc1 hc2 hH hS hdg Z2.1
      · exact Z2.elim
    · cases hk
  case lreturn =>
    have Z2 := hz.resolve_left (fun q => q)
    dsimp only at hk
    split at hk
    · simp only [Bool.and_eq_true, Bool.or_eq_true, decide_eq_true_eq] at hk
      have h0 := hk
      subst h0
      intro hc1 hc2 H locs lsA hH hS hL
      unfold zex2 at Z2
      dsimp only at Z2
      split at Z2
      · exact hrl _ _ _ _ _ _ _ _ Z2.2 hc1 hc2 hH hS hdg Z2.1
      · exact Z2.elim
    · cases hk
  case areturn =>
    have Z2 := hz.resolve_left (fun q => q)
    dsimp only at hk
    split at hk
    · simp only [Bool.and_eq_true, Bool.or_eq_true, decide_eq_true_eq] at hk
      have h0 := hk
      subst h0
      intro hc1 hc2 H locs lsA hH hS hL
      unfold zex2 at Z2
      dsimp only at Z2
      split at Z2
      · exact hra _ _ _ _ _ _ _ _ (by exact Or.inr (Or.inl ⟨_, rfl⟩)) Z2.2 hc1 hc2 hH hS hdg Z2.1
      · exact hra _ _ _ _ _ _ _ _ (Or.inl rfl) Z2.2 hc1 hc2 hH hS hdg Z2.1
      · exact hra _ _ _ _ _ _ _ _ (Or.inr (Or.inr ⟨_, rfl⟩)) Z2.2 hc1 hc2 hH hS hdg Z2.1
      · exact Z2.elim
    · cases hk
  case return_ =>
    have Z2 := hz.resolve_left (fun q => q)
    dsimp only at hk
    split at hk
    · simp only [Bool.and_eq_true, Bool.or_eq_true, decide_eq_true_eq] at hk
      have h0 := hk
      subst h0
      intro hc1 hc2 H locs lsA hH hS hL
      unfold zex2 at Z2
      dsimp only at Z2
      split at Z2
      · exact hrv _ _ _ _ _ _ _ Z2.2 hc1 hc2 hH hS hdg Z2.1
      · exact Z2.elim
    · cases hk
  all_goals cases hk
end SIM5
