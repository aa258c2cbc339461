/-! A SMALL MACHINE: canonical instructions, locals by place, cells by number; 'zR': a run comes to its end, and what it answers and leaves holds of 'ret'. -/
noncomputable abbrev zC : Type := (Nat × vp_A) ⊕ (Nat × List Value)
noncomputable abbrev zH : Type := List zC
noncomputable abbrev zE : Type := Instr × Nat × Nat × Nat × Nat × Value
noncomputable abbrev zK : Type := List (Option zE)
noncomputable abbrev zL : Type := List (Option Value)
noncomputable abbrev zX : Type := Nat → zL → List Value → zH → Nat → Nat → Prop
noncomputable abbrev zQ : Type := Option Value → zH → Prop
noncomputable abbrev zM : Type := Nat → List Value → zH → zQ → Prop
/-- a method: its code, its locals, what it returns, how many cells and places it may make -/
noncomputable abbrev zI : Type := zK × Nat × Option FieldType × Nat × Nat
/-- the program, the texts of its string constants, the script -/
noncomputable abbrev zG : Type := List zI × (Nat → List Int32) × Nat × (Nat → Int32)
/-- the place before a store: a wide value there is gone -/
noncomputable def zkp (i : Nat) (x : Option Value) : Option Value := bif i == 0 then (match x with
  | some w => bif w.category == 2 then none else some w
  | none => none) else x
noncomputable def zst : zL → Nat → Value → zL
  | [], _, _ => []
  | _ :: xs, 0, v => some v :: (bif v.category == 2 then (match xs with
    | [] => []
    | _ :: ys => none :: ys) else xs)
  | x :: xs, i + 1, v => zkp i x :: zst xs i v
noncomputable def zcond (o : Jvm.ClassFile.Cond) (x y : Int32) : Prop := match o with
  | .eq => x = y
  | .ne => ¬ x = y
  | .lt => x < y
  | .ge => y ≤ x
  | .gt => y < x
  | .le => x ≤ y
noncomputable def zrf (r : Option Nat) : Value := match r with
  | some a => .ref a
  | none => .null
/-- the places that 'new' makes, by their types -/
noncomputable def zbud (G : zG) (j : Nat) : Nat × Nat := match G.1[j]? with
  | some i => (i.2.2.2.1, i.2.2.2.2)
  | none => (0, 0)
noncomputable def zfields (T : Nat → FieldType) (N : Nat) : List Value := (List.range N).map (fun k => defaultValue (T k))
/-- a new array's cell by its kind: 0 int, 1 boolean, 2 byte, 3 long, 4 int[], 5 Car -/
noncomputable def zarr (k N : Nat) : zC := match k with
  | 3 => .inl (3, N, .inr (.inl (fun _ => 0)))
  | 4 => .inl (4, N, .inr (.inr (.inr (.inr (fun _ => none)))))
  | 5 => .inl (5, N, .inr (.inr (.inr (.inr (fun _ => none)))))
  | k => .inl (k, N, .inl (fun _ => 0))
noncomputable def zkind (a : ArrayType) : Nat := match a with
  | .int => 0
  | .boolean => 1
  | .byte => 2
  | .long => 3
  | _ => 9
noncomputable def zrows (q N K : Nat) : zH := .inl (4, N, .inr (.inr (.inr (.inr (fun i => if i < N then some (q + 1 + i) else none))))) :: List.replicate N (.inl (0, K, .inl (fun _ => 0)))
/-- the types of the fields of each class -/
noncomputable def zcls (tt : List ((Nat → FieldType) × Nat × (Nat → Bool))) (k : Nat) : List Value := match tt[k]? with
  | some (T, N, _) => zfields T N
  | none => []
section ZM
variable (tt : List ((Nat → FieldType) × Nat × (Nat → Bool))) (G : zG) (bc bs : Nat) (rt : Option FieldType) (M : zM) (ret : zQ) (X : zX)
/-- instructions of numbers, the stack and the locals -/
noncomputable def zex1 (e : zE) (L : zL) (st : List Value) (h : zH) (c n : Nat) : Prop := match e with
  | (ins, nx, a, b, d, v) => match ins with
    | .aconst_null => X nx L (v :: st) h c n
    | .iload _ => match L.getD a none with
      | some (.int x) => X nx L (.int x :: st) h c n
      | _ => False
    | .lload _ => match L.getD a none with
      | some (.long x) => X nx L (.long x :: st) h c n
      | _ => False
    | .aload _ => match L.getD a none with
      | some (.ref x) => X nx L (.ref x :: st) h c n
      | some .null => X nx L (.null :: st) h c n
      | some (.retAddr x) => X nx L (.retAddr x :: st) h c n
      | _ => False
    | .istore _ => match st with
      | .int x :: s => a < L.length ∧ X nx (zst L a (.int x)) s h c n
      | _ => False
    | .lstore _ => match st with
      | .long x :: s => a + 1 < L.length ∧ X nx (zst L a (.long x)) s h c n
      | _ => False
    | .astore _ => match st with
      | .ref x :: s => a < L.length ∧ X nx (zst L a (.ref x)) s h c n
      | .null :: s => a < L.length ∧ X nx (zst L a .null) s h c n
      | .retAddr x :: s => a < L.length ∧ X nx (zst L a (.retAddr x)) s h c n
      | _ => False
    | .iinc _ _ => match L.getD a none, v with
      | some (.int x), .int y => a < L.length ∧ X nx (zst L a (.int (x + y))) st h c n
      | _, _ => False
    | .pop => match st with
      | w :: s => w.category = 1 ∧ X nx L s h c n
      | [] => False
    | .dup => match st with
      | w :: s => w.category = 1 ∧ X nx L (w :: w :: s) h c n
      | [] => False
    | .dup_x1 => match st with
      | w :: w2 :: s => w.category = 1 ∧ w2.category = 1 ∧ X nx L (w :: w2 :: w :: s) h c n
      | _ => False
    | .dup2 => match st with
      | w :: w2 :: s => w.category = 1 ∧ w2.category = 1 ∧ X nx L (w :: w2 :: w :: w2 :: s) h c n
      | _ => False
    | .dup2_x1 => match st with
      | w :: s => w.category = 2 ∧ X nx L (w :: w :: s) h c n
      | _ => False
    | .iadd => match st with
      | .int y :: .int x :: s => X nx L (.int (x + y) :: s) h c n
      | _ => False
    | .isub => match st with
      | .int y :: .int x :: s => X nx L (.int (x - y) :: s) h c n
      | _ => False
    | .imul => match st with
      | .int y :: .int x :: s => X nx L (.int (x * y) :: s) h c n
      | _ => False
    | .idiv => match st with
      | .int y :: .int x :: s => ¬ y = 0 ∧ X nx L (.int (x / y) :: s) h c n
      | _ => False
    | .iand => match st with
      | .int y :: .int x :: s => X nx L (.int (x &&& y) :: s) h c n
      | _ => False
    | .ior => match st with
      | .int y :: .int x :: s => X nx L (.int (x ||| y) :: s) h c n
      | _ => False
    | .ishl => match st with
      | .int y :: .int x :: s => X nx L (.int (x <<< (y &&& 31)) :: s) h c n
      | _ => False
    | .ishr => match st with
      | .int y :: .int x :: s => X nx L (.int (x >>> (y &&& 31)) :: s) h c n
      | _ => False
    | .ladd => match st with
      | .long y :: .long x :: s => X nx L (.long (x + y) :: s) h c n
      | _ => False
    | .lsub => match st with
      | .long y :: .long x :: s => X nx L (.long (x - y) :: s) h c n
      | _ => False
    | .lmul => match st with
      | .long y :: .long x :: s => X nx L (.long (x * y) :: s) h c n
      | _ => False
    | .ldiv => match st with
      | .long y :: .long x :: s => ¬ y = 0 ∧ X nx L (.long (x / y) :: s) h c n
      | _ => False
    | .lrem => match st with
      | .long y :: .long x :: s => ¬ y = 0 ∧ X nx L (.long (x - x / y * y) :: s) h c n
      | _ => False
    | .lneg => match st with
      | .long x :: s => X nx L (.long (-x) :: s) h c n
      | _ => False
    | .land => match st with
      | .long y :: .long x :: s => X nx L (.long (x &&& y) :: s) h c n
      | _ => False
    | .lor => match st with
      | .long y :: .long x :: s => X nx L (.long (x ||| y) :: s) h c n
      | _ => False
    | .lxor => match st with
      | .long y :: .long x :: s => X nx L (.long (x ^^^ y) :: s) h c n
      | _ => False
    | .lshl => match st with
      | .int y :: .long x :: s => X nx L (.long (x <<< (y.toInt64 &&& 63)) :: s) h c n
      | _ => False
    | .lshr => match st with
      | .int y :: .long x :: s => X nx L (.long (x >>> (y.toInt64 &&& 63)) :: s) h c n
      | _ => False
    | .lcmp => match st with
      | .long y :: .long x :: s => X nx L (.int (lg_cmp x y) :: s) h c n
      | _ => False
    | .i2l => match st with
      | .int x :: s => X nx L (.long x.toInt64 :: s) h c n
      | _ => False
    | .l2i => match st with
      | .long x :: s => X nx L (.int x.toInt32 :: s) h c n
      | _ => False
    | .i2b => match st with
      | .int x :: s => X nx L (.int x.toInt8.toInt32 :: s) h c n
      | _ => False
    | .fadd => match st with
      | .int y :: .int x :: s => (s.map fun v => v.category).sum ≤ 8 ∧ X nx L (.int (if x < y then y else x) :: s) h c n
      | _ => False
    | .fsub => match st with
      | .int y :: .int x :: s => (s.map fun v => v.category).sum ≤ 8 ∧ X nx L (.int (if y < x then y else x) :: s) h c n
      | _ => False
    | .dadd => match st with
      | .long y :: .long x :: s => (s.map fun v => v.category).sum ≤ 8 ∧ X nx L (.long (if y < x then x else y) :: s) h c n
      | _ => False
    | .dsub => match st with
      | .long y :: .long x :: s => (s.map fun v => v.category).sum ≤ 8 ∧ X nx L (.long (if y < x then y else x) :: s) h c n
      | _ => False
    | .ddiv => match st with
      | .long y :: .long x :: s => ¬ y = 0 ∧ (s.map fun v => v.category).sum ≤ 8 ∧ X nx L (.long (if (x ^^^ y) < 0 ∧ ¬ x / y * y = x then x / y - 1 else x / y) :: s) h c n
      | _ => False
    | .drem => match st with
      | w :: s => w.category = 2 ∧ X nx L s h c n
      | [] => False
    | .goto _ => X a L st h c n
    | .ifCond o _ => match st with
      | .int x :: s => (zcond o x 0 → X a L s h c n) ∧ (¬ zcond o x 0 → X nx L s h c n)
      | _ => False
    | .if_icmp o _ => match st with
      | .int y :: .int x :: s => (zcond o x y → X a L s h c n) ∧ (¬ zcond o x y → X nx L s h c n)
      | _ => False
    | .ifnull _ => match st with
      | .null :: s => X a L s h c n
      | .ref _ :: s => X nx L s h c n
      | _ => False
    | .ifnonnull _ => match st with
      | .null :: s => X nx L s h c n
      | .ref _ :: s => X a L s h c n
      | _ => False
    | _ => False
/-- instructions of cells, calls, ends -/
noncomputable def zex2 (e : zE) (L : zL) (st : List Value) (h : zH) (c n : Nat) : Prop := match e with
  | (ins, nx, a, b, d, v) => match ins with
    | .tableswitch df lo hi tg => match st with
      | .int x :: s => ((x.toInt < lo ∨ hi < x.toInt) → X df.toNat L s h c n) ∧ (¬ x.toInt < lo → ¬ hi < x.toInt → ∃ t : Int, tg[(x.toInt - lo).toNat]? = some t ∧ X t.toNat L s h c n)
      | _ => False
    | .lookupswitch df ps => match st with
      | .int x :: s => X (Op.lookupswitch.offset ps.toList df x.toInt).toNat L s h c n
      | _ => False
    | .iaload => match st with
      | .int i :: .ref r :: s => ∃ (N : Nat) (f : Nat → Int32), h[r]? = some (.inl (0, N, .inl f)) ∧ vp_in i N ∧ X nx L (.int (f i.toNatClampNeg) :: s) h c n
      | _ => False
    | .baload => match st with
      | .int i :: .ref r :: s => ∃ (k N : Nat) (f : Nat → Int32), (k = 1 ∨ k = 2) ∧ h[r]? = some (.inl (k, N, .inl f)) ∧ vp_in i N ∧ X nx L (.int (f i.toNatClampNeg) :: s) h c n
      | _ => False
    | .laload => match st with
      | .int i :: .ref r :: s => ∃ (N : Nat) (f : Nat → Int64), h[r]? = some (.inl (3, N, .inr (.inl f))) ∧ vp_in i N ∧ X nx L (.long (f i.toNatClampNeg) :: s) h c n
      | _ => False
    | .aaload => match st with
      | .int i :: .ref r :: s => ∃ (k N : Nat) (f : Nat → Option Nat), (k = 4 ∨ k = 5) ∧ h[r]? = some (.inl (k, N, .inr (.inr (.inr (.inr f))))) ∧ vp_in i N ∧ X nx L (zrf (f i.toNatClampNeg) :: s) h c n
      | _ => False
    | .saload => match st with
      | .int i :: .retAddr 0 :: s => vp_in i G.2.2.1 ∧ X nx L (.int (G.2.2.2 i.toNatClampNeg) :: s) h c n
      | _ => False
    | .i2s => match st with
      | .retAddr 0 :: s => X nx L (.int (Int32.ofNat G.2.2.1) :: s) h c n
      | _ => False
    | .iastore => match st with
      | .int x :: .int i :: .ref r :: s => ∃ (N : Nat) (f : Nat → Int32), h[r]? = some (.inl (0, N, .inl f)) ∧ vp_in i N ∧ X nx L s (h.set r (.inl (0, N, .inl (upd f i.toNatClampNeg x)))) c n
      | _ => False
    | .bastore => match st with
      | .int x :: .int i :: .ref r :: s => ∃ (k N : Nat) (f : Nat → Int32), (k = 1 ∨ k = 2) ∧ h[r]? = some (.inl (k, N, .inl f)) ∧ vp_in i N ∧ X nx L s (h.set r (.inl (k, N, .inl (upd f i.toNatClampNeg (vp_nar (if k = 1 then .boolean else .byte) x))))) c n
      | _ => False
    | .lastore => match st with
      | .long x :: .int i :: .ref r :: s => ∃ (N : Nat) (f : Nat → Int64), h[r]? = some (.inl (3, N, .inr (.inl f))) ∧ vp_in i N ∧ X nx L s (h.set r (.inl (3, N, .inr (.inl (vp_updL f i.toNatClampNeg x))))) c n
      | _ => False
    | .aastore => match st with
      | .ref y :: .int i :: .ref r :: s => ∃ (k N : Nat) (f : Nat → Option Nat), ((k = 4 ∧ ∃ (K : Nat) (g : Nat → Int32), h[y]? = some (.inl (0, K, .inl g))) ∨ (k = 5 ∧ ∃ fs : List Value, h[y]? = some (.inr (d, fs)))) ∧ h[r]? = some (.inl (k, N, .inr (.inr (.inr (.inr f))))) ∧ vp_in i N ∧ X nx L s (h.set r (.inl (k, N, .inr (.inr (.inr (.inr (va_up f i.toNatClampNeg (some y)))))))) c n
      | _ => False
    | .sastore => match st with
      | .int m :: .int dp :: .ref y :: .int sp :: .ref r :: s => ∃ (N K : Nat) (f g : Nat → Int32), h[r]? = some (.inl (0, N, .inl f)) ∧ h[y]? = some (.inl (0, K, .inl g)) ∧ (sp = 0 ∧ dp = 0 ∧ ¬ m < 0 ∧ m.toNatClampNeg ≤ N ∧ m.toNatClampNeg ≤ K ∧ (s.map fun v => v.category).sum ≤ 8) ∧ X nx L s (h.set y (.inl (0, K, .inl (va_cpy f g 0 0 m.toNatClampNeg)))) c n
      | _ => False
    | .castore => match st with
      | .ref r :: s => ∃ (N : Nat) (f : Nat → Int32), h[r]? = some (.inl (0, N, .inl f)) ∧ ((s.map fun v => v.category).sum ≤ 8 ∧ c + 1 ≤ bc ∧ n + N ≤ bs) ∧ X nx L (.ref h.length :: s) (h ++ [.inl (0, N, .inl f)]) (c + 1) (n + N)
      | _ => False
    | .fmul => match st with
      | .ref r :: s => ∃ (N : Nat) (f : Nat → Int32), h[r]? = some (.inl (0, N, .inl f)) ∧ True ∧ X nx L (.ref r :: s) h c n
      | _ => False
    | .arraylength => match st with
      | .ref r :: s => ∃ (k N : Nat) (x : (Nat → Int32) ⊕ (Nat → Int64) ⊕ (Nat → UInt32) ⊕ (Nat → UInt64) ⊕ (Nat → Option Nat)), k < 6 ∧ h[r]? = some (.inl (k, N, x)) ∧ X nx L (.int (Int32.ofNat N) :: s) h c n
      | _ => False
    | .newarray at0 => match st with
      | .int x :: s => ¬ x < 0 ∧ x.toNatClampNeg ≤ 10000 ∧ c + 1 ≤ bc ∧ n + x.toNatClampNeg ≤ bs ∧ zkind at0 < 4 ∧ X nx L (.ref h.length :: s) (h ++ [zarr (zkind at0) x.toNatClampNeg]) (c + 1) (n + x.toNatClampNeg)
      | _ => False
    | .anewarray _ => match st with
      | .int x :: s => ¬ x < 0 ∧ x.toNatClampNeg ≤ 10000 ∧ c + 1 ≤ bc ∧ n + x.toNatClampNeg ≤ bs ∧ (a = 4 ∨ a = 5) ∧ X nx L (.ref h.length :: s) (h ++ [zarr a x.toNatClampNeg]) (c + 1) (n + x.toNatClampNeg)
      | _ => False
    | .multianewarray _ _ => match st with
      | .int y :: .int x :: s => ¬ x < 0 ∧ ¬ y < 0 ∧ x.toNatClampNeg ≤ 10000 ∧ y.toNatClampNeg ≤ 10000 ∧ c + (1 + x.toNatClampNeg) ≤ bc ∧ n + (x.toNatClampNeg + x.toNatClampNeg * y.toNatClampNeg) ≤ bs ∧ X nx L (.ref h.length :: s) (h ++ zrows h.length x.toNatClampNeg y.toNatClampNeg) (c + 1 + x.toNatClampNeg) (n + x.toNatClampNeg + x.toNatClampNeg * y.toNatClampNeg)
      | _ => False
    | .new _ => c + 1 ≤ bc ∧ n + (zcls tt a).length ≤ bs ∧ X nx L (.ref h.length :: st) (h ++ [.inr (a, zcls tt a)]) (c + 1) (n + (zcls tt a).length)
    | .getfield _ => match st with
      | .ref r :: s => ∃ (fs : List Value) (w : Value), h[r]? = some (.inr (a, fs)) ∧ fs[b]? = some w ∧ X nx L (w :: s) h c n
      | _ => False
    | .putfield _ => match st with
      | w :: .ref r :: s => ∃ (fs : List Value) (t : FieldType), h[r]? = some (.inr (a, fs)) ∧ b < fs.length ∧ (tt[a]?).map (fun q => q.1 b) = some t ∧ narrow t w = w ∧ fits t w = true ∧ X nx L s (h.set r (.inr (a, fs.set b w))) c n
      | _ => False
    | .pop2 => match st with
      | .ref _ :: s => (s.map fun v => v.category).sum ≤ 8 ∧ X nx L s h c n
      | _ => False
    | .invokevirtual _ => match st.drop b with
      | .ref r :: s => (st.take b).length = b ∧ (∃ fs : List Value, h[r]? = some (.inr (d, fs))) ∧ (s.map fun v => v.category).sum ≤ 8 ∧ c + (zbud G a).1 ≤ bc ∧ n + (zbud G a).2 ≤ bs ∧ M a (.ref r :: (st.take b).reverse) h (fun w h2 => X nx L (w.toList ++ s) h2 (c + (zbud G a).1) (n + (zbud G a).2))
      | _ => False
    | .invokespecial _ => match st.drop b with
      | .ref r :: s => (st.take b).length = b ∧ (s.map fun v => v.category).sum ≤ 8 ∧ c + (zbud G a).1 ≤ bc ∧ n + (zbud G a).2 ≤ bs ∧ M a (.ref r :: (st.take b).reverse) h (fun w h2 => X nx L (w.toList ++ s) h2 (c + (zbud G a).1) (n + (zbud G a).2))
      | _ => False
    | .invokestatic _ => (st.take b).length = b ∧ ((st.drop b).map fun v => v.category).sum ≤ 8 ∧ c + (zbud G a).1 ≤ bc ∧ n + (zbud G a).2 ≤ bs ∧ M a (st.take b).reverse h (fun w h2 => X nx L (w.toList ++ st.drop b) h2 (c + (zbud G a).1) (n + (zbud G a).2))
    | .ireturn => match st with
      | [.int x] => (∃ t : FieldType, rt = some t ∧ narrow t (.int x) = .int x) ∧ ret (some (.int x)) h
      | _ => False
    | .lreturn => match st with
      | [.long x] => rt = some .long ∧ ret (some (.long x)) h
      | _ => False
    | .areturn => match st with
      | [.ref x] => (∃ t : FieldType, rt = some t ∧ fits t .null = true) ∧ ret (some (.ref x)) h
      | [.null] => (∃ t : FieldType, rt = some t ∧ fits t .null = true) ∧ ret (some .null) h
      | [.retAddr x] => (∃ t : FieldType, rt = some t ∧ fits t .null = true) ∧ ret (some (.retAddr x)) h
      | _ => False
    | .return_ => match st with
      | [] => rt = none ∧ ret none h
      | _ => False
    | .caload => match st with
      | .int i :: .retAddr k :: s => vp_in i (G.2.1 k).length ∧ (s.map fun v => v.category).sum ≤ 8 ∧ X nx L (.int ((G.2.1 k).getD i.toNatClampNeg 0) :: s) h c n
      | _ => False
    | .i2c => match st with
      | .retAddr k :: s => 0 < (G.2.1 k).length ∧ (s.map fun v => v.category).sum ≤ 8 ∧ X nx L (.int (Int32.ofNat (G.2.1 k).length) :: s) h c n
      | _ => False
    | _ => False
noncomputable def zex (e : zE) (L : zL) (st : List Value) (h : zH) (c n : Nat) : Prop := zex1 X e L st h c n ∨ zex2 tt G bc bs rt M ret X e L st h c n
noncomputable def zstep (cd : zK) (pc : Nat) (L : zL) (st : List Value) (h : zH) (c n : Nat) : Prop := match cd[pc]? with
  | some (some e) => zex tt G bc bs rt M ret X e L st h c n
  | _ => False
end ZM
noncomputable abbrev zT : Type := List ((Nat → FieldType) × Nat × (Nat → Bool))
/-- a run from here comes to its end: the least such -/
noncomputable def zR (tt : zT) (G : zG) (cd : zK) (bc bs : Nat) (rt : Option FieldType) (M : zM) (ret : zQ) (pc : Nat) (L : zL) (st : List Value) (h : zH) (c n : Nat) : Prop :=
  ∀ X : zX, (∀ pc L st h c n, zstep tt G bc bs rt M ret X cd pc L st h c n → X pc L st h c n) → X pc L st h c n
noncomputable def zmono (M : zM) : Prop := ∀ (j : Nat) (as : List Value) (h : zH) (Q Q' : zQ), (∀ w h2, Q w h2 → Q' w h2) → M j as h Q → M j as h Q'
noncomputable def zargs : List Value → zL
  | [] => []
  | v :: vs => bif v.category == 2 then some v :: none :: zargs vs else some v :: zargs vs
noncomputable def zentry (as : List Value) (nL : Nat) : zL := zargs as ++ List.replicate (nL - (zargs as).length) none
noncomputable def zW (tt : zT) (G : zG) : Nat → zM
  | 0 => fun _ _ _ _ => False
  | d + 1 => fun j as h Q => match G.1[j]? with
    | some (cd, nL, rt, bc, bs) => (zargs as).length ≤ nL ∧ zR tt G cd bc bs rt (zW tt G d) Q 0 (zentry as nL) [] h 0 0
    | none => False
