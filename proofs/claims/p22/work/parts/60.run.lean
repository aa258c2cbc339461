/-! closed runs of the small machine, by evaluation: arrays as lists of stores -/
noncomputable abbrev dA : Type := List (Nat × Int32) ⊕ List (Nat × Int64) ⊕ (Option Nat × List (Nat × Option Nat))
noncomputable abbrev dC : Type := (Nat × Nat × dA) ⊕ (Nat × List Value)
noncomputable abbrev dH : Type := List dC
noncomputable def dfi : List (Nat × Int32) → Nat → Int32
  | [] => fun _ => 0
  | q :: r => upd (dfi r) q.1 q.2
noncomputable def dfl : List (Nat × Int64) → Nat → Int64
  | [] => fun _ => 0
  | q :: r => vp_updL (dfl r) q.1 q.2
noncomputable def dfq (N : Nat) (b : Option Nat) : List (Nat × Option Nat) → Nat → Option Nat
  | [] => match b with
    | some q => fun i => if i < N then some (q + 1 + i) else none
    | none => fun _ => none
  | q :: r => va_up (dfq N b r) q.1 q.2
noncomputable def dz : dC → zC
  | .inl (k, N, .inl u) => .inl (k, N, .inl (dfi u))
  | .inl (k, N, .inr (.inl u)) => .inl (k, N, .inr (.inl (dfl u)))
  | .inl (k, N, .inr (.inr (b, u))) => .inl (k, N, .inr (.inr (.inr (.inr (dfq N b u)))))
  | .inr x => .inr x
noncomputable def dzH (h : dH) : zH := h.map dz
theorem dzH_get {h : dH} {r : Nat} {x : dC} (q : h[r]? = some x) : (dzH h)[r]? = some (dz x) := by
  unfold dzH
  rw [List.getElem?_map, q]
  rfl
theorem dzH_set (h : dH) (r : Nat) (x : dC) : dzH (h.set r x) = (dzH h).set r (dz x) := by
  unfold dzH
  rw [List.map_set]
theorem dzH_len (h : dH) : (dzH h).length = h.length := by unfold dzH; rw [List.length_map]
theorem dzH_app (h g : dH) : dzH (h ++ g) = dzH h ++ dzH g := by unfold dzH; rw [List.map_append]
noncomputable def darr (k N : Nat) : dC := match k with
  | 3 => .inl (3, N, .inr (.inl []))
  | 4 => .inl (4, N, .inr (.inr (none, [])))
  | 5 => .inl (5, N, .inr (.inr (none, [])))
  | k => .inl (k, N, .inl [])
theorem darr_z {k N : Nat} (hk : k < 6) : dz (darr k N) = zarr k N := by
  rcases (by omega : k = 0 ∨ k = 1 ∨ k = 2 ∨ k = 3 ∨ k = 4 ∨ k = 5) with rfl | rfl | rfl | rfl | rfl | rfl <;> rfl
noncomputable def drows (q N K : Nat) : dH := .inl (4, N, .inr (.inr (some q, []))) :: List.replicate N (.inl (0, K, .inl []))
theorem drows_z (q N K : Nat) : dzH (drows q N K) = zrows q N K := by
  unfold dzH drows zrows
  rw [List.map_cons, List.map_replicate]
  rfl
noncomputable abbrev dS : Type := Nat × zL × List Value × dH × Nat × Nat
noncomputable abbrev dM : Type := Nat → List Value → dH → Option (Option Value × dH)
theorem dcond_dec (o : Jvm.ClassFile.Cond) (x y : Int32) : (match o with
  | .eq => decide (x = y)
  | .ne => !decide (x = y)
  | .lt => decide (x < y)
  | .ge => decide (y ≤ x)
  | .gt => decide (y < x)
  | .le => decide (x ≤ y)) = true ↔ zcond o x y := by
  cases o <;> simp [zcond]
noncomputable def dcond (o : Jvm.ClassFile.Cond) (x y : Int32) : Bool := match o with
  | .eq => decide (x = y)
  | .ne => !decide (x = y)
  | .lt => decide (x < y)
  | .ge => decide (y ≤ x)
  | .gt => decide (y < x)
  | .le => decide (x ≤ y)
theorem dcond_t {o : Jvm.ClassFile.Cond} {x y : Int32} (h : dcond o x y = true) : zcond o x y := (dcond_dec o x y).mp h
theorem dcond_f {o : Jvm.ClassFile.Cond} {x y : Int32} (h : ¬ dcond o x y = true) : ¬ zcond o x y := fun q => h ((dcond_dec o x y).mpr q)
section DRUN
variable (tt : zT) (G : zG) (bc bs : Nat) (rt : Option FieldType) (M : dM)
noncomputable def dex (e : zE) (L : zL) (st : List Value) (h : dH) (c n : Nat) : Option (dS ⊕ (Option Value × dH)) := match e with
  | (ins, nx, a, b, d, v) => match ins with
    | .aconst_null => some (.inl (nx, L, v :: st, h, c, n))
    | .iload _ => match L.getD a none with
      | some (.int x) => some (.inl (nx, L, .int x :: st, h, c, n))
      | _ => none
    | .lload _ => match L.getD a none with
      | some (.long x) => some (.inl (nx, L, .long x :: st, h, c, n))
      | _ => none
    | .aload _ => match L.getD a none with
      | some (.ref x) => some (.inl (nx, L, .ref x :: st, h, c, n))
      | some .null => some (.inl (nx, L, .null :: st, h, c, n))
      | some (.retAddr x) => some (.inl (nx, L, .retAddr x :: st, h, c, n))
      | _ => none
    | .istore _ => match st with
      | .int x :: s => if a < L.length then some (.inl (nx, zst L a (.int x), s, h, c, n)) else none
      | _ => none
    | .lstore _ => match st with
      | .long x :: s => if a + 1 < L.length then some (.inl (nx, zst L a (.long x), s, h, c, n)) else none
      | _ => none
    | .astore _ => match st with
      | .ref x :: s => if a < L.length then some (.inl (nx, zst L a (.ref x), s, h, c, n)) else none
      | .null :: s => if a < L.length then some (.inl (nx, zst L a .null, s, h, c, n)) else none
      | .retAddr x :: s => if a < L.length then some (.inl (nx, zst L a (.retAddr x), s, h, c, n)) else none
      | _ => none
    | .iinc _ _ => match L.getD a none, v with
      | some (.int x), .int y => if a < L.length then some (.inl (nx, zst L a (.int (x + y)), st, h, c, n)) else none
      | _, _ => none
    | .pop => match st with
      | w :: s => if w.category = 1 then some (.inl (nx, L, s, h, c, n)) else none
      | _ => none
    | .dup => match st with
      | w :: s => if w.category = 1 then some (.inl (nx, L, w :: w :: s, h, c, n)) else none
      | _ => none
    | .dup_x1 => match st with
      | w :: w2 :: s => if w.category = 1 ∧ w2.category = 1 then some (.inl (nx, L, w :: w2 :: w :: s, h, c, n)) else none
      | _ => none
    | .dup2 => match st with
      | w :: w2 :: s => if w.category = 1 ∧ w2.category = 1 then some (.inl (nx, L, w :: w2 :: w :: w2 :: s, h, c, n)) else none
      | _ => none
    | .iadd => match st with
      | .int y :: .int x :: s => some (.inl (nx, L, .int (x + y) :: s, h, c, n))
      | _ => none
    | .isub => match st with
      | .int y :: .int x :: s => some (.inl (nx, L, .int (x - y) :: s, h, c, n))
      | _ => none
    | .imul => match st with
      | .int y :: .int x :: s => some (.inl (nx, L, .int (x * y) :: s, h, c, n))
      | _ => none
    | .iand => match st with
      | .int y :: .int x :: s => some (.inl (nx, L, .int (x &&& y) :: s, h, c, n))
      | _ => none
    | .ior => match st with
      | .int y :: .int x :: s => some (.inl (nx, L, .int (x ||| y) :: s, h, c, n))
      | _ => none
    | .ishl => match st with
      | .int y :: .int x :: s => some (.inl (nx, L, .int (x <<< (y &&& 31)) :: s, h, c, n))
      | _ => none
    | .ishr => match st with
      | .int y :: .int x :: s => some (.inl (nx, L, .int (x >>> (y &&& 31)) :: s, h, c, n))
      | _ => none
    | .idiv => match st with
      | .int y :: .int x :: s => if ¬ y = 0 then some (.inl (nx, L, .int (x / y) :: s, h, c, n)) else none
      | _ => none
    | .ladd => match st with
      | .long y :: .long x :: s => some (.inl (nx, L, .long (x + y) :: s, h, c, n))
      | _ => none
    | .lsub => match st with
      | .long y :: .long x :: s => some (.inl (nx, L, .long (x - y) :: s, h, c, n))
      | _ => none
    | .lmul => match st with
      | .long y :: .long x :: s => some (.inl (nx, L, .long (x * y) :: s, h, c, n))
      | _ => none
    | .lcmp => match st with
      | .long y :: .long x :: s => some (.inl (nx, L, .int (lg_cmp x y) :: s, h, c, n))
      | _ => none
    | .i2l => match st with
      | .int x :: s => some (.inl (nx, L, .long x.toInt64 :: s, h, c, n))
      | _ => none
    | .l2i => match st with
      | .long x :: s => some (.inl (nx, L, .int x.toInt32 :: s, h, c, n))
      | _ => none
    | .i2b => match st with
      | .int x :: s => some (.inl (nx, L, .int x.toInt8.toInt32 :: s, h, c, n))
      | _ => none
    | .goto _ => some (.inl (a, L, st, h, c, n))
    | .ifCond o _ => match st with
      | .int x :: s => if dcond o x 0 then some (.inl (a, L, s, h, c, n)) else some (.inl (nx, L, s, h, c, n))
      | _ => none
    | .if_icmp o _ => match st with
      | .int y :: .int x :: s => if dcond o x y then some (.inl (a, L, s, h, c, n)) else some (.inl (nx, L, s, h, c, n))
      | _ => none
    | .ifnull _ => match st with
      | .null :: s => some (.inl (a, L, s, h, c, n))
      | .ref _ :: s => some (.inl (nx, L, s, h, c, n))
      | _ => none
    | .ifnonnull _ => match st with
      | .null :: s => some (.inl (nx, L, s, h, c, n))
      | .ref _ :: s => some (.inl (a, L, s, h, c, n))
      | _ => none
    | .tableswitch df lo hi tg => match st with
      | .int x :: s => if x.toInt < lo ∨ hi < x.toInt then some (.inl (df.toNat, L, s, h, c, n)) else match tg[(x.toInt - lo).toNat]? with
        | some t => some (.inl (t.toNat, L, s, h, c, n))
        | none => none
      | _ => none
    | .lookupswitch df ps => match st with
      | .int x :: s => some (.inl ((Op.lookupswitch.offset ps.toList df x.toInt).toNat, L, s, h, c, n))
      | _ => none
    | .iaload => match st with
      | .int i :: .ref r :: s => match h[r]? with
        | some (.inl (0, N, .inl u)) => if 0 ≤ i ∧ i.toNatClampNeg < N then some (.inl (nx, L, .int (dfi u i.toNatClampNeg) :: s, h, c, n)) else none
        | _ => none
      | _ => none
    | .laload => match st with
      | .int i :: .ref r :: s => match h[r]? with
        | some (.inl (3, N, .inr (.inl u))) => if 0 ≤ i ∧ i.toNatClampNeg < N then some (.inl (nx, L, .long (dfl u i.toNatClampNeg) :: s, h, c, n)) else none
        | _ => none
      | _ => none
    | .baload => match st with
      | .int i :: .ref r :: s => match h[r]? with
        | some (.inl (k, N, .inl u)) => if (k = 1 ∨ k = 2) ∧ 0 ≤ i ∧ i.toNatClampNeg < N then some (.inl (nx, L, .int (dfi u i.toNatClampNeg) :: s, h, c, n)) else none
        | _ => none
      | _ => none
    | .aaload => match st with
      | .int i :: .ref r :: s => match h[r]? with
        | some (.inl (k, N, .inr (.inr (b0, u)))) => if (k = 4 ∨ k = 5) ∧ 0 ≤ i ∧ i.toNatClampNeg < N then some (.inl (nx, L, zrf (dfq N b0 u i.toNatClampNeg) :: s, h, c, n)) else none
        | _ => none
      | _ => none
    | .iastore => match st with
      | .int x :: .int i :: .ref r :: s => match h[r]? with
        | some (.inl (0, N, .inl u)) => if 0 ≤ i ∧ i.toNatClampNeg < N then some (.inl (nx, L, s, h.set r (.inl (0, N, .inl ((i.toNatClampNeg, x) :: u))), c, n)) else none
        | _ => none
      | _ => none
    | .bastore => match st with
      | .int x :: .int i :: .ref r :: s => match h[r]? with
        | some (.inl (k, N, .inl u)) => if (k = 1 ∨ k = 2) ∧ 0 ≤ i ∧ i.toNatClampNeg < N then some (.inl (nx, L, s, h.set r (.inl (k, N, .inl ((i.toNatClampNeg, vp_nar (if k = 1 then .boolean else .byte) x) :: u))), c, n)) else none
        | _ => none
      | _ => none
    | .lastore => match st with
      | .long x :: .int i :: .ref r :: s => match h[r]? with
        | some (.inl (3, N, .inr (.inl u))) => if 0 ≤ i ∧ i.toNatClampNeg < N then some (.inl (nx, L, s, h.set r (.inl (3, N, .inr (.inl ((i.toNatClampNeg, x) :: u)))), c, n)) else none
        | _ => none
      | _ => none
    | .arraylength => match st with
      | .ref r :: s => match h[r]? with
        | some (.inl (k, N, u)) => if k < 6 then some (.inl (nx, L, .int (Int32.ofNat N) :: s, h, c, n)) else none
        | _ => none
      | _ => none
    | .newarray t => match st with
      | .int x :: s => if 0 ≤ x ∧ x.toNatClampNeg ≤ 10000 ∧ c + 1 ≤ bc ∧ n + x.toNatClampNeg ≤ bs ∧ zkind t < 4 then some (.inl (nx, L, .ref h.length :: s, h ++ [darr (zkind t) x.toNatClampNeg], c + 1, n + x.toNatClampNeg)) else none
      | _ => none
    | .anewarray _ => match st with
      | .int x :: s => if 0 ≤ x ∧ x.toNatClampNeg ≤ 10000 ∧ c + 1 ≤ bc ∧ n + x.toNatClampNeg ≤ bs ∧ (a = 4 ∨ a = 5) then some (.inl (nx, L, .ref h.length :: s, h ++ [darr a x.toNatClampNeg], c + 1, n + x.toNatClampNeg)) else none
      | _ => none
    | .multianewarray _ _ => match st with
      | .int y :: .int x :: s => if 0 ≤ x ∧ 0 ≤ y ∧ x.toNatClampNeg ≤ 10000 ∧ y.toNatClampNeg ≤ 10000 ∧ c + (1 + x.toNatClampNeg) ≤ bc ∧ n + (x.toNatClampNeg + x.toNatClampNeg * y.toNatClampNeg) ≤ bs then some (.inl (nx, L, .ref h.length :: s, h ++ drows h.length x.toNatClampNeg y.toNatClampNeg, c + 1 + x.toNatClampNeg, n + x.toNatClampNeg + x.toNatClampNeg * y.toNatClampNeg)) else none
      | _ => none
    | .new _ => if c + 1 ≤ bc ∧ n + (zcls tt a).length ≤ bs then some (.inl (nx, L, .ref h.length :: st, h ++ [.inr (a, zcls tt a)], c + 1, n + (zcls tt a).length)) else none
    | .getfield _ => match st with
      | .ref r :: s => match h[r]? with
        | some (.inr (k, fs)) => if k = a then (match fs[b]? with
          | some w => some (.inl (nx, L, w :: s, h, c, n))
          | none => none) else none
        | _ => none
      | _ => none
    | .putfield _ => match st with
      | w :: .ref r :: s => match h[r]?, (tt[a]?).map (fun q => q.1 b) with
        | some (.inr (k, fs)), some t => if k = a ∧ b < fs.length ∧ narrow t w = w ∧ fits t w = true then some (.inl (nx, L, s, h.set r (.inr (a, fs.set b w)), c, n)) else none
        | _, _ => none
      | _ => none
    | .pop2 => match st with
      | .ref _ :: s => if (s.map fun v => v.category).sum ≤ 8 then some (.inl (nx, L, s, h, c, n)) else none
      | _ => none
    | .invokespecial _ => match st.drop b with
      | .ref r :: s => if (st.take b).length = b ∧ (s.map fun v => v.category).sum ≤ 8 ∧ c + (zbud G a).1 ≤ bc ∧ n + (zbud G a).2 ≤ bs then (match M a (.ref r :: (st.take b).reverse) h with
          | some (w, h2) => some (.inl (nx, L, w.toList ++ s, h2, c + (zbud G a).1, n + (zbud G a).2))
          | none => none) else none
      | _ => none
    | .invokevirtual _ => match st.drop b with
      | .ref r :: s => match h[r]? with
        | some (.inr (k, fs)) => if k = d then if (st.take b).length = b ∧ (s.map fun v => v.category).sum ≤ 8 ∧ c + (zbud G a).1 ≤ bc ∧ n + (zbud G a).2 ≤ bs then (match M a (.ref r :: (st.take b).reverse) h with
          | some (w, h2) => some (.inl (nx, L, w.toList ++ s, h2, c + (zbud G a).1, n + (zbud G a).2))
          | none => none) else none else none
        | _ => none
      | _ => none
    | .invokestatic _ => if (st.take b).length = b ∧ ((st.drop b).map fun v => v.category).sum ≤ 8 ∧ c + (zbud G a).1 ≤ bc ∧ n + (zbud G a).2 ≤ bs then (match M a ((st.take b).reverse) h with
          | some (w, h2) => some (.inl (nx, L, w.toList ++ st.drop b, h2, c + (zbud G a).1, n + (zbud G a).2))
          | none => none) else none
    | .ireturn => match st, rt with
      | [.int x], some t => if narrow t (.int x) = .int x then some (.inr (some (.int x), h)) else none
      | _, _ => none
    | .lreturn => match st, rt with
      | [.long x], some .long => some (.inr (some (.long x), h))
      | _, _ => none
    | .areturn => match st, rt with
      | [.ref x], some t => if fits t .null = true then some (.inr (some (.ref x), h)) else none
      | [.null], some t => if fits t .null = true then some (.inr (some .null, h)) else none
      | [.retAddr x], some t => if fits t .null = true then some (.inr (some (.retAddr x), h)) else none
      | _, _ => none
    | .return_ => match st, rt with
      | [], none => some (.inr (none, h))
      | _, _ => none
    | .caload => match st with
      | .int i :: .retAddr k :: s => if (0 ≤ i ∧ i.toNatClampNeg < (G.2.1 k).length) ∧ (s.map fun v => v.category).sum ≤ 8 then some (.inl (nx, L, .int ((G.2.1 k).getD i.toNatClampNeg 0) :: s, h, c, n)) else none
      | _ => none
    | .i2c => match st with
      | .retAddr k :: s => if 0 < (G.2.1 k).length ∧ (s.map fun v => v.category).sum ≤ 8 then some (.inl (nx, L, .int (Int32.ofNat (G.2.1 k).length) :: s, h, c, n)) else none
      | _ => none
    | _ => none
noncomputable def drun (cd : zK) : Nat → Nat → zL → List Value → dH → Nat → Nat → Option (Option Value × dH)
  | 0, _, _, _, _, _, _ => none
  | k + 1, pc, L, st, h, c, n => match cd[pc]? with
    | some (some e) => match dex tt G bc bs rt M e L st h c n with
      | some (.inl s) => drun cd k s.1 s.2.1 s.2.2.1 s.2.2.2.1 s.2.2.2.2.1 s.2.2.2.2.2
      | some (.inr r) => some r
      | none => none
    | _ => none
end DRUN
noncomputable def dmet (tt : zT) (G : zG) (fuel : Nat) : Nat → dM
  | 0 => fun _ _ _ => none
  | d + 1 => fun j as h => match G.1[j]? with
    | some (cd, nL, rt, bc, bs) => if (zargs as).length ≤ nL then drun tt G bc bs rt (dmet tt G fuel d) cd fuel 0 (zentry as nL) [] h 0 0 else none
    | none => none
noncomputable def dX (X : zX) (ret : zQ) (r : dS ⊕ (Option Value × dH)) : Prop := match r with
  | .inl s => X s.1 s.2.1 s.2.2.1 (dzH s.2.2.2.1) s.2.2.2.2.1 s.2.2.2.2.2
  | .inr w => ret w.1 (dzH w.2)
set_option maxHeartbeats 4000000 in
theorem dex_ok {tt : zT} {G G2 : zG} (hG1 : G2.1 = G.1) (hG2 : G2.2.1 = G.2.1) {bc bs : Nat} {rt : Option FieldType} {M : dM} {MZ : zM} (hM : ∀ (j : Nat) (as : List Value) (h : dH) (w : Option Value) (h2 : dH), M j as h = some (w, h2) → ∀ Q : zQ, Q w (dzH h2) → MZ j as (dzH h) Q) {ret : zQ} {X : zX} {e : zE} {L : zL} {st : List Value} {h : dH} {c n : Nat} {r : dS ⊕ (Option Value × dH)} (hd : dex tt G bc bs rt M e L st h c n = some r) (hk : dX X ret r) : zex tt G2 bc bs rt MZ ret X e L st (dzH h) c n := by
  obtain ⟨p1, t1, N1, x1⟩ := G
  obtain ⟨p2, t2, N2, x2⟩ := G2
  have hG1 : p2 = p1 := hG1
  have hG2 : t2 = t1 := hG2
  subst hG1
  subst hG2
  obtain ⟨ins, nx, a, b, d, v⟩ := e
  unfold dex at hd
  dsimp only at hd
  cases ins
  case aconst_null =>
      dsimp only at hd
      cases hd
      exact Or.inl hk
  case iload w0 =>
      dsimp only at hd
      split at hd
      · rename_i x q9
        cases hd
        refine Or.inl ?_
        unfold zex1
        dsimp only
        rw [q9]
        exact hk
      · cases hd
  case lload w0 =>
      dsimp only at hd
      split at hd
      · rename_i x q9
        cases hd
        refine Or.inl ?_
        unfold zex1
        dsimp only
        rw [q9]
        exact hk
      · cases hd
  case aload w0 =>
      dsimp only at hd
      split at hd
      · rename_i x q9
        cases hd
        refine Or.inl ?_
        unfold zex1
        dsimp only
        rw [q9]
        exact hk
      · rename_i q9
        cases hd
        refine Or.inl ?_
        unfold zex1
        dsimp only
        rw [q9]
        exact hk
      · rename_i x q9
        cases hd
        refine Or.inl ?_
        unfold zex1
        dsimp only
        rw [q9]
        exact hk
      · cases hd
  case istore w0 =>
      dsimp only at hd
      split at hd
      · split at hd
        · rename_i q9
          cases hd
          exact Or.inl ⟨q9, hk⟩
        · cases hd
      · cases hd
  case lstore w0 =>
      dsimp only at hd
      split at hd
      · split at hd
        · rename_i q9
          cases hd
          exact Or.inl ⟨q9, hk⟩
        · cases hd
      · cases hd
  case astore w0 =>
      dsimp only at hd
      split at hd
      · split at hd
        · rename_i q9
          cases hd
          exact Or.inl ⟨q9, hk⟩
        · cases hd
      · split at hd
        · rename_i q9
          cases hd
          exact Or.inl ⟨q9, hk⟩
        · cases hd
      · split at hd
        · rename_i q9
          cases hd
          exact Or.inl ⟨q9, hk⟩
        · cases hd
      · cases hd
  case iinc w0 w1 =>
      dsimp only at hd
      split at hd
      · rename_i x y q8
        split at hd
        · rename_i q9
          cases hd
          refine Or.inl ?_
          unfold zex1
          dsimp only
          rw [q8]
          exact ⟨q9, hk⟩
        · cases hd
      · cases hd
  case pop =>
      dsimp only at hd
      split at hd
      · split at hd
        · rename_i q9
          cases hd
          exact Or.inl ⟨q9, hk⟩
        · cases hd
      · cases hd
  case dup =>
      dsimp only at hd
      split at hd
      · split at hd
        · rename_i q9
          cases hd
          exact Or.inl ⟨q9, hk⟩
        · cases hd
      · cases hd
  case dup_x1 =>
      dsimp only at hd
      split at hd
      · split at hd
        · rename_i q9
          cases hd
          exact Or.inl ⟨q9.1, q9.2, hk⟩
        · cases hd
      · cases hd
  case dup2 =>
      dsimp only at hd
      split at hd
      · split at hd
        · rename_i q9
          cases hd
          exact Or.inl ⟨q9.1, q9.2, hk⟩
        · cases hd
      · cases hd
  case iadd =>
      dsimp only at hd
      split at hd
      · cases hd
        exact Or.inl hk
      · cases hd
  case isub =>
      dsimp only at hd
      split at hd
      · cases hd
        exact Or.inl hk
      · cases hd
  case imul =>
      dsimp only at hd
      split at hd
      · cases hd
        exact Or.inl hk
      · cases hd
  case iand =>
      dsimp only at hd
      split at hd
      · cases hd
        exact Or.inl hk
      · cases hd
  case ior =>
      dsimp only at hd
      split at hd
      · cases hd
        exact Or.inl hk
      · cases hd
  case ishl =>
      dsimp only at hd
      split at hd
      · cases hd
        exact Or.inl hk
      · cases hd
  case ishr =>
      dsimp only at hd
      split at hd
      · cases hd
        exact Or.inl hk
      · cases hd
  case idiv =>
      dsimp only at hd
      split at hd
      · split at hd
        · rename_i q9
          cases hd
          exact Or.inl ⟨q9, hk⟩
        · cases hd
      · cases hd
  case ladd =>
      dsimp only at hd
      split at hd
      · cases hd
        exact Or.inl hk
      · cases hd
  case lsub =>
      dsimp only at hd
      split at hd
      · cases hd
        exact Or.inl hk
      · cases hd
  case lmul =>
      dsimp only at hd
      split at hd
      · cases hd
        exact Or.inl hk
      · cases hd
  case lcmp =>
      dsimp only at hd
      split at hd
      · cases hd
        exact Or.inl hk
      · cases hd
  case i2l =>
      dsimp only at hd
      split at hd
      · cases hd
        exact Or.inl hk
      · cases hd
  case l2i =>
      dsimp only at hd
      split at hd
      · cases hd
        exact Or.inl hk
      · cases hd
  case i2b =>
      dsimp only at hd
      split at hd
      · cases hd
        exact Or.inl hk
      · cases hd
  case goto w0 =>
      dsimp only at hd
      cases hd
      exact Or.inl hk
  case ifCond o w1 =>
      dsimp only at hd
      split at hd
      · split at hd
        · rename_i q9
          cases hd
          exact Or.inl ⟨fun _ => hk, fun q => absurd (dcond_t q9) q⟩
        · rename_i q9
          cases hd
          exact Or.inl ⟨fun q => absurd q (dcond_f q9), fun _ => hk⟩
      · cases hd
  case if_icmp o w1 =>
      dsimp only at hd
      split at hd
      · split at hd
        · rename_i q9
          cases hd
          exact Or.inl ⟨fun _ => hk, fun q => absurd (dcond_t q9) q⟩
        · rename_i q9
          cases hd
          exact Or.inl ⟨fun q => absurd q (dcond_f q9), fun _ => hk⟩
      · cases hd
  case ifnull w0 =>
      dsimp only at hd
      split at hd
      · cases hd
        exact Or.inl hk
      · cases hd
        exact Or.inl hk
      · cases hd
  case ifnonnull w0 =>
      dsimp only at hd
      split at hd
      · cases hd
        exact Or.inl hk
      · cases hd
        exact Or.inl hk
      · cases hd
  case tableswitch df lo hi tg =>
      dsimp only at hd
      split at hd
      · split at hd
        · rename_i q9
          cases hd
          exact Or.inr ⟨fun _ => hk, fun q1 q2 => absurd q9 (fun q => q.elim q1 q2)⟩
        · rename_i q9
          split at hd
          · rename_i t qt
            cases hd
            exact Or.inr ⟨fun q => absurd q q9, fun _ _ => ⟨t, qt, hk⟩⟩
          · cases hd
      · cases hd
  case lookupswitch df ps =>
      dsimp only at hd
      split at hd
      · cases hd
        exact Or.inr hk
      · cases hd
  case iaload =>
      dsimp only at hd
      split at hd
      · split at hd
        · rename_i N u q8
          split at hd
          · rename_i q9
            cases hd
            exact Or.inr ⟨N, dfi u, dzH_get q8, (fun q => q.elim (fun z => absurd q9.1 (Int32.not_le.mpr z)) (fun z => absurd q9.2 (Nat.not_lt.mpr z))), hk⟩
          · cases hd
        · cases hd
      · cases hd
  case laload =>
      dsimp only at hd
      split at hd
      · split at hd
        · rename_i N u q8
          split at hd
          · rename_i q9
            cases hd
            exact Or.inr ⟨N, dfl u, dzH_get q8, (fun q => q.elim (fun z => absurd q9.1 (Int32.not_le.mpr z)) (fun z => absurd q9.2 (Nat.not_lt.mpr z))), hk⟩
          · cases hd
        · cases hd
      · cases hd
  case baload =>
      dsimp only at hd
      split at hd
      · split at hd
        · rename_i k N u q8
          split at hd
          · rename_i q9
            cases hd
            exact Or.inr ⟨k, N, dfi u, q9.1, dzH_get q8, (fun q => q.elim (fun z => absurd q9.2.1 (Int32.not_le.mpr z)) (fun z => absurd q9.2.2 (Nat.not_lt.mpr z))), hk⟩
          · cases hd
        · cases hd
      · cases hd
  case aaload =>
      dsimp only at hd
      split at hd
      · split at hd
        · rename_i k N b0 u q8
          split at hd
          · rename_i q9
            cases hd
            exact Or.inr ⟨k, N, dfq N b0 u, q9.1, dzH_get q8, (fun q => q.elim (fun z => absurd q9.2.1 (Int32.not_le.mpr z)) (fun z => absurd q9.2.2 (Nat.not_lt.mpr z))), hk⟩
          · cases hd
        · cases hd
      · cases hd
  case iastore =>
      dsimp only at hd
      split at hd
      · split at hd
        · rename_i N u q8
          split at hd
          · rename_i q9
            cases hd
            simp only [dX, dzH_set] at hk
            exact Or.inr ⟨N, dfi u, dzH_get q8, (fun q => q.elim (fun z => absurd q9.1 (Int32.not_le.mpr z)) (fun z => absurd q9.2 (Nat.not_lt.mpr z))), hk⟩
          · cases hd
        · cases hd
      · cases hd
  case bastore =>
      dsimp only at hd
      split at hd
      · split at hd
        · rename_i k N u q8
          split at hd
          · rename_i q9
            cases hd
            simp only [dX, dzH_set] at hk
            exact Or.inr ⟨k, N, dfi u, q9.1, dzH_get q8, (fun q => q.elim (fun z => absurd q9.2.1 (Int32.not_le.mpr z)) (fun z => absurd q9.2.2 (Nat.not_lt.mpr z))), hk⟩
          · cases hd
        · cases hd
      · cases hd
  case lastore =>
      dsimp only at hd
      split at hd
      · split at hd
        · rename_i N u q8
          split at hd
          · rename_i q9
            cases hd
            simp only [dX, dzH_set] at hk
            exact Or.inr ⟨N, dfl u, dzH_get q8, (fun q => q.elim (fun z => absurd q9.1 (Int32.not_le.mpr z)) (fun z => absurd q9.2 (Nat.not_lt.mpr z))), hk⟩
          · cases hd
        · cases hd
      · cases hd
  case arraylength =>
      dsimp only at hd
      split at hd
      · split at hd
        · rename_i k N u q8
          split at hd
          · rename_i q9
            cases hd
            have q7 := dzH_get q8
            rcases u with u | u | ⟨b0, u⟩
            · exact Or.inr ⟨k, N, _, q9, q7, hk⟩
            · exact Or.inr ⟨k, N, _, q9, q7, hk⟩
            · exact Or.inr ⟨k, N, _, q9, q7, hk⟩
          · cases hd
        · cases hd
      · cases hd
  case newarray t =>
      dsimp only at hd
      split at hd
      · split at hd
        · rename_i q9
          cases hd
          obtain ⟨q1, q2, q3, q4, q5⟩ := q9
          simp only [dX, dzH_app] at hk
          rw [← dzH_len h, show dzH [darr (zkind t) _] = [dz (darr (zkind t) _)] from rfl, darr_z (by omega)] at hk
          exact Or.inr ⟨Int32.not_lt.mpr q1, q2, q3, q4, q5, hk⟩
        · cases hd
      · cases hd
  case anewarray w0 =>
      dsimp only at hd
      split at hd
      · split at hd
        · rename_i q9
          cases hd
          obtain ⟨q1, q2, q3, q4, q5⟩ := q9
          simp only [dX, dzH_app] at hk
          rw [← dzH_len h, show dzH [darr a _] = [dz (darr a _)] from rfl, darr_z (by omega)] at hk
          exact Or.inr ⟨Int32.not_lt.mpr q1, q2, q3, q4, q5, hk⟩
        · cases hd
      · cases hd
  case multianewarray w0 w1 =>
      dsimp only at hd
      split at hd
      · split at hd
        · rename_i q9
          cases hd
          obtain ⟨q1, q2, q3, q4, q5, q6⟩ := q9
          simp only [dX, dzH_app, drows_z] at hk
          rw [← dzH_len h] at hk
          exact Or.inr ⟨Int32.not_lt.mpr q1, Int32.not_lt.mpr q2, q3, q4, q5, q6, hk⟩
        · cases hd
      · cases hd
  case new w0 =>
      dsimp only at hd
      split at hd
      · rename_i q9
        cases hd
        simp only [dX, dzH_app] at hk
        rw [← dzH_len h] at hk
        exact Or.inr ⟨q9.1, q9.2, hk⟩
      · cases hd
  case getfield w0 =>
      dsimp only at hd
      split at hd
      · split at hd
        · rename_i k fs q8
          split at hd
          · rename_i q9
            subst q9
            split at hd
            · rename_i w q7
              cases hd
              exact Or.inr ⟨fs, w, dzH_get q8, q7, hk⟩
            · cases hd
          · cases hd
        · cases hd
      · cases hd
  case putfield w0 =>
      dsimp only at hd
      split at hd
      · split at hd
        · rename_i k fs t q8 q7
          split at hd
          · rename_i q9
            obtain ⟨q1, q2, q3, q4⟩ := q9
            subst q1
            cases hd
            simp only [dX, dzH_set] at hk
            exact Or.inr ⟨fs, t, dzH_get q8, q2, q7, q3, q4, hk⟩
          · cases hd
        · cases hd
      · cases hd
  case pop2 =>
      dsimp only at hd
      split at hd
      · split at hd
        · rename_i q9
          cases hd
          exact Or.inr ⟨q9, hk⟩
        · cases hd
      · cases hd
  case invokespecial w0 =>
      dsimp only at hd
      split at hd
      · rename_i r s q8
        split at hd
        · rename_i q9
          split at hd
          · rename_i w h2 q7
            cases hd
            refine Or.inr ?_
            unfold zex2
            dsimp only
            rw [q8]
            exact ⟨q9.1, q9.2.1, q9.2.2.1, q9.2.2.2, hM _ _ _ _ _ q7 _ hk⟩
          · cases hd
        · cases hd
      · cases hd
  case invokevirtual w0 =>
      dsimp only at hd
      split at hd
      · rename_i r s q8
        split at hd
        · rename_i k fs q6
          split at hd
          · rename_i q5
            subst q5
            split at hd
            · rename_i q9
              split at hd
              · rename_i w h2 q7
                cases hd
                refine Or.inr ?_
                unfold zex2
                dsimp only
                rw [q8]
                exact ⟨q9.1, ⟨fs, dzH_get q6⟩, q9.2.1, q9.2.2.1, q9.2.2.2, hM _ _ _ _ _ q7 _ hk⟩
              · cases hd
            · cases hd
          · cases hd
        · cases hd
      · cases hd
  case invokestatic w0 =>
      dsimp only at hd
      split at hd
      · rename_i q9
        split at hd
        · rename_i w h2 q7
          cases hd
          exact Or.inr ⟨q9.1, q9.2.1, q9.2.2.1, q9.2.2.2, hM _ _ _ _ _ q7 _ hk⟩
        · cases hd
      · cases hd
  case ireturn =>
      dsimp only at hd
      split at hd
      · split at hd
        · rename_i q9
          cases hd
          exact Or.inr ⟨⟨_, rfl, q9⟩, hk⟩
        · cases hd
      · cases hd
  case lreturn =>
      dsimp only at hd
      split at hd
      · cases hd
        exact Or.inr ⟨rfl, hk⟩
      · cases hd
  case areturn =>
      dsimp only at hd
      split at hd
      · split at hd
        · rename_i q9
          cases hd
          exact Or.inr ⟨⟨_, rfl, q9⟩, hk⟩
        · cases hd
      · split at hd
        · rename_i q9
          cases hd
          exact Or.inr ⟨⟨_, rfl, q9⟩, hk⟩
        · cases hd
      · split at hd
        · rename_i q9
          cases hd
          exact Or.inr ⟨⟨_, rfl, q9⟩, hk⟩
        · cases hd
      · cases hd
  case return_ =>
      dsimp only at hd
      split at hd
      · cases hd
        exact Or.inr ⟨rfl, hk⟩
      · cases hd
  case caload =>
      dsimp only at hd
      split at hd
      · split at hd
        · rename_i q0
          obtain ⟨q9, q8⟩ := q0
          cases hd
          exact Or.inr ⟨(fun q => q.elim (fun z => absurd q9.1 (Int32.not_le.mpr z)) (fun z => absurd q9.2 (Nat.not_lt.mpr z))), q8, hk⟩
        · cases hd
      · cases hd
  case i2c =>
      dsimp only at hd
      split at hd
      · split at hd
        · rename_i q9
          cases hd
          exact Or.inr ⟨q9.1, q9.2, hk⟩
        · cases hd
      · cases hd
  all_goals cases hd
theorem drun_ok {tt : zT} {G G2 : zG} (hG1 : G2.1 = G.1) (hG2 : G2.2.1 = G.2.1) {bc bs : Nat} {rt : Option FieldType} {M : dM} {MZ : zM} (hmz : zmono MZ) (hM : ∀ (j : Nat) (as : List Value) (h : dH) (w : Option Value) (h2 : dH), M j as h = some (w, h2) → ∀ Q : zQ, Q w (dzH h2) → MZ j as (dzH h) Q) {cd : zK} {ret : zQ} : ∀ (k pc : Nat) (L : zL) (st : List Value) (h : dH) (c n : Nat) (w : Option Value) (h2 : dH), drun tt G bc bs rt M cd k pc L st h c n = some (w, h2) → ret w (dzH h2) → zR tt G2 cd bc bs rt MZ ret pc L st (dzH h) c n
  | 0, _, _, _, _, _, _, _, _, hd, _ => by cases hd
  | k + 1, pc, L, st, h, c, n, w, h2, hd, hr => by
    unfold drun at hd
    refine zR.step hmz ?_
    unfold zstep
    split at hd
    · rename_i e he
      rw [he]
      split at hd
      · rename_i s hs
        exact dex_ok hG1 hG2 hM hs (drun_ok hG1 hG2 hmz hM k _ _ _ _ _ _ w h2 hd hr)
      · rename_i r9 hs
        cases hd
        exact dex_ok hG1 hG2 hM hs hr
      · cases hd
    · cases hd
theorem dmet_ok {tt : zT} {G G2 : zG} (hG1 : G2.1 = G.1) (hG2 : G2.2.1 = G.2.1) {fuel : Nat} : ∀ (d j : Nat) (as : List Value) (h : dH) (w : Option Value) (h2 : dH), dmet tt G fuel d j as h = some (w, h2) → ∀ Q : zQ, Q w (dzH h2) → zW tt G2 d j as (dzH h) Q
  | 0, _, _, _, _, _, hd, _, _ => by cases hd
  | d + 1, j, as, h, w, h2, hd, Q, hq => by
    unfold dmet at hd
    unfold zW
    split at hd
    · rename_i cd nL rt bc bs hp
      rw [hG1, hp]
      split at hd
      · rename_i hl
        exact ⟨hl, drun_ok hG1 hG2 (zW_mono tt G2 d) (dmet_ok hG1 hG2 d) fuel _ _ _ _ _ _ w h2 hd hq⟩
      · cases hd
    · cases hd
noncomputable def deqA : dA → dA → Bool
  | .inl u, .inl v => decide (u = v)
  | .inr (.inl u), .inr (.inl v) => decide (u = v)
  | .inr (.inr u), .inr (.inr v) => decide (u = v)
  | _, _ => false
theorem deqA_ok {u v : dA} (h : deqA u v = true) : u = v := by
  unfold deqA at h
  split at h
  · rw [of_decide_eq_true h]
  · rw [of_decide_eq_true h]
  · rw [of_decide_eq_true h]
  · cases h
noncomputable def deqC : dC → dC → Bool
  | .inl (k, N, u), .inl (k2, N2, u2) => decide (k = k2) && (decide (N = N2) && deqA u u2)
  | .inr x, .inr y => decide (x = y)
  | _, _ => false
theorem deqC_ok {u v : dC} (h : deqC u v = true) : u = v := by
  unfold deqC at h
  split at h
  · simp only [Bool.and_eq_true, decide_eq_true_eq] at h
    rw [h.1, h.2.1, deqA_ok h.2.2]
  · rw [of_decide_eq_true h]
  · cases h
noncomputable def deqH : dH → dH → Bool
  | [], [] => true
  | a :: r, b :: s => deqC a b && deqH r s
  | _, _ => false
theorem deqH_ok : ∀ {u v : dH}, deqH u v = true → u = v
  | [], [], _ => rfl
  | a :: r, b :: s, h => by
    unfold deqH at h
    rw [Bool.and_eq_true] at h
    rw [deqC_ok h.1, deqH_ok h.2]
  | [], _ :: _, h => by cases h
  | _ :: _, [], h => by cases h
noncomputable def deqR (x : Option (Option Value × dH)) (w : Option Value) (h : dH) : Bool := match x with
  | some (w2, h2) => decide (w2 = w) && deqH h2 h
  | none => false
theorem deqR_ok {x : Option (Option Value × dH)} {w : Option Value} {h : dH} (q : deqR x w h = true) : x = some (w, h) := by
  unfold deqR at q
  split at q
  · simp only [Bool.and_eq_true, decide_eq_true_eq] at q
    rw [q.1, deqH_ok q.2]
  · cases q
