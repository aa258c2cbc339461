section
/-! closed runs of the small machine, by evaluation: arrays as lists of stores -/
noncomputable abbrev dA : Type := List (Nat × Int32) ⊕ List (Nat × Int64) ⊕ (Option Nat × List (Nat × Option Nat))
noncomputable abbrev dC : Type := (Nat × Nat × dA) ⊕ (Nat × List Value)
noncomputable abbrev dH : Type := List dC
noncomputable def dfi : List (Nat × Int32) → Nat → Int32
  | [] => fun _ => 0
  | q :: r => upd (dfi r) q.1 q.2
noncomputable def dfl : List (Nat × Int64) → Nat → Int64
  | [] => fun _ => 0
  | q :: r => vp_updL (dfl r) q.1 q.2
noncomputable def dfq (N : Nat) (b : Option Nat) : List (Nat × Option Nat) → Nat → Option Nat
  | [] => match b with
    | some q => fun i => if i < N then some (q + 1 + i) else none
    | none => fun _ => none
  | q :: r => va_up (dfq N b r) q.1 q.2
noncomputable def dz : dC → zC
  | .inl (k, N, .inl u) => .inl (k, N, .inl (dfi u))
  | .inl (k, N, .inr (.inl u)) => .inl (k, N, .inr (.inl (dfl u)))
  | .inl (k, N, .inr (.inr (b, u))) => .inl (k, N, .inr (.inr (.inr (.inr (dfq N b u)))))
  | .inr x => .inr x
noncomputable def dzH (h : dH) : zH := h.map dz
theorem dzH_get {h : dH} {r : Nat} {x : dC} (q : h[r]? = some x) : (dzH h)[r]? = some (dz x) := by
  unfold dzH
  rw [List.getElem?_map, q]
  rfl
theorem dzH_set (h : dH) (r : Nat) (x : dC) : dzH (h.set r x) = (dzH h).set r (dz x) := by
  unfold dzH
  rw [List.map_set]
theorem dzH_len (h : dH) : (dzH h).length = h.length := by unfold dzH; rw [List.length_map]
theorem dzH_app (h g : dH) : dzH (h ++ g) = dzH h ++ dzH g := by unfold dzH; rw [List.map_append]
noncomputable def darr (k N : Nat) : dC := match k with
  | 3 => .inl (3, N, .inr (.inl []))
  | 4 => .inl (4, N, .inr (.inr (none, [])))
  | 5 => .inl (5, N, .inr (.inr (none, [])))
  | k => .inl (k, N, .inl [])
theorem darr_z {k N : Nat} (hk : k < 6) : dz (darr k N) = zarr k N := by
  rcases (by omega : k = 0 ∨ k = 1 ∨ k = 2 ∨ k = 3 ∨ k = 4 ∨ k = 5) with rfl | rfl | rfl | rfl | rfl | rfl <;> rfl
noncomputable def drows (q N K : Nat) : dH := .inl (4, N, .inr (.inr (some q, []))) :: List.replicate N (.inl (0, K, .inl []))
theorem drows_z (q N K : Nat) : dzH (drows q N K) = zrows q N K := by
  unfold dzH drows zrows
  rw [List.map_cons, List.map_replicate]
  rfl
noncomputable abbrev dS : Type := Nat × zL × List Value × dH × Nat × Nat
noncomputable abbrev dM : Type := Nat → List Value → dH → Option (Option Value × dH)
theorem dcond_dec (o : Jvm.ClassFile.Cond) (x y : Int32) : (match o with
  | .eq => decide (x = y)
  | .ne => !decide (x = y)
  | .lt => decide (x < y)
  | .ge => decide (y ≤ x)
  | .gt => decide (y < x)
  | .le => decide (x ≤ y)) = true ↔ zcond o x y := by
  cases o <;> simp [zcond]
noncomputable def dcond (o : Jvm.ClassFile.Cond) (x y : Int32) : Bool := match o with
  | .eq => decide (x = y)
  | .ne => !decide (x = y)
  | .lt => decide (x < y)
  | .ge => decide (y ≤ x)
  | .gt => decide (y < x)
  | .le => decide (x ≤ y)
theorem dcond_t {o : Jvm.ClassFile.Cond} {x y : Int32} (h : dcond o x y = true) : zcond o x y := (dcond_dec o x y).mp h
theorem dcond_f {o : Jvm.ClassFile.Cond} {x y : Int32} (h : ¬ dcond o x y = true) : ¬ zcond o x y := fun q => h ((dcond_dec o x y).mpr q)
section DRUN
variable (tt : zT) (G : zG) (bc bs : Nat) (rt : Option FieldType) (M : dM)
noncomputable def dex (e : zE) (L : zL) (st : List Value) (h : dH) (c n : Nat) : Option (dS ⊕ (Option Value × dH)) := match e with
  | (ins, nx, a, b, d, v) => match ins with
    | .aconst_null => some (.inl (nx, L, v :: st, h, c, n))
    | .iload _ => match L.getD a none with
      | some (.int x) => some (.inl (nx, L, .int x :: st, h, c, n))
      | _ => none
    | .lload _ => match L.getD a none with
      | some (.long x) => some (.inl (nx, L, .long x :: st, h, c, n))
      | _ => none
    | .aload _ => match L.getD a none with
      | some (.ref x) => some (.inl (nx, L, .ref x :: st, h, c, n))
      | some .null => some (.inl (nx, L, .null :: st, h, c, n))
      | some (.retAddr x) => some (.inl (nx, L, .retAddr x :: st, h, c, n))
      | _ => none
    | .istore _ => match st with
      | .int x :: s => if a < L.length then some (.inl (nx, zst L a (.int x), s, h, c, n)) else none
      | _ => none
    | .lstore _ => match st with
      | .long x :: s => if a + 1 < L.length then some (.inl (nx, zst L a (.long x), s, h, c, n)) else none
      | _ => none
    | .astore _ => match st with
      | .ref x :: s => if a < L.length then some (.inl (nx, zst L a (.ref x), s, h, c, n)) else none
      | .null :: s => if a < L.length then some (.inl (nx, zst L a .null, s, h, c, n)) else none
      | .retAddr x :: s => if a < L.length then some (.inl (nx, zst L a (.retAddr x), s, h, c, n)) else none
      | _ => none
    | .iinc _ _ => match L.getD a none, v with
      | some (.int x), .int y => if a < L.length then some (.inl (nx, zst L a (.int (x + y)), st, h, c, n)) else none
      | _, _ => none
    | .pop => match st with
      | w :: s => if w.category = 1 then some (.inl (nx, L, s, h, c, n)) else none
      | _ => none
    | .dup => match st with
      | w :: s => if w.category = 1 then some (.inl (nx, L, w :: w :: s, h, c, n)) else none
      | _ => none
    | .dup_x1 => match st with
      | w :: w2 :: s => if w.category = 1 ∧ w2.category = 1 then some (.inl (nx, L, w :: w2 :: w :: s, h, c, n)) else none
      | _ => none
    | .dup2 => match st with
      | w :: w2 :: s => if w.category = 1 ∧ w2.category = 1 then some (.inl (nx, L, w :: w2 :: w :: w2 :: s, h, c, n)) else none
      | _ => none
    | .iadd => match st with
      | .int y :: .int x :: s => some (.inl (nx, L, .int (x + y) :: s, h, c, n))
      | _ => none
    | .isub => match st with
      | .int y :: .int x :: s => some (.inl (nx, L, .int (x - y) :: s, h, c, n))
      | _ => none
    | .imul => match st with
      | .int y :: .int x :: s => some (.inl (nx, L, .int (x * y) :: s, h, c, n))
      | _ => none
    | .iand => match st with
      | .int y :: .int x :: s => some (.inl (nx, L, .int (x &&& y) :: s, h, c, n))
      | _ => none
    | .ior => match st with
      | .int y :: .int x :: s => some (.inl (nx, L, .int (x ||| y) :: s, h, c, n))
      | _ => none
    | .ishl => match st with
      | .int y :: .int x :: s => some (.inl (nx, L, .int (x <<< (y &&& 31)) :: s, h, c, n))
      | _ => none
    | .ishr => match st with
      | .int y :: .int x :: s => some (.inl (nx, L, .int (x >>> (y &&& 31)) :: s, h, c, n))
      | _ => none
    | .idiv => match st with
      | .int y :: .int x :: s => if ¬ y = 0 then some (.inl (nx, L, .int (x / y) :: s, h, c, n)) else none
      | _ => none
    | .ladd => match st with
      | .long y :: .long x :: s => some (.inl (nx, L, .long (x + y) :: s, h, c, n))
      | _ => none
    | .lsub => match st with
      | .long y :: .long x :: s => some (.inl (nx, L, .long (x - y) :: s, h, c, n))
      | _ => none
    | .lmul => match st with
      | .long y :: .long x :: s => some (.inl (nx, L, .long (x * y) :: s, h, c, n))
      | _ => none
    | .lcmp => match st with
      | .long y :: .long x :: s => some (.inl (nx, L, .int (lg_cmp x y) :: s, h, c, n))
      | _ => none
    | .i2l => match st with
      | .int x :: s => some (.inl (nx, L, .long x.toInt64 :: s, h, c, n))
      | _ => none
    | .l2i => match st with
      | .long x :: s => some (.inl (nx, L, .int x.toInt32 :: s, h, c, n))
      | _ => none
    | .i2b => match st with
      | .int x :: s => some (.inl (nx, L, .int x.toInt8.toInt32 :: s, h, c, n))
      | _ => none
    | .goto _ => some (.inl (a, L, st, h, c, n))
    | .ifCond o _ => match st with
      | .int x :: s => if dcond o x 0 then some (.inl (a, L, s, h, c, n)) else some (.inl (nx, L, s, h, c, n))
      | _ => none
    | .if_icmp o _ => match st with
      | .int y :: .int x :: s => if dcond o x y then some (.inl (a, L, s, h, c, n)) else some (.inl (nx, L, s, h, c, n))
      | _ => none
    | .ifnull _ => match st with
      | .null :: s => some (.inl (a, L, s, h, c, n))
      | .ref _ :: s => some (.inl (nx, L, s, h, c, n))
      | _ => none
    | .ifnonnull _ => match st with
      | .null :: s => some (.inl (nx, L, s, h, c, n))
      | .ref _ :: s => some (.inl (a, L, s, h, c, n))
      | _ => none
    | .tableswitch df lo hi tg => match st with
      | .int x :: s => if x.toInt < lo ∨ hi < x.toInt then some (.inl (df.toNat, L, s, h, c, n)) else match tg[(x.toInt - lo).toNat]? with
        | some t => some (.inl (t.toNat, L, s, h, c, n))
        | none => none
      | _ => none
    | .lookupswitch df ps => match st with
      | .int x :: s => some (.inl ((Op.lookupswitch.offset ps.toList df x.toInt).toNat, L, s, h, c, n))
      | _ => none
    | .iaload => match st with
      | .int i :: .ref r :: s => match h[r]? with
        | some (.inl (0, N, .inl u)) => if 0 ≤ i ∧ i.toNatClampNeg < N then some (.inl (nx, L, .int (dfi u i.toNatClampNeg) :: s, h, c, n)) else none
        | _ => none
      | _ => none
    | .laload => match st with
      | .int i :: .ref r :: s => match h[r]? with
        | some (.inl (3, N, .inr (.inl u))) => if 0 ≤ i ∧ i.toNatClampNeg < N then some (.inl (nx, L, .long (dfl u i.toNatClampNeg) :: s, h, c, n)) else none
        | _ => none
      | _ => none
    | .baload => match st with
      | .int i :: .ref r :: s => match h[r]? with
        | some (.inl (k, N, .inl u)) => if (k = 1 ∨ k = 2) ∧ 0 ≤ i ∧ i.toNatClampNeg < N then some (.inl (nx, L, .int (dfi u i.toNatClampNeg) :: s, h, c, n)) else none
        | _ => none
      | _ => none
    | .aaload => match st with
      | .int i :: .ref r :: s => match h[r]? with
        | some (.inl (k, N, .inr (.inr (b0, u)))) => if (k = 4 ∨ k = 5) ∧ 0 ≤ i ∧ i.toNatClampNeg < N then some (.inl (nx, L, zrf (dfq N b0 u i.toNatClampNeg) :: s, h, c, n)) else none
        | _ => none
      | _ => none
    | .iastore => match st with
      | .int x :: .int i :: .ref r :: s => match h[r]? with
        | some (.inl (0, N, .inl u)) => if 0 ≤ i ∧ i.toNatClampNeg < N then some (.inl (nx, L, s, h.set r (.inl (0, N, .inl ((i.toNatClampNeg, x) :: u))), c, n)) else none
        | _ => none
      | _ => none
    | .bastore => match st with
      | .int x :: .int i :: .ref r :: s => match h[r]? with
        | some (.inl (k, N, .inl u)) => if (k = 1 ∨ k = 2) ∧ 0 ≤ i ∧ i.toNatClampNeg < N then some (.inl (nx, L, s, h.set r (.inl (k, N, .inl ((i.toNatClampNeg, vp_nar (if k = 1 then .boolean else .byte) x) :: u))), c, n)) else none
        | _ => none
      | _ => none
    | .lastore => match st with
      | .long x :: .int i :: .ref r :: s => match h[r]? with
        | some (.inl (3, N, .inr (.inl u))) => if 0 ≤ i ∧ i.toNatClampNeg < N then some (.inl (nx, L, s, h.set r (.inl (3, N, .inr (.inl ((i.toNatClampNeg, x) :: u)))), c, n)) else none
        | _ => none
      | _ => none
    | .arraylength => match st with
      | .ref r :: s => match h[r]? with
        | some (.inl (k, N, u)) => if k < 6 then some (.inl (nx, L, .int (Int32.ofNat N) :: s, h, c, n)) else none
        | _ => none
      | _ => none
    | .newarray t => match st with
      | .int x :: s => if 0 ≤ x ∧ x.toNatClampNeg ≤ 10000 ∧ c + 1 ≤ bc ∧ n + x.toNatClampNeg ≤ bs ∧ zkind t < 4 then some (.inl (nx, L, .ref h.length :: s, h ++ [darr (zkind t) x.toNatClampNeg], c + 1, n + x.toNatClampNeg)) else none
      | _ => none
    | .anewarray _ => match st with
      | .int x :: s => if 0 ≤ x ∧ x.toNatClampNeg ≤ 10000 ∧ c + 1 ≤ bc ∧ n + x.toNatClampNeg ≤ bs ∧ (a = 4 ∨ a = 5) then some (.inl (nx, L, .ref h.length :: s, h ++ [darr a x.toNatClampNeg], c + 1, n + x.toNatClampNeg)) else none
      | _ => none
    | .multianewarray _ _ => match st with
      | .int y :: .int x :: s => if 0 ≤ x ∧ 0 ≤ y ∧ x.toNatClampNeg ≤ 10000 ∧ y.toNatClampNeg ≤ 10000 ∧ c + (1 + x.toNatClampNeg) ≤ bc ∧ n + (x.toNatClampNeg + x.toNatClampNeg * y.toNatClampNeg) ≤ bs then some (.inl (nx, L, .ref h.length :: s, h ++ drows h.length x.toNatClampNeg y.toNatClampNeg, c + 1 + x.toNatClampNeg, n + x.toNatClampNeg + x.toNatClampNeg * y.toNatClampNeg)) else none
      | _ => none
    | .new _ => if c + 1 ≤ bc ∧ n + (zcls tt a).length ≤ bs then some (.inl (nx, L, .ref h.length :: st, h ++ [.inr (a, zcls tt a)], c + 1, n + (zcls tt a).length)) else none
    | .getfield _ => match st with
      | .ref r :: s => match h[r]? with
        | some (.inr (k, fs)) => if k = a then (match fs[b]? with
          | some w => some (.inl (nx, L, w :: s, h, c, n))
          | none => none) else none
        | _ => none
      | _ => none
    | .putfield _ => match st with
      | w :: .ref r :: s => match h[r]?, (tt[a]?).map (fun q => q.1 b) with
        | some (.inr (k, fs)), some t => if k = a ∧ b < fs.length ∧ narrow t w = w ∧ fits t w = true then some (.inl (nx, L, s, h.set r (.inr (a, fs.set b w)), c, n)) else none
        | _, _ => none
      | _ => none
    | .pop2 => match st with
      | .ref _ :: s => if (s.map fun v => v.category).sum ≤ 8 then some (.inl (nx, L, s, h, c, n)) else none
      | _ => none
    | .invokespecial _ => match st.drop b with
      | .ref r :: s => if (st.take b).length = b ∧ (s.map fun v => v.category).sum ≤ 8 ∧ c + (zbud G a).1 ≤ bc ∧ n + (zbud G a).2 ≤ bs then (match M a (.ref r :: (st.take b).reverse) h with
          | some (w, h2) => some (.inl (nx, L, w.toList ++ s, h2, c + (zbud G a).1, n + (zbud G a).2))
          | none => none) else none
      | _ => none
    | .invokevirtual _ => match st.drop b with
      | .ref r :: s => match h[r]? with
        | some (.inr (k, fs)) => if k = d then if (st.take b).length = b ∧ (s.map fun v => v.category).sum ≤ 8 ∧ c + (zbud G a).1 ≤ bc ∧ n + (zbud G a).2 ≤ bs then (match M a (.ref r :: (st.take b).reverse) h with
          | some (w, h2) => some (.inl (nx, L, w.toList ++ s, h2, c + (zbud G a).1, n + (zbud G a).2))
          | none => none) else none else none
        | _ => none
      | _ => none
    | .invokestatic _ => if (st.take b).length = b ∧ ((st.drop b).map fun v => v.category).sum ≤ 8 ∧ c + (zbud G a).1 ≤ bc ∧ n + (zbud G a).2 ≤ bs then (match M a ((st.take b).reverse) h with
          | some (w, h2) => some (.inl (nx, L, w.toList ++ st.drop b, h2, c + (zbud G a).1, n + (zbud G a).2))
          | none => none) else none
    | .ireturn => match st, rt with
      | [.int x], some t => if narrow t (.int x) = .int x then some (.inr (some (.int x), h)) else none
      | _, _ => none
    | .lreturn => match st, rt with
      | [.long x], some .long => some (.inr (some (.long x), h))
      | _, _ => none
    | .areturn => match st, rt with
      | [.ref x], some t => if fits t .null = true then some (.inr (some (.ref x), h)) else none
      | [.null], some t => if fits t .null = true then some (.inr (some .null, h)) else none
      | [.retAddr x], some t => if fits t .null = true then some (.inr (some (.retAddr x), h)) else none
      | _, _ => none
    | .return_ => match st, rt with
      | [], none => some (.inr (none, h))
      | _, _ => none
    | .caload => match st with
      | .int i :: .retAddr k :: s => if (0 ≤ i ∧ i.toNatClampNeg < (G.2.1 k).length) ∧ (s.map fun v => v.category).sum ≤ 8 then some (.inl (nx, L, .int ((G.2.1 k).getD i.toNatClampNeg 0) :: s, h, c, n)) else none
      | _ => none
    | .i2c => match st with
      | .retAddr k :: s => if 0 < (G.2.1 k).length ∧ (s.map fun v => v.category).sum ≤ 8 then some (.inl (nx, L, .int (Int32.ofNat (G.2.1 k).length) :: s, h, c, n)) else none
      | _ => none
    | _ => none
noncomputable def drun (cd : zK) : Nat → Nat → zL → List Value → dH → Nat → Nat → Option (Option Value × dH)
  | 0, _, _, _, _, _, _ => none
  | k + 1, pc, L, st, h, c, n => match cd[pc]? with
    | some (some e) => match dex tt G bc bs rt M e L st h c n with
      | some (.inl s) => drun cd k s.1 s.2.1 s.2.2.1 s.2.2.2.1 s.2.2.2.2.1 s.2.2.2.2.2
      | some (.inr r) => some r
      | none => none
    | _ => none
end DRUN
noncomputable def dmet (tt : zT) (G : zG) (fuel : Nat) : Nat → dM
  | 0 => fun _ _ _ => none
  | d + 1 => fun j as h => match G.1[j]? with
    | some (cd, nL, rt, bc, bs) => if (zargs as).length ≤ nL then drun tt G bc bs rt (dmet tt G fuel d) cd fuel 0 (zentry as nL) [] h 0 0 else none
    | none => none
noncomputable def dX (X : zX) (ret : zQ) (r : dS ⊕ (Option Value × dH)) : Prop := match r with
  | .inl s => X s.1 s.2.1 s.2.2.1 (dzH s.2.2.2.1) s.2.2.2.2.1 s.2.2.2.2.2
  | .inr w => ret w.1 (dzH w.2)
set_option maxHeartbeats 4000000 in
theorem dex_ok {tt : zT} {G G2 : zG} (hG1 : G2.1 = G.1) (hG2 : G2.2.1 = G.2.1) {bc bs : Nat} {rt : Option FieldType} {M : dM} {MZ : zM} (hM : ∀ (j : Nat) (as : List Value) (h : dH) (w : Option Value) (h2 : dH), M j as h = some (w, h2) → ∀ Q : zQ, Q w (dzH h2) → MZ j as (dzH h) Q) {ret : zQ} {X : zX} {e : zE} {L : zL} {st : List Value} {h : dH} {c n : Nat} {r : dS ⊕ (Option Value × dH)} (hd : dex tt G bc bs rt M e L st h c n = some r) (hk : dX X ret r) : zex tt G2 bc bs rt MZ ret X e L st (dzH h) c n := by
  obtain ⟨p1, t1, N1, x1⟩ := G
  obtain ⟨p2, t2, N2, x2⟩ := G2
  have hG1 : p2 = p1 := hG1
  have hG2 : t2 = t1 := hG2
  subst hG1
  subst hG2
  obtain ⟨ins, nx, a, b, d, v⟩ := e
  unfold dex at hd
  dsimp only at hd
  cases ins
  case aconst_null =>
      dsimp only at hd
      cases hd
      exact Or.inl hk
  case iload w0 =>
      dsimp only at hd
      split at hd
      · rename_i x q9
        cases hd
        refine Or.inl ?_
        unfold zex1
        dsimp only
        rw [q9]
        exact hk
      · cases hd
  case lload w0 =>
      dsimp only at hd
      split at hd
      · rename_i x q9
        cases hd
        refine Or.inl ?_
        unfold zex1
        dsimp only
        rw [q9]
        exact hk
      · cases hd
  case aload w0 =>
      dsimp only at hd
      split at hd
      · rename_i x q9
        cases hd
        refine Or.inl ?_
        unfold zex1
        dsimp only
        rw [q9]
        exact hk
      · rename_i q9
        cases hd
        refine Or.inl ?_
        unfold zex1
        dsimp only
        rw [q9]
        exact hk
      · rename_i x q9
        cases hd
        refine Or.inl ?_
        unfold zex1
        dsimp only
        rw [q9]
        exact hk
      · cases hd
  case istore w0 =>
      dsimp only at hd
      split at hd
      · split at hd
        · rename_i q9
          cases hd
          exact Or.inl ⟨q9, hk⟩
        · cases hd
      · cases hd
  case lstore w0 =>
      dsimp only at hd
      split at hd
      · split at hd
        · rename_i q9
          cases hd
          exact Or.inl ⟨q9, hk⟩
        · cases hd
      · cases hd
  case astore w0 =>
      dsimp only at hd
      split at hd
      · split at hd
        · rename_i q9
          cases hd
          exact Or.inl ⟨q9, hk⟩
        · cases hd
      · split at hd
        · rename_i q9
          cases hd
          exact Or.inl ⟨q9, hk⟩
        · cases hd
      · split at hd
        · rename_i q9
          cases hd
          exact Or.inl ⟨q9, hk⟩
        · cases hd
      · cases hd
  case iinc w0 w1 =>
      dsimp only at hd
      split at hd
      · rename_i x y q8
        split at hd
        · rename_i q9
          cases hd
          refine Or.inl ?_
          unfold zex1
          dsimp only
          rw [q8]
          exact ⟨q9, hk⟩
        · cases hd
      · cases hd
  case pop =>
      dsimp only at hd
      split at hd
      · split at hd
        · rename_i q9
          cases hd
          exact Or.inl ⟨q9, hk⟩
        · cases hd
      · cases hd
  case dup =>
      dsimp only at hd
      split at hd
      · split at hd
        · rename_i q9
          cases hd
          exact Or.inl ⟨q9, hk⟩
        · cases hd
      · cases hd
  case dup_x1 =>
      dsimp only at hd
      split at hd
      · split at hd
        · rename_i q9
          cases hd
          exact Or.inl ⟨q9.1, q9.2, hk⟩
        · cases hd
      · cases hd
  case dup2 =>
      dsimp only at hd
      split at hd
      · split at hd
        · rename_i q9
          cases hd
          exact Or.inl ⟨q9.1, q9.2, hk⟩
        · cases hd
      · cases hd
  case iadd =>
      dsimp only at hd
      split at hd
      · cases hd
        exact Or.inl hk
      · cases hd
  case isub =>
      dsimp only at hd
      split at hd
      · cases hd
        exact Or.inl hk
      · cases hd
  case imul =>
      dsimp only at hd
      split at hd
      · cases hd
        exact Or.inl hk
      · cases hd
  case iand =>
      dsimp only at hd
      split at hd
      · cases hd
        exact Or.inl hk
      · cases hd
  case ior =>
      dsimp only at hd
      split at hd
      · cases hd
        exact Or.inl hk
      · cases hd
  case ishl =>
      dsimp only at hd
      split at hd
      · cases hd
        exact Or.inl hk
      · cases hd
  case ishr =>
      dsimp only at hd
      split at hd
      · cases hd
        exact Or.inl hk
      · cases hd
  case idiv =>
      dsimp only at hd
      split at hd
      · split at hd
        · rename_i q9
          cases hd
          exact Or.inl ⟨q9, hk⟩
        · cases hd
      · cases hd
  case ladd =>
      dsimp only at hd
      split at hd
      · cases hd
        exact Or.inl hk
      · cases hd
  case lsub =>
      dsimp only at hd
      split at hd
      · cases hd
        exact Or.inl hk
      · cases hd
  case lmul =>
      dsimp only at hd
      split at hd
      · cases hd
        exact Or.inl hk
      · cases hd
  case lcmp =>
      dsimp only at hd
      split at hd
      · cases hd
        exact Or.inl hk
      · cases hd
  case i2l =>
      dsimp only at hd
      split at hd
      · cases hd
        exact Or.inl hk
      · cases hd
  case l2i =>
      dsimp only at hd
      split at hd
      · cases hd
        exact Or.inl hk
      · cases hd
  case i2b =>
      dsimp only at hd
      split at hd
      · cases hd
        exact Or.inl hk
      · cases hd
  case goto w0 =>
      dsimp only at hd
      cases hd
      exact Or.inl hk
  case ifCond o w1 =>
      dsimp only at hd
      split at hd
      · split at hd
        · rename_i q9
          cases hd
          exact Or.inl ⟨fun _ => hk, fun q => absurd (dcond_t q9) q⟩
        · rename_i q9
          cases hd
          exact Or.inl ⟨fun q => absurd q (dcond_f q9), fun _ => hk⟩
      · cases hd
  case if_icmp o w1 =>
      dsimp only at hd
      split at hd
      · split at hd
        · rename_i q9
          cases hd
          exact Or.inl ⟨fun _ => hk, fun q => absurd (dcond_t q9) q⟩
        · rename_i q9
          cases hd
          exact Or.inl ⟨fun q => absurd q (dcond_f q9), fun _ => hk⟩
      · cases hd
  case ifnull w0 =>
      dsimp only at hd
      split at hd
      · cases hd
        exact Or.inl hk
      · cases hd
        exact Or.inl hk
      · cases hd
  case ifnonnull w0 =>
      dsimp only at hd
      split at hd
      · cases hd
        exact Or.inl hk
      · cases hd
        exact Or.inl hk
      · cases hd
  case tableswitch df lo hi tg =>
      dsimp only at hd
      split at hd
      · split at hd
        · rename_i q9
          cases hd
          exact Or.inr ⟨fun _ => hk, fun q1 q2 => absurd q9 (fun q => q.elim q1 q2)⟩
        · rename_i q9
          split at hd
          · rename_i t qt
            cases hd
            exact Or.inr ⟨fun q => absurd q q9, fun _ _ => ⟨t, qt, hk⟩⟩
          · cases hd
      · cases hd
  case lookupswitch df ps =>
      dsimp only at hd
      split at hd
      · cases hd
        exact Or.inr hk
      · cases hd
  case iaload =>
      dsimp only at hd
      split at hd
      · split at hd
        · rename_i N u q8
          split at hd
          · rename_i q9
            cases hd
            exact Or.inr ⟨N, dfi u, dzH_get q8, (fun q => q.elim (fun z => absurd q9.1 (Int32.not_le.mpr z)) (fun z => absurd q9.2 (Nat.not_lt.mpr z))), hk⟩
          · cases hd
        · cases hd
      · cases hd
  case laload =>
      dsimp only at hd
      split at hd
      · split at hd
        · rename_i N u q8
          split at hd
          · rename_i q9
            cases hd
            exact Or.inr ⟨N, dfl u, dzH_get q8, (fun q => q.elim (fun z => absurd q9.1 (Int32.not_le.mpr z)) (fun z => absurd q9.2 (Nat.not_lt.mpr z))), hk⟩
          · cases hd
        · cases hd
      · cases hd
  case baload =>
      dsimp only at hd
      split at hd
      · split at hd
        · rename_i k N u q8
          split at hd
          · rename_i q9
            cases hd
            exact Or.inr ⟨k, N, dfi u, q9.1, dzH_get q8, (fun q => q.elim (fun z => absurd q9.2.1 (Int32.not_le.mpr z)) (fun z => absurd q9.2.2 (Nat.not_lt.mpr z))), hk⟩
          · cases hd
        · cases hd
      · cases hd
  case aaload =>
      dsimp only at hd
      split at hd
      · split at hd
        · rename_i k N b0 u q8
          split at hd
          · rename_i q9
            cases hd
            exact Or.inr ⟨k, N, dfq N b0 u, q9.1, dzH_get q8, (fun q => q.elim (fun z => absurd q9.2.1 (Int32.not_le.mpr z)) (fun z => absurd q9.2.2 (Nat.not_lt.mpr z))), hk⟩
          · cases hd
        · cases hd
      · cases hd
  case iastore =>
      dsimp only at hd
      split at hd
      · split at hd
        · rename_i N u q8
          split at hd
          · rename_i q9
            cases hd
            simp only [dX, dzH_set] at hk
            exact Or.inr ⟨N, dfi u, dzH_get q8, (fun q => q.elim (fun z => absurd q9.1 (Int32.not_le.mpr z)) (fun z => absurd q9.2 (Nat.not_lt.mpr z))), hk⟩
          · cases hd
        · cases hd
      · cases hd
  case bastore =>
      dsimp only at hd
      split at hd
      · split at hd
        · rename_i k N u q8
          split at hd
          · rename_i q9
            cases hd
            simp only [dX, dzH_set] at hk
            exact Or.inr ⟨k, N, dfi u, q9.1, dzH_get q8, (fun q => q.elim (fun z => absurd q9.2.1 (Int32.not_le.mpr z)) (fun z => absurd q9.2.2 (Nat.not_lt.mpr z))), hk⟩
          · cases hd
        · cases hd
      · cases hd
  case lastore =>
      dsimp only at hd
      split at hd
      · split at hd
        · rename_i N u q8
          split at hd
          · rename_i q9
            cases hd
            simp only [dX, dzH_set] at hk
            exact Or.inr ⟨N, dfl u, dzH_get q8, (fun q => q.elim (fun z => absurd q9.1 (Int32.not_le.mpr z)) (fun z => absurd q9.2 (Nat.not_lt.mpr z))), hk⟩
          · cases hd
        · cases hd
      · cases hd
  case arraylength =>
      dsimp only at hd
      split at hd
      · split at hd
        · rename_i k N u q8
          split at hd
          · rename_i q9
            cases hd
            have q7 := dzH_get q8
            rcases u with u | u | ⟨b0, u⟩
            · exact Or.inr ⟨k, N, _, q9, q7, hk⟩
            · exact Or.inr ⟨k, N, _, q9, q7, hk⟩
            · exact Or.inr ⟨k, N, _, q9, q7, hk⟩
          · cases hd
        · cases hd
      · cases hd
  case newarray t =>
      dsimp only at hd
      split at hd
      · split at hd
        · rename_i q9
          cases hd
          obtain ⟨q1, q2, q3, q4, q5⟩ := q9
          simp only [dX, dzH_app] at hk
          rw [← dzH_len h, show dzH [darr (zkind t) _] = [dz (darr (zkind t) _)] from rfl, darr_z (by omega)] at hk
          exact Or.inr ⟨Int32.not_lt.mpr q1, q2, q3, q4, q5, hk⟩
        · cases hd
      · cases hd
  case anewarray w0 =>
      dsimp only at hd
      split at hd
      · split at hd
        · rename_i q9
          cases hd
          obtain ⟨q1, q2, q3, q4, q5⟩ := q9
          simp only [dX, dzH_app] at hk
          rw [← dzH_len h, show dzH [darr a _] = [dz (darr a _)] from rfl, darr_z (by omega)] at hk
          exact Or.inr ⟨Int32.not_lt.mpr q1, q2, q3, q4, q5, hk⟩
        · cases hd
      · cases hd
  case multianewarray w0 w1 =>
      dsimp only at hd
      split at hd
      · split at hd
        · rename_i q9
          cases hd
          obtain ⟨q1, q2, q3, q4, q5, q6⟩ := q9
          simp only [dX, dzH_app, drows_z] at hk
          rw [← dzH_len h] at hk
          exact Or.inr ⟨Int32.not_lt.mpr q1, Int32.not_lt.mpr q2, q3, q4, q5, q6, hk⟩
        · cases hd
      · cases hd
  case new w0 =>
      dsimp only at hd
      split at hd
      · rename_i q9
        cases hd
        simp only [dX, dzH_app] at hk
        rw [← dzH_len h] at hk
        exact Or.inr ⟨q9.1, q9.2, hk⟩
      · cases hd
  case getfield w0 =>
      dsimp only at hd
      split at hd
      · split at hd
        · rename_i k fs q8
          split at hd
          · rename_i q9
            subst q9
            split at hd
            · rename_i w q7
              cases hd
              exact Or.inr ⟨fs, w, dzH_get q8, q7, hk⟩
            · cases hd
          · cases hd
        · cases hd
      · cases hd
  case putfield w0 =>
      dsimp only at hd
      split at hd
      · split at hd
        · rename_i k fs t q8 q7
          split at hd
          · rename_i q9
            obtain ⟨q1, q2, q3, q4⟩ := q9
            subst q1
            cases hd
            simp only [dX, dzH_set] at hk
            exact Or.inr ⟨fs, t, dzH_get q8, q2, q7, q3, q4, hk⟩
          · cases hd
        · cases hd
      · cases hd
  case pop2 =>
      dsimp only at hd
      split at hd
      · split at hd
        · rename_i q9
          cases hd
          exact Or.inr ⟨q9, hk⟩
        · cases hd
      · cases hd
  case invokespecial w0 =>
      dsimp only at hd
      split at hd
      · rename_i r s q8
        split at hd
        · rename_i q9
          split at hd
          · rename_i w h2 q7
            cases hd
            refine Or.inr ?_
            unfold zex2
            dsimp only
            rw [q8]
            exact ⟨q9.1, q9.2.1, q9.2.2.1, q9.2.2.2, hM _ _ _ _ _ q7 _ hk⟩
          · cases hd
        · cases hd
      · cases hd
  case invokevirtual w0 =>
      dsimp only at hd
      split at hd
      · rename_i r s q8
        split at hd
        · rename_i k fs q6
          split at hd
          · rename_i q5
            subst q5
            split at hd
            · rename_i q9
              split at hd
              · rename_i w h2 q7
                cases hd
                refine Or.inr ?_
                unfold zex2
                dsimp only
                rw [q8]
                exact ⟨q9.1, ⟨fs, dzH_get q6⟩, q9.2.1, q9.2.2.1, q9.2.2.2, hM _ _ _ _ _ q7 _ hk⟩
              · cases hd
            · cases hd
          · cases hd
        · cases hd
      · cases hd
  case invokestatic w0 =>
      dsimp only at hd
      split at hd
      · rename_i q9
        split at hd
        · rename_i w h2 q7
          cases hd
          exact Or.inr ⟨q9.1, q9.2.1, q9.2.2.1, q9.2.2.2, hM _ _ _ _ _ q7 _ hk⟩
        · cases hd
      · cases hd
  case ireturn =>
      dsimp only at hd
      split at hd
      · split at hd
        · rename_i q9
          cases hd
          exact Or.inr ⟨⟨_, rfl, q9⟩, hk⟩
        · cases hd
      · cases hd
  case lreturn =>
      dsimp only at hd
      split at hd
      · cases hd
        exact Or.inr ⟨rfl, hk⟩
      · cases hd
  case areturn =>
      dsimp only at hd
      split at hd
      · split at hd
        · rename_i q9
          cases hd
          exact Or.inr ⟨⟨_, rfl, q9⟩, hk⟩
        · cases hd
      · split at hd
        · rename_i q9
          cases hd
          exact Or.inr ⟨⟨_, rfl, q9⟩, hk⟩
        · cases hd
      · split at hd
        · rename_i q9
          cases hd
          exact Or.inr ⟨⟨_, rfl, q9⟩, hk⟩
        · cases hd
      · cases hd
  case return_ =>
      dsimp only at hd
      split at hd
      · cases hd
        exact Or.inr ⟨rfl, hk⟩
      · cases hd
  case caload =>
      dsimp only at hd
      split at hd
      · split at hd
        · rename_i q0
          obtain ⟨q9, q8⟩ := q0
          cases hd
          exact Or.inr ⟨(fun q => q.elim (fun z => absurd q9.1 (Int32.not_le.mpr z)) (fun z => absurd q9.2 (Nat.not_lt.mpr z))), q8, hk⟩
        · cases hd
      · cases hd
  case i2c =>
      dsimp only at hd
      split at hd
      · split at hd
        · rename_i q9
          cases hd
          exact Or.inr ⟨q9.1, q9.2, hk⟩
        · cases hd
      · cases hd
  all_goals cases hd
theorem drun_ok {tt : zT} {G G2 : zG} (hG1 : G2.1 = G.1) (hG2 : G2.2.1 = G.2.1) {bc bs : Nat} {rt : Option FieldType} {M : dM} {MZ : zM} (hmz : zmono MZ) (hM : ∀ (j : Nat) (as : List Value) (h : dH) (w : Option Value) (h2 : dH), M j as h = some (w, h2) → ∀ Q : zQ, Q w (dzH h2) → MZ j as (dzH h) Q) {cd : zK} {ret : zQ} : ∀ (k pc : Nat) (L : zL) (st : List Value) (h : dH) (c n : Nat) (w : Option Value) (h2 : dH), drun tt G bc bs rt M cd k pc L st h c n = some (w, h2) → ret w (dzH h2) → zR tt G2 cd bc bs rt MZ ret pc L st (dzH h) c n
  | 0, _, _, _, _, _, _, _, _, hd, _ => by cases hd
  | k + 1, pc, L, st, h, c, n, w, h2, hd, hr => by
    unfold drun at hd
    refine zR.step hmz ?_
    unfold zstep
    split at hd
    · rename_i e he
      rw [he]
      split at hd
      · rename_i s hs
        exact dex_ok hG1 hG2 hM hs (drun_ok hG1 hG2 hmz hM k _ _ _ _ _ _ w h2 hd hr)
      · rename_i r9 hs
        cases hd
        exact dex_ok hG1 hG2 hM hs hr
      · cases hd
    · cases hd
theorem dmet_ok {tt : zT} {G G2 : zG} (hG1 : G2.1 = G.1) (hG2 : G2.2.1 = G.2.1) {fuel : Nat} : ∀ (d j : Nat) (as : List Value) (h : dH) (w : Option Value) (h2 : dH), dmet tt G fuel d j as h = some (w, h2) → ∀ Q : zQ, Q w (dzH h2) → zW tt G2 d j as (dzH h) Q
  | 0, _, _, _, _, _, hd, _, _ => by cases hd
  | d + 1, j, as, h, w, h2, hd, Q, hq => by
    unfold dmet at hd
    unfold zW
    split at hd
    · rename_i cd nL rt bc bs hp
      rw [hG1, hp]
      split at hd
      · rename_i hl
        exact ⟨hl, drun_ok hG1 hG2 (zW_mono tt G2 d) (dmet_ok hG1 hG2 d) fuel _ _ _ _ _ _ w h2 hd hq⟩
      · cases hd
    · cases hd
noncomputable def deqA : dA → dA → Bool
  | .inl u, .inl v => decide (u = v)
  | .inr (.inl u), .inr (.inl v) => decide (u = v)
  | .inr (.inr u), .inr (.inr v) => decide (u = v)
  | _, _ => false
theorem deqA_ok {u v : dA} (h : deqA u v = true) : u = v := by
  unfold deqA at h
  split at h
  · rw [of_decide_eq_true h]
  · rw [of_decide_eq_true h]
  · rw [of_decide_eq_true h]
  · cases h
noncomputable def deqC : dC → dC → Bool
  | .inl (k, N, u), .inl (k2, N2, u2) => decide (k = k2) && (decide (N = N2) && deqA u u2)
  | .inr x, .inr y => decide (x = y)
  | _, _ => false
theorem deqC_ok {u v : dC} (h : deqC u v = true) : u = v := by
  unfold deqC at h
  split at h
  · simp only [Bool.and_eq_true, decide_eq_true_eq] at h
    rw [h.1, h.2.1, deqA_ok h.2.2]
  · rw [of_decide_eq_true h]
  · cases h
noncomputable def deqH : dH → dH → Bool
  | [], [] => true
  | a :: r, b :: s => deqC a b && deqH r s
  | _, _ => false
theorem deqH_ok : ∀ {u v : dH}, deqH u v = true → u = v
  | [], [], _ => rfl
  | a :: r, b :: s, h => by
    unfold deqH at h
    rw [Bool.and_eq_true] at h
    rw [deqC_ok h.1, deqH_ok h.2]
  | [], _ :: _, h => by cases h
  | _ :: _, [], h => by cases h
noncomputable def deqR (x : Option (Option Value × dH)) (w : Option Value) (h : dH) : Bool := match x with
  | some (w2, h2) => decide (w2 = w) && deqH h2 h
  | none => false
theorem deqR_ok {x : Option (Option Value × dH)} {w : Option Value} {h : dH} (q : deqR x w h = true) : x = some (w, h) := by
  unfold deqR at q
  split at q
  · simp only [Bool.and_eq_true, decide_eq_true_eq] at q
    rw [q.1, deqH_ok q.2]
  · cases q
end
section
noncomputable def dH0 : dH := [.inr (11, [.ref 1, .ref 36, .ref 44, .ref 48, .ref 54, .ref 63, .ref 76, .ref 81, .ref 89, .ref 94, .ref 107, .ref 108, .ref 109, .ref 110, .int 0]),
  .inr (3, [.ref 2, .ref 3, .ref 4, .ref 13, .ref 14, .ref 27, .int 0, .int 0]),
  .inl (0, 3, .inl [(2, 100), (1, 100), (0, 100)]),
  .inl (0, 8, .inl []),
  .inl (4, 8, .inr (.inr (some 4, []))),
  .inl (0, 3, .inl []),
  .inl (0, 3, .inl []),
  .inl (0, 3, .inl []),
  .inl (0, 3, .inl []),
  .inl (0, 3, .inl []),
  .inl (0, 3, .inl []),
  .inl (0, 3, .inl []),
  .inl (0, 3, .inl []),
  .inl (0, 12, .inl []),
  .inl (4, 12, .inr (.inr (some 14, []))),
  .inl (0, 3, .inl []),
  .inl (0, 3, .inl []),
  .inl (0, 3, .inl []),
  .inl (0, 3, .inl []),
  .inl (0, 3, .inl []),
  .inl (0, 3, .inl []),
  .inl (0, 3, .inl []),
  .inl (0, 3, .inl []),
  .inl (0, 3, .inl []),
  .inl (0, 3, .inl []),
  .inl (0, 3, .inl []),
  .inl (0, 3, .inl []),
  .inl (4, 8, .inr (.inr (some 27, []))),
  .inl (0, 12, .inl [(11, 600), (10, 600), (9, 600), (8, 600), (7, 600), (6, 600), (5, 600), (4, 600), (3, 600), (2, 600), (1, 600), (0, 600)]),
  .inl (0, 12, .inl [(11, 600), (10, 600), (9, 600), (8, 600), (7, 600), (6, 600), (5, 600), (4, 600), (3, 600), (2, 600), (1, 600), (0, 600)]),
  .inl (0, 12, .inl [(11, 600), (10, 600), (9, 600), (8, 600), (7, 600), (6, 600), (5, 600), (4, 600), (3, 600), (2, 600), (1, 600), (0, 600)]),
  .inl (0, 12, .inl [(11, 600), (10, 600), (9, 600), (8, 600), (7, 600), (6, 600), (5, 600), (4, 600), (3, 600), (2, 600), (1, 600), (0, 600)]),
  .inl (0, 12, .inl [(11, 600), (10, 600), (9, 600), (8, 600), (7, 600), (6, 600), (5, 600), (4, 600), (3, 600), (2, 600), (1, 600), (0, 600)]),
  .inl (0, 12, .inl [(11, 600), (10, 600), (9, 600), (8, 600), (7, 600), (6, 600), (5, 600), (4, 600), (3, 600), (2, 600), (1, 600), (0, 600)]),
  .inl (0, 12, .inl [(11, 600), (10, 600), (9, 600), (8, 600), (7, 600), (6, 600), (5, 600), (4, 600), (3, 600), (2, 600), (1, 600), (0, 600)]),
  .inl (0, 12, .inl [(11, 600), (10, 600), (9, 600), (8, 600), (7, 600), (6, 600), (5, 600), (4, 600), (3, 600), (2, 600), (1, 600), (0, 600)]),
  .inr (2, [.ref 37, .ref 38, .int 0, .ref 39, .int 0, .ref 40, .ref 41, .ref 42, .ref 43, .int 0]),
  .inl (0, 60, .inl []),
  .inl (1, 60, .inl []),
  .inl (5, 300, .inr (.inr (none, []))),
  .inl (0, 400, .inl []),
  .inl (0, 400, .inl []),
  .inl (0, 400, .inl []),
  .inl (0, 400, .inl []),
  .inr (8, [.ref 45, .int 0, .int 0, .int 0, .ref 46, .int 0, .ref 47, .int 0, .int 0, .int 0]),
  .inl (2, 400, .inl []),
  .inl (0, 400, .inl []),
  .inl (0, 48, .inl []),
  .inr (7, [.ref 49, .ref 50, .ref 51, .int 0, .ref 52, .ref 53]),
  .inl (0, 10, .inl []),
  .inl (4, 10, .inr (.inr (none, []))),
  .inl (4, 10, .inr (.inr (none, []))),
  .inl (3, 12, .inr (.inl [])),
  .inl (3, 80, .inr (.inl [])),
  .inr (10, [.ref 55, .ref 56, .ref 57, .ref 58, .ref 59, .int 0, .ref 60, .ref 61, .ref 62, .int 0]),
  .inl (0, 200, .inl []),
  .inl (0, 200, .inl []),
  .inl (0, 200, .inl []),
  .inl (1, 200, .inl []),
  .inl (3, 200, .inr (.inl [])),
  .inl (0, 600, .inl []),
  .inl (0, 600, .inl []),
  .inl (0, 600, .inl []),
  .inr (1, [.ref 64, .ref 65, .ref 66, .ref 67, .ref 68, .ref 69, .ref 70, .ref 71, .int 0, .ref 72, .ref 73, .ref 74, .ref 75]),
  .inl (0, 200, .inl []),
  .inl (0, 200, .inl []),
  .inl (0, 200, .inl []),
  .inl (0, 200, .inl []),
  .inl (0, 200, .inl []),
  .inl (0, 200, .inl []),
  .inl (0, 200, .inl []),
  .inl (1, 200, .inl []),
  .inl (0, 9, .inl []),
  .inl (0, 9, .inl []),
  .inl (0, 9, .inl []),
  .inl (0, 9, .inl []),
  .inr (4, [.int 0, .ref 77, .ref 78, .ref 79, .ref 80]),
  .inl (0, 20, .inl []),
  .inl (1, 120, .inl []),
  .inl (0, 120, .inl []),
  .inl (0, 120, .inl []),
  .inr (5, [.ref 82, .ref 83, .ref 84, .ref 85, .ref 86, .ref 87, .ref 88, .int 0]),
  .inl (0, 24, .inl []),
  .inl (0, 24, .inl []),
  .inl (0, 24, .inl []),
  .inl (0, 24, .inl []),
  .inl (0, 24, .inl []),
  .inl (0, 24, .inl []),
  .inl (0, 24, .inl []),
  .inr (6, [.ref 90, .ref 91, .ref 92, .ref 93, .int 0]),
  .inl (0, 20, .inl []),
  .inl (0, 20, .inl []),
  .inl (0, 20, .inl []),
  .inl (0, 20, .inl []),
  .inr (9, [.ref 95, .ref 96, .ref 97, .int 0, .int (-1), .int (-1)]),
  .inl (0, 9, .inl []),
  .inl (0, 9, .inl []),
  .inl (4, 9, .inr (.inr (some 97, []))),
  .inl (0, 9, .inl []),
  .inl (0, 9, .inl []),
  .inl (0, 9, .inl []),
  .inl (0, 9, .inl []),
  .inl (0, 9, .inl []),
  .inl (0, 9, .inl []),
  .inl (0, 9, .inl []),
  .inl (0, 9, .inl []),
  .inl (0, 9, .inl []),
  .inl (0, 600, .inl []),
  .inl (0, 600, .inl []),
  .inl (0, 600, .inl []),
  .inl (0, 600, .inl []),
  .inr (12, [.int 0, .int 0, .int 0, .int 0, .int 0, .int 0, .int 0, .ref 112, .ref 113, .ref 114, .ref 115, .ref 116, .ref 117, .ref 118, .ref 119, .ref 120, .ref 121, .ref 122, .ref 123, .ref 124, .ref 125, .ref 126, .ref 127, .ref 128, .ref 129, .ref 130, .ref 131, .int 0, .int 0, .int 0, .int 0, .int 0, .int 0, .int 0, .int 0, .ref 132, .ref 133, .ref 134, .ref 135, .ref 136, .ref 137, .ref 138, .ref 139, .ref 140, .ref 141, .ref 142, .int 0, .int 0, .ref 143, .ref 144, .int 0, .int 0, .ref 145, .ref 146, .ref 147, .ref 148, .ref 149, .ref 150, .ref 151, .int 0, .ref 152, .ref 153, .ref 154, .ref 155, .ref 156, .ref 157, .ref 158, .ref 159, .ref 160, .ref 161, .ref 162, .int 0, .ref 163, .ref 164, .ref 165, .ref 166, .int 0, .ref 167, .ref 168, .ref 169, .ref 170, .ref 171, .ref 172, .int 0, .ref 173, .ref 174, .ref 175, .ref 176, .ref 177, .ref 178, .int 0, .int (-1), .int 0, .ref 179, .ref 180, .ref 181]),
  .inl (0, 60, .inl []),
  .inl (0, 3, .inl [(2, 100), (1, 100), (0, 100)]),
  .inl (0, 8, .inl []),
  .inl (0, 24, .inl []),
  .inl (0, 12, .inl []),
  .inl (0, 36, .inl []),
  .inl (0, 96, .inl [(95, 1000000), (94, 1000000), (93, 1000000), (92, 1000000), (91, 1000000), (90, 1000000), (89, 1000000), (88, 1000000), (87, 1000000), (86, 1000000), (85, 1000000), (84, 1000000), (83, 1000000), (82, 1000000), (81, 1000000), (80, 1000000), (79, 1000000), (78, 1000000), (77, 1000000), (76, 1000000), (75, 1000000), (74, 1000000), (73, 1000000), (72, 1000000), (71, 1000000), (70, 1000000), (69, 1000000), (68, 1000000), (67, 1000000), (66, 1000000), (65, 1000000), (64, 1000000), (63, 1000000), (62, 1000000), (61, 1000000), (60, 1000000), (59, 1000000), (58, 1000000), (57, 1000000), (56, 1000000), (55, 1000000), (54, 1000000), (53, 1000000), (52, 1000000), (51, 1000000), (50, 1000000), (49, 1000000), (48, 1000000), (47, 1000000), (46, 1000000), (45, 1000000), (44, 1000000), (43, 1000000), (42, 1000000), (41, 1000000), (40, 1000000), (39, 1000000), (38, 1000000), (37, 1000000), (36, 1000000), (35, 1000000), (34, 1000000), (33, 1000000), (32, 1000000), (31, 1000000), (30, 1000000), (29, 1000000), (28, 1000000), (27, 1000000), (26, 1000000), (25, 1000000), (24, 1000000), (23, 1000000), (22, 1000000), (21, 1000000), (20, 1000000), (19, 1000000), (18, 1000000), (17, 1000000), (16, 1000000), (15, 1000000), (14, 1000000), (13, 1000000), (12, 1000000), (11, 1000000), (10, 1000000), (9, 1000000), (8, 1000000), (7, 1000000), (6, 1000000), (5, 1000000), (4, 1000000), (3, 1000000), (2, 1000000), (1, 1000000), (0, 1000000)]),
  .inl (1, 60, .inl []),
  .inl (1, 300, .inl []),
  .inl (0, 300, .inl []),
  .inl (0, 300, .inl []),
  .inl (0, 300, .inl []),
  .inl (0, 300, .inl []),
  .inl (0, 300, .inl []),
  .inl (0, 300, .inl []),
  .inl (0, 300, .inl []),
  .inl (0, 400, .inl []),
  .inl (0, 400, .inl []),
  .inl (0, 400, .inl []),
  .inl (0, 400, .inl []),
  .inl (2, 400, .inl []),
  .inl (0, 5000, .inl []),
  .inl (0, 5000, .inl []),
  .inl (0, 120, .inl []),
  .inl (0, 120, .inl []),
  .inl (0, 120, .inl []),
  .inl (0, 120, .inl []),
  .inl (0, 120, .inl []),
  .inl (0, 10, .inl []),
  .inl (0, 10, .inl []),
  .inl (0, 400, .inl []),
  .inl (3, 12, .inr (.inl [])),
  .inl (3, 500, .inr (.inl [])),
  .inl (0, 200, .inl []),
  .inl (0, 200, .inl []),
  .inl (0, 200, .inl []),
  .inl (0, 600, .inl []),
  .inl (0, 600, .inl []),
  .inl (0, 600, .inl []),
  .inl (1, 200, .inl []),
  .inl (0, 200, .inl []),
  .inl (0, 200, .inl []),
  .inl (0, 200, .inl []),
  .inl (0, 200, .inl []),
  .inl (0, 200, .inl []),
  .inl (0, 200, .inl []),
  .inl (1, 200, .inl []),
  .inl (0, 9, .inl []),
  .inl (0, 9, .inl []),
  .inl (0, 9, .inl []),
  .inl (0, 9, .inl []),
  .inl (0, 20, .inl []),
  .inl (0, 120, .inl []),
  .inl (0, 120, .inl []),
  .inl (1, 120, .inl []),
  .inl (0, 24, .inl []),
  .inl (0, 24, .inl []),
  .inl (0, 24, .inl []),
  .inl (0, 24, .inl []),
  .inl (0, 24, .inl []),
  .inl (0, 24, .inl []),
  .inl (0, 20, .inl []),
  .inl (0, 20, .inl []),
  .inl (0, 20, .inl []),
  .inl (0, 20, .inl []),
  .inl (0, 6000, .inl []),
  .inl (1, 6000, .inl []),
  .inl (0, 9, .inl []),
  .inl (0, 9, .inl []),
  .inl (0, 81, .inl [])]
noncomputable def zG0 : zG := (zProg, ztx, 0, fun _ => 0)
theorem fr_x : dmet zTt zG0 20000 64 109 [.ref 0] [.inr (11, zcls zTt 11)] = some (none, dH0.take 111) := deqR_ok (by decide +kernel)
theorem fr_m : dmet zTt zG0 20000 64 170 [.ref 111] (dH0.take 111 ++ [.inr (12, zcls zTt 12)]) = some (none, dH0) := deqR_ok (by decide +kernel)
end
section
/-! the heap behind the two makers is of its kinds -/
noncomputable def dvok (τ : List Nat) (vt : yT) (w : Value) : Bool := match vt, w with
  | (0, lo, hi, _), .int x => decide (lo ≤ x.toInt) && decide (x.toInt ≤ hi)
  | (1, lo, hi, _), .long x => decide (lo ≤ x.toInt) && decide (x.toInt ≤ hi)
  | (2, lo, hi, tg), .ref q => decide (lo ≤ (q : Int)) && (decide ((q : Int) ≤ hi) && (Nat.beq tg 0 || decide (τ[q]? = some tg)))
  | (2, lo, hi, _), .null => decide (lo ≤ -1) && decide (-1 ≤ hi)
  | _, _ => false
theorem dvok_ok {τ : List Nat} {vt : yT} {w : Value} (h : dvok τ vt w = true) : yvo τ vt w := by
  unfold dvok at h
  split at h
  · rw [Bool.and_eq_true, decide_eq_true_eq, decide_eq_true_eq] at h
    exact ⟨_, rfl, h.1, h.2⟩
  · rw [Bool.and_eq_true, decide_eq_true_eq, decide_eq_true_eq] at h
    exact ⟨_, rfl, h.1, h.2⟩
  · rename_i lo hi tg q
    rw [Bool.and_eq_true, Bool.and_eq_true, Bool.or_eq_true, decide_eq_true_eq, decide_eq_true_eq, decide_eq_true_eq] at h
    refine ⟨(q : Int), ?_, h.1, h.2.1, ?_⟩
    · unfold zrn
      rw [if_neg (by omega)]
      rfl
    · exact h.2.2.imp Nat.eq_of_beq_eq_true Or.inr
  · rw [Bool.and_eq_true, decide_eq_true_eq, decide_eq_true_eq] at h
    exact ⟨-1, rfl, h.1, h.2, Or.inr (Or.inl (by decide))⟩
  · cases h
theorem dfi_all {P : Int32 → Prop} (h0 : P 0) : ∀ {u : List (Nat × Int32)}, (∀ q ∈ u, P q.2) → ∀ i, P (dfi u i)
  | [], _, i => h0
  | q :: r, h, i => by
    unfold dfi upd
    by_cases e : i = q.1
    · rw [if_pos e]; exact h q List.mem_cons_self
    · rw [if_neg e]; exact dfi_all h0 (fun z hz => h z (List.mem_cons_of_mem _ hz)) i
theorem dfl_all {P : Int64 → Prop} (h0 : P 0) : ∀ {u : List (Nat × Int64)}, (∀ q ∈ u, P q.2) → ∀ i, P (dfl u i)
  | [], _, i => h0
  | q :: r, h, i => by
    unfold dfl vp_updL
    by_cases e : i = q.1
    · rw [if_pos e]; exact h q List.mem_cons_self
    · rw [if_neg e]; exact dfl_all h0 (fun z hz => h z (List.mem_cons_of_mem _ hz)) i
noncomputable def daz (N : Nat) (x : dA) : yD := match x with
  | .inl u => .inl (dfi u)
  | .inr (.inl u) => .inr (.inl (dfl u))
  | .inr (.inr (b, u)) => .inr (.inr (.inr (.inr (dfq N b u))))
theorem dz_arr (k N : Nat) (x : dA) : dz (.inl (k, N, x)) = .inl (k, N, daz N x) := by
  match x with
  | .inl u => rfl
  | .inr (.inl u) => rfl
  | .inr (.inr (b, u)) => rfl
noncomputable def dinb (lo hi x : Int) : Bool := decide (lo ≤ x) && decide (x ≤ hi)
noncomputable def daok (τ : List Nat) (N : Nat) (vt : yT) (x : dA) : Bool := match vt, x with
  | (0, lo, hi, _), .inl u => (dinb lo hi 0 && u.all (fun q => dinb lo hi q.2.toInt)) || (List.range N).all (fun i => dinb lo hi (dfi u i).toInt)
  | (1, lo, hi, _), .inr (.inl u) => dinb lo hi 0 && u.all (fun q => dinb lo hi q.2.toInt)
  | (2, lo, hi, tg), .inr (.inr (b, u)) => (List.range N).all (fun i => dinb lo hi (zoi (dfq N b u i)) && (Nat.beq tg 0 || (decide (zoi (dfq N b u i) < 0) || decide (τ[(zoi (dfq N b u i)).toNat]? = some tg))))
  | _, _ => false
theorem dinb_ok {lo hi x : Int} (h : dinb lo hi x = true) : lo ≤ x ∧ x ≤ hi := by
  unfold dinb at h
  rw [Bool.and_eq_true, decide_eq_true_eq, decide_eq_true_eq] at h
  exact h
theorem daok_ok {τ : List Nat} {N : Nat} {vt : yT} {x : dA} (h : daok τ N vt x = true) : yAo τ N vt (daz N x) := by
  unfold daok at h
  split at h
  · rename_i lo hi tg u
    refine ⟨dfi u, rfl, fun i hi => ?_⟩
    rw [Bool.or_eq_true, Bool.and_eq_true, List.all_eq_true, List.all_eq_true] at h
    rcases h with h | h
    · exact dfi_all (P := fun z => lo ≤ z.toInt ∧ z.toInt ≤ _) (dinb_ok h.1) (fun q hq => dinb_ok (h.2 q hq)) i
    · exact dinb_ok (h i (List.mem_range.mpr hi))
  · rename_i lo hi tg u
    refine ⟨dfl u, rfl, fun i hi => ?_⟩
    rw [Bool.and_eq_true, List.all_eq_true] at h
    exact dfl_all (P := fun z => lo ≤ z.toInt ∧ z.toInt ≤ _) (dinb_ok h.1) (fun q hq => dinb_ok (h.2 q hq)) i
  · rename_i lo hi tg b u
    refine ⟨dfq N b u, rfl, fun i hi => ?_⟩
    rw [List.all_eq_true] at h
    have := h i (List.mem_range.mpr hi)
    rw [Bool.and_eq_true, Bool.or_eq_true, Bool.or_eq_true, decide_eq_true_eq, decide_eq_true_eq] at this
    exact ⟨(dinb_ok this.1).1, (dinb_ok this.1).2, this.2.imp Nat.eq_of_beq_eq_true id⟩
  · cases h
noncomputable def dall (τ : List Nat) : List yT → List Value → Bool
  | [], [] => true
  | t :: r, w :: s => dvok τ t w && dall τ r s
  | _, _ => false
theorem dall_ok {τ : List Nat} : ∀ {vts : List yT} {fs : List Value}, dall τ vts fs = true → fs.length = vts.length ∧ ∀ (i : Nat) (vt : yT), vts[i]? = some vt → ∃ w : Value, fs[i]? = some w ∧ yvo τ vt w
  | [], [], _ => ⟨rfl, fun i vt h => by cases h⟩
  | t :: r, w :: s, h => by
    unfold dall at h
    rw [Bool.and_eq_true] at h
    obtain ⟨e1, e2⟩ := dall_ok h.2
    refine ⟨by rw [List.length_cons, List.length_cons, e1], fun i vt hi => ?_⟩
    match i, hi with
    | 0, hi => cases hi; exact ⟨w, rfl, dvok_ok h.1⟩
    | i + 1, hi => exact e2 i vt hi
  | [], _ :: _, h => by cases h
  | _ :: _, [], h => by cases h
noncomputable def dcok (τ : List Nat) (ct : yC) (c : dC) : Bool := match ct, c with
  | .inl (cls, vts), .inr (cl, fs) => Nat.beq cl cls && dall τ vts fs
  | .inr (kd, nlo, nhi, vt), .inl (k, N, x) => Nat.beq k kd && (Nat.ble nlo N && (Nat.ble N nhi && daok τ N vt x))
  | _, _ => false
theorem dcok_ok {τ : List Nat} {ct : yC} {c : dC} (h : dcok τ ct c = true) : yCo τ ct (dz c) := by
  unfold dcok at h
  split at h
  · rename_i cls vts cl fs
    rw [Bool.and_eq_true] at h
    have e := Nat.eq_of_beq_eq_true h.1
    subst e
    obtain ⟨e1, e2⟩ := dall_ok h.2
    exact ⟨fs, rfl, e1, e2⟩
  · rename_i kd nlo nhi vt k N x
    simp only [Bool.and_eq_true] at h
    obtain ⟨h1, h2, h3, h4⟩ := h
    have e := Nat.eq_of_beq_eq_true h1
    subst e
    exact ⟨N, daz N x, dz_arr _ _ _, Nat.le_of_ble_eq_true h2, Nat.le_of_ble_eq_true h3, daok_ok h4⟩
  · cases h
noncomputable def dhok (TT : List yC) (τ : List Nat) : List Nat → dH → Bool
  | [], [] => true
  | t :: r, c :: s => (match TT[t]? with
    | some ct => dcok τ ct c
    | none => false) && dhok TT τ r s
  | _, _ => false
theorem dhok_ok {TT : List yC} {τ : List Nat} : ∀ {l : List Nat} {h : dH}, dhok TT τ l h = true → l.length = h.length ∧ ∀ (p t : Nat), l[p]? = some t → ∃ (ct : yC) (c : dC), TT[t]? = some ct ∧ h[p]? = some c ∧ yCo τ ct (dz c)
  | [], [], _ => ⟨rfl, fun p t h => by cases h⟩
  | t :: r, c :: s, h => by
    unfold dhok at h
    rw [Bool.and_eq_true] at h
    obtain ⟨e1, e2⟩ := dhok_ok h.2
    refine ⟨by rw [List.length_cons, List.length_cons, e1], fun p t9 hp => ?_⟩
    match p, hp with
    | 0, hp =>
      cases hp
      have h1 := h.1
      split at h1
      · rename_i ct hct
        exact ⟨ct, c, hct, rfl, dcok_ok h1⟩
      · cases h1
    | p + 1, hp => exact e2 p t9 hp
  | [], _ :: _, h => by cases h
  | _ :: _, [], h => by cases h
theorem zH0_ok : yHo zTTy zTG (dzH dH0) := by
  have h : dhok zTTy zTG zTG dH0 = true := by decide +kernel
  obtain ⟨e1, e2⟩ := dhok_ok h
  refine ⟨by rw [dzH_len]; exact e1, fun p t hp => ?_⟩
  obtain ⟨ct, c, q1, q2, q3⟩ := e2 p t hp
  exact ⟨ct, dz c, q1, dzH_get q2, q3⟩
theorem zH0_I : zKI (dzH dH0) := by
  have e1 : zfi (dzH dH0) 48 3 = 0 := by decide +kernel
  have e2 : zfi (dzH dH0) 36 4 = 0 := by decide +kernel
  have e3 : (dzH dH0).length = 182 := by rw [dzH_len]; decide +kernel
  unfold zKI
  rw [e1, e2, e3]
  exact ⟨fun i hi => by omega, by decide⟩
theorem zH0_4 {xs : Nat → Int32} {x v : Int} : zgp xs 4 (dzH dH0) x v := by
  have e1 : zfi (dzH dH0) 111 30 = 0 := by decide +kernel
  show zR4 _ _ _ _ _ _ _
  rw [e1]
  exact fun r hr => by omega
end
section
/-! all contracts hold -/
noncomputable def zXt (G : zG) : yTx := (fun k => if k = 0 then (List.range G.2.2.1).map G.2.2.2 else ztx k, zgp G.2.2.2)
noncomputable def yQ (P : Nat → yCt → Prop) : Nat → List (List yCt) → Prop
  | _, [] => True
  | k, cts :: r => (∀ ct ∈ cts, P k ct) ∧ yQ P (k + 1) r
theorem yQ_at {P : Nat → yCt → Prop} : ∀ {l : List (List yCt)} {k j : Nat} {cts : List yCt} {ct : yCt}, yQ P k l → l[j]? = some cts → ct ∈ cts → P (k + j) ct
  | [], _, _, _, _, _, h, _ => by cases h
  | a :: r, k, 0, cts, ct, q, h, hc => by cases h; exact q.1 ct hc
  | a :: r, k, j + 1, cts, ct, q, h, hc => by
    have := yQ_at (j := j) q.2 h hc
    rw [show k + 1 + j = k + (j + 1) by omega] at this
    exact this
section ALL
variable {G : zG}
noncomputable def zPP (G : zG) (j : Nat) (ct : yCt) : Prop := yVl zTt G (zXt G) zTG zTTy zKI j ct 0 ∧ ∀ n : Nat, (∀ j cts ct, zCT[j]? = some cts → ct ∈ cts → yVl zTt G (zXt G) zTG zTTy zKI j ct n) → yVl zTt G (zXt G) zTG zTTy zKI j ct (n + 1 : Nat)
theorem zPh {j : Nat} {ct : yCt} (h : ∀ n : Nat, yVl zTt G (zXt G) zTG zTTy zKI j ct n) : zPP G j ct := ⟨h 0, fun n _ => h (n + 1)⟩
theorem zGxT_ok : zGxT zTG zTTy := ⟨rfl, rfl, rfl, rfl, rfl, rfl, rfl, rfl, fun t h => by rcases h with rfl | rfl | rfl | rfl | rfl | rfl | rfl <;> exact ⟨_, rfl⟩⟩
theorem zGd_ok : yGdo (zXt G) zTG zTTy zKI zGd := zGdo_ok zGxT_ok zKI_gd
theorem zTX_ok : ∀ k l, zTX[k]? = some l → 1 ≤ k → ((zXt G).1 k).length = l ∧ 1 ≤ l ∧ l ≤ 200 := by
  intro k l h hk
  have ha : (List.range zTX.length).all (fun k => Nat.beq k 0 || (decide (zTX[k]? = some (ztx k).length) && (decide (1 ≤ (ztx k).length) && decide ((ztx k).length ≤ 200)))) = true := by decide +kernel
  have hl : k < zTX.length := by
    rcases Nat.lt_or_ge k zTX.length with z | z
    · exact z
    · rw [List.getElem?_eq_none z] at h; cases h
  have := List.all_eq_true.mp ha k (List.mem_range.mpr hl)
  rw [Bool.or_eq_true] at this
  rcases this with e | e
  · have := Nat.eq_of_beq_eq_true e
    omega
  · rw [Bool.and_eq_true, Bool.and_eq_true, decide_eq_true_eq, decide_eq_true_eq, decide_eq_true_eq] at e
    rw [h] at e
    have e0 := e.1
    cases e0
    have ek : (zXt G).1 k = ztx k := if_neg (by omega)
    rw [ek]
    exact ⟨rfl, e.2⟩
theorem zTX_b : ∀ k x, 1 ≤ k → x ∈ (zXt G).1 k → 0 ≤ x.toInt ∧ x.toInt ≤ 255 := by
  intro k x hk hx
  have ek : (zXt G).1 k = ztx k := if_neg (by omega)
  rw [ek] at hx
  have ha : (List.range 22).all (fun k => (ztx k).all (fun x => decide (0 ≤ x.toInt) && decide (x.toInt ≤ 255))) = true := by decide +kernel
  rcases Nat.lt_or_ge k 22 with z | z
  · have := List.all_eq_true.mp (List.all_eq_true.mp ha k (List.mem_range.mpr z)) x hx
    rw [Bool.and_eq_true, decide_eq_true_eq, decide_eq_true_eq] at this
    exact this
  · obtain ⟨j, rfl⟩ : ∃ j, k = j + 22 := ⟨k - 22, by omega⟩
    have e : ztx (j + 22) = [] := rfl
    rw [e] at hx
    cases hx
theorem zX_1 : ((zXt G).1 0).length = G.2.2.1 := by
  show ((List.range G.2.2.1).map G.2.2.2).length = _
  rw [List.length_map, List.length_range]
theorem zX_2 (hT : G.2.1 = ztx) : ∀ k, 1 ≤ k → (zXt G).1 k = G.2.1 k := fun k hk => by
  rw [hT]
  exact if_neg (by omega)
theorem zX_3 (hN : G.2.2.1 ≤ 4096) : G.2.2.1 < 2 ^ 31 ∧ ∀ (h : zH) (x v : Int), (zXt G).2 6 h x v ↔ v = (G.2.2.2 x.toNat).toInt := ⟨by omega, fun _ _ _ => Iff.rfl⟩
theorem zPk (hG : G.1 = zProg) (hT : G.2.1 = ztx) (hN : G.2.2.1 ≤ 4096) {F j : Nat} {ct : yCt} {cuts : List yCu} (q : ychk zTt zProg zTG zTTy zTX zGd zXf zCT F j ct cuts = true) : zPP G j ct := ⟨ychk_base q, fun n h => ychk_ok hG zKI_is zTX_ok zGd_ok zTX_b zX_1 (zX_2 hT) (zX_3 hN) q n h⟩
noncomputable def zCd_0 : List (List yCt) := [[], [kt_1_0], [], [], [], [], [], [], [], [], [kt_10_0], [kt_11_0], [kt_12_0], [kt_13_0], [], [], [], [], [kt_18_0], [], [kt_20_0], [], [kt_22_0], [kt_23_0], [], [], [], [], [], [], [], [], [kt_32_0], [], [kt_34_0], [kt_35_0], [], [], [], []]
noncomputable def zCd_1 : List (List yCt) := [[], [], [kt_42_0], [], [], [], [], [], [kt_48_0], [], [kt_50_0], [kt_51_0], [], [kt_53_0], [], [], [], [], [], [kt_59_0], [kt_60_0], [kt_61_0], [], [], [kt_64_0], [kt_65_0], [kt_66_0], [], [kt_68_0], [], [], [], [], [kt_73_0], [], [kt_75_0], [], [], [kt_78_0], [kt_79_0]]
noncomputable def zCd_2 : List (List yCt) := [[kt_80_0], [kt_81_0], [], [kt_83_0], [kt_84_0], [kt_85_0], [], [], [], [kt_89_0], [kt_90_0], [kt_91_0], [], [], [], [], [], [], [kt_98_0], [kt_99_0], [kt_100_0], [], [], [], [], [], [kt_106_0], [kt_107_0], [kt_108_0], [], [kt_110_0], [kt_111_0], [kt_112_0], [kt_113_0], [kt_114_0], [kt_115_0], [kt_116_0], [kt_117_0], [kt_118_0], [kt_119_0]]
noncomputable def zCd_3 : List (List yCt) := [[kt_120_0], [kt_121_0], [kt_122_0], [kt_123_0], [kt_124_0], [kt_125_0], [kt_126_0], [kt_127_0], [kt_128_0], [kt_129_0], [kt_130_0], [kt_131_0], [kt_132_0], [kt_133_0], [kt_134_0], [kt_135_0], [kt_136_0], [kt_137_0], [kt_138_0], [kt_139_0], [kt_140_0], [kt_141_0], [kt_142_0], [kt_143_0], [kt_144_0], [kt_145_0], [kt_146_0], [kt_147_0], [kt_148_0], [kt_149_0], [kt_150_0], [kt_151_0], [kt_152_0], [kt_153_0], [kt_154_0], [kt_155_0], [kt_156_0], [kt_157_0], [], []]
noncomputable def zCd_4 : List (List yCt) := [[], [], [], [], [], [], [], [], [kt_168_0], [kt_169_0], [], [], [], [], [kt_174_0], [], [], [], [], [kt_179_0], [kt_180_0], [kt_181_0], [kt_182_0], [kt_183_0], [kt_184_0], [kt_185_0], [kt_186_0], [kt_187_0], [kt_188_0], [kt_189_0], [], [kt_191_0], [kt_192_0], [kt_193_0], [], [kt_195_0], [kt_196_0], [], [kt_198_0], []]
noncomputable def zCd_5 : List (List yCt) := [[], [], [], [kt_203_0, kt_203_1, kt_203_2, kt_203_3, kt_203_4, kt_203_5], [], [kt_205_0, kt_205_1, kt_205_2, kt_205_3, kt_205_4, kt_205_5, kt_205_6, kt_205_7, kt_205_8, kt_205_9, kt_205_10, kt_205_11, kt_205_12, kt_205_13, kt_205_14, kt_205_15, kt_205_16, kt_205_17, kt_205_18, kt_205_19], [], [], [], [], [], [kt_211_0, kt_211_1], [kt_212_0], [kt_213_0], [kt_214_0, kt_214_1], [kt_215_0], [kt_216_0], [kt_217_0], [], [kt_219_0], [kt_220_0, kt_220_1], [kt_221_0], [kt_222_0], [kt_223_0], [kt_224_0], [kt_225_0], [kt_226_0], [kt_227_0], [kt_228_0], [], [], [kt_231_0], [kt_232_0], [], [], [kt_235_0], [kt_236_0], [kt_237_0], [kt_238_0], [kt_239_0]]
noncomputable def zCd_6 : List (List yCt) := [[kt_240_0], [kt_241_0], [kt_242_0], [kt_243_0], [kt_244_0], [kt_245_0], [], [kt_247_0], [kt_248_0], [], [kt_250_0], [kt_251_0], [kt_252_0], [kt_253_0], [], [], [kt_256_0], [kt_257_0], [kt_258_0], [kt_259_0], [kt_260_0], [kt_261_0], [], [kt_263_0], [kt_264_0], [kt_265_0], [], [], [], [kt_269_0], [kt_270_0], [kt_271_0], [kt_272_0], [kt_273_0], [kt_274_0], [kt_275_0], [kt_276_0], [kt_277_0], [kt_278_0], [kt_279_0]]
noncomputable def zCd_7 : List (List yCt) := [[], [kt_281_0], [kt_282_0, kt_282_1, kt_282_2, kt_282_3, kt_282_4, kt_282_5, kt_282_6], []]
theorem yQ_app {P : Nat → yCt → Prop} : ∀ {a b : List (List yCt)} {k : Nat}, yQ P k a → yQ P (k + a.length) b → yQ P k (a ++ b)
  | [], b, k, _, h => h
  | x :: a, b, k, h, g => ⟨h.1, yQ_app h.2 (by rw [List.length_cons] at g; rw [show k + 1 + a.length = k + (a.length + 1) by omega]; exact g)⟩
set_option maxRecDepth 100000 in
theorem zQ_0 (hG : G.1 = zProg) (hT : G.2.1 = ztx) (hN : G.2.2.1 ≤ 4096) : yQ (zPP G) 0 zCd_0 := ⟨
  List.forall_mem_nil _,
  List.forall_mem_cons.mpr ⟨(zPk hG hT hN kk_1_0), List.forall_mem_nil _⟩,
  List.forall_mem_nil _,
  List.forall_mem_nil _,
  List.forall_mem_nil _,
  List.forall_mem_nil _,
  List.forall_mem_nil _,
  List.forall_mem_nil _,
  List.forall_mem_nil _,
  List.forall_mem_nil _,
  List.forall_mem_cons.mpr ⟨(zPk hG hT hN kk_10_0), List.forall_mem_nil _⟩,
  List.forall_mem_cons.mpr ⟨(zPk hG hT hN kk_11_0), List.forall_mem_nil _⟩,
  List.forall_mem_cons.mpr ⟨(zPk hG hT hN kk_12_0), List.forall_mem_nil _⟩,
  List.forall_mem_cons.mpr ⟨(zPk hG hT hN kk_13_0), List.forall_mem_nil _⟩,
  List.forall_mem_nil _,
  List.forall_mem_nil _,
  List.forall_mem_nil _,
  List.forall_mem_nil _,
  List.forall_mem_cons.mpr ⟨(zPk hG hT hN kk_18_0), List.forall_mem_nil _⟩,
  List.forall_mem_nil _,
  List.forall_mem_cons.mpr ⟨(zPh (zcar_ok hG)), List.forall_mem_nil _⟩,
  List.forall_mem_nil _,
  List.forall_mem_cons.mpr ⟨(zPk hG hT hN kk_22_0), List.forall_mem_nil _⟩,
  List.forall_mem_cons.mpr ⟨(zPk hG hT hN kk_23_0), List.forall_mem_nil _⟩,
  List.forall_mem_nil _,
  List.forall_mem_nil _,
  List.forall_mem_nil _,
  List.forall_mem_nil _,
  List.forall_mem_nil _,
  List.forall_mem_nil _,
  List.forall_mem_nil _,
  List.forall_mem_nil _,
  List.forall_mem_cons.mpr ⟨(zPk hG hT hN kk_32_0), List.forall_mem_nil _⟩,
  List.forall_mem_nil _,
  List.forall_mem_cons.mpr ⟨(zPk hG hT hN kk_34_0), List.forall_mem_nil _⟩,
  List.forall_mem_cons.mpr ⟨(zPk hG hT hN kk_35_0), List.forall_mem_nil _⟩,
  List.forall_mem_nil _,
  List.forall_mem_nil _,
  List.forall_mem_nil _,
  List.forall_mem_nil _,
  trivial⟩
set_option maxRecDepth 100000 in
theorem zQ_1 (hG : G.1 = zProg) (hT : G.2.1 = ztx) (hN : G.2.2.1 ≤ 4096) : yQ (zPP G) 40 zCd_1 := ⟨
  List.forall_mem_nil _,
  List.forall_mem_nil _,
  List.forall_mem_cons.mpr ⟨(zPk hG hT hN kk_42_0), List.forall_mem_nil _⟩,
  List.forall_mem_nil _,
  List.forall_mem_nil _,
  List.forall_mem_nil _,
  List.forall_mem_nil _,
  List.forall_mem_nil _,
  List.forall_mem_cons.mpr ⟨(zPk hG hT hN kk_48_0), List.forall_mem_nil _⟩,
  List.forall_mem_nil _,
  List.forall_mem_cons.mpr ⟨(zPk hG hT hN kk_50_0), List.forall_mem_nil _⟩,
  List.forall_mem_cons.mpr ⟨(zPk hG hT hN kk_51_0), List.forall_mem_nil _⟩,
  List.forall_mem_nil _,
  List.forall_mem_cons.mpr ⟨(zPk hG hT hN kk_53_0), List.forall_mem_nil _⟩,
  List.forall_mem_nil _,
  List.forall_mem_nil _,
  List.forall_mem_nil _,
  List.forall_mem_nil _,
  List.forall_mem_nil _,
  List.forall_mem_cons.mpr ⟨(zPk hG hT hN kk_59_0), List.forall_mem_nil _⟩,
  List.forall_mem_cons.mpr ⟨(zPk hG hT hN kk_60_0), List.forall_mem_nil _⟩,
  List.forall_mem_cons.mpr ⟨(zPk hG hT hN kk_61_0), List.forall_mem_nil _⟩,
  List.forall_mem_nil _,
  List.forall_mem_nil _,
  List.forall_mem_cons.mpr ⟨(zPh (zrule_ok hG)), List.forall_mem_nil _⟩,
  List.forall_mem_cons.mpr ⟨(zPk hG hT hN kk_65_0), List.forall_mem_nil _⟩,
  List.forall_mem_cons.mpr ⟨(zPk hG hT hN kk_66_0), List.forall_mem_nil _⟩,
  List.forall_mem_nil _,
  List.forall_mem_cons.mpr ⟨(zPk hG hT hN kk_68_0), List.forall_mem_nil _⟩,
  List.forall_mem_nil _,
  List.forall_mem_nil _,
  List.forall_mem_nil _,
  List.forall_mem_nil _,
  List.forall_mem_cons.mpr ⟨(zPk hG hT hN kk_73_0), List.forall_mem_nil _⟩,
  List.forall_mem_nil _,
  List.forall_mem_cons.mpr ⟨(zPk hG hT hN kk_75_0), List.forall_mem_nil _⟩,
  List.forall_mem_nil _,
  List.forall_mem_nil _,
  List.forall_mem_cons.mpr ⟨(zPk hG hT hN kk_78_0), List.forall_mem_nil _⟩,
  List.forall_mem_cons.mpr ⟨(zPk hG hT hN kk_79_0), List.forall_mem_nil _⟩,
  trivial⟩
set_option maxRecDepth 100000 in
theorem zQ_2 (hG : G.1 = zProg) (hT : G.2.1 = ztx) (hN : G.2.2.1 ≤ 4096) : yQ (zPP G) 80 zCd_2 := ⟨
  List.forall_mem_cons.mpr ⟨(zPk hG hT hN kk_80_0), List.forall_mem_nil _⟩,
  List.forall_mem_cons.mpr ⟨(zPk hG hT hN kk_81_0), List.forall_mem_nil _⟩,
  List.forall_mem_nil _,
  List.forall_mem_cons.mpr ⟨(zPk hG hT hN kk_83_0), List.forall_mem_nil _⟩,
  List.forall_mem_cons.mpr ⟨(zPk hG hT hN kk_84_0), List.forall_mem_nil _⟩,
  List.forall_mem_cons.mpr ⟨(zPk hG hT hN kk_85_0), List.forall_mem_nil _⟩,
  List.forall_mem_nil _,
  List.forall_mem_nil _,
  List.forall_mem_nil _,
  List.forall_mem_cons.mpr ⟨(zPk hG hT hN kk_89_0), List.forall_mem_nil _⟩,
  List.forall_mem_cons.mpr ⟨(zPk hG hT hN kk_90_0), List.forall_mem_nil _⟩,
  List.forall_mem_cons.mpr ⟨(zPk hG hT hN kk_91_0), List.forall_mem_nil _⟩,
  List.forall_mem_nil _,
  List.forall_mem_nil _,
  List.forall_mem_nil _,
  List.forall_mem_nil _,
  List.forall_mem_nil _,
  List.forall_mem_nil _,
  List.forall_mem_cons.mpr ⟨(zPk hG hT hN kk_98_0), List.forall_mem_nil _⟩,
  List.forall_mem_cons.mpr ⟨(zPk hG hT hN kk_99_0), List.forall_mem_nil _⟩,
  List.forall_mem_cons.mpr ⟨(zPk hG hT hN kk_100_0), List.forall_mem_nil _⟩,
  List.forall_mem_nil _,
  List.forall_mem_nil _,
  List.forall_mem_nil _,
  List.forall_mem_nil _,
  List.forall_mem_nil _,
  List.forall_mem_cons.mpr ⟨(zPk hG hT hN kk_106_0), List.forall_mem_nil _⟩,
  List.forall_mem_cons.mpr ⟨(zPk hG hT hN kk_107_0), List.forall_mem_nil _⟩,
  List.forall_mem_cons.mpr ⟨(zPk hG hT hN kk_108_0), List.forall_mem_nil _⟩,
  List.forall_mem_nil _,
  List.forall_mem_cons.mpr ⟨(zPk hG hT hN kk_110_0), List.forall_mem_nil _⟩,
  List.forall_mem_cons.mpr ⟨(zPk hG hT hN kk_111_0), List.forall_mem_nil _⟩,
  List.forall_mem_cons.mpr ⟨(zPk hG hT hN kk_112_0), List.forall_mem_nil _⟩,
  List.forall_mem_cons.mpr ⟨(zPk hG hT hN kk_113_0), List.forall_mem_nil _⟩,
  List.forall_mem_cons.mpr ⟨(zPk hG hT hN kk_114_0), List.forall_mem_nil _⟩,
  List.forall_mem_cons.mpr ⟨(zPk hG hT hN kk_115_0), List.forall_mem_nil _⟩,
  List.forall_mem_cons.mpr ⟨(zPk hG hT hN kk_116_0), List.forall_mem_nil _⟩,
  List.forall_mem_cons.mpr ⟨(zPk hG hT hN kk_117_0), List.forall_mem_nil _⟩,
  List.forall_mem_cons.mpr ⟨(zPk hG hT hN kk_118_0), List.forall_mem_nil _⟩,
  List.forall_mem_cons.mpr ⟨(zPk hG hT hN kk_119_0), List.forall_mem_nil _⟩,
  trivial⟩
set_option maxRecDepth 100000 in
theorem zQ_3 (hG : G.1 = zProg) (hT : G.2.1 = ztx) (hN : G.2.2.1 ≤ 4096) : yQ (zPP G) 120 zCd_3 := ⟨
  List.forall_mem_cons.mpr ⟨(zPk hG hT hN kk_120_0), List.forall_mem_nil _⟩,
  List.forall_mem_cons.mpr ⟨(zPk hG hT hN kk_121_0), List.forall_mem_nil _⟩,
  List.forall_mem_cons.mpr ⟨(zPk hG hT hN kk_122_0), List.forall_mem_nil _⟩,
  List.forall_mem_cons.mpr ⟨(zPk hG hT hN kk_123_0), List.forall_mem_nil _⟩,
  List.forall_mem_cons.mpr ⟨(zPk hG hT hN kk_124_0), List.forall_mem_nil _⟩,
  List.forall_mem_cons.mpr ⟨(zPk hG hT hN kk_125_0), List.forall_mem_nil _⟩,
  List.forall_mem_cons.mpr ⟨(zPk hG hT hN kk_126_0), List.forall_mem_nil _⟩,
  List.forall_mem_cons.mpr ⟨(zPk hG hT hN kk_127_0), List.forall_mem_nil _⟩,
  List.forall_mem_cons.mpr ⟨(zPk hG hT hN kk_128_0), List.forall_mem_nil _⟩,
  List.forall_mem_cons.mpr ⟨(zPk hG hT hN kk_129_0), List.forall_mem_nil _⟩,
  List.forall_mem_cons.mpr ⟨(zPk hG hT hN kk_130_0), List.forall_mem_nil _⟩,
  List.forall_mem_cons.mpr ⟨(zPk hG hT hN kk_131_0), List.forall_mem_nil _⟩,
  List.forall_mem_cons.mpr ⟨(zPk hG hT hN kk_132_0), List.forall_mem_nil _⟩,
  List.forall_mem_cons.mpr ⟨(zPk hG hT hN kk_133_0), List.forall_mem_nil _⟩,
  List.forall_mem_cons.mpr ⟨(zPk hG hT hN kk_134_0), List.forall_mem_nil _⟩,
  List.forall_mem_cons.mpr ⟨(zPk hG hT hN kk_135_0), List.forall_mem_nil _⟩,
  List.forall_mem_cons.mpr ⟨(zPk hG hT hN kk_136_0), List.forall_mem_nil _⟩,
  List.forall_mem_cons.mpr ⟨(zPk hG hT hN kk_137_0), List.forall_mem_nil _⟩,
  List.forall_mem_cons.mpr ⟨(zPk hG hT hN kk_138_0), List.forall_mem_nil _⟩,
  List.forall_mem_cons.mpr ⟨(zPk hG hT hN kk_139_0), List.forall_mem_nil _⟩,
  List.forall_mem_cons.mpr ⟨(zPk hG hT hN kk_140_0), List.forall_mem_nil _⟩,
  List.forall_mem_cons.mpr ⟨(zPk hG hT hN kk_141_0), List.forall_mem_nil _⟩,
  List.forall_mem_cons.mpr ⟨(zPk hG hT hN kk_142_0), List.forall_mem_nil _⟩,
  List.forall_mem_cons.mpr ⟨(zPk hG hT hN kk_143_0), List.forall_mem_nil _⟩,
  List.forall_mem_cons.mpr ⟨(zPk hG hT hN kk_144_0), List.forall_mem_nil _⟩,
  List.forall_mem_cons.mpr ⟨(zPk hG hT hN kk_145_0), List.forall_mem_nil _⟩,
  List.forall_mem_cons.mpr ⟨(zPk hG hT hN kk_146_0), List.forall_mem_nil _⟩,
  List.forall_mem_cons.mpr ⟨(zPk hG hT hN kk_147_0), List.forall_mem_nil _⟩,
  List.forall_mem_cons.mpr ⟨(zPk hG hT hN kk_148_0), List.forall_mem_nil _⟩,
  List.forall_mem_cons.mpr ⟨(zPk hG hT hN kk_149_0), List.forall_mem_nil _⟩,
  List.forall_mem_cons.mpr ⟨(zPk hG hT hN kk_150_0), List.forall_mem_nil _⟩,
  List.forall_mem_cons.mpr ⟨(zPk hG hT hN kk_151_0), List.forall_mem_nil _⟩,
  List.forall_mem_cons.mpr ⟨(zPk hG hT hN kk_152_0), List.forall_mem_nil _⟩,
  List.forall_mem_cons.mpr ⟨(zPk hG hT hN kk_153_0), List.forall_mem_nil _⟩,
  List.forall_mem_cons.mpr ⟨(zPk hG hT hN kk_154_0), List.forall_mem_nil _⟩,
  List.forall_mem_cons.mpr ⟨(zPk hG hT hN kk_155_0), List.forall_mem_nil _⟩,
  List.forall_mem_cons.mpr ⟨(zPk hG hT hN kk_156_0), List.forall_mem_nil _⟩,
  List.forall_mem_cons.mpr ⟨(zPk hG hT hN kk_157_0), List.forall_mem_nil _⟩,
  List.forall_mem_nil _,
  List.forall_mem_nil _,
  trivial⟩
set_option maxRecDepth 100000 in
theorem zQ_4 (hG : G.1 = zProg) (hT : G.2.1 = ztx) (hN : G.2.2.1 ≤ 4096) : yQ (zPP G) 160 zCd_4 := ⟨
  List.forall_mem_nil _,
  List.forall_mem_nil _,
  List.forall_mem_nil _,
  List.forall_mem_nil _,
  List.forall_mem_nil _,
  List.forall_mem_nil _,
  List.forall_mem_nil _,
  List.forall_mem_nil _,
  List.forall_mem_cons.mpr ⟨(zPk hG hT hN kk_168_0), List.forall_mem_nil _⟩,
  List.forall_mem_cons.mpr ⟨(zPk hG hT hN kk_169_0), List.forall_mem_nil _⟩,
  List.forall_mem_nil _,
  List.forall_mem_nil _,
  List.forall_mem_nil _,
  List.forall_mem_nil _,
  List.forall_mem_cons.mpr ⟨(zPk hG hT hN kk_174_0), List.forall_mem_nil _⟩,
  List.forall_mem_nil _,
  List.forall_mem_nil _,
  List.forall_mem_nil _,
  List.forall_mem_nil _,
  List.forall_mem_cons.mpr ⟨(zPk hG hT hN kk_179_0), List.forall_mem_nil _⟩,
  List.forall_mem_cons.mpr ⟨(zPk hG hT hN kk_180_0), List.forall_mem_nil _⟩,
  List.forall_mem_cons.mpr ⟨(zPk hG hT hN kk_181_0), List.forall_mem_nil _⟩,
  List.forall_mem_cons.mpr ⟨(zPk hG hT hN kk_182_0), List.forall_mem_nil _⟩,
  List.forall_mem_cons.mpr ⟨(zPk hG hT hN kk_183_0), List.forall_mem_nil _⟩,
  List.forall_mem_cons.mpr ⟨(zPk hG hT hN kk_184_0), List.forall_mem_nil _⟩,
  List.forall_mem_cons.mpr ⟨(zPk hG hT hN kk_185_0), List.forall_mem_nil _⟩,
  List.forall_mem_cons.mpr ⟨(zPk hG hT hN kk_186_0), List.forall_mem_nil _⟩,
  List.forall_mem_cons.mpr ⟨(zPk hG hT hN kk_187_0), List.forall_mem_nil _⟩,
  List.forall_mem_cons.mpr ⟨(zPk hG hT hN kk_188_0), List.forall_mem_nil _⟩,
  List.forall_mem_cons.mpr ⟨(zPk hG hT hN kk_189_0), List.forall_mem_nil _⟩,
  List.forall_mem_nil _,
  List.forall_mem_cons.mpr ⟨(zPk hG hT hN kk_191_0), List.forall_mem_nil _⟩,
  List.forall_mem_cons.mpr ⟨(zPk hG hT hN kk_192_0), List.forall_mem_nil _⟩,
  List.forall_mem_cons.mpr ⟨(zPk hG hT hN kk_193_0), List.forall_mem_nil _⟩,
  List.forall_mem_nil _,
  List.forall_mem_cons.mpr ⟨(zPk hG hT hN kk_195_0), List.forall_mem_nil _⟩,
  List.forall_mem_cons.mpr ⟨(zPk hG hT hN kk_196_0), List.forall_mem_nil _⟩,
  List.forall_mem_nil _,
  List.forall_mem_cons.mpr ⟨(zPk hG hT hN kk_198_0), List.forall_mem_nil _⟩,
  List.forall_mem_nil _,
  trivial⟩
set_option maxRecDepth 100000 in
theorem zQ_5 (hG : G.1 = zProg) (hT : G.2.1 = ztx) (hN : G.2.2.1 ≤ 4096) : yQ (zPP G) 200 zCd_5 := ⟨
  List.forall_mem_nil _,
  List.forall_mem_nil _,
  List.forall_mem_nil _,
  List.forall_mem_cons.mpr ⟨(zPk hG hT hN kk_203_0), List.forall_mem_cons.mpr ⟨(zPk hG hT hN kk_203_1), List.forall_mem_cons.mpr ⟨(zPk hG hT hN kk_203_2), List.forall_mem_cons.mpr ⟨(zPk hG hT hN kk_203_3), List.forall_mem_cons.mpr ⟨(zPk hG hT hN kk_203_4), List.forall_mem_cons.mpr ⟨(zPk hG hT hN kk_203_5), List.forall_mem_nil _⟩⟩⟩⟩⟩⟩,
  List.forall_mem_nil _,
  List.forall_mem_cons.mpr ⟨(zPk hG hT hN kk_205_0), List.forall_mem_cons.mpr ⟨(zPk hG hT hN kk_205_1), List.forall_mem_cons.mpr ⟨(zPk hG hT hN kk_205_2), List.forall_mem_cons.mpr ⟨(zPk hG hT hN kk_205_3), List.forall_mem_cons.mpr ⟨(zPk hG hT hN kk_205_4), List.forall_mem_cons.mpr ⟨(zPk hG hT hN kk_205_5), List.forall_mem_cons.mpr ⟨(zPk hG hT hN kk_205_6), List.forall_mem_cons.mpr ⟨(zPk hG hT hN kk_205_7), List.forall_mem_cons.mpr ⟨(zPk hG hT hN kk_205_8), List.forall_mem_cons.mpr ⟨(zPk hG hT hN kk_205_9), List.forall_mem_cons.mpr ⟨(zPk hG hT hN kk_205_10), List.forall_mem_cons.mpr ⟨(zPk hG hT hN kk_205_11), List.forall_mem_cons.mpr ⟨(zPk hG hT hN kk_205_12), List.forall_mem_cons.mpr ⟨(zPk hG hT hN kk_205_13), List.forall_mem_cons.mpr ⟨(zPk hG hT hN kk_205_14), List.forall_mem_cons.mpr ⟨(zPk hG hT hN kk_205_15), List.forall_mem_cons.mpr ⟨(zPk hG hT hN kk_205_16), List.forall_mem_cons.mpr ⟨(zPk hG hT hN kk_205_17), List.forall_mem_cons.mpr ⟨(zPk hG hT hN kk_205_18), List.forall_mem_cons.mpr ⟨(zPk hG hT hN kk_205_19), List.forall_mem_nil _⟩⟩⟩⟩⟩⟩⟩⟩⟩⟩⟩⟩⟩⟩⟩⟩⟩⟩⟩⟩,
  List.forall_mem_nil _,
  List.forall_mem_nil _,
  List.forall_mem_nil _,
  List.forall_mem_nil _,
  List.forall_mem_nil _,
  List.forall_mem_cons.mpr ⟨(zPk hG hT hN kk_211_0), List.forall_mem_cons.mpr ⟨(zPk hG hT hN kk_211_1), List.forall_mem_nil _⟩⟩,
  List.forall_mem_cons.mpr ⟨(zPk hG hT hN kk_212_0), List.forall_mem_nil _⟩,
  List.forall_mem_cons.mpr ⟨(zPk hG hT hN kk_213_0), List.forall_mem_nil _⟩,
  List.forall_mem_cons.mpr ⟨(zPk hG hT hN kk_214_0), List.forall_mem_cons.mpr ⟨(zPk hG hT hN kk_214_1), List.forall_mem_nil _⟩⟩,
  List.forall_mem_cons.mpr ⟨(zPk hG hT hN kk_215_0), List.forall_mem_nil _⟩,
  List.forall_mem_cons.mpr ⟨(zPk hG hT hN kk_216_0), List.forall_mem_nil _⟩,
  List.forall_mem_cons.mpr ⟨(zPk hG hT hN kk_217_0), List.forall_mem_nil _⟩,
  List.forall_mem_nil _,
  List.forall_mem_cons.mpr ⟨(zPk hG hT hN kk_219_0), List.forall_mem_nil _⟩,
  List.forall_mem_cons.mpr ⟨(zPk hG hT hN kk_220_0), List.forall_mem_cons.mpr ⟨(zPk hG hT hN kk_220_1), List.forall_mem_nil _⟩⟩,
  List.forall_mem_cons.mpr ⟨(zPk hG hT hN kk_221_0), List.forall_mem_nil _⟩,
  List.forall_mem_cons.mpr ⟨(zPk hG hT hN kk_222_0), List.forall_mem_nil _⟩,
  List.forall_mem_cons.mpr ⟨(zPk hG hT hN kk_223_0), List.forall_mem_nil _⟩,
  List.forall_mem_cons.mpr ⟨(zPk hG hT hN kk_224_0), List.forall_mem_nil _⟩,
  List.forall_mem_cons.mpr ⟨(zPk hG hT hN kk_225_0), List.forall_mem_nil _⟩,
  List.forall_mem_cons.mpr ⟨(zPk hG hT hN kk_226_0), List.forall_mem_nil _⟩,
  List.forall_mem_cons.mpr ⟨(zPk hG hT hN kk_227_0), List.forall_mem_nil _⟩,
  List.forall_mem_cons.mpr ⟨(zPk hG hT hN kk_228_0), List.forall_mem_nil _⟩,
  List.forall_mem_nil _,
  List.forall_mem_nil _,
  List.forall_mem_cons.mpr ⟨(zPk hG hT hN kk_231_0), List.forall_mem_nil _⟩,
  List.forall_mem_cons.mpr ⟨(zPk hG hT hN kk_232_0), List.forall_mem_nil _⟩,
  List.forall_mem_nil _,
  List.forall_mem_nil _,
  List.forall_mem_cons.mpr ⟨(zPk hG hT hN kk_235_0), List.forall_mem_nil _⟩,
  List.forall_mem_cons.mpr ⟨(zPk hG hT hN kk_236_0), List.forall_mem_nil _⟩,
  List.forall_mem_cons.mpr ⟨(zPk hG hT hN kk_237_0), List.forall_mem_nil _⟩,
  List.forall_mem_cons.mpr ⟨(zPk hG hT hN kk_238_0), List.forall_mem_nil _⟩,
  List.forall_mem_cons.mpr ⟨(zPk hG hT hN kk_239_0), List.forall_mem_nil _⟩,
  trivial⟩
set_option maxRecDepth 100000 in
theorem zQ_6 (hG : G.1 = zProg) (hT : G.2.1 = ztx) (hN : G.2.2.1 ≤ 4096) : yQ (zPP G) 240 zCd_6 := ⟨
  List.forall_mem_cons.mpr ⟨(zPk hG hT hN kk_240_0), List.forall_mem_nil _⟩,
  List.forall_mem_cons.mpr ⟨(zPk hG hT hN kk_241_0), List.forall_mem_nil _⟩,
  List.forall_mem_cons.mpr ⟨(zPk hG hT hN kk_242_0), List.forall_mem_nil _⟩,
  List.forall_mem_cons.mpr ⟨(zPk hG hT hN kk_243_0), List.forall_mem_nil _⟩,
  List.forall_mem_cons.mpr ⟨(zPk hG hT hN kk_244_0), List.forall_mem_nil _⟩,
  List.forall_mem_cons.mpr ⟨(zPk hG hT hN kk_245_0), List.forall_mem_nil _⟩,
  List.forall_mem_nil _,
  List.forall_mem_cons.mpr ⟨(zPh (zexp_ok hG)), List.forall_mem_nil _⟩,
  List.forall_mem_cons.mpr ⟨(zPk hG hT hN kk_248_0), List.forall_mem_nil _⟩,
  List.forall_mem_nil _,
  List.forall_mem_cons.mpr ⟨(zPk hG hT hN kk_250_0), List.forall_mem_nil _⟩,
  List.forall_mem_cons.mpr ⟨(zPk hG hT hN kk_251_0), List.forall_mem_nil _⟩,
  List.forall_mem_cons.mpr ⟨(zPk hG hT hN kk_252_0), List.forall_mem_nil _⟩,
  List.forall_mem_cons.mpr ⟨(zPk hG hT hN kk_253_0), List.forall_mem_nil _⟩,
  List.forall_mem_nil _,
  List.forall_mem_nil _,
  List.forall_mem_cons.mpr ⟨(zPk hG hT hN kk_256_0), List.forall_mem_nil _⟩,
  List.forall_mem_cons.mpr ⟨(zPk hG hT hN kk_257_0), List.forall_mem_nil _⟩,
  List.forall_mem_cons.mpr ⟨(zPk hG hT hN kk_258_0), List.forall_mem_nil _⟩,
  List.forall_mem_cons.mpr ⟨(zPk hG hT hN kk_259_0), List.forall_mem_nil _⟩,
  List.forall_mem_cons.mpr ⟨(zPk hG hT hN kk_260_0), List.forall_mem_nil _⟩,
  List.forall_mem_cons.mpr ⟨(zPk hG hT hN kk_261_0), List.forall_mem_nil _⟩,
  List.forall_mem_nil _,
  List.forall_mem_cons.mpr ⟨(zPk hG hT hN kk_263_0), List.forall_mem_nil _⟩,
  List.forall_mem_cons.mpr ⟨(zPk hG hT hN kk_264_0), List.forall_mem_nil _⟩,
  List.forall_mem_cons.mpr ⟨(zPk hG hT hN kk_265_0), List.forall_mem_nil _⟩,
  List.forall_mem_nil _,
  List.forall_mem_nil _,
  List.forall_mem_nil _,
  List.forall_mem_cons.mpr ⟨(zPk hG hT hN kk_269_0), List.forall_mem_nil _⟩,
  List.forall_mem_cons.mpr ⟨(zPk hG hT hN kk_270_0), List.forall_mem_nil _⟩,
  List.forall_mem_cons.mpr ⟨(zPk hG hT hN kk_271_0), List.forall_mem_nil _⟩,
  List.forall_mem_cons.mpr ⟨(zPk hG hT hN kk_272_0), List.forall_mem_nil _⟩,
  List.forall_mem_cons.mpr ⟨(zPk hG hT hN kk_273_0), List.forall_mem_nil _⟩,
  List.forall_mem_cons.mpr ⟨(zPk hG hT hN kk_274_0), List.forall_mem_nil _⟩,
  List.forall_mem_cons.mpr ⟨(zPk hG hT hN kk_275_0), List.forall_mem_nil _⟩,
  List.forall_mem_cons.mpr ⟨(zPk hG hT hN kk_276_0), List.forall_mem_nil _⟩,
  List.forall_mem_cons.mpr ⟨(zPk hG hT hN kk_277_0), List.forall_mem_nil _⟩,
  List.forall_mem_cons.mpr ⟨(zPk hG hT hN kk_278_0), List.forall_mem_nil _⟩,
  List.forall_mem_cons.mpr ⟨(zPk hG hT hN kk_279_0), List.forall_mem_nil _⟩,
  trivial⟩
set_option maxRecDepth 100000 in
theorem zQ_7 (hG : G.1 = zProg) (hT : G.2.1 = ztx) (hN : G.2.2.1 ≤ 4096) : yQ (zPP G) 280 zCd_7 := ⟨
  List.forall_mem_nil _,
  List.forall_mem_cons.mpr ⟨(zPk hG hT hN kk_281_0), List.forall_mem_nil _⟩,
  List.forall_mem_cons.mpr ⟨(zPk hG hT hN kk_282_0), List.forall_mem_cons.mpr ⟨(zPk hG hT hN kk_282_1), List.forall_mem_cons.mpr ⟨(zPk hG hT hN kk_282_2), List.forall_mem_cons.mpr ⟨(zPk hG hT hN kk_282_3), List.forall_mem_cons.mpr ⟨(zPk hG hT hN kk_282_4), List.forall_mem_cons.mpr ⟨(zPk hG hT hN kk_282_5), List.forall_mem_cons.mpr ⟨(zPk hG hT hN kk_282_6), List.forall_mem_nil _⟩⟩⟩⟩⟩⟩⟩,
  List.forall_mem_nil _,
  trivial⟩
set_option maxRecDepth 100000 in
theorem zCT_cat : zCT = (zCd_0 ++ (zCd_1 ++ (zCd_2 ++ (zCd_3 ++ (zCd_4 ++ (zCd_5 ++ (zCd_6 ++ zCd_7))))))) := rfl
theorem zQ_all (hG : G.1 = zProg) (hT : G.2.1 = ztx) (hN : G.2.2.1 ≤ 4096) : yQ (zPP G) 0 zCT := by
  rw [zCT_cat]
  exact (yQ_app (zQ_0 hG hT hN) (yQ_app (zQ_1 hG hT hN) (yQ_app (zQ_2 hG hT hN) (yQ_app (zQ_3 hG hT hN) (yQ_app (zQ_4 hG hT hN) (yQ_app (zQ_5 hG hT hN) (yQ_app (zQ_6 hG hT hN) (zQ_7 hG hT hN))))))))
theorem zAll (hG : G.1 = zProg) (hT : G.2.1 = ztx) (hN : G.2.2.1 ≤ 4096) (n : Nat) : ∀ j cts ct, zCT[j]? = some cts → ct ∈ cts → yVl zTt G (zXt G) zTG zTTy zKI j ct n := by
  have h : ∀ j cts ct, zCT[j]? = some cts → ct ∈ cts → zPP G j ct := fun j cts ct h1 h2 => by
    have := yQ_at (zQ_all hG hT hN) h1 h2
    rw [Nat.zero_add] at this
    exact this
  exact yAll (fun j cts ct h1 h2 => (h j cts ct h1 h2).1) (fun j cts ct h1 h2 => (h j cts ct h1 h2).2) n
end ALL
end
