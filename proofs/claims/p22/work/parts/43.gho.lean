/-! the reference's codes: what is remembered of them -/
noncomputable def zfs (s v : Int) (n : Nat) : Option Nat := if s = 0 then some (n + 1) else if s = 1 then (if 0 ≤ v ∧ v ≤ 11 then some (n + 1) else none) else if s = 10 then (if 1 ≤ n then some n else none) else (if 2 ≤ n then some (n - 1) else none)
noncomputable def zfw (S V : Nat → Int) : Nat → Nat → Nat → Option Nat
  | _, 0, n => some n
  | a, k + 1, n => match zfs (S a) (V a) n with
    | none => none
    | some m => zfw S V (a + 1) k m
theorem zfw_app {S V : Nat → Int} : ∀ {k a n m : Nat}, zfw S V a k n = some m → zfw S V a (k + 1) n = zfs (S (a + k)) (V (a + k)) m
  | 0, a, n, m, h => by
    cases h
    unfold zfw
    rw [Nat.add_zero]
    cases zfs (S a) (V a) n <;> rfl
  | k + 1, a, n, m, h => by
    unfold zfw at h ⊢
    cases hz : zfs (S a) (V a) n with
    | none => rw [hz] at h; cases h
    | some m1 =>
      rw [hz] at h
      dsimp only at h ⊢
      rw [zfw_app h, show a + 1 + k = a + (k + 1) by omega]
theorem zfw_congr {S V S' V' : Nat → Int} : ∀ {k a n : Nat}, (∀ i, a ≤ i → i < a + k → S i = S' i ∧ V i = V' i) → zfw S V a k n = zfw S' V' a k n
  | 0, _, _, _ => rfl
  | k + 1, a, n, h => by
    unfold zfw
    rw [(h a (Nat.le_refl _) (by omega)).1, (h a (Nat.le_refl _) (by omega)).2]
    cases zfs (S' a) (V' a) n with
    | none => rfl
    | some m => exact zfw_congr (fun i h1 h2 => h i (by omega) (by omega))
noncomputable def zbn (x : Int) : Prop := x = 11 ∨ x = 12 ∨ 100 ≤ x
noncomputable def zbb (x : Int) : Int := if x = 11 ∨ x = 12 ∨ 100 ≤ x then 1 else 0
theorem zbb_1 {x : Int} (h : zbn x) : zbb x = 1 := if_pos h
theorem zbb_0 {x : Int} (h : ¬ zbn x) : zbb x = 0 := if_neg h
theorem zbb_r (x : Int) : 0 ≤ zbb x ∧ zbb x ≤ 1 := by
  unfold zbb
  split <;> omega
noncomputable def zbc (O : Nat → Int) : Nat → Int
  | 0 => 0
  | k + 1 => zbc O k + zbb (O k)
theorem zbc_r (O : Nat → Int) : ∀ k : Nat, 0 ≤ zbc O k ∧ zbc O k ≤ k
  | 0 => ⟨Int.le_refl _, Int.le_refl _⟩
  | k + 1 => by
    have h1 := zbc_r O k
    have h2 := zbb_r (O k)
    unfold zbc
    omega
theorem zbc_congr {O O' : Nat → Int} : ∀ {k : Nat}, (∀ i, i < k → O i = O' i) → zbc O k = zbc O' k
  | 0, _ => rfl
  | k + 1, h => by
    unfold zbc
    rw [zbc_congr (fun i hi => h i (by omega)), h k (by omega)]
/-- from a to b the codes of place 500 r are valid -/
noncomputable def zva (S V : Nat → Int) (r : Nat) (a b : Int) : Prop := 0 ≤ a ∧ a ≤ b ∧ ∃ m, zfw S V (500 * r + a.toNat) (b - a).toNat 0 = some m
noncomputable def zok (S V A B D : Nat → Int) (r at' : Nat) (e : Int) : Prop := zva S V r (A at') (B at') ∧ zva S V r (B at') (D at') ∧ D at' ≤ e
theorem zva_congr {S V S' V' : Nat → Int} {r : Nat} {a b e : Int} (h : ∀ i : Nat, 500 * r ≤ i → (i : Int) < 500 * r + e → S i = S' i ∧ V i = V' i) (hb : b ≤ e) (g : zva S V r a b) : zva S' V' r a b := by
  obtain ⟨g1, g2, m, g3⟩ := g
  refine ⟨g1, g2, m, ?_⟩
  rw [← g3]
  exact (zfw_congr (fun i h1 h2 => h i (by omega) (by omega))).symm
theorem zok_congr {S V A B D S' V' A' B' D' : Nat → Int} {r at' : Nat} {e : Int} (h : ∀ i : Nat, 500 * r ≤ i → (i : Int) < 500 * r + e → S i = S' i ∧ V i = V' i) (ha : A at' = A' at') (hb : B at' = B' at') (hd : D at' = D' at') (g : zok S V A B D r at' e) : zok S' V' A' B' D' r at' e := by
  obtain ⟨g1, g2, g3⟩ := g
  refine ⟨?_, ?_, by omega⟩
  · rw [← ha, ← hb]; exact zva_congr h (by have := g2.2.1; omega) g1
  · rw [← hb, ← hd]; exact zva_congr h g3 g2
theorem zok_mono {S V A B D : Nat → Int} {r at' : Nat} {e e' : Int} (g : zok S V A B D r at' e) (h : e ≤ e') : zok S V A B D r at' e' := ⟨g.1, g.2.1, by have := g.2.2; omega⟩
noncomputable def zR0 (op : Int) (O : Nat → Int) (v : Int) : Prop := v = zbc O op.toNat
noncomputable def zR1 (en ru : Int) (S V : Nat → Int) (x v : Int) : Prop := 0 ≤ x ∧ x ≤ en ∧ 0 ≤ ru ∧ 0 ≤ v ∧ zfw S V (500 * ru.toNat + x.toNat) (en - x).toNat 0 = some v.toNat
noncomputable def zR2 (en ru : Int) (S V A B D : Nat → Int) (v : Int) : Prop := 0 ≤ v ∧ 0 ≤ ru ∧ ∀ c : Nat, (c : Int) < v → zok S V A B D ru.toNat (12 * ru.toNat + c) en
noncomputable def zR3 (en ru : Int) (S V : Nat → Int) (x v : Int) : Prop := zva S V ru.toNat x v ∧ v ≤ en ∧ 0 ≤ ru
noncomputable def zR4 (ru : Int) (S V A B D C : Nat → Int) : Prop := ∀ r : Nat, (r : Int) < ru → C r ≤ 12 ∧ ∀ c : Nat, (c : Int) < C r → zok S V A B D r (12 * r + c) 500
noncomputable def zR5 (S V : Nat → Int) (x v : Int) : Prop := ∃ e n T : Nat, x = 1000 * e + n ∧ v = T ∧ n < 1000 ∧ e ≤ T ∧ n + (T - e) ≤ 500 ∧ ∃ m, zfw S V e (T - e) n = some m
/-- the heap, as the relations see it -/
noncomputable def zfi (h : zH) (p f : Nat) : Int := match h[p]? with
  | some (.inr (_, fs)) => (match fs[f]? with
    | some (.int x) => x.toInt
    | _ => 0)
  | _ => 0
noncomputable def zei (h : zH) (p i : Nat) : Int := match h[p]? with
  | some (.inl (_, _, x)) => yel x i
  | _ => 0
noncomputable def zgp (xs : Nat → Int32) (k : Nat) (h : zH) (x v : Int) : Prop := match k with
  | 0 => zR0 (zfi h 111 34) (zei h 142) v
  | 1 => zR1 (zfi h 111 31) (zfi h 111 30) (zei h 133) (zei h 134) x v
  | 2 => zR2 (zfi h 111 31) (zfi h 111 30) (zei h 133) (zei h 134) (zei h 137) (zei h 138) (zei h 139) v
  | 3 => zR3 (zfi h 111 31) (zfi h 111 30) (zei h 133) (zei h 134) x v
  | 4 => zR4 (zfi h 111 30) (zei h 133) (zei h 134) (zei h 137) (zei h 138) (zei h 139) (zei h 140)
  | 5 => zR5 (zei h 133) (zei h 134) x v
  | 6 => v = (xs x.toNat).toInt
  | _ => False
theorem zset_a {h : zH} {p kd N : Nat} {f : Nat → Int32} (hp : h[p]? = some (.inl (kd, N, .inl f))) (j : Nat) (x : Int32) : (∀ q, q ≠ p → zei (h.set p (.inl (kd, N, .inl (upd f j x)))) q = zei h q) ∧ (∀ i, zei (h.set p (.inl (kd, N, .inl (upd f j x)))) p i = if i = j then x.toInt else zei h p i) ∧ ∀ a b, zfi (h.set p (.inl (kd, N, .inl (upd f j x)))) a b = zfi h a b := by
  have hl : p < h.length := by
    rcases Nat.lt_or_ge p h.length with z | z
    · exact z
    · rw [List.getElem?_eq_none z] at hp; cases hp
  refine ⟨fun q hq => ?_, fun i => ?_, fun a b => ?_⟩
  · funext i
    unfold zei
    rw [List.getElem?_set_ne (Ne.symm hq)]
  · unfold zei
    rw [List.getElem?_set_self hl, hp]
    show (upd f j x i).toInt = _
    unfold upd
    split
    · rfl
    · rfl
  · unfold zfi
    by_cases hq : p = a
    · subst hq
      rw [List.getElem?_set_self hl, hp]
    · rw [List.getElem?_set_ne hq]
theorem zset_f {h : zH} {p cls b : Nat} {fs : List Value} {u : Value} (hp : h[p]? = some (.inr (cls, fs))) (hb : b < fs.length) : (∀ q, zei (h.set p (.inr (cls, fs.set b u))) q = zei h q) ∧ (∀ a b', (a ≠ p ∨ b' ≠ b) → zfi (h.set p (.inr (cls, fs.set b u))) a b' = zfi h a b') ∧ ∀ x : Int32, u = .int x → zfi (h.set p (.inr (cls, fs.set b u))) p b = x.toInt := by
  have hl : p < h.length := by
    rcases Nat.lt_or_ge p h.length with z | z
    · exact z
    · rw [List.getElem?_eq_none z] at hp; cases hp
  refine ⟨fun q => ?_, fun a b' hq => ?_, fun x hx => ?_⟩
  · funext i
    unfold zei
    by_cases hq : p = q
    · subst hq
      rw [List.getElem?_set_self hl, hp]
    · rw [List.getElem?_set_ne hq]
  · unfold zfi
    by_cases hq2 : p = a
    · subst hq2
      rw [List.getElem?_set_self hl, hp]
      dsimp only
      rw [List.getElem?_set_ne (by rcases hq with hq | hq; exact absurd rfl hq; exact Ne.symm hq)]
    · rw [List.getElem?_set_ne hq2]
  · unfold zfi
    rw [List.getElem?_set_self hl]
    dsimp only
    rw [List.getElem?_set_self hb, hx]
/-! what stands behind a store -/
noncomputable def gL (w : yW) (x : yL) : Bool := yle w.2.1 w.2.2.1 x
noncomputable def gA (w : yW) (p : Nat) (i : yL) : Option yL := ylnl w.2.2.2.2 (Nat.add p 4, i)
noncomputable def gF (w : yW) (f : Nat) : Option yL := match yhg w.2.2.2.1 111 f with
  | some (0, l) => some l
  | _ => none
noncomputable def gK (w : yW) (g : Nat) : Option (yV × yL) := yfst (Nat.add 100004 g) w.2.2.2.2
noncomputable def gkp (gs : Nat → Bool) : yN → yN
  | [] => []
  | (v, l) :: r => bif ykg v.1 && gs (Nat.sub v.1 100004) then (v, l) :: gkp gs r else gkp gs r
noncomputable def gbin (w : yW) (v : yL) : Bool := bif gL w (ysub (100, []) v) then true else gL w (ysub (11, []) v) && gL w (ysub v (12, []))
noncomputable def gnob (w : yW) (v : yL) : Bool := bif gL w (ysub v (10, [])) then true else gL w (ysub (13, []) v) && gL w (ysub v (99, []))
noncomputable def g0t (l : yL) : yN := [((100004, (0, [])), l)]
noncomputable def gwO (w : yW) (i : yL) : yN := gkp (fun g => Nat.ble 1 g) w.2.2.2.2 ++ (match gF w 34 with
  | some op => bif gL w (ysub op i) then gkp (fun g => Nat.beq g 0) w.2.2.2.2 else []
  | none => [])
noncomputable def gwS (w : yW) (i : yL) : yN := gkp (fun g => Nat.beq g 0) w.2.2.2.2 ++ (match gF w 30, gF w 31 with
  | some ru, some en => (bif gL w (ysub (yadd (yscl 500 ru) en) i) then gkp (fun g => Nat.ble 1 g && Nat.ble g 3) w.2.2.2.2 else []) ++ (bif gL w (ysub (yscl 500 ru) i) then gkp (fun g => Nat.beq g 4) w.2.2.2.2 else [])
  | _, _ => [])
noncomputable def gwC (w : yW) (i : yL) : yN := gkp (fun g => !(Nat.beq g 4)) w.2.2.2.2 ++ (match gF w 30 with
  | some ru => bif gL w (ysub ru i) then gkp (fun g => Nat.beq g 4) w.2.2.2.2 else []
  | none => [])
noncomputable def gb4 (w : yW) (ru i : yL) : yN := gkp (fun g => Nat.beq g 0) w.2.2.2.2 ++ (bif gL w (ysub (yscl 12 ru) i) then gkp (fun g => Nat.beq g 4) w.2.2.2.2 else [])
noncomputable def gc2 (w : yW) (ru i : yL) : yN := match gK w 2 with
  | some (_, c) => bif gL w (ysub (yadd (yscl 12 ru) c) i) then [((100006, (0, [])), c)] else []
  | none => []
noncomputable def gwA (w : yW) (i x : yL) : yN := match gF w 30, gF w 31 with
  | some ru, some en => gb4 w ru i ++ (gc2 w ru i ++ (bif yzero (ysub x en) && (gL w (yneg en) && gL w (yneg ru)) then [((100005, x), (0, [])), ((100007, x), x)] else []))
  | _, _ => []
noncomputable def gwB (w : yW) (i x : yL) : yN := match gF w 30, gF w 31 with
  | some ru, some en => gb4 w ru i ++ (gc2 w ru i ++ (bif yzero (ysub x en) then (match gA w 137 i with
    | some a => (match ylnl w.2.2.2.2 (100005, a) with
      | some _ => [((100005, x), (0, [])), ((100007, a), x)]
      | none => [])
    | none => []) else []))
  | _, _ => []
noncomputable def gwDt (w : yW) (ru en i x : yL) : Option yL := match gK w 2 with
  | some (_, c) => bif yzero (ysub x en) && yzero (ysub i (yadd (yscl 12 ru) c)) then (match gA w 137 i, gA w 138 i with
    | some a, some b => (match ylnl w.2.2.2.2 (100007, a) with
      | some l => bif yzero (ysub l b) then (match ylnl w.2.2.2.2 (100005, b) with
        | some _ => some (yadd (1, []) c)
        | none => none) else none
      | none => none)
    | _, _ => none) else none
  | none => none
noncomputable def gwD (w : yW) (i x : yL) : yN := match gF w 30, gF w 31 with
  | some ru, some en => gb4 w ru i ++ (match gwDt w ru en i x with
    | some c => [((100006, (0, [])), c)]
    | none => gc2 w ru i)
  | _, _ => []
noncomputable def gwFo (w : yW) (x : yL) : yN := bif yzero x then g0t (0, []) else (match gF w 34, gK w 0 with
  | some op, some (_, b) => bif yzero (ysub x (yadd (1, []) op)) && gL w (yneg op) then (match gA w 142 op with
      | some v => bif gbin w v then g0t (yadd (1, []) b) else bif gnob w v then g0t b else []
      | none => [])
    else bif yzero (ysub x (yadd (-1, []) op)) && gL w (ysub (1, []) op) then (match gA w 142 (yadd (-1, []) op) with
      | some v => bif gbin w v then g0t (yadd (-1, []) b) else bif gnob w v then g0t b else []
      | none => [])
    else []
  | _, _ => [])
noncomputable def gstp (w : yW) (v d : yL) (y : Option yL) : Option yL := bif yzero v then some (yadd (1, []) d)
  else bif yzero (ysub v (1, [])) then (match y with
    | some y => bif gL w (yneg y) && gL w (ysub y (11, [])) then some (yadd (1, []) d) else none
    | none => none)
  else bif yzero (ysub v (10, [])) then (bif gL w (ysub (1, []) d) then some d else none)
  else bif gL w (ysub (2, []) v) && (gL w (ysub (2, []) d) && (bif gL w (ysub v (9, [])) then true else gL w (ysub (11, []) v))) then some (yadd (-1, []) d) else none
noncomputable def gwFe (w : yW) (x : yL) : yN := match gF w 30 with
  | some ru => bif yzero x then gkp (fun g => Nat.beq g 0 || Nat.ble 4 g) w.2.2.2.2 ++ (bif gL w (yneg ru) then [((100006, (0, [])), (0, []))] else [])
    else (match gF w 31 with
      | some en => bif yzero (ysub x (yadd (1, []) en)) then gkp (fun g => !(Nat.beq g 1)) w.2.2.2.2 ++ (match gK w 1, gA w 133 (yadd (yscl 500 ru) en) with
          | some (s, d), some v => (match gstp w v d (gA w 134 (yadd (yscl 500 ru) en)) with
            | some d2 => [((100005, s.2), d2)]
            | none => [])
          | _, _ => [])
        else gkp (fun g => Nat.beq g 0 || Nat.ble 4 g) w.2.2.2.2
      | none => gkp (fun g => Nat.beq g 0 || Nat.ble 4 g) w.2.2.2.2)
  | none => gkp (fun g => Nat.beq g 0 || Nat.ble 4 g) w.2.2.2.2
noncomputable def gwFr (w : yW) (x : yL) : yN := gkp (fun g => Nat.beq g 0) w.2.2.2.2 ++ (match gF w 30, gF w 31, gK w 2, gK w 4 with
  | some ru, some en, some (_, c), some _ => bif yzero (ysub x (yadd (1, []) ru)) && (gL w (ysub en (500, [])) && gL w (yneg ru)) then (match gA w 140 ru with
      | some k => bif yzero (ysub k c) && gL w (ysub c (12, [])) then [((100008, (0, [])), (0, []))] else []
      | none => []) else []
  | _, _, _, _ => [])
noncomputable def zgw (w : yW) (t f : Nat) (r i x : yL) : yN := bif Nat.beq t 79 then (bif yzero (ysub r (111, [])) then (bif Nat.beq f 34 then gkp (fun g => Nat.ble 1 g) w.2.2.2.2 ++ gwFo w x else bif Nat.beq f 31 then gwFe w x else bif Nat.beq f 30 then gwFr w x else []) else [])
  else bif Nat.beq t 110 then (bif yzero (ysub r (142, [])) then gwO w i else [])
  else bif Nat.beq t 101 then (bif yzero (ysub r (133, [])) then gwS w i else [])
  else bif Nat.beq t 102 then (bif yzero (ysub r (134, [])) then gwS w i else [])
  else bif Nat.beq t 105 then (bif yzero (ysub r (137, [])) then gwA w i x else [])
  else bif Nat.beq t 106 then (bif yzero (ysub r (138, [])) then gwB w i x else [])
  else bif Nat.beq t 107 then (bif yzero (ysub r (139, [])) then gwD w i x else [])
  else bif Nat.beq t 108 then (bif yzero (ysub r (140, [])) then gwC w i else []) else []
noncomputable def zgx (t f : Nat) : Bool := bif Nat.beq t 79 then Nat.beq f 34 || (Nat.beq f 31 || Nat.beq f 30) else Nat.beq f 0 && (Nat.beq t 110 || (Nat.beq t 101 || (Nat.beq t 102 || (Nat.beq t 105 || (Nat.beq t 106 || (Nat.beq t 107 || Nat.beq t 108))))))
