section
/-! the reference's codes: what is remembered of them -/
noncomputable def zfs (s v : Int) (n : Nat) : Option Nat := if s = 0 then some (n + 1) else if s = 1 then (if 0 ≤ v ∧ v ≤ 11 then some (n + 1) else none) else if s = 10 then (if 1 ≤ n then some n else none) else (if 2 ≤ n then some (n - 1) else none)
noncomputable def zfw (S V : Nat → Int) : Nat → Nat → Nat → Option Nat
  | _, 0, n => some n
  | a, k + 1, n => match zfs (S a) (V a) n with
    | none => none
    | some m => zfw S V (a + 1) k m
theorem zfw_app {S V : Nat → Int} : ∀ {k a n m : Nat}, zfw S V a k n = some m → zfw S V a (k + 1) n = zfs (S (a + k)) (V (a + k)) m
  | 0, a, n, m, h => by
    cases h
    unfold zfw
    rw [Nat.add_zero]
    cases zfs (S a) (V a) n <;> rfl
  | k + 1, a, n, m, h => by
    unfold zfw at h ⊢
    cases hz : zfs (S a) (V a) n with
    | none => rw [hz] at h; cases h
    | some m1 =>
      rw [hz] at h
      dsimp only at h ⊢
      rw [zfw_app h, show a + 1 + k = a + (k + 1) by omega]
theorem zfw_congr {S V S' V' : Nat → Int} : ∀ {k a n : Nat}, (∀ i, a ≤ i → i < a + k → S i = S' i ∧ V i = V' i) → zfw S V a k n = zfw S' V' a k n
  | 0, _, _, _ => rfl
  | k + 1, a, n, h => by
    unfold zfw
    rw [(h a (Nat.le_refl _) (by omega)).1, (h a (Nat.le_refl _) (by omega)).2]
    cases zfs (S' a) (V' a) n with
    | none => rfl
    | some m => exact zfw_congr (fun i h1 h2 => h i (by omega) (by omega))
noncomputable def zbn (x : Int) : Prop := x = 11 ∨ x = 12 ∨ 100 ≤ x
noncomputable def zbb (x : Int) : Int := if x = 11 ∨ x = 12 ∨ 100 ≤ x then 1 else 0
theorem zbb_1 {x : Int} (h : zbn x) : zbb x = 1 := if_pos h
theorem zbb_0 {x : Int} (h : ¬ zbn x) : zbb x = 0 := if_neg h
theorem zbb_r (x : Int) : 0 ≤ zbb x ∧ zbb x ≤ 1 := by
  unfold zbb
  split <;> omega
noncomputable def zbc (O : Nat → Int) : Nat → Int
  | 0 => 0
  | k + 1 => zbc O k + zbb (O k)
theorem zbc_r (O : Nat → Int) : ∀ k : Nat, 0 ≤ zbc O k ∧ zbc O k ≤ k
  | 0 => ⟨Int.le_refl _, Int.le_refl _⟩
  | k + 1 => by
    have h1 := zbc_r O k
    have h2 := zbb_r (O k)
    unfold zbc
    omega
theorem zbc_congr {O O' : Nat → Int} : ∀ {k : Nat}, (∀ i, i < k → O i = O' i) → zbc O k = zbc O' k
  | 0, _ => rfl
  | k + 1, h => by
    unfold zbc
    rw [zbc_congr (fun i hi => h i (by omega)), h k (by omega)]
/-- from a to b the codes of place 500 r are valid -/
noncomputable def zva (S V : Nat → Int) (r : Nat) (a b : Int) : Prop := 0 ≤ a ∧ a ≤ b ∧ ∃ m, zfw S V (500 * r + a.toNat) (b - a).toNat 0 = some m
noncomputable def zok (S V A B D : Nat → Int) (r at' : Nat) (e : Int) : Prop := zva S V r (A at') (B at') ∧ zva S V r (B at') (D at') ∧ D at' ≤ e
theorem zva_congr {S V S' V' : Nat → Int} {r : Nat} {a b e : Int} (h : ∀ i : Nat, 500 * r ≤ i → (i : Int) < 500 * r + e → S i = S' i ∧ V i = V' i) (hb : b ≤ e) (g : zva S V r a b) : zva S' V' r a b := by
  obtain ⟨g1, g2, m, g3⟩ := g
  refine ⟨g1, g2, m, ?_⟩
  rw [← g3]
  exact (zfw_congr (fun i h1 h2 => h i (by omega) (by omega))).symm
theorem zok_congr {S V A B D S' V' A' B' D' : Nat → Int} {r at' : Nat} {e : Int} (h : ∀ i : Nat, 500 * r ≤ i → (i : Int) < 500 * r + e → S i = S' i ∧ V i = V' i) (ha : A at' = A' at') (hb : B at' = B' at') (hd : D at' = D' at') (g : zok S V A B D r at' e) : zok S' V' A' B' D' r at' e := by
  obtain ⟨g1, g2, g3⟩ := g
  refine ⟨?_, ?_, by omega⟩
  · rw [← ha, ← hb]; exact zva_congr h (by have := g2.2.1; omega) g1
  · rw [← hb, ← hd]; exact zva_congr h g3 g2
theorem zok_mono {S V A B D : Nat → Int} {r at' : Nat} {e e' : Int} (g : zok S V A B D r at' e) (h : e ≤ e') : zok S V A B D r at' e' := ⟨g.1, g.2.1, by have := g.2.2; omega⟩
noncomputable def zR0 (op : Int) (O : Nat → Int) (v : Int) : Prop := v = zbc O op.toNat
noncomputable def zR1 (en ru : Int) (S V : Nat → Int) (x v : Int) : Prop := 0 ≤ x ∧ x ≤ en ∧ 0 ≤ ru ∧ 0 ≤ v ∧ zfw S V (500 * ru.toNat + x.toNat) (en - x).toNat 0 = some v.toNat
noncomputable def zR2 (en ru : Int) (S V A B D : Nat → Int) (v : Int) : Prop := 0 ≤ v ∧ 0 ≤ ru ∧ ∀ c : Nat, (c : Int) < v → zok S V A B D ru.toNat (12 * ru.toNat + c) en
noncomputable def zR3 (en ru : Int) (S V : Nat → Int) (x v : Int) : Prop := zva S V ru.toNat x v ∧ v ≤ en ∧ 0 ≤ ru
noncomputable def zR4 (ru : Int) (S V A B D C : Nat → Int) : Prop := ∀ r : Nat, (r : Int) < ru → C r ≤ 12 ∧ ∀ c : Nat, (c : Int) < C r → zok S V A B D r (12 * r + c) 500
noncomputable def zR5 (S V : Nat → Int) (x v : Int) : Prop := ∃ e n T : Nat, x = 1000 * e + n ∧ v = T ∧ n < 1000 ∧ e ≤ T ∧ n + (T - e) ≤ 500 ∧ ∃ m, zfw S V e (T - e) n = some m
/-- the heap, as the relations see it -/
noncomputable def zfi (h : zH) (p f : Nat) : Int := match h[p]? with
  | some (.inr (_, fs)) => (match fs[f]? with
    | some (.int x) => x.toInt
    | _ => 0)
  | _ => 0
noncomputable def zei (h : zH) (p i : Nat) : Int := match h[p]? with
  | some (.inl (_, _, x)) => yel x i
  | _ => 0
noncomputable def zgp (xs : Nat → Int32) (k : Nat) (h : zH) (x v : Int) : Prop := match k with
  | 0 => zR0 (zfi h 111 34) (zei h 142) v
  | 1 => zR1 (zfi h 111 31) (zfi h 111 30) (zei h 133) (zei h 134) x v
  | 2 => zR2 (zfi h 111 31) (zfi h 111 30) (zei h 133) (zei h 134) (zei h 137) (zei h 138) (zei h 139) v
  | 3 => zR3 (zfi h 111 31) (zfi h 111 30) (zei h 133) (zei h 134) x v
  | 4 => zR4 (zfi h 111 30) (zei h 133) (zei h 134) (zei h 137) (zei h 138) (zei h 139) (zei h 140)
  | 5 => zR5 (zei h 133) (zei h 134) x v
  | 6 => v = (xs x.toNat).toInt
  | _ => False
theorem zset_a {h : zH} {p kd N : Nat} {f : Nat → Int32} (hp : h[p]? = some (.inl (kd, N, .inl f))) (j : Nat) (x : Int32) : (∀ q, q ≠ p → zei (h.set p (.inl (kd, N, .inl (upd f j x)))) q = zei h q) ∧ (∀ i, zei (h.set p (.inl (kd, N, .inl (upd f j x)))) p i = if i = j then x.toInt else zei h p i) ∧ ∀ a b, zfi (h.set p (.inl (kd, N, .inl (upd f j x)))) a b = zfi h a b := by
  have hl : p < h.length := by
    rcases Nat.lt_or_ge p h.length with z | z
    · exact z
    · rw [List.getElem?_eq_none z] at hp; cases hp
  refine ⟨fun q hq => ?_, fun i => ?_, fun a b => ?_⟩
  · funext i
    unfold zei
    rw [List.getElem?_set_ne (Ne.symm hq)]
  · unfold zei
    rw [List.getElem?_set_self hl, hp]
    show (upd f j x i).toInt = _
    unfold upd
    split
    · rfl
    · rfl
  · unfold zfi
    by_cases hq : p = a
    · subst hq
      rw [List.getElem?_set_self hl, hp]
    · rw [List.getElem?_set_ne hq]
theorem zset_f {h : zH} {p cls b : Nat} {fs : List Value} {u : Value} (hp : h[p]? = some (.inr (cls, fs))) (hb : b < fs.length) : (∀ q, zei (h.set p (.inr (cls, fs.set b u))) q = zei h q) ∧ (∀ a b', (a ≠ p ∨ b' ≠ b) → zfi (h.set p (.inr (cls, fs.set b u))) a b' = zfi h a b') ∧ ∀ x : Int32, u = .int x → zfi (h.set p (.inr (cls, fs.set b u))) p b = x.toInt := by
  have hl : p < h.length := by
    rcases Nat.lt_or_ge p h.length with z | z
    · exact z
    · rw [List.getElem?_eq_none z] at hp; cases hp
  refine ⟨fun q => ?_, fun a b' hq => ?_, fun x hx => ?_⟩
  · funext i
    unfold zei
    by_cases hq : p = q
    · subst hq
      rw [List.getElem?_set_self hl, hp]
    · rw [List.getElem?_set_ne hq]
  · unfold zfi
    by_cases hq2 : p = a
    · subst hq2
      rw [List.getElem?_set_self hl, hp]
      dsimp only
      rw [List.getElem?_set_ne (by rcases hq with hq | hq; exact absurd rfl hq; exact Ne.symm hq)]
    · rw [List.getElem?_set_ne hq2]
  · unfold zfi
    rw [List.getElem?_set_self hl]
    dsimp only
    rw [List.getElem?_set_self hb, hx]
/-! what stands behind a store -/
noncomputable def gL (w : yW) (x : yL) : Bool := yle w.2.1 w.2.2.1 x
noncomputable def gA (w : yW) (p : Nat) (i : yL) : Option yL := ylnl w.2.2.2.2 (Nat.add p 4, i)
noncomputable def gF (w : yW) (f : Nat) : Option yL := match yhg w.2.2.2.1 111 f with
  | some (0, l) => some l
  | _ => none
noncomputable def gK (w : yW) (g : Nat) : Option (yV × yL) := yfst (Nat.add 100004 g) w.2.2.2.2
noncomputable def gkp (gs : Nat → Bool) : yN → yN
  | [] => []
  | (v, l) :: r => bif ykg v.1 && gs (Nat.sub v.1 100004) then (v, l) :: gkp gs r else gkp gs r
noncomputable def gbin (w : yW) (v : yL) : Bool := bif gL w (ysub (100, []) v) then true else gL w (ysub (11, []) v) && gL w (ysub v (12, []))
noncomputable def gnob (w : yW) (v : yL) : Bool := bif gL w (ysub v (10, [])) then true else gL w (ysub (13, []) v) && gL w (ysub v (99, []))
noncomputable def g0t (l : yL) : yN := [((100004, (0, [])), l)]
noncomputable def gwO (w : yW) (i : yL) : yN := gkp (fun g => Nat.ble 1 g) w.2.2.2.2 ++ (match gF w 34 with
  | some op => bif gL w (ysub op i) then gkp (fun g => Nat.beq g 0) w.2.2.2.2 else []
  | none => [])
noncomputable def gwS (w : yW) (i : yL) : yN := gkp (fun g => Nat.beq g 0) w.2.2.2.2 ++ (match gF w 30, gF w 31 with
  | some ru, some en => (bif gL w (ysub (yadd (yscl 500 ru) en) i) then gkp (fun g => Nat.ble 1 g && Nat.ble g 3) w.2.2.2.2 else []) ++ (bif gL w (ysub (yscl 500 ru) i) then gkp (fun g => Nat.beq g 4) w.2.2.2.2 else [])
  | _, _ => [])
noncomputable def gwC (w : yW) (i : yL) : yN := gkp (fun g => !(Nat.beq g 4)) w.2.2.2.2 ++ (match gF w 30 with
  | some ru => bif gL w (ysub ru i) then gkp (fun g => Nat.beq g 4) w.2.2.2.2 else []
  | none => [])
noncomputable def gb4 (w : yW) (ru i : yL) : yN := gkp (fun g => Nat.beq g 0) w.2.2.2.2 ++ (bif gL w (ysub (yscl 12 ru) i) then gkp (fun g => Nat.beq g 4) w.2.2.2.2 else [])
noncomputable def gc2 (w : yW) (ru i : yL) : yN := match gK w 2 with
  | some (_, c) => bif gL w (ysub (yadd (yscl 12 ru) c) i) then [((100006, (0, [])), c)] else []
  | none => []
noncomputable def gwA (w : yW) (i x : yL) : yN := match gF w 30, gF w 31 with
  | some ru, some en => gb4 w ru i ++ (gc2 w ru i ++ (bif yzero (ysub x en) && (gL w (yneg en) && gL w (yneg ru)) then [((100005, x), (0, [])), ((100007, x), x)] else []))
  | _, _ => []
noncomputable def gwB (w : yW) (i x : yL) : yN := match gF w 30, gF w 31 with
  | some ru, some en => gb4 w ru i ++ (gc2 w ru i ++ (bif yzero (ysub x en) then (match gA w 137 i with
    | some a => (match ylnl w.2.2.2.2 (100005, a) with
      | some _ => [((100005, x), (0, [])), ((100007, a), x)]
      | none => [])
    | none => []) else []))
  | _, _ => []
noncomputable def gwDt (w : yW) (ru en i x : yL) : Option yL := match gK w 2 with
  | some (_, c) => bif yzero (ysub x en) && yzero (ysub i (yadd (yscl 12 ru) c)) then (match gA w 137 i, gA w 138 i with
    | some a, some b => (match ylnl w.2.2.2.2 (100007, a) with
      | some l => bif yzero (ysub l b) then (match ylnl w.2.2.2.2 (100005, b) with
        | some _ => some (yadd (1, []) c)
        | none => none) else none
      | none => none)
    | _, _ => none) else none
  | none => none
noncomputable def gwD (w : yW) (i x : yL) : yN := match gF w 30, gF w 31 with
  | some ru, some en => gb4 w ru i ++ (match gwDt w ru en i x with
    | some c => [((100006, (0, [])), c)]
    | none => gc2 w ru i)
  | _, _ => []
noncomputable def gwFo (w : yW) (x : yL) : yN := bif yzero x then g0t (0, []) else (match gF w 34, gK w 0 with
  | some op, some (_, b) => bif yzero (ysub x (yadd (1, []) op)) && gL w (yneg op) then (match gA w 142 op with
      | some v => bif gbin w v then g0t (yadd (1, []) b) else bif gnob w v then g0t b else []
      | none => [])
    else bif yzero (ysub x (yadd (-1, []) op)) && gL w (ysub (1, []) op) then (match gA w 142 (yadd (-1, []) op) with
      | some v => bif gbin w v then g0t (yadd (-1, []) b) else bif gnob w v then g0t b else []
      | none => [])
    else []
  | _, _ => [])
noncomputable def gstp (w : yW) (v d : yL) (y : Option yL) : Option yL := bif yzero v then some (yadd (1, []) d)
  else bif yzero (ysub v (1, [])) then (match y with
    | some y => bif gL w (yneg y) && gL w (ysub y (11, [])) then some (yadd (1, []) d) else none
    | none => none)
  else bif yzero (ysub v (10, [])) then (bif gL w (ysub (1, []) d) then some d else none)
  else bif gL w (ysub (2, []) v) && (gL w (ysub (2, []) d) && (bif gL w (ysub v (9, [])) then true else gL w (ysub (11, []) v))) then some (yadd (-1, []) d) else none
noncomputable def gwFe (w : yW) (x : yL) : yN := match gF w 30 with
  | some ru => bif yzero x then gkp (fun g => Nat.beq g 0 || Nat.ble 4 g) w.2.2.2.2 ++ (bif gL w (yneg ru) then [((100006, (0, [])), (0, []))] else [])
    else (match gF w 31 with
      | some en => bif yzero (ysub x (yadd (1, []) en)) then gkp (fun g => !(Nat.beq g 1)) w.2.2.2.2 ++ (match gK w 1, gA w 133 (yadd (yscl 500 ru) en) with
          | some (s, d), some v => (match gstp w v d (gA w 134 (yadd (yscl 500 ru) en)) with
            | some d2 => [((100005, s.2), d2)]
            | none => [])
          | _, _ => [])
        else gkp (fun g => Nat.beq g 0 || Nat.ble 4 g) w.2.2.2.2
      | none => gkp (fun g => Nat.beq g 0 || Nat.ble 4 g) w.2.2.2.2)
  | none => gkp (fun g => Nat.beq g 0 || Nat.ble 4 g) w.2.2.2.2
noncomputable def gwFr (w : yW) (x : yL) : yN := gkp (fun g => Nat.beq g 0) w.2.2.2.2 ++ (match gF w 30, gF w 31, gK w 2, gK w 4 with
  | some ru, some en, some (_, c), some _ => bif yzero (ysub x (yadd (1, []) ru)) && (gL w (ysub en (500, [])) && gL w (yneg ru)) then (match gA w 140 ru with
      | some k => bif yzero (ysub k c) && gL w (ysub c (12, [])) then [((100008, (0, [])), (0, []))] else []
      | none => []) else []
  | _, _, _, _ => [])
noncomputable def zgw (w : yW) (t f : Nat) (r i x : yL) : yN := bif Nat.beq t 79 then (bif yzero (ysub r (111, [])) then (bif Nat.beq f 34 then gkp (fun g => Nat.ble 1 g) w.2.2.2.2 ++ gwFo w x else bif Nat.beq f 31 then gwFe w x else bif Nat.beq f 30 then gwFr w x else []) else [])
  else bif Nat.beq t 110 then (bif yzero (ysub r (142, [])) then gwO w i else [])
  else bif Nat.beq t 101 then (bif yzero (ysub r (133, [])) then gwS w i else [])
  else bif Nat.beq t 102 then (bif yzero (ysub r (134, [])) then gwS w i else [])
  else bif Nat.beq t 105 then (bif yzero (ysub r (137, [])) then gwA w i x else [])
  else bif Nat.beq t 106 then (bif yzero (ysub r (138, [])) then gwB w i x else [])
  else bif Nat.beq t 107 then (bif yzero (ysub r (139, [])) then gwD w i x else [])
  else bif Nat.beq t 108 then (bif yzero (ysub r (140, [])) then gwC w i else []) else []
noncomputable def zgx (t f : Nat) : Bool := bif Nat.beq t 79 then Nat.beq f 34 || (Nat.beq f 31 || Nat.beq f 30) else Nat.beq f 0 && (Nat.beq t 110 || (Nat.beq t 101 || (Nat.beq t 102 || (Nat.beq t 105 || (Nat.beq t 106 || (Nat.beq t 107 || Nat.beq t 108))))))
end
section
/-! what is remembered stays true over stores -/
theorem yln_kind {tx : yTx} {h : zH} {ρ : yR} {k g : Nat} {i l : yL} : yLn tx h ρ k ((100004 + g, i), l) ↔ ysp k i ∧ ysp k l ∧ tx.2 g h (yev ρ i) (yev ρ l) := by
  have e : (100004 + g : Nat) = (100000 + g) + 4 := by omega
  unfold yLn
  dsimp only
  rw [e]
  dsimp only
  have hb : Nat.ble 100000 (100000 + g) = true := Nat.ble_eq_true_of_le (Nat.le_add_right _ _)
  have e2 : Nat.sub (100000 + g) 100000 = g := by show 100000 + g - 100000 = g; omega
  unfold yL4
  rw [hb]
  dsimp only
  rw [e2]
theorem gkp_ok {tx : yTx} {h h2 : zH} {ρ : yR} {k : Nat} {gs : Nat → Bool} (hf : ∀ g x v, gs g = true → tx.2 g h x v → tx.2 g h2 x v) : ∀ {N : yN}, (∀ q ∈ N, yLn tx h ρ k q) → ∀ q ∈ gkp gs N, yLn tx h2 ρ k q
  | [], _, q, hq => by cases hq
  | (v, l) :: r, hN, q, hq => by
    unfold gkp at hq
    have ih := gkp_ok hf (N := r) (fun q hq => hN q (List.mem_cons_of_mem _ hq))
    cases hb : (ykg v.1 && gs (Nat.sub v.1 100004)) with
    | false => rw [hb, cond_false] at hq; exact ih q hq
    | true =>
      rw [hb, cond_true] at hq
      rcases List.mem_cons.mp hq with rfl | hq
      · rw [Bool.and_eq_true] at hb
        obtain ⟨p, e1, e2⟩ := ykg_at hb.1
        obtain ⟨v1, v2⟩ := v
        dsimp only at e1 hb
        have hp := Nat.le_of_ble_eq_true e2
        obtain ⟨g, rfl⟩ : ∃ g, v1 = 100004 + g := ⟨v1 - 100004, by omega⟩
        have e3 : Nat.sub (100004 + g) 100004 = g := by show 100004 + g - 100004 = g; omega
        rw [e3] at hb
        obtain ⟨a, b, c⟩ := yln_kind.mp (hN _ List.mem_cons_self)
        exact yln_kind.mpr ⟨a, b, hf _ _ _ hb.2 c⟩
      · exact ih q hq
section GG
variable {t : Nat → List Int32} {xs : Nat → Int32} {w : yW} {ρ : yR} {τ : List Nat} {h : zH}
theorem gA_ok {p : Nat} {i l : yL} (hp : Nat.ble 100000 p = false) (q : gA w p i = some l) (g : yWo (t, zgp xs) w ρ τ h) : zei h p (yev ρ i).toNat = yev ρ l ∧ ysp w.1 l := by
  obtain ⟨v, m1, m2, m3⟩ := ylnl_mem q
  obtain ⟨v1, v2⟩ := v
  dsimp only at m2 m3
  subst m2
  obtain ⟨g1, g2, g3⟩ := g.2.2.2 _ m1
  refine ⟨?_, g2⟩
  have g3' : yL4 (t, zgp xs) h p (yev ρ v2) (yev ρ l) := g3
  unfold yL4 at g3'
  rw [hp] at g3'
  obtain ⟨kd, N, x, e1, e2⟩ := g3'
  rw [m3] at e2
  unfold zei
  rw [e1]
  exact e2
theorem gF_ok {f : Nat} {l : yL} (q : gF w f = some l) (g : yWo (t, zgp xs) w ρ τ h) : zfi h 111 f = yev ρ l ∧ ysp w.1 l := by
  unfold gF at q
  split at q
  · rename_i l' hl
    cases q
    obtain ⟨cls, fs, u, d1, d2, d3, n, d4, d5⟩ := g.2.2.1 _ (yhg_mem hl)
    subst d4
    dsimp only at d1 d2 d3 d5
    refine ⟨?_, d3⟩
    unfold zfi
    rw [d1]
    dsimp only
    rw [d2]
    exact d5
  · cases q
theorem yfst_kind {k : Nat} {q : yV × yL} : ∀ {N : yN}, yfst k N = some q → q.1.1 = k
  | (v, l) :: r, h => by
    unfold yfst at h
    cases hb : Nat.beq v.1 k with
    | true =>
      rw [hb, cond_true] at h
      cases h
      exact Nat.eq_of_beq_eq_true hb
    | false =>
      rw [hb, cond_false] at h
      exact yfst_kind h
theorem gK_ok {g : Nat} {v : yV} {l : yL} (q : gK w g = some (v, l)) (hw : yWo (t, zgp xs) w ρ τ h) : zgp xs g h (yev ρ v.2) (yev ρ l) ∧ ysp w.1 v.2 ∧ ysp w.1 l := by
  have e := yfst_kind q
  have m := hw.2.2.2 _ (yfst_mem q)
  obtain ⟨v1, v2⟩ := v
  have e' : v1 = 100004 + g := e
  subst e'
  obtain ⟨a, b, c⟩ := yln_kind.mp m
  exact ⟨c, a, b⟩
theorem gG_ok {g : Nat} {i l : yL} (q : ylnl w.2.2.2.2 (100004 + g, i) = some l) (hw : yWo (t, zgp xs) w ρ τ h) : zgp xs g h (yev ρ i) (yev ρ l) ∧ ysp w.1 l := by
  obtain ⟨v, m1, m2, m3⟩ := ylnl_mem q
  obtain ⟨v1, v2⟩ := v
  dsimp only at m2 m3
  subst m2
  obtain ⟨a, b, c⟩ := yln_kind.mp (hw.2.2.2 _ m1)
  rw [m3] at c
  exact ⟨c, b⟩
theorem gL_ok {x : yL} (q : gL w x = true) (g : yWo (t, zgp xs) w ρ τ h) : yev ρ x ≤ 0 := g.le q
theorem gL_sub {x y : yL} (q : gL w (ysub x y) = true) (g : yWo (t, zgp xs) w ρ τ h) : yev ρ x ≤ yev ρ y := by
  have := g.le q
  rw [yev_sub] at this
  omega
theorem gL_neg {x : yL} (q : gL w (yneg x) = true) (g : yWo (t, zgp xs) w ρ τ h) : 0 ≤ yev ρ x := by
  have := g.le q
  rw [yev_neg] at this
  omega
theorem yz_sub {x y : yL} (q : yzero (ysub x y) = true) : yev ρ x = yev ρ y := by
  have := yzero_ev (ρ := ρ) q
  rw [yev_sub] at this
  omega
theorem yev_c (c : Int) : yev ρ (c, []) = c := yev_con ρ c
theorem gbin_ok {v : yL} (q : gbin w v = true) (g : yWo (t, zgp xs) w ρ τ h) : zbn (yev ρ v) := by
  unfold gbin at q
  cases h1 : gL w (ysub (100, []) v) with
  | true =>
    have := gL_sub h1 g
    rw [yev_c] at this
    exact Or.inr (Or.inr this)
  | false =>
    rw [h1, cond_false, Bool.and_eq_true] at q
    have a := gL_sub q.1 g
    have b := gL_sub q.2 g
    rw [yev_c] at a b
    unfold zbn
    omega
theorem gnob_ok {v : yL} (q : gnob w v = true) (g : yWo (t, zgp xs) w ρ τ h) : ¬ zbn (yev ρ v) := by
  unfold gnob at q
  unfold zbn
  cases h1 : gL w (ysub v (10, [])) with
  | true =>
    have := gL_sub h1 g
    rw [yev_c] at this
    omega
  | false =>
    rw [h1, cond_false, Bool.and_eq_true] at q
    have a := gL_sub q.1 g
    have b := gL_sub q.2 g
    rw [yev_c] at a b
    omega
/-- the heap behind: all is as before but what is said -/
theorem gkp_same {h2 : zH} {gs : Nat → Bool} (hw : yWo (t, zgp xs) w ρ τ h) (hf : ∀ g x v, gs g = true → zgp xs g h x v → zgp xs g h2 x v) : ∀ q ∈ gkp gs w.2.2.2.2, yLn (t, zgp xs) h2 ρ w.1 q := gkp_ok (tx := (t, zgp xs)) hf hw.2.2.2
end GG
end
section
theorem zgp_eq {xs : Nat → Int32} {h h2 : zH} {g : Nat} {x v : Int} (h0 : g = 0 → zfi h2 111 34 = zfi h 111 34 ∧ zei h2 142 = zei h 142) (hen : 1 ≤ g → g ≤ 3 → zfi h2 111 31 = zfi h 111 31) (hru : 1 ≤ g → g ≤ 4 → zfi h2 111 30 = zfi h 111 30) (hS : 1 ≤ g → zei h2 133 = zei h 133 ∧ zei h2 134 = zei h 134) (hA : g = 2 ∨ g = 4 → zei h2 137 = zei h 137 ∧ zei h2 138 = zei h 138 ∧ zei h2 139 = zei h 139) (hC : g = 4 → zei h2 140 = zei h 140) (q : zgp xs g h x v) : zgp xs g h2 x v := by
  match g, h0, hen, hru, hS, hA, hC, q with
  | 0, h0, _, _, _, _, _, q => unfold zgp at q ⊢; rw [(h0 rfl).1, (h0 rfl).2]; exact q
  | 1, _, hen, hru, hS, _, _, q => unfold zgp at q ⊢; rw [hen (by omega) (by omega), hru (by omega) (by omega), (hS (by omega)).1, (hS (by omega)).2]; exact q
  | 2, _, hen, hru, hS, hA, _, q => unfold zgp at q ⊢; rw [hen (by omega) (by omega), hru (by omega) (by omega), (hS (by omega)).1, (hS (by omega)).2, (hA (Or.inl rfl)).1, (hA (Or.inl rfl)).2.1, (hA (Or.inl rfl)).2.2]; exact q
  | 3, _, hen, hru, hS, _, _, q => unfold zgp at q ⊢; rw [hen (by omega) (by omega), hru (by omega) (by omega), (hS (by omega)).1, (hS (by omega)).2]; exact q
  | 4, _, _, hru, hS, hA, hC, q => unfold zgp at q ⊢; rw [hru (by omega) (by omega), (hS (by omega)).1, (hS (by omega)).2, (hA (Or.inr rfl)).1, (hA (Or.inr rfl)).2.1, (hA (Or.inr rfl)).2.2, hC rfl]; exact q
  | 5, _, _, _, hS, _, _, q => unfold zgp at q ⊢; rw [(hS (by omega)).1, (hS (by omega)).2]; exact q
  | 6, _, _, _, _, _, _, q => exact q
  | g + 7, _, _, _, _, _, _, q => exact q.elim
theorem zR1_congr {en ru x v : Int} {S V S' V' : Nat → Int} (h : ∀ i : Nat, (i : Int) < 500 * ru + en → S i = S' i ∧ V i = V' i) (q : zR1 en ru S V x v) : zR1 en ru S' V' x v := by
  obtain ⟨a, b, c, d, e⟩ := q
  refine ⟨a, b, c, d, ?_⟩
  rw [← e]
  exact (zfw_congr (fun i h1 h2 => h i (by omega))).symm
theorem zR2_congr {en ru v : Int} {S V A B D S' V' A' B' D' : Nat → Int} (h : ∀ i : Nat, (i : Int) < 500 * ru + en → S i = S' i ∧ V i = V' i) (ha : ∀ k : Nat, (k : Int) < 12 * ru + v → A k = A' k ∧ B k = B' k ∧ D k = D' k) (q : zR2 en ru S V A B D v) : zR2 en ru S' V' A' B' D' v := by
  obtain ⟨a, b, c⟩ := q
  refine ⟨a, b, fun k hk => ?_⟩
  have e := ha (12 * ru.toNat + k) (by omega)
  exact zok_congr (fun i h1 h2 => h i (by omega)) e.1 e.2.1 e.2.2 (c k hk)
theorem zR3_congr {en ru x v : Int} {S V S' V' : Nat → Int} (h : ∀ i : Nat, (i : Int) < 500 * ru + en → S i = S' i ∧ V i = V' i) (q : zR3 en ru S V x v) : zR3 en ru S' V' x v := by
  obtain ⟨a, b, c⟩ := q
  exact ⟨zva_congr (fun i h1 h2 => h i (by omega)) b a, b, c⟩
theorem zR4_congr {ru : Int} {S V A B D C S' V' A' B' D' C' : Nat → Int} (h : ∀ i : Nat, (i : Int) < 500 * ru → S i = S' i ∧ V i = V' i) (ha : ∀ k : Nat, (k : Int) < 12 * ru → A k = A' k ∧ B k = B' k ∧ D k = D' k) (hc : ∀ k : Nat, (k : Int) < ru → C k = C' k) (q : zR4 ru S V A B D C) : zR4 ru S' V' A' B' D' C' := by
  intro r hr
  obtain ⟨a, b⟩ := q r hr
  rw [hc r hr] at a b
  refine ⟨a, fun c hcc => ?_⟩
  have e := ha (12 * r + c) (by omega)
  exact zok_congr (fun i h1 h2 => h i (by omega)) e.1 e.2.1 e.2.2 (b c hcc)
section GH
variable {t : Nat → List Int32} {xs : Nat → Int32} {w : yW} {ρ : yR} {τ : List Nat} {h h2 : zH}
theorem gwO_ok {i : yL} (hw : yWo (t, zgp xs) w ρ τ h) (hf : ∀ f, zfi h2 111 f = zfi h 111 f) (hz : ∀ p, p ≠ 142 → zei h2 p = zei h p) (hO : ∀ k : Nat, k ≠ (yev ρ i).toNat → zei h2 142 k = zei h 142 k) (hi : 0 ≤ yev ρ i) : ∀ q ∈ gwO w i, yLn (t, zgp xs) h2 ρ w.1 q := by
  intro q hq
  unfold gwO at hq
  rcases List.mem_append.mp hq with hq | hq
  · refine gkp_same hw (fun g x v hg => ?_) q hq
    have := Nat.le_of_ble_eq_true hg
    exact zgp_eq (fun e => by omega) (fun _ _ => hf _) (fun _ _ => hf _) (fun _ => ⟨hz _ (by decide), hz _ (by decide)⟩) (fun _ => ⟨hz _ (by decide), hz _ (by decide), hz _ (by decide)⟩) (fun _ => hz _ (by decide))
  · split at hq
    · rename_i op hop
      cases hb : gL w (ysub op i) with
      | false => rw [hb] at hq; cases hq
      | true =>
        rw [hb, cond_true] at hq
        have h1 := gL_sub hb hw
        have h2' := (gF_ok hop hw).1
        refine gkp_same hw (fun g x v hg => ?_) q hq
        have e := Nat.eq_of_beq_eq_true hg
        subst e
        intro z
        unfold zgp zR0 at z ⊢
        rw [hf, z]
        exact zbc_congr (fun k hk => (hO k (by omega)).symm)
    · cases hq
theorem gwS_ok {i : yL} (hw : yWo (t, zgp xs) w ρ τ h) (hf : ∀ f, zfi h2 111 f = zfi h 111 f) (hz : ∀ p, p ≠ 133 → p ≠ 134 → zei h2 p = zei h p) (hS : ∀ k : Nat, k ≠ (yev ρ i).toNat → zei h2 133 k = zei h 133 k ∧ zei h2 134 k = zei h 134 k) (hi : 0 ≤ yev ρ i) : ∀ q ∈ gwS w i, yLn (t, zgp xs) h2 ρ w.1 q := by
  intro q hq
  unfold gwS at hq
  rcases List.mem_append.mp hq with hq | hq
  · refine gkp_same hw (fun g x v hg => ?_) q hq
    have e := Nat.eq_of_beq_eq_true hg
    subst e
    exact zgp_eq (fun _ => ⟨hf _, hz _ (by decide) (by decide)⟩) (fun e => by omega) (fun e => by omega) (fun e => by omega) (fun e => by omega) (fun e => by omega)
  · split at hq
    · rename_i ru en hru hen
      have r1 := (gF_ok hru hw).1
      have e1 := (gF_ok hen hw).1
      rcases List.mem_append.mp hq with hq | hq
      · cases hb : gL w (ysub (yadd (yscl 500 ru) en) i) with
        | false => rw [hb] at hq; cases hq
        | true =>
          rw [hb, cond_true] at hq
          have l1 := gL_sub hb hw
          rw [yev_add, yev_scl] at l1
          have hS' : ∀ k : Nat, (k : Int) < 500 * zfi h 111 30 + zfi h 111 31 → zei h 133 k = zei h2 133 k ∧ zei h 134 k = zei h2 134 k := fun k hk => by
            have := hS k (by omega)
            exact ⟨this.1.symm, this.2.symm⟩
          refine gkp_same hw (fun g x v hg z => ?_) q hq
          rw [Bool.and_eq_true] at hg
          have g1 := Nat.le_of_ble_eq_true hg.1
          have g2 := Nat.le_of_ble_eq_true hg.2
          have : g = 1 ∨ g = 2 ∨ g = 3 := by omega
          rcases this with rfl | rfl | rfl
          · unfold zgp at z ⊢
            rw [hf 31, hf 30]
            exact zR1_congr hS' z
          · unfold zgp at z ⊢
            rw [hf 31, hf 30, hz 137 (by decide) (by decide), hz 138 (by decide) (by decide), hz 139 (by decide) (by decide)]
            exact zR2_congr hS' (fun _ _ => ⟨rfl, rfl, rfl⟩) z
          · unfold zgp at z ⊢
            rw [hf 31, hf 30]
            exact zR3_congr hS' z
      · cases hb : gL w (ysub (yscl 500 ru) i) with
        | false => rw [hb] at hq; cases hq
        | true =>
          rw [hb, cond_true] at hq
          have l1 := gL_sub hb hw
          rw [yev_scl] at l1
          refine gkp_same hw (fun g x v hg z => ?_) q hq
          have e := Nat.eq_of_beq_eq_true hg
          subst e
          unfold zgp at z ⊢
          rw [hf 30, hz 137 (by decide) (by decide), hz 138 (by decide) (by decide), hz 139 (by decide) (by decide), hz 140 (by decide) (by decide)]
          exact zR4_congr (fun k hk => by have := hS k (by omega); exact ⟨this.1.symm, this.2.symm⟩) (fun _ _ => ⟨rfl, rfl, rfl⟩) (fun _ _ => rfl) z
    · cases hq
theorem gwC_ok {i : yL} (hw : yWo (t, zgp xs) w ρ τ h) (hf : ∀ f, zfi h2 111 f = zfi h 111 f) (hz : ∀ p, p ≠ 140 → zei h2 p = zei h p) (hC : ∀ k : Nat, k ≠ (yev ρ i).toNat → zei h2 140 k = zei h 140 k) (hi : 0 ≤ yev ρ i) : ∀ q ∈ gwC w i, yLn (t, zgp xs) h2 ρ w.1 q := by
  intro q hq
  unfold gwC at hq
  rcases List.mem_append.mp hq with hq | hq
  · refine gkp_same hw (fun g x v hg => ?_) q hq
    have hne : g ≠ 4 := fun e => by subst e; cases hg
    exact zgp_eq (fun _ => ⟨hf _, hz _ (by decide)⟩) (fun _ _ => hf _) (fun _ _ => hf _) (fun _ => ⟨hz _ (by decide), hz _ (by decide)⟩) (fun _ => ⟨hz _ (by decide), hz _ (by decide), hz _ (by decide)⟩) (fun e => absurd e hne)
  · split at hq
    · rename_i ru hru
      have r1 := (gF_ok hru hw).1
      cases hb : gL w (ysub ru i) with
      | false => rw [hb] at hq; cases hq
      | true =>
        rw [hb, cond_true] at hq
        have l1 := gL_sub hb hw
        refine gkp_same hw (fun g x v hg z => ?_) q hq
        have e := Nat.eq_of_beq_eq_true hg
        subst e
        unfold zgp at z ⊢
        rw [hf 30, hz 133 (by decide), hz 134 (by decide), hz 137 (by decide), hz 138 (by decide), hz 139 (by decide)]
        exact zR4_congr (fun _ _ => ⟨rfl, rfl⟩) (fun _ _ => ⟨rfl, rfl, rfl⟩) (fun k hk => (hC k (by omega)).symm) z
    · cases hq
theorem gb4_ok {ru i : yL} (hru : gF w 30 = some ru) (hw : yWo (t, zgp xs) w ρ τ h) (hf : ∀ f, zfi h2 111 f = zfi h 111 f) (hz : ∀ p, p ≠ 137 → p ≠ 138 → p ≠ 139 → zei h2 p = zei h p) (hA : ∀ k : Nat, k ≠ (yev ρ i).toNat → zei h2 137 k = zei h 137 k ∧ zei h2 138 k = zei h 138 k ∧ zei h2 139 k = zei h 139 k) (hi : 0 ≤ yev ρ i) : ∀ q ∈ gb4 w ru i, yLn (t, zgp xs) h2 ρ w.1 q := by
  intro q hq
  have r1 := (gF_ok hru hw).1
  unfold gb4 at hq
  rcases List.mem_append.mp hq with hq | hq
  · refine gkp_same hw (fun g x v hg => ?_) q hq
    have e := Nat.eq_of_beq_eq_true hg
    subst e
    exact zgp_eq (fun _ => ⟨hf _, hz _ (by decide) (by decide) (by decide)⟩) (fun e => by omega) (fun e => by omega) (fun e => by omega) (fun e => by omega) (fun e => by omega)
  · cases hb : gL w (ysub (yscl 12 ru) i) with
    | false => rw [hb] at hq; cases hq
    | true =>
      rw [hb, cond_true] at hq
      have l1 := gL_sub hb hw
      rw [yev_scl] at l1
      refine gkp_same hw (fun g x v hg z => ?_) q hq
      have e := Nat.eq_of_beq_eq_true hg
      subst e
      unfold zgp at z ⊢
      rw [hf 30, hz 133 (by decide) (by decide) (by decide), hz 134 (by decide) (by decide) (by decide), hz 140 (by decide) (by decide) (by decide)]
      exact zR4_congr (fun _ _ => ⟨rfl, rfl⟩) (fun k hk => by have := hA k (by omega); exact ⟨this.1.symm, this.2.1.symm, this.2.2.symm⟩) (fun _ _ => rfl) z
theorem gc2_ok {ru i : yL} (hru : gF w 30 = some ru) (hw : yWo (t, zgp xs) w ρ τ h) (hf : ∀ f, zfi h2 111 f = zfi h 111 f) (hz : ∀ p, p ≠ 137 → p ≠ 138 → p ≠ 139 → zei h2 p = zei h p) (hA : ∀ k : Nat, k ≠ (yev ρ i).toNat → zei h2 137 k = zei h 137 k ∧ zei h2 138 k = zei h 138 k ∧ zei h2 139 k = zei h 139 k) (hi : 0 ≤ yev ρ i) : ∀ q ∈ gc2 w ru i, yLn (t, zgp xs) h2 ρ w.1 q := by
  intro q hq
  have r1 := (gF_ok hru hw).1
  unfold gc2 at hq
  split at hq
  · rename_i v c hc
    obtain ⟨z, z1, z2⟩ := gK_ok hc hw
    cases hb : gL w (ysub (yadd (yscl 12 ru) c) i) with
    | false => rw [hb] at hq; cases hq
    | true =>
      rw [hb, cond_true] at hq
      have l1 := gL_sub hb hw
      rw [yev_add, yev_scl] at l1
      rcases List.mem_singleton.mp hq with rfl
      refine (yln_kind (g := 2)).mpr ⟨ysp_con _ _, z2, ?_⟩
      show zgp xs 2 h2 (yev ρ (0, [])) (yev ρ c)
      unfold zgp at z ⊢
      rw [hf 31, hf 30, hz 133 (by decide) (by decide) (by decide), hz 134 (by decide) (by decide) (by decide)]
      exact zR2_congr (fun _ _ => ⟨rfl, rfl⟩) (fun k hk => by have := hA k (by omega); exact ⟨this.1.symm, this.2.1.symm, this.2.2.symm⟩) z
  · cases hq
end GH
end
section
section GI
variable {t : Nat → List Int32} {xs : Nat → Int32} {w : yW} {ρ : yR} {τ : List Nat} {h h2 : zH}
theorem gwA_ok {i x : yL} (hw : yWo (t, zgp xs) w ρ τ h) (hx : ysp w.1 x) (hf : ∀ f, zfi h2 111 f = zfi h 111 f) (hz : ∀ p, p ≠ 137 → zei h2 p = zei h p) (hA : ∀ k : Nat, k ≠ (yev ρ i).toNat → zei h2 137 k = zei h 137 k) (hi : 0 ≤ yev ρ i) : ∀ q ∈ gwA w i x, yLn (t, zgp xs) h2 ρ w.1 q := by
  intro q hq
  unfold gwA at hq
  split at hq
  · rename_i ru en hru hen
    have r1 := (gF_ok hru hw).1
    have e1 := (gF_ok hen hw).1
    rcases List.mem_append.mp hq with hq | hq
    · exact gb4_ok hru hw hf (fun p a _ _ => hz p a) (fun k hk => ⟨hA k hk, congrFun (hz 138 (by decide)) k, congrFun (hz 139 (by decide)) k⟩) hi q hq
    rcases List.mem_append.mp hq with hq | hq
    · exact gc2_ok hru hw hf (fun p a _ _ => hz p a) (fun k hk => ⟨hA k hk, congrFun (hz 138 (by decide)) k, congrFun (hz 139 (by decide)) k⟩) hi q hq
    cases hb : (yzero (ysub x en) && (gL w (yneg en) && gL w (yneg ru))) with
    | false => rw [hb] at hq; cases hq
    | true =>
      rw [hb, cond_true] at hq
      simp only [Bool.and_eq_true] at hb
      obtain ⟨b1, b2, b3⟩ := hb
      have c1 := yz_sub (ρ := ρ) b1
      have c2 := gL_neg b2 hw
      have c3 := gL_neg b3 hw
      rcases List.mem_cons.mp hq with rfl | hq
      · refine (yln_kind (g := 1)).mpr ⟨hx, ysp_con _ _, ?_⟩
        show zR1 _ _ _ _ (yev ρ x) (yev ρ (0, []))
        rw [hf 31, hf 30, e1, r1, yev_c]
        refine ⟨by omega, by omega, by omega, by omega, ?_⟩
        rw [show (yev ρ en - yev ρ x).toNat = 0 by omega]
        rfl
      · rcases List.mem_singleton.mp hq with rfl
        refine (yln_kind (g := 3)).mpr ⟨hx, hx, ?_⟩
        show zR3 _ _ _ _ (yev ρ x) (yev ρ x)
        rw [hf 31, hf 30, e1, r1]
        refine ⟨⟨by omega, by omega, 0, ?_⟩, by omega, by omega⟩
        rw [show (yev ρ x - yev ρ x).toNat = 0 by omega]
        rfl
  · cases hq
theorem gwB_ok {i x : yL} (hw : yWo (t, zgp xs) w ρ τ h) (hx : ysp w.1 x) (hf : ∀ f, zfi h2 111 f = zfi h 111 f) (hz : ∀ p, p ≠ 138 → zei h2 p = zei h p) (hA : ∀ k : Nat, k ≠ (yev ρ i).toNat → zei h2 138 k = zei h 138 k) (hi : 0 ≤ yev ρ i) : ∀ q ∈ gwB w i x, yLn (t, zgp xs) h2 ρ w.1 q := by
  intro q hq
  unfold gwB at hq
  split at hq
  · rename_i ru en hru hen
    have r1 := (gF_ok hru hw).1
    have e1 := (gF_ok hen hw).1
    rcases List.mem_append.mp hq with hq | hq
    · exact gb4_ok hru hw hf (fun p _ a _ => hz p a) (fun k hk => ⟨congrFun (hz 137 (by decide)) k, hA k hk, congrFun (hz 139 (by decide)) k⟩) hi q hq
    rcases List.mem_append.mp hq with hq | hq
    · exact gc2_ok hru hw hf (fun p _ a _ => hz p a) (fun k hk => ⟨congrFun (hz 137 (by decide)) k, hA k hk, congrFun (hz 139 (by decide)) k⟩) hi q hq
    cases hb : yzero (ysub x en) with
    | false => rw [hb] at hq; cases hq
    | true =>
      rw [hb, cond_true] at hq
      have c1 := yz_sub (ρ := ρ) hb
      split at hq
      · rename_i a ha
        split at hq
        · rename_i d hd
          obtain ⟨k1, k2⟩ := gG_ok (g := 1) hd hw
          obtain ⟨k3, k4⟩ := gA_ok (by decide) ha hw
          unfold zgp zR1 at k1
          rw [e1, r1] at k1
          obtain ⟨m1, m2, m3, m4, m5⟩ := k1
          rcases List.mem_cons.mp hq with rfl | hq
          · refine (yln_kind (g := 1)).mpr ⟨hx, ysp_con _ _, ?_⟩
            show zR1 _ _ _ _ (yev ρ x) (yev ρ (0, []))
            rw [hf 31, hf 30, e1, r1, yev_c]
            refine ⟨by omega, by omega, by omega, by omega, ?_⟩
            rw [show (yev ρ en - yev ρ x).toNat = 0 by omega]
            rfl
          · rcases List.mem_singleton.mp hq with rfl
            refine (yln_kind (g := 3)).mpr ⟨k4, hx, ?_⟩
            show zR3 _ _ _ _ (yev ρ a) (yev ρ x)
            rw [hf 31, hf 30, e1, r1, hz 133 (by decide), hz 134 (by decide)]
            refine ⟨⟨by omega, by omega, (yev ρ d).toNat, ?_⟩, by omega, by omega⟩
            rw [c1]
            exact m5
        · cases hq
      · cases hq
  · cases hq
theorem gwDt_ok {ru en i x c' : yL} (q : gwDt w ru en i x = some c') : ∃ (v : yV) (c a b l d : yL), gK w 2 = some (v, c) ∧ yzero (ysub x en) = true ∧ yzero (ysub i (yadd (yscl 12 ru) c)) = true ∧ gA w 137 i = some a ∧ gA w 138 i = some b ∧ ylnl w.2.2.2.2 (100007, a) = some l ∧ yzero (ysub l b) = true ∧ ylnl w.2.2.2.2 (100005, b) = some d ∧ c' = yadd (1, []) c := by
  unfold gwDt at q
  split at q
  · rename_i v c hc
    cases hb : (yzero (ysub x en) && yzero (ysub i (yadd (yscl 12 ru) c))) with
    | false => rw [hb] at q; cases q
    | true =>
      rw [hb, cond_true] at q
      rw [Bool.and_eq_true] at hb
      split at q
      · rename_i a b ha hb2
        split at q
        · rename_i l hl
          cases hb3 : yzero (ysub l b) with
          | false => rw [hb3] at q; cases q
          | true =>
            rw [hb3, cond_true] at q
            split at q
            · rename_i d hd
              cases q
              exact ⟨v, c, a, b, l, d, hc, hb.1, hb.2, ha, hb2, hl, hb3, hd, rfl⟩
            · cases q
        · cases q
      · cases q
  · cases q
theorem gwD_ok {i x : yL} (hw : yWo (t, zgp xs) w ρ τ h) (hx : ysp w.1 x) (hf : ∀ f, zfi h2 111 f = zfi h 111 f) (hz : ∀ p, p ≠ 139 → zei h2 p = zei h p) (hA : ∀ k : Nat, zei h2 139 k = if k = (yev ρ i).toNat then yev ρ x else zei h 139 k) (hi : 0 ≤ yev ρ i) : ∀ q ∈ gwD w i x, yLn (t, zgp xs) h2 ρ w.1 q := by
  intro q hq
  have hA' : ∀ k : Nat, k ≠ (yev ρ i).toNat → zei h2 139 k = zei h 139 k := fun k hk => (hA k).trans (if_neg hk)
  unfold gwD at hq
  split at hq
  · rename_i ru en hru hen
    have r1 := (gF_ok hru hw).1
    have e1 := (gF_ok hen hw).1
    rcases List.mem_append.mp hq with hq | hq
    · exact gb4_ok hru hw hf (fun p _ _ a => hz p a) (fun k hk => ⟨congrFun (hz 137 (by decide)) k, congrFun (hz 138 (by decide)) k, hA' k hk⟩) hi q hq
    split at hq
    · rename_i c' hc'
      obtain ⟨v, c, a, b, l, d, hc, hb1, hb2, ha, hb, hl, hb3, hd, rfl⟩ := gwDt_ok hc'
      rcases List.mem_singleton.mp hq with rfl
      obtain ⟨z2, -, z2s⟩ := gK_ok hc hw
      obtain ⟨z3, -⟩ := gG_ok (g := 3) hl hw
      obtain ⟨z1, -⟩ := gG_ok (g := 1) hd hw
      have x1 := yz_sub (ρ := ρ) hb1
      have x2 := yz_sub (ρ := ρ) hb2
      rw [yev_add, yev_scl] at x2
      have x3 := yz_sub (ρ := ρ) hb3
      have aa := (gA_ok (by decide) ha hw).1
      have bb := (gA_ok (by decide) hb hw).1
      refine (yln_kind (g := 2)).mpr ⟨ysp_con _ _, ysp_add (ysp_con _ _) z2s, ?_⟩
      show zR2 _ _ _ _ _ _ _ (yev ρ (yadd (1, []) c))
      unfold zgp zR2 at z2
      unfold zgp zR3 at z3
      unfold zgp zR1 at z1
      rw [e1, r1] at z1 z2 z3
      obtain ⟨n1, n2, n3⟩ := z2
      rw [hf 31, hf 30, e1, r1, hz 133 (by decide), hz 134 (by decide), hz 137 (by decide), hz 138 (by decide), yev_add, yev_c]
      refine ⟨by omega, n2, fun k hk => ?_⟩
      by_cases hkc : (k : Int) < yev ρ c
      · exact zok_congr (fun _ _ _ => ⟨rfl, rfl⟩) rfl rfl (hA' _ (by omega)).symm (n3 k hkc)
      · have hat : 12 * (yev ρ ru).toNat + k = (yev ρ i).toNat := by omega
        have hD : zei h2 139 (12 * (yev ρ ru).toNat + k) = yev ρ en := by rw [hat, hA, if_pos rfl, x1]
        unfold zok
        rw [hD, hat, aa, bb]
        refine ⟨?_, ⟨z1.1, z1.2.1, _, z1.2.2.2.2⟩, Int.le_refl _⟩
        rw [← x3]
        exact z3.1
    · exact gc2_ok hru hw hf (fun p _ _ a => hz p a) (fun k hk => ⟨congrFun (hz 137 (by decide)) k, congrFun (hz 138 (by decide)) k, hA' k hk⟩) hi q hq
  · cases hq
theorem g0t_ok {l : yL} (hl : ysp w.1 l) (z : zR0 (zfi h2 111 34) (zei h2 142) (yev ρ l)) : ∀ q ∈ g0t l, yLn (t, zgp xs) h2 ρ w.1 q := by
  intro q hq
  rcases List.mem_singleton.mp hq with rfl
  exact (yln_kind (g := 0)).mpr ⟨ysp_con _ _, hl, z⟩
theorem gwFo_ok {x : yL} (hw : yWo (t, zgp xs) w ρ τ h) (hop : zfi h2 111 34 = yev ρ x) (hz : ∀ p, zei h2 p = zei h p) : ∀ q ∈ gwFo w x, yLn (t, zgp xs) h2 ρ w.1 q := by
  intro q hq
  unfold gwFo at hq
  cases hb : yzero x with
  | true =>
    rw [hb, cond_true] at hq
    refine g0t_ok (l := (0, [])) (ysp_con _ _) ?_ q hq
    rw [hop, yzero_ev hb, yev_c]
    rfl
  | false =>
    rw [hb, cond_false] at hq
    split at hq
    · rename_i op v b ho hbk
      obtain ⟨z, -, zs⟩ := gK_ok hbk hw
      have o1 := (gF_ok ho hw).1
      replace z : yev ρ b = zbc (zei h 142) (zfi h 111 34).toNat := z
      rw [o1] at z
      cases h1 : (yzero (ysub x (yadd (1, []) op)) && gL w (yneg op)) with
      | true =>
        rw [h1, cond_true] at hq
        rw [Bool.and_eq_true] at h1
        have a1 := yz_sub (ρ := ρ) h1.1
        rw [yev_add, yev_c] at a1
        have a2 := gL_neg h1.2 hw
        have e9 : (yev ρ x).toNat = (yev ρ op).toNat + 1 := by omega
        split at hq
        · rename_i v9 hv9
          have a3 := (gA_ok (by decide) hv9 hw).1
          cases h2' : gbin w v9 with
          | true =>
            rw [h2', cond_true] at hq
            have a4 := gbin_ok h2' hw
            refine g0t_ok (l := yadd (1, []) b) (ysp_add (ysp_con _ _) zs) ?_ q hq
            unfold zR0
            rw [hop, hz, e9, yev_add, yev_c]
            unfold zbc
            rw [a3, zbb_1 a4]
            omega
          | false =>
            rw [h2', cond_false] at hq
            cases h3' : gnob w v9 with
            | false => rw [h3'] at hq; cases hq
            | true =>
              rw [h3', cond_true] at hq
              have a4 := gnob_ok h3' hw
              refine g0t_ok zs ?_ q hq
              unfold zR0
              rw [hop, hz, e9]
              unfold zbc
              rw [a3, zbb_0 a4]
              omega
        · cases hq
      | false =>
        rw [h1, cond_false] at hq
        cases h4 : (yzero (ysub x (yadd (-1, []) op)) && gL w (ysub (1, []) op)) with
        | false => rw [h4] at hq; cases hq
        | true =>
          rw [h4, cond_true] at hq
          rw [Bool.and_eq_true] at h4
          have a1 := yz_sub (ρ := ρ) h4.1
          rw [yev_add, yev_c] at a1
          have a2 := gL_sub h4.2 hw
          rw [yev_c] at a2
          have e9 : (yev ρ op).toNat = (yev ρ x).toNat + 1 := by omega
          rw [e9] at z
          unfold zbc at z
          split at hq
          · rename_i v9 hv9
            have a3 := (gA_ok (by decide) hv9 hw).1
            rw [yev_add, yev_c, ← a1] at a3
            cases h2' : gbin w v9 with
            | true =>
              rw [h2', cond_true] at hq
              have a4 := gbin_ok h2' hw
              rw [a3, zbb_1 a4] at z
              refine g0t_ok (l := yadd (-1, []) b) (ysp_add (ysp_con _ _) zs) ?_ q hq
              unfold zR0
              rw [hop, hz, yev_add, yev_c]
              omega
            | false =>
              rw [h2', cond_false] at hq
              cases h3' : gnob w v9 with
              | false => rw [h3'] at hq; cases hq
              | true =>
                rw [h3', cond_true] at hq
                have a4 := gnob_ok h3' hw
                rw [a3, zbb_0 a4] at z
                refine g0t_ok zs ?_ q hq
                unfold zR0
                rw [hop, hz]
                omega
          · cases hq
    · cases hq
theorem gstp_ok {v d d2 : yL} {y : Option yL} (hw : yWo (t, zgp xs) w ρ τ h) (hd : ysp w.1 d) (h0 : 0 ≤ yev ρ d) (q : gstp w v d y = some d2) (Y : Int) (hY : ∀ y', y = some y' → Y = yev ρ y') : zfs (yev ρ v) Y (yev ρ d).toNat = some (yev ρ d2).toNat ∧ 0 ≤ yev ρ d2 ∧ ysp w.1 d2 := by
  unfold gstp at q
  unfold zfs
  cases h1 : yzero v with
  | true =>
    rw [h1, cond_true] at q
    cases q
    rw [yzero_ev h1, if_pos rfl, yev_add, yev_c]
    exact ⟨congrArg some (by omega), by omega, ysp_add (ysp_con _ _) hd⟩
  | false =>
    rw [h1, cond_false] at q
    cases h2' : yzero (ysub v (1, [])) with
    | true =>
      have e := yz_sub (ρ := ρ) h2'
      rw [yev_c] at e
      rw [h2', cond_true] at q
      split at q
      · rename_i y'
        cases h3 : (gL w (yneg y') && gL w (ysub y' (11, []))) with
        | false => rw [h3] at q; cases q
        | true =>
          rw [h3, cond_true] at q
          cases q
          rw [Bool.and_eq_true] at h3
          have b1 := gL_neg h3.1 hw
          have b2 := gL_sub h3.2 hw
          rw [yev_c] at b2
          have b3 := hY y' rfl
          rw [e, if_neg (by decide), if_pos rfl, if_pos ⟨by omega, by omega⟩, yev_add, yev_c]
          exact ⟨congrArg some (by omega), by omega, ysp_add (ysp_con _ _) hd⟩
      · cases q
    | false =>
      rw [h2', cond_false] at q
      cases h3 : yzero (ysub v (10, [])) with
      | true =>
        have e := yz_sub (ρ := ρ) h3
        rw [yev_c] at e
        rw [h3, cond_true] at q
        cases h4 : gL w (ysub (1, []) d) with
        | false => rw [h4] at q; cases q
        | true =>
          rw [h4, cond_true] at q
          cases q
          have b1 := gL_sub h4 hw
          rw [yev_c] at b1
          rw [e, if_neg (by decide), if_neg (by decide), if_pos rfl, if_pos (by omega)]
          exact ⟨rfl, h0, hd⟩
      | false =>
        rw [h3, cond_false] at q
        cases h4 : (gL w (ysub (2, []) v) && (gL w (ysub (2, []) d) && (bif gL w (ysub v (9, [])) then true else gL w (ysub (11, []) v)))) with
        | false => rw [h4] at q; cases q
        | true =>
          rw [h4, cond_true] at q
          cases q
          simp only [Bool.and_eq_true] at h4
          obtain ⟨b1, b2, b3⟩ := h4
          have b1 := gL_sub b1 hw
          have b2 := gL_sub b2 hw
          rw [yev_c] at b1 b2
          have b4 : yev ρ v ≠ 10 := by
            cases h5 : gL w (ysub v (9, [])) with
            | true =>
              have := gL_sub h5 hw
              rw [yev_c] at this
              omega
            | false =>
              rw [h5, cond_false] at b3
              have := gL_sub b3 hw
              rw [yev_c] at this
              omega
          rw [if_neg (by omega), if_neg (by omega), if_neg b4, if_pos (by omega), yev_add, yev_c]
          exact ⟨congrArg some (by omega), by omega, ysp_add (ysp_con _ _) hd⟩
end GI
end
section
section GJ
variable {t : Nat → List Int32} {xs : Nat → Int32} {w : yW} {ρ : yR} {τ : List Nat} {h h2 : zH}
theorem zR2_en {en en' ru v : Int} {S V A B D : Nat → Int} (q : zR2 en ru S V A B D v) (he : en ≤ en') : zR2 en' ru S V A B D v := ⟨q.1, q.2.1, fun c hc => zok_mono (q.2.2 c hc) he⟩
theorem gwFe_ok {x : yL} (hw : yWo (t, zgp xs) w ρ τ h) (hop : zfi h2 111 31 = yev ρ x) (hf : ∀ f, f ≠ 31 → zfi h2 111 f = zfi h 111 f) (hz : ∀ p, zei h2 p = zei h p) : ∀ q ∈ gwFe w x, yLn (t, zgp xs) h2 ρ w.1 q := by
  intro q hq
  have hkeep : ∀ q ∈ gkp (fun g => Nat.beq g 0 || Nat.ble 4 g) w.2.2.2.2, yLn (t, zgp xs) h2 ρ w.1 q := by
    refine gkp_same hw (fun g x v hg => ?_)
    rw [Bool.or_eq_true] at hg
    have : g = 0 ∨ 4 ≤ g := hg.imp Nat.eq_of_beq_eq_true Nat.le_of_ble_eq_true
    exact zgp_eq (fun _ => ⟨hf _ (by decide), hz _⟩) (fun e e' => by omega) (fun _ _ => hf _ (by decide)) (fun _ => ⟨hz _, hz _⟩) (fun _ => ⟨hz _, hz _, hz _⟩) (fun _ => hz _)
  unfold gwFe at hq
  split at hq
  · rename_i ru hru
    have r1 := (gF_ok hru hw).1
    cases hb : yzero x with
    | true =>
      rw [hb, cond_true] at hq
      rcases List.mem_append.mp hq with hq | hq
      · exact hkeep q hq
      · cases hb2 : gL w (yneg ru) with
        | false => rw [hb2] at hq; cases hq
        | true =>
          rw [hb2, cond_true] at hq
          have r2 := gL_neg hb2 hw
          rcases List.mem_singleton.mp hq with rfl
          refine (yln_kind (g := 2)).mpr ⟨ysp_con _ _, ysp_con _ _, ?_⟩
          show zR2 _ _ _ _ _ _ _ (yev ρ (0, []))
          rw [hf 30 (by decide), r1, yev_c]
          exact ⟨Int.le_refl _, r2, fun c hc => by omega⟩
    | false =>
      rw [hb, cond_false] at hq
      split at hq
      · rename_i en hen
        have e1 := (gF_ok hen hw).1
        cases hb2 : yzero (ysub x (yadd (1, []) en)) with
        | false => rw [hb2, cond_false] at hq; exact hkeep q hq
        | true =>
          rw [hb2, cond_true] at hq
          have x1 := yz_sub (ρ := ρ) hb2
          rw [yev_add, yev_c] at x1
          rcases List.mem_append.mp hq with hq | hq
          · refine gkp_same hw (fun g x' v hg z => ?_) q hq
            have hne : g ≠ 1 := fun e => by subst e; cases hg
            by_cases h2' : g = 2
            · subst h2'
              unfold zgp at z ⊢
              rw [hop, hf 30 (by decide), hz 133, hz 134, hz 137, hz 138, hz 139, x1]
              rw [e1] at z
              exact zR2_en z (by omega)
            · by_cases h3 : g = 3
              · subst h3
                unfold zgp at z ⊢
                rw [hop, hf 30 (by decide), hz 133, hz 134, x1]
                rw [e1] at z
                exact ⟨z.1, by have := z.2.1; omega, z.2.2⟩
              · exact zgp_eq (fun _ => ⟨hf _ (by decide), hz _⟩) (fun e e' => by omega) (fun _ _ => hf _ (by decide)) (fun _ => ⟨hz _, hz _⟩) (fun _ => ⟨hz _, hz _, hz _⟩) (fun _ => hz _) z
          · split at hq
            · rename_i s d v hk hv
              split at hq
              · rename_i d2 hd2
                rcases List.mem_singleton.mp hq with rfl
                obtain ⟨z, zs, zd⟩ := gK_ok hk hw
                have z : zR1 (zfi h 111 31) (zfi h 111 30) (zei h 133) (zei h 134) (yev ρ s.2) (yev ρ d) := z
                rw [e1, r1] at z
                obtain ⟨m1, m2, m3, m4, m5⟩ := z
                have hv' := (gA_ok (by decide) hv hw).1
                have eat : (yev ρ (yadd (yscl 500 ru) en)).toNat = 500 * (yev ρ ru).toNat + (yev ρ s.2).toNat + (yev ρ en - yev ρ s.2).toNat := by
                  rw [yev_add, yev_scl]
                  omega
                rw [eat] at hv'
                have hst := gstp_ok hw zd m4 hd2 (zei h 134 (500 * (yev ρ ru).toNat + (yev ρ s.2).toNat + (yev ρ en - yev ρ s.2).toNat)) (fun y' hy => by
                  have := (gA_ok (by decide) hy hw).1
                  rw [eat] at this
                  exact this)
                obtain ⟨k1, k2, k3⟩ := hst
                refine (yln_kind (g := 1)).mpr ⟨zs, k3, ?_⟩
                show zR1 _ _ _ _ (yev ρ s.2) (yev ρ d2)
                rw [hop, hf 30 (by decide), hz 133, hz 134, r1, x1]
                refine ⟨m1, by omega, m3, k2, ?_⟩
                rw [show (1 + yev ρ en - yev ρ s.2).toNat = (yev ρ en - yev ρ s.2).toNat + 1 by omega, zfw_app m5, hv']
                exact k1
              · cases hq
            · cases hq
      · exact hkeep q hq
  · exact hkeep q hq
theorem gwFr_ok {x : yL} (hw : yWo (t, zgp xs) w ρ τ h) (hop : zfi h2 111 30 = yev ρ x) (hf : ∀ f, f ≠ 30 → zfi h2 111 f = zfi h 111 f) (hz : ∀ p, zei h2 p = zei h p) : ∀ q ∈ gwFr w x, yLn (t, zgp xs) h2 ρ w.1 q := by
  intro q hq
  unfold gwFr at hq
  rcases List.mem_append.mp hq with hq | hq
  · refine gkp_same hw (fun g x v hg => ?_) q hq
    have e := Nat.eq_of_beq_eq_true hg
    subst e
    exact zgp_eq (fun _ => ⟨hf _ (by decide), hz _⟩) (fun e => by omega) (fun e => by omega) (fun e => by omega) (fun e => by omega) (fun e => by omega)
  · split at hq
    · rename_i ru en v c v4 hru hen hk2 hk4
      have r1 := (gF_ok hru hw).1
      have e1 := (gF_ok hen hw).1
      cases hb : (yzero (ysub x (yadd (1, []) ru)) && (gL w (ysub en (500, [])) && gL w (yneg ru))) with
      | false => rw [hb] at hq; cases hq
      | true =>
        rw [hb, cond_true] at hq
        simp only [Bool.and_eq_true] at hb
        obtain ⟨b1, b2, b3⟩ := hb
        have x1 := yz_sub (ρ := ρ) b1
        rw [yev_add, yev_c] at x1
        have x2 := gL_sub b2 hw
        rw [yev_c] at x2
        have x3 := gL_neg b3 hw
        split at hq
        · rename_i k hk
          have k1 := (gA_ok (by decide) hk hw).1
          cases hb4 : (yzero (ysub k c) && gL w (ysub c (12, []))) with
          | false => rw [hb4] at hq; cases hq
          | true =>
            rw [hb4, cond_true] at hq
            rw [Bool.and_eq_true] at hb4
            have y1 := yz_sub (ρ := ρ) hb4.1
            have y2 := gL_sub hb4.2 hw
            rw [yev_c] at y2
            rcases List.mem_singleton.mp hq with rfl
            obtain ⟨z2, -, -⟩ := gK_ok hk2 hw
            obtain ⟨v4a, v4b⟩ := v4
            obtain ⟨z4, -, -⟩ := gK_ok hk4 hw
            have z2 : zR2 (zfi h 111 31) (zfi h 111 30) (zei h 133) (zei h 134) (zei h 137) (zei h 138) (zei h 139) (yev ρ c) := z2
            have z4 : zR4 (zfi h 111 30) (zei h 133) (zei h 134) (zei h 137) (zei h 138) (zei h 139) (zei h 140) := z4
            rw [e1, r1] at z2
            rw [r1] at z4
            refine (yln_kind (g := 4)).mpr ⟨ysp_con _ _, ysp_con _ _, ?_⟩
            show zR4 _ _ _ _ _ _ _
            rw [hop, hz 133, hz 134, hz 137, hz 138, hz 139, hz 140, x1]
            intro r hr
            by_cases hlt : (r : Int) < yev ρ ru
            · exact z4 r hlt
            · have er : r = (yev ρ ru).toNat := by omega
              rw [er, k1]
              exact ⟨by omega, fun c' hc' => zok_mono (z2.2.2 c' (by omega)) x2⟩
        · cases hq
    · cases hq
/-- behind a store into an array -/
theorem zgw_a {tt : Nat} {r i x : yL} (hw : yWo (t, zgp xs) w ρ τ h) (hr : 0 ≤ yev ρ r) (hx : ysp w.1 x) {kd N : Nat} {f : Nat → Int32} (hh : h[(yev ρ r).toNat]? = some (.inl (kd, N, .inl f))) (hi : 0 ≤ yev ρ i) {x0 : Int32} (hx0 : x0.toInt = yev ρ x) (hne : Nat.beq tt 79 = false) : ∀ q ∈ zgw w tt 0 r i x, yLn (t, zgp xs) (h.set (yev ρ r).toNat (.inl (kd, N, .inl (upd f (yev ρ i).toNat x0)))) ρ w.1 q := by
  intro q hq
  unfold zgw at hq
  rw [hne, cond_false] at hq
  have key : ∀ p : Nat, yzero (ysub r ((p : Int), [])) = true → (yev ρ r).toNat = p := fun p e => by
    have := yz_sub (ρ := ρ) e
    rw [yev_c] at this
    omega
  obtain ⟨s1, s2, s3⟩ := zset_a hh (yev ρ i).toNat x0
  generalize hH : h.set (yev ρ r).toNat (.inl (kd, N, .inl (upd f (yev ρ i).toNat x0))) = H at *
  clear hH hh
  cases h1 : Nat.beq tt 110 with
  | true =>
    rw [h1, cond_true] at hq
    cases hb : yzero (ysub r (142, [])) with
    | false => rw [hb] at hq; cases hq
    | true =>
      rw [hb, cond_true] at hq
      have e := key 142 hb
      rw [e] at s1 s2
      exact gwO_ok hw (fun f => s3 _ _) s1 (fun k hk => (s2 k).trans (if_neg hk)) hi q hq
  | false =>
  rw [h1, cond_false] at hq
  cases h1 : Nat.beq tt 101 with
  | true =>
    rw [h1, cond_true] at hq
    cases hb : yzero (ysub r (133, [])) with
    | false => rw [hb] at hq; cases hq
    | true =>
      rw [hb, cond_true] at hq
      have e := key 133 hb
      rw [e] at s1 s2
      exact gwS_ok hw (fun f => s3 _ _) (fun p a _ => s1 p a) (fun k hk => ⟨(s2 k).trans (if_neg hk), congrFun (s1 134 (by decide)) k⟩) hi q hq
  | false =>
  rw [h1, cond_false] at hq
  cases h1 : Nat.beq tt 102 with
  | true =>
    rw [h1, cond_true] at hq
    cases hb : yzero (ysub r (134, [])) with
    | false => rw [hb] at hq; cases hq
    | true =>
      rw [hb, cond_true] at hq
      have e := key 134 hb
      rw [e] at s1 s2
      exact gwS_ok hw (fun f => s3 _ _) (fun p _ a => s1 p a) (fun k hk => ⟨congrFun (s1 133 (by decide)) k, (s2 k).trans (if_neg hk)⟩) hi q hq
  | false =>
  rw [h1, cond_false] at hq
  cases h1 : Nat.beq tt 105 with
  | true =>
    rw [h1, cond_true] at hq
    cases hb : yzero (ysub r (137, [])) with
    | false => rw [hb] at hq; cases hq
    | true =>
      rw [hb, cond_true] at hq
      have e := key 137 hb
      rw [e] at s1 s2
      exact gwA_ok hw hx (fun f => s3 _ _) s1 (fun k hk => (s2 k).trans (if_neg hk)) hi q hq
  | false =>
  rw [h1, cond_false] at hq
  cases h1 : Nat.beq tt 106 with
  | true =>
    rw [h1, cond_true] at hq
    cases hb : yzero (ysub r (138, [])) with
    | false => rw [hb] at hq; cases hq
    | true =>
      rw [hb, cond_true] at hq
      have e := key 138 hb
      rw [e] at s1 s2
      exact gwB_ok hw hx (fun f => s3 _ _) s1 (fun k hk => (s2 k).trans (if_neg hk)) hi q hq
  | false =>
  rw [h1, cond_false] at hq
  cases h1 : Nat.beq tt 107 with
  | true =>
    rw [h1, cond_true] at hq
    cases hb : yzero (ysub r (139, [])) with
    | false => rw [hb] at hq; cases hq
    | true =>
      rw [hb, cond_true] at hq
      have e := key 139 hb
      rw [e] at s1 s2
      rw [hx0] at s2
      exact gwD_ok hw hx (fun f => s3 _ _) s1 s2 hi q hq
  | false =>
  rw [h1, cond_false] at hq
  cases h1 : Nat.beq tt 108 with
  | true =>
    rw [h1, cond_true] at hq
    cases hb : yzero (ysub r (140, [])) with
    | false => rw [hb] at hq; cases hq
    | true =>
      rw [hb, cond_true] at hq
      have e := key 140 hb
      rw [e] at s1 s2
      exact gwC_ok hw (fun f => s3 _ _) s1 (fun k hk => (s2 k).trans (if_neg hk)) hi q hq
  | false => rw [h1] at hq; cases hq
theorem zgw_f {tt b : Nat} {r i : yL} {v : yV} (hw : yWo (t, zgp xs) w ρ τ h) (hr : 0 ≤ yev ρ r) {cls : Nat} {fs : List Value} {u : Value} (hh : h[(yev ρ r).toNat]? = some (.inr (cls, fs))) (hb : b < fs.length) (hv : v.1 = 0) (hu : yVo ρ w.1 v u) (ht : Nat.beq tt 79 = true) : ∀ q ∈ zgw w tt b r i v.2, yLn (t, zgp xs) (h.set (yev ρ r).toNat (.inr (cls, fs.set b u))) ρ w.1 q := by
  intro q hq
  obtain ⟨v1, x⟩ := v
  dsimp only at hv hq
  subst hv
  obtain ⟨u1, x0, rfl, u3⟩ := hu
  dsimp only at u1 u3
  unfold zgw at hq
  rw [ht, cond_true] at hq
  cases hbr : yzero (ysub r (111, [])) with
  | false => rw [hbr] at hq; cases hq
  | true =>
    rw [hbr, cond_true] at hq
    have e : (yev ρ r).toNat = 111 := by
      have := yz_sub (ρ := ρ) hbr
      rw [yev_c] at this
      omega
    obtain ⟨s1, s2, s3⟩ := zset_f (u := .int x0) hh hb
    have s3 := s3 x0 rfl
    rw [u3] at s3
    generalize hH : h.set (yev ρ r).toNat (.inr (cls, fs.set b (.int x0))) = H at *
    rw [e] at s2 s3
    clear hH hh
    cases h1 : Nat.beq b 34 with
    | true =>
      rw [h1, cond_true] at hq
      have eb := Nat.eq_of_beq_eq_true h1
      subst eb
      rcases List.mem_append.mp hq with hq | hq
      · refine gkp_same hw (fun g x v hg => ?_) q hq
        have := Nat.le_of_ble_eq_true hg
        exact zgp_eq (fun e => by omega) (fun _ _ => s2 _ _ (Or.inr (by decide))) (fun _ _ => s2 _ _ (Or.inr (by decide))) (fun _ => ⟨s1 _, s1 _⟩) (fun _ => ⟨s1 _, s1 _, s1 _⟩) (fun _ => s1 _)
      · exact gwFo_ok hw s3 s1 q hq
    | false =>
      rw [h1, cond_false] at hq
      cases h1 : Nat.beq b 31 with
      | true =>
        rw [h1, cond_true] at hq
        have eb := Nat.eq_of_beq_eq_true h1
        subst eb
        exact gwFe_ok hw s3 (fun f hf => s2 _ _ (Or.inr hf)) s1 q hq
      | false =>
        rw [h1, cond_false] at hq
        cases h1 : Nat.beq b 30 with
        | true =>
          rw [h1, cond_true] at hq
          have eb := Nat.eq_of_beq_eq_true h1
          subst eb
          exact gwFr_ok hw s3 (fun f hf => s2 _ _ (Or.inr hf)) s1 q hq
        | false => rw [h1] at hq; cases hq
end GJ
end
section
/-! what follows at a load -/
noncomputable def gaf (l : List yL) (n : yN) (w : yW) : yW := match w with
  | (k, E, F, H, N) => (k, E, l ++ F, H, n ++ N)
theorem gaf_ok {tx : yTx} {w : yW} {ρ : yR} {τ : List Nat} {h : zH} {l : List yL} {n : yN} (hw : yWo tx w ρ τ h) (hl : ∀ f ∈ l, ysp w.1 f ∧ yev ρ f ≤ 0) (hn : ∀ q ∈ n, yLn tx h ρ w.1 q) : (gaf l n w).1 = w.1 ∧ yWo tx (gaf l n w) ρ τ h := by
  obtain ⟨k, E, F, H, N⟩ := w
  obtain ⟨g1, g2, g3, g4⟩ := hw
  refine ⟨rfl, g1, fun f hf => ?_, g3, fun q hq => ?_⟩
  · rcases List.mem_append.mp hf with hf | hf
    · exact hl f hf
    · exact g2 f hf
  · rcases List.mem_append.mp hq with hq | hq
    · exact hn q hq
    · exact g4 q hq
noncomputable def gl0 (w : yW) : yW := match gK w 0, gF w 34 with
  | some (_, b), some op => bif gL w (yneg op) && !(gL w (ysub b op)) then gaf [ysub b op] [] w else w
  | _, _ => w
noncomputable def gl1 (w : yW) : yW := match gK w 0, gF w 34 with
  | some (_, b), some op => (match gA w 142 (yadd (-1, []) op) with
    | some v => bif gL w (ysub (1, []) op) && (gbin w v && !(gL w (ysub (1, []) b))) then gaf [ysub (1, []) b] [] w else w
    | none => w)
  | _, _ => w
noncomputable def glS (w : yW) (X T i s : yL) : List yL × yN := fL (ysub X (yscl 1000 i)) fun n => bif gL w (yneg n) && (gL w (ysub n (999, [])) && gL w (ysub (yadd (1, []) i) T)) then
    (bif gL w s && gL w (yneg s) then ([ysub n (499, [])], [((100009, yadd (1001, []) X), T)])
    else bif gL w (ysub s (1, [])) && gL w (ysub (1, []) s) then (ysub n (499, []) :: (match gA w 134 i with
      | some y => [yneg y, ysub y (11, [])]
      | none => []), [((100009, yadd (1001, []) X), T)])
    else bif gL w (ysub s (10, [])) && gL w (ysub (10, []) s) then ([ysub (1, []) n], [((100009, yadd (1000, []) X), T)])
    else bif gL w (ysub (2, []) s) && (bif gL w (ysub s (9, [])) then true else gL w (ysub (11, []) s)) then ([ysub (2, []) n], [((100009, yadd (999, []) X), T)])
    else ([], [])) else ([], [])
noncomputable def gap (a b : List yL × yN) : List yL × yN := match a, b with
  | (f1, n1), (f2, n2) => (f1 ++ f2, n1 ++ n2)
noncomputable def glS1 (w : yW) (X T : yL) : yN → List yL × yN
  | [] => ([], [])
  | (v, s) :: r => bif Nat.beq v.1 137 then gap (glS w X T v.2 s) (glS1 w X T r) else glS1 w X T r
noncomputable def glS2 (w : yW) : yN → List yL × yN
  | [] => ([], [])
  | (v, T) :: r => bif Nat.beq v.1 100009 then gap (glS1 w v.2 T w.2.2.2.2) (glS2 w r) else glS2 w r
noncomputable def glB3 (w : yW) (ru i a b : yL) : yN → yN
  | [] => []
  | (u, k) :: r => bif Nat.beq u.1 144 && (gL w (yneg (ysub i (yscl 12 u.2))) && (gL w (yadd (1, []) (ysub (ysub i (yscl 12 u.2)) k)) && (gL w (yneg u.2) && gL w (yadd (1, []) (ysub u.2 ru))))) then ((100009, yscl 1000 (yadd (yscl 500 u.2) a)), yadd (yscl 500 u.2) b) :: glB3 w ru i a b r else glB3 w ru i a b r
noncomputable def glB2 (w : yW) (p1 p2 : Nat) (ru : yL) : yN → yN
  | [] => []
  | (v, a) :: r => bif Nat.beq v.1 (Nat.add p1 4) then (match gA w p2 v.2 with
    | some b => glB3 w ru v.2 a b w.2.2.2.2 ++ glB2 w p1 p2 ru r
    | none => glB2 w p1 p2 ru r) else glB2 w p1 p2 ru r
noncomputable def gnf (w : yW) : List yL → List yL
  | [] => []
  | f :: r => bif gL w f then gnf w r else f :: gnf w r
noncomputable def gnn (w : yW) : yN → yN
  | [] => []
  | (v, l) :: r => match ylnl w.2.2.2.2 v with
    | some _ => gnn w r
    | none => (v, l) :: gnn w r
noncomputable def glB (w : yW) : yW := match gK w 4, gF w 30 with
  | some _, some ru => gaf [] (gnn w (glB2 w 138 139 ru w.2.2.2.2 ++ glB2 w 137 138 ru w.2.2.2.2)) w
  | _, _ => w
noncomputable def glN (w : yW) : yW := match glS2 w w.2.2.2.2 with
  | (f, n) => gaf (gnf w f) (gnn w n) w
noncomputable def glR (w : yW) : yW := match gK w 4, gK w 5 with
  | none, none => w
  | _, _ => glN (glB w)
noncomputable def zgl (t b : Nat) (w : yW) : yW := bif Nat.beq t 79 then (bif Nat.beq b 34 then gl0 w else bif Nat.beq b 29 then gl1 w else bif Nat.beq b 49 || Nat.beq b 48 then glR w else w)
  else bif Nat.beq b 0 && (Nat.beq t 101 || (Nat.beq t 102 || (Nat.beq t 105 || (Nat.beq t 106 || (Nat.beq t 107 || Nat.beq t 108))))) then glR w else w
section GM
variable {t : Nat → List Int32} {xs : Nat → Int32} {w : yW} {ρ : yR} {τ : List Nat} {h : zH}
theorem gl0_ok (hw : yWo (t, zgp xs) w ρ τ h) : (gl0 w).1 = w.1 ∧ yWo (t, zgp xs) (gl0 w) ρ τ h := by
  unfold gl0
  split
  · rename_i v b op hb ho
    cases h1 : (gL w (yneg op) && !(gL w (ysub b op))) with
    | false => exact ⟨rfl, hw⟩
    | true =>
      rw [Bool.and_eq_true] at h1
      have o1 := gF_ok ho hw
      obtain ⟨z, -, zs⟩ := gK_ok hb hw
      replace z : yev ρ b = zbc (zei h 142) (zfi h 111 34).toNat := z
      have a1 := gL_neg h1.1 hw
      have a2 := (zbc_r (zei h 142) (zfi h 111 34).toNat).2
      refine gaf_ok hw (fun f hf => ?_) (fun q hq => by cases hq)
      rcases List.mem_singleton.mp hf with rfl
      refine ⟨ysp_sub zs o1.2, ?_⟩
      rw [yev_sub, ← o1.1]
      rw [← o1.1] at a1
      omega
  · exact ⟨rfl, hw⟩
theorem gl1_ok (hw : yWo (t, zgp xs) w ρ τ h) : (gl1 w).1 = w.1 ∧ yWo (t, zgp xs) (gl1 w) ρ τ h := by
  unfold gl1
  split
  · rename_i v b op hb ho
    split
    · rename_i v9 hv9
      cases h1 : (gL w (ysub (1, []) op) && (gbin w v9 && !(gL w (ysub (1, []) b)))) with
      | false => exact ⟨rfl, hw⟩
      | true =>
        simp only [Bool.and_eq_true] at h1
        have o1 := gF_ok ho hw
        obtain ⟨z, -, zs⟩ := gK_ok hb hw
        replace z : yev ρ b = zbc (zei h 142) (zfi h 111 34).toNat := z
        have a1 := gL_sub h1.1 hw
        rw [yev_c] at a1
        have a3 := (gA_ok (by decide) hv9 hw).1
        rw [yev_add, yev_c] at a3
        have a4 := gbin_ok h1.2.1 hw
        rw [o1.1, show (yev ρ op).toNat = (-1 + yev ρ op).toNat + 1 by omega] at z
        unfold zbc at z
        rw [a3, zbb_1 a4] at z
        have a2 := (zbc_r (zei h 142) (-1 + yev ρ op).toNat).1
        refine gaf_ok hw (fun f hf => ?_) (fun q hq => by cases hq)
        rcases List.mem_singleton.mp hf with rfl
        refine ⟨ysp_sub (ysp_con _ _) zs, ?_⟩
        rw [yev_sub, yev_c]
        omega
    · exact ⟨rfl, hw⟩
  · exact ⟨rfl, hw⟩
/-- facts and relations that hold -/
noncomputable def gPP (t : Nat → List Int32) (xs : Nat → Int32) (w : yW) (ρ : yR) (h : zH) (p : List yL × yN) : Prop := (∀ f ∈ p.1, ysp w.1 f ∧ yev ρ f ≤ 0) ∧ ∀ q ∈ p.2, yLn (t, zgp xs) h ρ w.1 q
theorem gPP_nil : gPP t xs w ρ h ([], []) := ⟨(fun _ z => by cases z), (fun _ z => by cases z)⟩
theorem gap_ok {a b : List yL × yN} (ha : gPP t xs w ρ h a) (hb : gPP t xs w ρ h b) : gPP t xs w ρ h (gap a b) := by
  obtain ⟨f1, n1⟩ := a
  obtain ⟨f2, n2⟩ := b
  exact ⟨fun f hf => (List.mem_append.mp hf).elim (ha.1 f) (hb.1 f), fun q hq => (List.mem_append.mp hq).elim (ha.2 q) (hb.2 q)⟩
theorem gPP_one {f : List yL} {X T : yL} (hf : ∀ g ∈ f, ysp w.1 g ∧ yev ρ g ≤ 0) (hX : ysp w.1 X) (hT : ysp w.1 T) (hz : zgp xs 5 h (yev ρ X) (yev ρ T)) : gPP t xs w ρ h (f, [((100009, X), T)]) := ⟨hf, fun q hq => by
  rcases List.mem_singleton.mp hq with rfl
  exact (yln_kind (g := 5)).mpr ⟨hX, hT, hz⟩⟩
theorem glS_ok {X T i s : yL} (hw : yWo (t, zgp xs) w ρ τ h) (hX : ysp w.1 X) (hT : ysp w.1 T) (hi : ysp w.1 i) (hs : zei h 133 (yev ρ i).toNat = yev ρ s) (hz : zgp xs 5 h (yev ρ X) (yev ρ T)) : gPP t xs w ρ h (glS w X T i s) := by
  unfold glS
  rw [fL_eq]
  have hn : ysp w.1 (ysub X (yscl 1000 i)) := ysp_sub hX (ysp_scl hi)
  have en : yev ρ (ysub X (yscl 1000 i)) = yev ρ X - 1000 * yev ρ i := by rw [yev_sub, yev_scl]
  generalize ysub X (yscl 1000 i) = n at hn en ⊢
  cases h1 : (gL w (yneg n) && (gL w (ysub n (999, [])) && gL w (ysub (yadd (1, []) i) T))) with
  | false => exact gPP_nil
  | true =>
    rw [cond_true]
    simp only [Bool.and_eq_true] at h1
    obtain ⟨b1, b2, b3⟩ := h1
    have b1 := gL_neg b1 hw
    have b2 := gL_sub b2 hw
    have b3 := gL_sub b3 hw
    rw [yev_add, yev_c] at b3
    rw [yev_c] at b2
    obtain ⟨e, m, T', x1, x2, x3, x4, x5, d, x6⟩ := hz
    have ei : yev ρ i = e := by omega
    have em : yev ρ n = m := by omega
    obtain ⟨kk, hk⟩ : ∃ kk, T' - e = kk + 1 := ⟨T' - e - 1, by omega⟩
    rw [hk] at x6
    unfold zfw at x6
    rw [ei, show ((e : Int)).toNat = e by omega] at hs
    rw [hs] at x6
    have hnew : ∀ m' : Nat, zfs (yev ρ s) (zei h 134 e) m = some m' → m' ≤ m + 1 → m' < 1000 → ∀ Y : yL, yev ρ Y = yev ρ X + 1000 + (m' - m) → zgp xs 5 h (yev ρ Y) (yev ρ T) := by
      intro m' hm hle hlt Y hY
      rw [hm] at x6
      exact ⟨e + 1, m', T', by omega, x2, hlt, by omega, by omega, d, by rw [show T' - (e + 1) = kk by omega]; exact x6⟩
    cases h2 : (gL w s && gL w (yneg s)) with
    | true =>
      rw [cond_true]
      rw [Bool.and_eq_true] at h2
      have c1 := gL_ok h2.1 hw
      have c2 := gL_neg h2.2 hw
      have c3 : yev ρ s = 0 := by omega
      have hst : zfs (yev ρ s) (zei h 134 e) m = some (m + 1) := by unfold zfs; rw [c3, if_pos rfl]
      refine gPP_one (fun g hg => ?_) (ysp_add (ysp_con _ _) hX) hT (hnew _ hst (Nat.le_refl _) (by omega) _ (by rw [yev_add, yev_c]; omega))
      rcases List.mem_singleton.mp hg with rfl
      refine ⟨ysp_sub hn (ysp_con _ _), ?_⟩
      rw [yev_sub, yev_c]
      omega
    | false =>
      rw [cond_false]
      cases h3 : (gL w (ysub s (1, [])) && gL w (ysub (1, []) s)) with
      | true =>
        rw [cond_true]
        rw [Bool.and_eq_true] at h3
        have c1 := gL_sub h3.1 hw
        have c2 := gL_sub h3.2 hw
        rw [yev_c] at c1 c2
        have c3 : yev ρ s = 1 := by omega
        have hst : (0 ≤ zei h 134 e ∧ zei h 134 e ≤ 11) ∧ zfs (yev ρ s) (zei h 134 e) m = some (m + 1) := by
          unfold zfs at x6 ⊢
          rw [c3, if_neg (by decide), if_pos rfl] at x6 ⊢
          by_cases hc : 0 ≤ zei h 134 e ∧ zei h 134 e ≤ 11
          · exact ⟨hc, if_pos hc⟩
          · rw [if_neg hc] at x6; cases x6
        refine gPP_one (fun g hg => ?_) (ysp_add (ysp_con _ _) hX) hT (hnew _ hst.2 (Nat.le_refl _) (by omega) _ (by rw [yev_add, yev_c]; omega))
        rcases List.mem_cons.mp hg with rfl | hg
        · refine ⟨ysp_sub hn (ysp_con _ _), ?_⟩
          rw [yev_sub, yev_c]
          omega
        · split at hg
          · rename_i y hy
            obtain ⟨y1, y2⟩ := gA_ok (by decide) hy hw
            rw [ei, show ((e : Int)).toNat = e by omega] at y1
            rw [y1] at hst
            rcases List.mem_cons.mp hg with rfl | hg
            · refine ⟨ysp_neg y2, ?_⟩
              rw [yev_neg]
              omega
            · rcases List.mem_singleton.mp hg with rfl
              refine ⟨ysp_sub y2 (ysp_con _ _), ?_⟩
              rw [yev_sub, yev_c]
              omega
          · cases hg
      | false =>
        rw [cond_false]
        cases h4 : (gL w (ysub s (10, [])) && gL w (ysub (10, []) s)) with
        | true =>
          rw [cond_true]
          rw [Bool.and_eq_true] at h4
          have c1 := gL_sub h4.1 hw
          have c2 := gL_sub h4.2 hw
          rw [yev_c] at c1 c2
          have c3 : yev ρ s = 10 := by omega
          have hst : 1 ≤ m ∧ zfs (yev ρ s) (zei h 134 e) m = some m := by
            unfold zfs at x6 ⊢
            rw [c3, if_neg (by decide), if_neg (by decide), if_pos rfl] at x6 ⊢
            by_cases hc : 1 ≤ m
            · exact ⟨hc, if_pos hc⟩
            · rw [if_neg hc] at x6; cases x6
          refine gPP_one (fun g hg => ?_) (ysp_add (ysp_con _ _) hX) hT (hnew _ hst.2 (by omega) (by omega) _ (by rw [yev_add, yev_c]; omega))
          rcases List.mem_singleton.mp hg with rfl
          refine ⟨ysp_sub (ysp_con _ _) hn, ?_⟩
          rw [yev_sub, yev_c]
          omega
        | false =>
          rw [cond_false]
          cases h5 : (gL w (ysub (2, []) s) && (bif gL w (ysub s (9, [])) then true else gL w (ysub (11, []) s))) with
          | false => exact gPP_nil
          | true =>
            rw [cond_true]
            rw [Bool.and_eq_true] at h5
            have c1 := gL_sub h5.1 hw
            rw [yev_c] at c1
            have c4 : yev ρ s ≠ 10 := by
              have b3 := h5.2
              cases h6 : gL w (ysub s (9, [])) with
              | true =>
                have := gL_sub h6 hw
                rw [yev_c] at this
                omega
              | false =>
                rw [h6, cond_false] at b3
                have := gL_sub b3 hw
                rw [yev_c] at this
                omega
            have hst : 2 ≤ m ∧ zfs (yev ρ s) (zei h 134 e) m = some (m - 1) := by
              unfold zfs at x6 ⊢
              rw [if_neg (by omega), if_neg (by omega), if_neg c4] at x6 ⊢
              by_cases hc : 2 ≤ m
              · exact ⟨hc, if_pos hc⟩
              · rw [if_neg hc] at x6; cases x6
            refine gPP_one (fun g hg => ?_) (ysp_add (ysp_con _ _) hX) hT (hnew _ hst.2 (by omega) (by omega) _ (by rw [yev_add, yev_c]; omega))
            rcases List.mem_singleton.mp hg with rfl
            refine ⟨ysp_sub (ysp_con _ _) hn, ?_⟩
            rw [yev_sub, yev_c]
            omega
theorem zel_mem {p : Nat} {v : yV} {l : yL} (hp : Nat.ble 100000 p = false) (hv : v.1 = p + 4) (hm : (v, l) ∈ w.2.2.2.2) (hw : yWo (t, zgp xs) w ρ τ h) : zei h p (yev ρ v.2).toNat = yev ρ l ∧ ysp w.1 v.2 ∧ ysp w.1 l := by
  obtain ⟨v1, v2⟩ := v
  dsimp only at hv
  subst hv
  obtain ⟨g1, g2, g3⟩ := hw.2.2.2 _ hm
  refine ⟨?_, g1, g2⟩
  have g3' : yL4 (t, zgp xs) h p (yev ρ v2) (yev ρ l) := g3
  unfold yL4 at g3'
  rw [hp] at g3'
  obtain ⟨kd, N, x, e1, e2⟩ := g3'
  unfold zei
  rw [e1]
  exact e2
theorem glS1_ok {X T : yL} (hw : yWo (t, zgp xs) w ρ τ h) (hX : ysp w.1 X) (hT : ysp w.1 T) (hz : zgp xs 5 h (yev ρ X) (yev ρ T)) : ∀ {N : yN}, (∀ q ∈ N, q ∈ w.2.2.2.2) → gPP t xs w ρ h (glS1 w X T N)
  | [], _ => gPP_nil
  | (v, s) :: r, hN => by
    have ih := glS1_ok hw hX hT hz (N := r) (fun q hq => hN q (List.mem_cons_of_mem _ hq))
    unfold glS1
    cases hb : Nat.beq v.1 137 with
    | false => exact ih
    | true =>
      obtain ⟨a, b, c⟩ := zel_mem (p := 133) (by decide) (Nat.eq_of_beq_eq_true hb) (hN _ List.mem_cons_self) hw
      exact gap_ok (glS_ok hw hX hT b a hz) ih
theorem glS2_ok (hw : yWo (t, zgp xs) w ρ τ h) : ∀ {N : yN}, (∀ q ∈ N, q ∈ w.2.2.2.2) → gPP t xs w ρ h (glS2 w N)
  | [], _ => gPP_nil
  | (v, T) :: r, hN => by
    have ih := glS2_ok hw (N := r) (fun q hq => hN q (List.mem_cons_of_mem _ hq))
    unfold glS2
    cases hb : Nat.beq v.1 100009 with
    | false => exact ih
    | true =>
      have e := Nat.eq_of_beq_eq_true hb
      have m := hw.2.2.2 _ (hN _ List.mem_cons_self)
      obtain ⟨v1, v2⟩ := v
      dsimp only at e
      subst e
      obtain ⟨a, b, c⟩ := (yln_kind (g := 5)).mp m
      exact gap_ok (glS1_ok hw a b c (fun _ hq => hq)) ih
theorem glB3_ok {ru i a b : yL} {P : Bool} (hw : yWo (t, zgp xs) w ρ τ h) (hru : gF w 30 = some ru) (h4 : zR4 (zfi h 111 30) (zei h 133) (zei h 134) (zei h 137) (zei h 138) (zei h 139) (zei h 140)) (ha : ysp w.1 a) (hb : ysp w.1 b) (hab : bif P then zei h 138 (yev ρ i).toNat = yev ρ a ∧ zei h 139 (yev ρ i).toNat = yev ρ b else zei h 137 (yev ρ i).toNat = yev ρ a ∧ zei h 138 (yev ρ i).toNat = yev ρ b) : ∀ {N : yN}, (∀ q ∈ N, q ∈ w.2.2.2.2) → ∀ q ∈ glB3 w ru i a b N, yLn (t, zgp xs) h ρ w.1 q
  | [], _, q, hq => by cases hq
  | (u, k) :: r, hN, q, hq => by
    have ih := glB3_ok hw hru h4 ha hb hab (N := r) (fun q hq => hN q (List.mem_cons_of_mem _ hq))
    unfold glB3 at hq
    cases hc : (Nat.beq u.1 144 && (gL w (yneg (ysub i (yscl 12 u.2))) && (gL w (yadd (1, []) (ysub (ysub i (yscl 12 u.2)) k)) && (gL w (yneg u.2) && gL w (yadd (1, []) (ysub u.2 ru)))))) with
    | false => rw [hc, cond_false] at hq; exact ih q hq
    | true =>
      rw [hc, cond_true] at hq
      rcases List.mem_cons.mp hq with rfl | hq
      · simp only [Bool.and_eq_true] at hc
        obtain ⟨c1, c2, c3, c4, c5⟩ := hc
        obtain ⟨k1, k2, k3⟩ := zel_mem (p := 140) (by decide) (Nat.eq_of_beq_eq_true c1) (hN _ List.mem_cons_self) hw
        have d2 := gL_neg c2 hw
        have d3 := gL_ok c3 hw
        have d4 := gL_neg c4 hw
        have d5 := gL_ok c5 hw
        have r1 := (gF_ok hru hw).1
        rw [yev_sub, yev_scl] at d2
        rw [yev_add, yev_sub, yev_sub, yev_scl, yev_c] at d3
        rw [yev_add, yev_sub, yev_c] at d5
        obtain ⟨f1, f2⟩ := h4 (yev ρ u.2).toNat (by omega)
        rw [k1] at f1 f2
        have f3 := f2 (yev ρ i - 12 * yev ρ u.2).toNat (by omega)
        rw [show 12 * (yev ρ u.2).toNat + (yev ρ i - 12 * yev ρ u.2).toNat = (yev ρ i).toNat by omega] at f3
        have f4 : zva (zei h 133) (zei h 134) (yev ρ u.2).toNat (yev ρ a) (yev ρ b) ∧ yev ρ b ≤ 500 := by
          obtain ⟨p1, p2, p3⟩ := f3
          cases P with
          | true =>
            rw [cond_true] at hab
            rw [hab.1, hab.2] at p2
            rw [hab.2] at p3
            exact ⟨p2, p3⟩
          | false =>
            rw [cond_false] at hab
            rw [hab.1, hab.2] at p1
            rw [hab.2] at p2
            exact ⟨p1, by have := p2.2.1; omega⟩
        obtain ⟨⟨p1, p2, m, p3⟩, p4⟩ := f4
        refine (yln_kind (g := 5)).mpr ⟨ysp_scl (ysp_add (ysp_scl k2) ha), ysp_add (ysp_scl k2) hb, ?_⟩
        refine ⟨500 * (yev ρ u.2).toNat + (yev ρ a).toNat, 0, 500 * (yev ρ u.2).toNat + (yev ρ b).toNat, ?_, ?_, by omega, by omega, by omega, m, ?_⟩
        · rw [yev_scl, yev_add, yev_scl]
          omega
        · rw [yev_add, yev_scl]
          omega
        · rw [show 500 * (yev ρ u.2).toNat + (yev ρ b).toNat - (500 * (yev ρ u.2).toNat + (yev ρ a).toNat) = (yev ρ b - yev ρ a).toNat by omega]
          exact p3
      · exact ih q hq
theorem glB2_ok {p1 p2 : Nat} {ru : yL} (P : Bool) (hp : bif P then p1 = 138 ∧ p2 = 139 else p1 = 137 ∧ p2 = 138) (hw : yWo (t, zgp xs) w ρ τ h) (hru : gF w 30 = some ru) (h4 : zR4 (zfi h 111 30) (zei h 133) (zei h 134) (zei h 137) (zei h 138) (zei h 139) (zei h 140)) : ∀ {N : yN}, (∀ q ∈ N, q ∈ w.2.2.2.2) → ∀ q ∈ glB2 w p1 p2 ru N, yLn (t, zgp xs) h ρ w.1 q
  | [], _, q, hq => by cases hq
  | (v, a) :: r, hN, q, hq => by
    have ih := glB2_ok P hp hw hru h4 (N := r) (fun q hq => hN q (List.mem_cons_of_mem _ hq))
    unfold glB2 at hq
    cases hc : Nat.beq v.1 (Nat.add p1 4) with
    | false => rw [hc, cond_false] at hq; exact ih q hq
    | true =>
      rw [hc, cond_true] at hq
      split at hq
      · rename_i b hb
        rcases List.mem_append.mp hq with hq1 | hq1
        · cases P with
          | true =>
            rw [cond_true] at hp
            obtain ⟨rfl, rfl⟩ := hp
            obtain ⟨e1, e2, e3⟩ := zel_mem (p := 138) (by decide) (Nat.eq_of_beq_eq_true hc) (hN _ List.mem_cons_self) hw
            obtain ⟨e4, e5⟩ := gA_ok (by decide) hb hw
            exact glB3_ok (P := true) hw hru h4 e3 e5 ⟨e1, e4⟩ (fun _ hq => hq) q hq1
          | false =>
            rw [cond_false] at hp
            obtain ⟨rfl, rfl⟩ := hp
            obtain ⟨e1, e2, e3⟩ := zel_mem (p := 137) (by decide) (Nat.eq_of_beq_eq_true hc) (hN _ List.mem_cons_self) hw
            obtain ⟨e4, e5⟩ := gA_ok (by decide) hb hw
            exact glB3_ok (P := false) hw hru h4 e3 e5 ⟨e1, e4⟩ (fun _ hq => hq) q hq1
        · exact ih q hq1
      · exact ih q hq
theorem gnf_mem {f : yL} : ∀ {l : List yL}, f ∈ gnf w l → f ∈ l
  | [], hf => hf
  | g :: r, hf => by
    unfold gnf at hf
    cases hb : gL w g with
    | true => rw [hb, cond_true] at hf; exact List.mem_cons_of_mem _ (gnf_mem hf)
    | false =>
      rw [hb, cond_false] at hf
      rcases List.mem_cons.mp hf with rfl | hf
      · exact List.mem_cons_self
      · exact List.mem_cons_of_mem _ (gnf_mem hf)
theorem gnn_mem {q : yV × yL} : ∀ {l : yN}, q ∈ gnn w l → q ∈ l
  | [], hf => hf
  | (v, l) :: r, hf => by
    unfold gnn at hf
    split at hf
    · exact List.mem_cons_of_mem _ (gnn_mem hf)
    · rcases List.mem_cons.mp hf with rfl | hf
      · exact List.mem_cons_self
      · exact List.mem_cons_of_mem _ (gnn_mem hf)
theorem glB_ok (hw : yWo (t, zgp xs) w ρ τ h) : (glB w).1 = w.1 ∧ yWo (t, zgp xs) (glB w) ρ τ h := by
  unfold glB
  split
  · rename_i v ru hv hru
    obtain ⟨va, vb⟩ := v
    obtain ⟨z, -, -⟩ := gK_ok hv hw
    refine gaf_ok hw (fun _ hf => by cases hf) (fun q hq => ?_)
    rcases List.mem_append.mp (gnn_mem hq) with hq | hq
    · exact glB2_ok true ⟨rfl, rfl⟩ hw hru z (fun _ hq => hq) q hq
    · exact glB2_ok false ⟨rfl, rfl⟩ hw hru z (fun _ hq => hq) q hq
  · exact ⟨rfl, hw⟩
theorem glN_ok (hw : yWo (t, zgp xs) w ρ τ h) : (glN w).1 = w.1 ∧ yWo (t, zgp xs) (glN w) ρ τ h := by
  unfold glN
  split
  rename_i f n he
  have hp := glS2_ok hw (N := w.2.2.2.2) (fun _ hq => hq)
  rw [he] at hp
  exact gaf_ok hw (fun g hg => hp.1 g (gnf_mem hg)) (fun q hq => hp.2 q (gnn_mem hq))
theorem glR_ok (hw : yWo (t, zgp xs) w ρ τ h) : (glR w).1 = w.1 ∧ yWo (t, zgp xs) (glR w) ρ τ h := by
  unfold glR
  split
  · exact ⟨rfl, hw⟩
  · obtain ⟨a, b⟩ := glB_ok hw
    obtain ⟨c, d⟩ := glN_ok b
    exact ⟨c.trans a, d⟩
theorem zgl_ok (hw : yWo (t, zgp xs) w ρ τ h) (tt b : Nat) : (zgl tt b w).1 = w.1 ∧ yWo (t, zgp xs) (zgl tt b w) ρ τ h := by
  unfold zgl
  cases Nat.beq tt 79 with
  | true =>
    rw [cond_true]
    cases Nat.beq b 34 with
    | true => exact gl0_ok hw
    | false =>
      rw [cond_false]
      cases Nat.beq b 29 with
      | true => exact gl1_ok hw
      | false =>
        rw [cond_false]
        cases (Nat.beq b 49 || Nat.beq b 48) with
        | true => exact glR_ok hw
        | false => exact ⟨rfl, hw⟩
  | false =>
    rw [cond_false]
    cases (Nat.beq b 0 && (Nat.beq tt 101 || (Nat.beq tt 102 || (Nat.beq tt 105 || (Nat.beq tt 106 || (Nat.beq tt 107 || Nat.beq tt 108)))))) with
    | true => exact glR_ok hw
    | false => exact ⟨rfl, hw⟩
end GM
end
section
/-! the remembered relations stand under every store and load -/
noncomputable def zGxT (TG : List Nat) (TT : List yC) : Prop := TG[111]? = some 79 ∧ TG[142]? = some 110 ∧ TG[133]? = some 101 ∧ TG[134]? = some 102 ∧ TG[137]? = some 105 ∧ TG[138]? = some 106 ∧ TG[139]? = some 107 ∧ TG[140]? = some 108 ∧ ∀ t : Nat, t = 110 ∨ t = 101 ∨ t = 102 ∨ t = 105 ∨ t = 106 ∨ t = 107 ∨ t = 108 → ∃ q, TT[t]? = some (.inr q)
section GZ
variable {t : Nat → List Int32} {xs : Nat → Int32} {TG : List Nat} {TT : List yC} {I : zH → Prop} {τ : List Nat} {h h2 : zH}
theorem zfr_f {p k f : Nat} (hτ : τ[p]? = some k) (hh : yHo TT τ h) (hf : yFr (fun t f => !(zgx t f)) τ h h2) (hg : zgx k f = true) : zfi h2 p f = zfi h p f := by
  obtain ⟨ct, c, a1, a2, -⟩ := hh.2 _ _ hτ
  obtain ⟨c2, b1, b2⟩ := hf _ _ _ hτ a2
  unfold zfi
  rw [a2, b1]
  match c, c2, b2 with
  | .inr (x, fs), .inr (y, gs), b2 =>
    dsimp only
    rw [b2.2.2 f (by dsimp only; rw [hg]; rfl)]
  | .inl (k, N, x), .inl (k2, N2, y), b2 => rfl
theorem zfr_e {p k : Nat} (hτ : τ[p]? = some k) (hh : yHo TT τ h) (hf : yFr (fun t f => !(zgx t f)) τ h h2) (hg : zgx k 0 = true) : zei h2 p = zei h p := by
  obtain ⟨ct, c, a1, a2, -⟩ := hh.2 _ _ hτ
  obtain ⟨c2, b1, b2⟩ := hf _ _ _ hτ a2
  funext i
  unfold zei
  rw [a2, b1]
  match c, c2, b2 with
  | .inr (x, fs), .inr (y, gs), b2 => rfl
  | .inl (k, N, x), .inl (k2, N2, y), b2 =>
    dsimp only
    rw [b2.2.2 (by dsimp only; rw [hg]; rfl)]
theorem zgx_t {k b : Nat} (h : zgx k b = true) : (k = 79 ∧ (b = 34 ∨ b = 31 ∨ b = 30)) ∨ (b = 0 ∧ (k = 110 ∨ k = 101 ∨ k = 102 ∨ k = 105 ∨ k = 106 ∨ k = 107 ∨ k = 108)) := by
  unfold zgx at h
  cases hb : Nat.beq k 79 with
  | true =>
    rw [hb, cond_true] at h
    simp only [Bool.or_eq_true] at h
    exact Or.inl ⟨Nat.eq_of_beq_eq_true hb, h.imp Nat.eq_of_beq_eq_true (fun h => h.imp Nat.eq_of_beq_eq_true Nat.eq_of_beq_eq_true)⟩
  | false =>
    rw [hb, cond_false] at h
    simp only [Bool.or_eq_true, Bool.and_eq_true] at h
    refine Or.inr ⟨Nat.eq_of_beq_eq_true h.1, ?_⟩
    rcases h.2 with q | q | q | q | q | q | q <;> have e := Nat.eq_of_beq_eq_true q <;> subst e <;> decide
theorem zGdo_ok {gd : List (Nat × Nat × Nat)} (hX : zGxT TG TT) (hg : yGd0 TG I gd) : yGdo (t, zgp xs) TG TT I (gd, zgx, zgw, zgl) := by
  obtain ⟨t1, t2, t3, t4, t5, t6, t7, t8, t9⟩ := hX
  refine ⟨hg, ?_, ?_, ?_, ?_⟩
  · intro τ h h2 hp hh hf k x v
    refine zgp_eq (fun _ => ⟨zfr_f (hp _ _ t1) hh hf (by decide), zfr_e (hp _ _ t2) hh hf (by decide)⟩) (fun _ _ => zfr_f (hp _ _ t1) hh hf (by decide)) (fun _ _ => zfr_f (hp _ _ t1) hh hf (by decide)) (fun _ => ⟨zfr_e (hp _ _ t3) hh hf (by decide), zfr_e (hp _ _ t4) hh hf (by decide)⟩) (fun _ => ⟨zfr_e (hp _ _ t5) hh hf (by decide), zfr_e (hp _ _ t6) hh hf (by decide), zfr_e (hp _ _ t7) hh hf (by decide)⟩) (fun _ => zfr_e (hp _ _ t8) hh hf (by decide))
  · intro w ρ τ h hw hh hp hI k r i x hk hr hi hx a1 a2 kd N f a5 a3 a6 x0 hx0
    refine zgw_a hw a1 hx a5 a3 hx0 ?_
    cases hb : Nat.beq k 79 with
    | false => rfl
    | true =>
      have e := Nat.eq_of_beq_eq_true hb
      subst e
      cases hk
  · intro w ρ τ h hw hh hp hI k b r v hk hr a1 a2 cls fs u b2 hb hu q hq
    cases hv : Nat.beq v.1 0 with
    | false => rw [hv] at hq; cases hq
    | true =>
      rw [hv, cond_true] at hq
      rcases zgx_t hk with ⟨e, -⟩ | ⟨e, e2⟩
      · subst e
        exact zgw_f (tt := 79) (i := (0, [])) hw a1 b2 hb (Nat.eq_of_beq_eq_true hv) hu rfl q hq
      · obtain ⟨q9, e9⟩ := t9 k e2
        obtain ⟨ct, c, c1, c2, c3⟩ := hh.2 _ _ a2
        rw [e9] at c1
        cases c1
        rw [b2] at c2
        cases c2
        obtain ⟨kd, nlo, nhi, vt⟩ := q9
        obtain ⟨N, x, e, -⟩ := c3
        cases e
  · intro w ρ τ h hw hh hp hI k b
    exact zgl_ok hw k b
end GZ
end
section
section ZC
variable {tt : zT} {G : zG} {cd : zK} {bc bs : Nat} {rt : Option FieldType} {M : zM} {ret : zQ} {pc nx a b d : Nat} {v : Value} {L : zL} {s : List Value} {h : zH} {c n : Nat}
theorem r_virt0 {i r m1 m2 : Nat} {fs : List Value} (hM : zmono M) (hc : cd[pc]? = some (some (.invokevirtual i, nx, a, 0, d, v))) (hr : h[r]? = some (.inr (d, fs))) (hs : (s.map fun v => v.category).sum ≤ 8) (hb : zbud G a = (m1, m2)) (h1 : c + m1 ≤ bc) (h2 : n + m2 ≤ bs) (k : M a (.ref r :: []) h (fun w h2 => zR tt G cd bc bs rt M ret nx L (w.toList ++ s) h2 (c + m1) (n + m2))) : zR tt G cd bc bs rt M ret pc L (.ref r :: s) h c n := r_virt (as := []) hM hc rfl rfl hr hs hb h1 h2 k
theorem r_spec0 {i r m1 m2 : Nat} (hM : zmono M) (hc : cd[pc]? = some (some (.invokespecial i, nx, a, 0, d, v))) (hs : (s.map fun v => v.category).sum ≤ 8) (hb : zbud G a = (m1, m2)) (h1 : c + m1 ≤ bc) (h2 : n + m2 ≤ bs) (k : M a (.ref r :: []) h (fun w h2 => zR tt G cd bc bs rt M ret nx L (w.toList ++ s) h2 (c + m1) (n + m2))) : zR tt G cd bc bs rt M ret pc L (.ref r :: s) h c n := r_spec (as := []) hM hc rfl rfl hs hb h1 h2 k
theorem r_stat0 {i m1 m2 : Nat} (hM : zmono M) (hc : cd[pc]? = some (some (.invokestatic i, nx, a, 0, d, v))) (hs : (s.map fun v => v.category).sum ≤ 8) (hb : zbud G a = (m1, m2)) (h1 : c + m1 ≤ bc) (h2 : n + m2 ≤ bs) (k : M a [] h (fun w h2 => zR tt G cd bc bs rt M ret nx L (w.toList ++ s) h2 (c + m1) (n + m2))) : zR tt G cd bc bs rt M ret pc L (s) h c n := r_stat (as := []) hM hc rfl rfl hs hb h1 h2 k
theorem r_virt1 {i r m1 m2 : Nat} {x1 : Value} {fs : List Value} (hM : zmono M) (hc : cd[pc]? = some (some (.invokevirtual i, nx, a, 1, d, v))) (hr : h[r]? = some (.inr (d, fs))) (hs : (s.map fun v => v.category).sum ≤ 8) (hb : zbud G a = (m1, m2)) (h1 : c + m1 ≤ bc) (h2 : n + m2 ≤ bs) (k : M a (.ref r :: [x1]) h (fun w h2 => zR tt G cd bc bs rt M ret nx L (w.toList ++ s) h2 (c + m1) (n + m2))) : zR tt G cd bc bs rt M ret pc L (x1 :: .ref r :: s) h c n := r_virt (as := [x1]) hM hc rfl rfl hr hs hb h1 h2 k
theorem r_spec1 {i r m1 m2 : Nat} {x1 : Value} (hM : zmono M) (hc : cd[pc]? = some (some (.invokespecial i, nx, a, 1, d, v))) (hs : (s.map fun v => v.category).sum ≤ 8) (hb : zbud G a = (m1, m2)) (h1 : c + m1 ≤ bc) (h2 : n + m2 ≤ bs) (k : M a (.ref r :: [x1]) h (fun w h2 => zR tt G cd bc bs rt M ret nx L (w.toList ++ s) h2 (c + m1) (n + m2))) : zR tt G cd bc bs rt M ret pc L (x1 :: .ref r :: s) h c n := r_spec (as := [x1]) hM hc rfl rfl hs hb h1 h2 k
theorem r_stat1 {i m1 m2 : Nat} {x1 : Value} (hM : zmono M) (hc : cd[pc]? = some (some (.invokestatic i, nx, a, 1, d, v))) (hs : (s.map fun v => v.category).sum ≤ 8) (hb : zbud G a = (m1, m2)) (h1 : c + m1 ≤ bc) (h2 : n + m2 ≤ bs) (k : M a [x1] h (fun w h2 => zR tt G cd bc bs rt M ret nx L (w.toList ++ s) h2 (c + m1) (n + m2))) : zR tt G cd bc bs rt M ret pc L (x1 :: s) h c n := r_stat (as := [x1]) hM hc rfl rfl hs hb h1 h2 k
theorem r_virt2 {i r m1 m2 : Nat} {x1 x2 : Value} {fs : List Value} (hM : zmono M) (hc : cd[pc]? = some (some (.invokevirtual i, nx, a, 2, d, v))) (hr : h[r]? = some (.inr (d, fs))) (hs : (s.map fun v => v.category).sum ≤ 8) (hb : zbud G a = (m1, m2)) (h1 : c + m1 ≤ bc) (h2 : n + m2 ≤ bs) (k : M a (.ref r :: [x1, x2]) h (fun w h2 => zR tt G cd bc bs rt M ret nx L (w.toList ++ s) h2 (c + m1) (n + m2))) : zR tt G cd bc bs rt M ret pc L (x2 :: x1 :: .ref r :: s) h c n := r_virt (as := [x1, x2]) hM hc rfl rfl hr hs hb h1 h2 k
theorem r_spec2 {i r m1 m2 : Nat} {x1 x2 : Value} (hM : zmono M) (hc : cd[pc]? = some (some (.invokespecial i, nx, a, 2, d, v))) (hs : (s.map fun v => v.category).sum ≤ 8) (hb : zbud G a = (m1, m2)) (h1 : c + m1 ≤ bc) (h2 : n + m2 ≤ bs) (k : M a (.ref r :: [x1, x2]) h (fun w h2 => zR tt G cd bc bs rt M ret nx L (w.toList ++ s) h2 (c + m1) (n + m2))) : zR tt G cd bc bs rt M ret pc L (x2 :: x1 :: .ref r :: s) h c n := r_spec (as := [x1, x2]) hM hc rfl rfl hs hb h1 h2 k
theorem r_stat2 {i m1 m2 : Nat} {x1 x2 : Value} (hM : zmono M) (hc : cd[pc]? = some (some (.invokestatic i, nx, a, 2, d, v))) (hs : (s.map fun v => v.category).sum ≤ 8) (hb : zbud G a = (m1, m2)) (h1 : c + m1 ≤ bc) (h2 : n + m2 ≤ bs) (k : M a [x1, x2] h (fun w h2 => zR tt G cd bc bs rt M ret nx L (w.toList ++ s) h2 (c + m1) (n + m2))) : zR tt G cd bc bs rt M ret pc L (x2 :: x1 :: s) h c n := r_stat (as := [x1, x2]) hM hc rfl rfl hs hb h1 h2 k
theorem r_virt3 {i r m1 m2 : Nat} {x1 x2 x3 : Value} {fs : List Value} (hM : zmono M) (hc : cd[pc]? = some (some (.invokevirtual i, nx, a, 3, d, v))) (hr : h[r]? = some (.inr (d, fs))) (hs : (s.map fun v => v.category).sum ≤ 8) (hb : zbud G a = (m1, m2)) (h1 : c + m1 ≤ bc) (h2 : n + m2 ≤ bs) (k : M a (.ref r :: [x1, x2, x3]) h (fun w h2 => zR tt G cd bc bs rt M ret nx L (w.toList ++ s) h2 (c + m1) (n + m2))) : zR tt G cd bc bs rt M ret pc L (x3 :: x2 :: x1 :: .ref r :: s) h c n := r_virt (as := [x1, x2, x3]) hM hc rfl rfl hr hs hb h1 h2 k
theorem r_spec3 {i r m1 m2 : Nat} {x1 x2 x3 : Value} (hM : zmono M) (hc : cd[pc]? = some (some (.invokespecial i, nx, a, 3, d, v))) (hs : (s.map fun v => v.category).sum ≤ 8) (hb : zbud G a = (m1, m2)) (h1 : c + m1 ≤ bc) (h2 : n + m2 ≤ bs) (k : M a (.ref r :: [x1, x2, x3]) h (fun w h2 => zR tt G cd bc bs rt M ret nx L (w.toList ++ s) h2 (c + m1) (n + m2))) : zR tt G cd bc bs rt M ret pc L (x3 :: x2 :: x1 :: .ref r :: s) h c n := r_spec (as := [x1, x2, x3]) hM hc rfl rfl hs hb h1 h2 k
theorem r_stat3 {i m1 m2 : Nat} {x1 x2 x3 : Value} (hM : zmono M) (hc : cd[pc]? = some (some (.invokestatic i, nx, a, 3, d, v))) (hs : (s.map fun v => v.category).sum ≤ 8) (hb : zbud G a = (m1, m2)) (h1 : c + m1 ≤ bc) (h2 : n + m2 ≤ bs) (k : M a [x1, x2, x3] h (fun w h2 => zR tt G cd bc bs rt M ret nx L (w.toList ++ s) h2 (c + m1) (n + m2))) : zR tt G cd bc bs rt M ret pc L (x3 :: x2 :: x1 :: s) h c n := r_stat (as := [x1, x2, x3]) hM hc rfl rfl hs hb h1 h2 k
theorem r_virt4 {i r m1 m2 : Nat} {x1 x2 x3 x4 : Value} {fs : List Value} (hM : zmono M) (hc : cd[pc]? = some (some (.invokevirtual i, nx, a, 4, d, v))) (hr : h[r]? = some (.inr (d, fs))) (hs : (s.map fun v => v.category).sum ≤ 8) (hb : zbud G a = (m1, m2)) (h1 : c + m1 ≤ bc) (h2 : n + m2 ≤ bs) (k : M a (.ref r :: [x1, x2, x3, x4]) h (fun w h2 => zR tt G cd bc bs rt M ret nx L (w.toList ++ s) h2 (c + m1) (n + m2))) : zR tt G cd bc bs rt M ret pc L (x4 :: x3 :: x2 :: x1 :: .ref r :: s) h c n := r_virt (as := [x1, x2, x3, x4]) hM hc rfl rfl hr hs hb h1 h2 k
theorem r_spec4 {i r m1 m2 : Nat} {x1 x2 x3 x4 : Value} (hM : zmono M) (hc : cd[pc]? = some (some (.invokespecial i, nx, a, 4, d, v))) (hs : (s.map fun v => v.category).sum ≤ 8) (hb : zbud G a = (m1, m2)) (h1 : c + m1 ≤ bc) (h2 : n + m2 ≤ bs) (k : M a (.ref r :: [x1, x2, x3, x4]) h (fun w h2 => zR tt G cd bc bs rt M ret nx L (w.toList ++ s) h2 (c + m1) (n + m2))) : zR tt G cd bc bs rt M ret pc L (x4 :: x3 :: x2 :: x1 :: .ref r :: s) h c n := r_spec (as := [x1, x2, x3, x4]) hM hc rfl rfl hs hb h1 h2 k
theorem r_stat4 {i m1 m2 : Nat} {x1 x2 x3 x4 : Value} (hM : zmono M) (hc : cd[pc]? = some (some (.invokestatic i, nx, a, 4, d, v))) (hs : (s.map fun v => v.category).sum ≤ 8) (hb : zbud G a = (m1, m2)) (h1 : c + m1 ≤ bc) (h2 : n + m2 ≤ bs) (k : M a [x1, x2, x3, x4] h (fun w h2 => zR tt G cd bc bs rt M ret nx L (w.toList ++ s) h2 (c + m1) (n + m2))) : zR tt G cd bc bs rt M ret pc L (x4 :: x3 :: x2 :: x1 :: s) h c n := r_stat (as := [x1, x2, x3, x4]) hM hc rfl rfl hs hb h1 h2 k
theorem r_virt5 {i r m1 m2 : Nat} {x1 x2 x3 x4 x5 : Value} {fs : List Value} (hM : zmono M) (hc : cd[pc]? = some (some (.invokevirtual i, nx, a, 5, d, v))) (hr : h[r]? = some (.inr (d, fs))) (hs : (s.map fun v => v.category).sum ≤ 8) (hb : zbud G a = (m1, m2)) (h1 : c + m1 ≤ bc) (h2 : n + m2 ≤ bs) (k : M a (.ref r :: [x1, x2, x3, x4, x5]) h (fun w h2 => zR tt G cd bc bs rt M ret nx L (w.toList ++ s) h2 (c + m1) (n + m2))) : zR tt G cd bc bs rt M ret pc L (x5 :: x4 :: x3 :: x2 :: x1 :: .ref r :: s) h c n := r_virt (as := [x1, x2, x3, x4, x5]) hM hc rfl rfl hr hs hb h1 h2 k
theorem r_spec5 {i r m1 m2 : Nat} {x1 x2 x3 x4 x5 : Value} (hM : zmono M) (hc : cd[pc]? = some (some (.invokespecial i, nx, a, 5, d, v))) (hs : (s.map fun v => v.category).sum ≤ 8) (hb : zbud G a = (m1, m2)) (h1 : c + m1 ≤ bc) (h2 : n + m2 ≤ bs) (k : M a (.ref r :: [x1, x2, x3, x4, x5]) h (fun w h2 => zR tt G cd bc bs rt M ret nx L (w.toList ++ s) h2 (c + m1) (n + m2))) : zR tt G cd bc bs rt M ret pc L (x5 :: x4 :: x3 :: x2 :: x1 :: .ref r :: s) h c n := r_spec (as := [x1, x2, x3, x4, x5]) hM hc rfl rfl hs hb h1 h2 k
theorem r_stat5 {i m1 m2 : Nat} {x1 x2 x3 x4 x5 : Value} (hM : zmono M) (hc : cd[pc]? = some (some (.invokestatic i, nx, a, 5, d, v))) (hs : (s.map fun v => v.category).sum ≤ 8) (hb : zbud G a = (m1, m2)) (h1 : c + m1 ≤ bc) (h2 : n + m2 ≤ bs) (k : M a [x1, x2, x3, x4, x5] h (fun w h2 => zR tt G cd bc bs rt M ret nx L (w.toList ++ s) h2 (c + m1) (n + m2))) : zR tt G cd bc bs rt M ret pc L (x5 :: x4 :: x3 :: x2 :: x1 :: s) h c n := r_stat (as := [x1, x2, x3, x4, x5]) hM hc rfl rfl hs hb h1 h2 k
theorem r_virt6 {i r m1 m2 : Nat} {x1 x2 x3 x4 x5 x6 : Value} {fs : List Value} (hM : zmono M) (hc : cd[pc]? = some (some (.invokevirtual i, nx, a, 6, d, v))) (hr : h[r]? = some (.inr (d, fs))) (hs : (s.map fun v => v.category).sum ≤ 8) (hb : zbud G a = (m1, m2)) (h1 : c + m1 ≤ bc) (h2 : n + m2 ≤ bs) (k : M a (.ref r :: [x1, x2, x3, x4, x5, x6]) h (fun w h2 => zR tt G cd bc bs rt M ret nx L (w.toList ++ s) h2 (c + m1) (n + m2))) : zR tt G cd bc bs rt M ret pc L (x6 :: x5 :: x4 :: x3 :: x2 :: x1 :: .ref r :: s) h c n := r_virt (as := [x1, x2, x3, x4, x5, x6]) hM hc rfl rfl hr hs hb h1 h2 k
theorem r_spec6 {i r m1 m2 : Nat} {x1 x2 x3 x4 x5 x6 : Value} (hM : zmono M) (hc : cd[pc]? = some (some (.invokespecial i, nx, a, 6, d, v))) (hs : (s.map fun v => v.category).sum ≤ 8) (hb : zbud G a = (m1, m2)) (h1 : c + m1 ≤ bc) (h2 : n + m2 ≤ bs) (k : M a (.ref r :: [x1, x2, x3, x4, x5, x6]) h (fun w h2 => zR tt G cd bc bs rt M ret nx L (w.toList ++ s) h2 (c + m1) (n + m2))) : zR tt G cd bc bs rt M ret pc L (x6 :: x5 :: x4 :: x3 :: x2 :: x1 :: .ref r :: s) h c n := r_spec (as := [x1, x2, x3, x4, x5, x6]) hM hc rfl rfl hs hb h1 h2 k
theorem r_stat6 {i m1 m2 : Nat} {x1 x2 x3 x4 x5 x6 : Value} (hM : zmono M) (hc : cd[pc]? = some (some (.invokestatic i, nx, a, 6, d, v))) (hs : (s.map fun v => v.category).sum ≤ 8) (hb : zbud G a = (m1, m2)) (h1 : c + m1 ≤ bc) (h2 : n + m2 ≤ bs) (k : M a [x1, x2, x3, x4, x5, x6] h (fun w h2 => zR tt G cd bc bs rt M ret nx L (w.toList ++ s) h2 (c + m1) (n + m2))) : zR tt G cd bc bs rt M ret pc L (x6 :: x5 :: x4 :: x3 :: x2 :: x1 :: s) h c n := r_stat (as := [x1, x2, x3, x4, x5, x6]) hM hc rfl rfl hs hb h1 h2 k
theorem r_virt7 {i r m1 m2 : Nat} {x1 x2 x3 x4 x5 x6 x7 : Value} {fs : List Value} (hM : zmono M) (hc : cd[pc]? = some (some (.invokevirtual i, nx, a, 7, d, v))) (hr : h[r]? = some (.inr (d, fs))) (hs : (s.map fun v => v.category).sum ≤ 8) (hb : zbud G a = (m1, m2)) (h1 : c + m1 ≤ bc) (h2 : n + m2 ≤ bs) (k : M a (.ref r :: [x1, x2, x3, x4, x5, x6, x7]) h (fun w h2 => zR tt G cd bc bs rt M ret nx L (w.toList ++ s) h2 (c + m1) (n + m2))) : zR tt G cd bc bs rt M ret pc L (x7 :: x6 :: x5 :: x4 :: x3 :: x2 :: x1 :: .ref r :: s) h c n := r_virt (as := [x1, x2, x3, x4, x5, x6, x7]) hM hc rfl rfl hr hs hb h1 h2 k
theorem r_spec7 {i r m1 m2 : Nat} {x1 x2 x3 x4 x5 x6 x7 : Value} (hM : zmono M) (hc : cd[pc]? = some (some (.invokespecial i, nx, a, 7, d, v))) (hs : (s.map fun v => v.category).sum ≤ 8) (hb : zbud G a = (m1, m2)) (h1 : c + m1 ≤ bc) (h2 : n + m2 ≤ bs) (k : M a (.ref r :: [x1, x2, x3, x4, x5, x6, x7]) h (fun w h2 => zR tt G cd bc bs rt M ret nx L (w.toList ++ s) h2 (c + m1) (n + m2))) : zR tt G cd bc bs rt M ret pc L (x7 :: x6 :: x5 :: x4 :: x3 :: x2 :: x1 :: .ref r :: s) h c n := r_spec (as := [x1, x2, x3, x4, x5, x6, x7]) hM hc rfl rfl hs hb h1 h2 k
theorem r_stat7 {i m1 m2 : Nat} {x1 x2 x3 x4 x5 x6 x7 : Value} (hM : zmono M) (hc : cd[pc]? = some (some (.invokestatic i, nx, a, 7, d, v))) (hs : (s.map fun v => v.category).sum ≤ 8) (hb : zbud G a = (m1, m2)) (h1 : c + m1 ≤ bc) (h2 : n + m2 ≤ bs) (k : M a [x1, x2, x3, x4, x5, x6, x7] h (fun w h2 => zR tt G cd bc bs rt M ret nx L (w.toList ++ s) h2 (c + m1) (n + m2))) : zR tt G cd bc bs rt M ret pc L (x7 :: x6 :: x5 :: x4 :: x3 :: x2 :: x1 :: s) h c n := r_stat (as := [x1, x2, x3, x4, x5, x6, x7]) hM hc rfl rfl hs hb h1 h2 k
theorem r_virt8 {i r m1 m2 : Nat} {x1 x2 x3 x4 x5 x6 x7 x8 : Value} {fs : List Value} (hM : zmono M) (hc : cd[pc]? = some (some (.invokevirtual i, nx, a, 8, d, v))) (hr : h[r]? = some (.inr (d, fs))) (hs : (s.map fun v => v.category).sum ≤ 8) (hb : zbud G a = (m1, m2)) (h1 : c + m1 ≤ bc) (h2 : n + m2 ≤ bs) (k : M a (.ref r :: [x1, x2, x3, x4, x5, x6, x7, x8]) h (fun w h2 => zR tt G cd bc bs rt M ret nx L (w.toList ++ s) h2 (c + m1) (n + m2))) : zR tt G cd bc bs rt M ret pc L (x8 :: x7 :: x6 :: x5 :: x4 :: x3 :: x2 :: x1 :: .ref r :: s) h c n := r_virt (as := [x1, x2, x3, x4, x5, x6, x7, x8]) hM hc rfl rfl hr hs hb h1 h2 k
theorem r_spec8 {i r m1 m2 : Nat} {x1 x2 x3 x4 x5 x6 x7 x8 : Value} (hM : zmono M) (hc : cd[pc]? = some (some (.invokespecial i, nx, a, 8, d, v))) (hs : (s.map fun v => v.category).sum ≤ 8) (hb : zbud G a = (m1, m2)) (h1 : c + m1 ≤ bc) (h2 : n + m2 ≤ bs) (k : M a (.ref r :: [x1, x2, x3, x4, x5, x6, x7, x8]) h (fun w h2 => zR tt G cd bc bs rt M ret nx L (w.toList ++ s) h2 (c + m1) (n + m2))) : zR tt G cd bc bs rt M ret pc L (x8 :: x7 :: x6 :: x5 :: x4 :: x3 :: x2 :: x1 :: .ref r :: s) h c n := r_spec (as := [x1, x2, x3, x4, x5, x6, x7, x8]) hM hc rfl rfl hs hb h1 h2 k
theorem r_stat8 {i m1 m2 : Nat} {x1 x2 x3 x4 x5 x6 x7 x8 : Value} (hM : zmono M) (hc : cd[pc]? = some (some (.invokestatic i, nx, a, 8, d, v))) (hs : (s.map fun v => v.category).sum ≤ 8) (hb : zbud G a = (m1, m2)) (h1 : c + m1 ≤ bc) (h2 : n + m2 ≤ bs) (k : M a [x1, x2, x3, x4, x5, x6, x7, x8] h (fun w h2 => zR tt G cd bc bs rt M ret nx L (w.toList ++ s) h2 (c + m1) (n + m2))) : zR tt G cd bc bs rt M ret pc L (x8 :: x7 :: x6 :: x5 :: x4 :: x3 :: x2 :: x1 :: s) h c n := r_stat (as := [x1, x2, x3, x4, x5, x6, x7, x8]) hM hc rfl rfl hs hb h1 h2 k
end ZC
theorem zW_in {tt : zT} {G : zG} {d j : Nat} {as : List Value} {h : zH} {Q : zQ} {cd : zK} {nL bc bs : Nat} {rt : Option FieldType} (hp : G.1[j]? = some (cd, nL, rt, bc, bs)) (hl : (zargs as).length ≤ nL) (k : zR tt G cd bc bs rt (zW tt G d) Q 0 (zentry as nL) [] h 0 0) : zW tt G (d + 1) j as h Q := by
  unfold zW
  rw [hp]
  exact ⟨hl, k⟩
theorem zg_ne {h : zH} {i j : Nat} {e : zC} {x : Option zC} (q : i ≠ j) (k : h[j]? = x) : (h.set i e)[j]? = x := by rw [List.getElem?_set_ne q]; exact k
theorem zg_eq {h : zH} {i : Nat} {e e0 : zC} (k : h[i]? = some e0) : (h.set i e)[i]? = some e := List.getElem?_set_self (List.getElem?_eq_some_iff.mp k).1
theorem zlc_lt {x y : Int64} : lg_cmp x y < 0 ↔ x < y := by
  unfold lg_cmp
  by_cases h1 : y < x
  · have := Int64.lt_iff_toInt_lt.mp h1
    simp [h1, Int64.lt_iff_toInt_lt]
    omega
  · by_cases h2 : x = y <;> simp [h1, h2]
    have h3 : ¬ x.toInt = y.toInt := fun q => h2 (Int64.toInt_inj.mp q)
    rw [Int64.lt_iff_toInt_lt] at h1 ⊢
    omega
theorem zlc_ge {x y : Int64} : 0 ≤ lg_cmp x y ↔ y ≤ x := lg_cmp_ge x y
theorem zlc_eq {x y : Int64} : lg_cmp x y = 0 ↔ x = y := by
  unfold lg_cmp
  by_cases h1 : y < x
  · have := Int64.lt_iff_toInt_lt.mp h1
    have h3 : ¬ x = y := fun q => by rw [q] at this; omega
    simp [h1, h3]
  · by_cases h2 : x = y <;> simp [h1, h2]
theorem zlc_gt {x y : Int64} : 0 < lg_cmp x y ↔ y < x := by
  have h1 := zlc_ge (x := x) (y := y)
  have h2 := zlc_eq (x := x) (y := y)
  rw [Int32.lt_iff_toInt_lt, Int64.lt_iff_toInt_lt]
  rw [Int32.le_iff_toInt_le, Int64.le_iff_toInt_le] at h1
  rw [← Int32.toInt_inj, ← Int64.toInt_inj] at h2
  have e0 : (0 : Int32).toInt = 0 := by decide
  rw [e0] at h1 h2 ⊢
  omega
theorem zlc_le {x y : Int64} : lg_cmp x y ≤ 0 ↔ x ≤ y := by
  have h1 := zlc_gt (x := x) (y := y)
  rw [Int32.le_iff_toInt_le, Int64.le_iff_toInt_le]
  rw [Int32.lt_iff_toInt_lt, Int64.lt_iff_toInt_lt] at h1
  have e0 : (0 : Int32).toInt = 0 := by decide
  rw [e0] at h1 ⊢
  omega
theorem zi64 (x : Int32) : x.toInt64.toInt = x.toInt := Int32.toInt_toInt64 x
section ZCI
variable {tt : zT} {G : zG} {cd : zK} {bc bs : Nat} {rt : Option FieldType} {M : zM} {ret : zQ} {pc nx a b d : Nat} {v : Value} {L : zL} {s : List Value} {h : zH} {c n : Nat}
theorem r_ic_eq {i : Int} {x y : Int32} {X Y : Int} (hM : zmono M) (hc : cd[pc]? = some (some (.if_icmp .eq i, nx, a, b, d, v))) (hX : x.toInt = X) (hY : y.toInt = Y) (kt : X = Y → zR tt G cd bc bs rt M ret a L s h c n) (kf : X ≠ Y → zR tt G cd bc bs rt M ret nx L s h c n) : zR tt G cd bc bs rt M ret pc L (.int y :: .int x :: s) h c n := r_icmp_eq hM hc (fun q => kt ((fun q => by have := congrArg Int32.toInt q; rw [hX, hY] at this; exact this) q)) (fun q => kf ((fun q => fun z => q (Int32.toInt_inj.mp (by rw [hX, hY]; exact z))) q))
theorem r_i0_eq {i : Int} {x : Int32} {X : Int} (hM : zmono M) (hc : cd[pc]? = some (some (.ifCond .eq i, nx, a, b, d, v))) (hX : x.toInt = X) (kt : X = 0 → zR tt G cd bc bs rt M ret a L s h c n) (kf : X ≠ 0 → zR tt G cd bc bs rt M ret nx L s h c n) : zR tt G cd bc bs rt M ret pc L (.int x :: s) h c n := have hY : (0 : Int32).toInt = 0 := by decide
  r_if_eq hM hc (fun q => kt ((fun q => by have := congrArg Int32.toInt q; rw [hX, hY] at this; exact this) q)) (fun q => kf ((fun q => fun z => q (Int32.toInt_inj.mp (by rw [hX, hY]; exact z))) q))
theorem r_lc_eq {i : Int} {x y : Int64} {X Y : Int} {nx0 a0 b0 d0 : Nat} {v0 : Value} (hM : zmono M) (hc0 : cd[pc]? = some (some (.lcmp, nx0, a0, b0, d0, v0))) (hc : cd[nx0]? = some (some (.ifCond .eq i, nx, a, b, d, v))) (hX : x.toInt = X) (hY : y.toInt = Y) (kt : X = Y → zR tt G cd bc bs rt M ret a L s h c n) (kf : X ≠ Y → zR tt G cd bc bs rt M ret nx L s h c n) : zR tt G cd bc bs rt M ret pc L (.long y :: .long x :: s) h c n := r_lcmp hM hc0 (r_if_eq hM hc (fun q => kt ((fun q => by have := congrArg Int64.toInt q; rw [hX, hY] at this; exact this) (zlc_eq.mp q))) (fun q => kf ((fun q => fun z => q (Int64.toInt_inj.mp (by rw [hX, hY]; exact z))) ((fun z => fun w => z (zlc_eq.mpr w)) q))))
theorem r_ic_ne {i : Int} {x y : Int32} {X Y : Int} (hM : zmono M) (hc : cd[pc]? = some (some (.if_icmp .ne i, nx, a, b, d, v))) (hX : x.toInt = X) (hY : y.toInt = Y) (kt : X ≠ Y → zR tt G cd bc bs rt M ret a L s h c n) (kf : X = Y → zR tt G cd bc bs rt M ret nx L s h c n) : zR tt G cd bc bs rt M ret pc L (.int y :: .int x :: s) h c n := r_icmp_ne hM hc (fun q => kt ((fun q => fun z => q (Int32.toInt_inj.mp (by rw [hX, hY]; exact z))) q)) (fun q => kf ((fun q => by have := congrArg Int32.toInt q; rw [hX, hY] at this; exact this) q))
theorem r_i0_ne {i : Int} {x : Int32} {X : Int} (hM : zmono M) (hc : cd[pc]? = some (some (.ifCond .ne i, nx, a, b, d, v))) (hX : x.toInt = X) (kt : X ≠ 0 → zR tt G cd bc bs rt M ret a L s h c n) (kf : X = 0 → zR tt G cd bc bs rt M ret nx L s h c n) : zR tt G cd bc bs rt M ret pc L (.int x :: s) h c n := have hY : (0 : Int32).toInt = 0 := by decide
  r_if_ne hM hc (fun q => kt ((fun q => fun z => q (Int32.toInt_inj.mp (by rw [hX, hY]; exact z))) q)) (fun q => kf ((fun q => by have := congrArg Int32.toInt q; rw [hX, hY] at this; exact this) q))
theorem r_lc_ne {i : Int} {x y : Int64} {X Y : Int} {nx0 a0 b0 d0 : Nat} {v0 : Value} (hM : zmono M) (hc0 : cd[pc]? = some (some (.lcmp, nx0, a0, b0, d0, v0))) (hc : cd[nx0]? = some (some (.ifCond .ne i, nx, a, b, d, v))) (hX : x.toInt = X) (hY : y.toInt = Y) (kt : X ≠ Y → zR tt G cd bc bs rt M ret a L s h c n) (kf : X = Y → zR tt G cd bc bs rt M ret nx L s h c n) : zR tt G cd bc bs rt M ret pc L (.long y :: .long x :: s) h c n := r_lcmp hM hc0 (r_if_ne hM hc (fun q => kt ((fun q => fun z => q (Int64.toInt_inj.mp (by rw [hX, hY]; exact z))) ((fun z => fun w => z (zlc_eq.mpr w)) q))) (fun q => kf ((fun q => by have := congrArg Int64.toInt q; rw [hX, hY] at this; exact this) (zlc_eq.mp q))))
theorem r_ic_lt {i : Int} {x y : Int32} {X Y : Int} (hM : zmono M) (hc : cd[pc]? = some (some (.if_icmp .lt i, nx, a, b, d, v))) (hX : x.toInt = X) (hY : y.toInt = Y) (kt : X < Y → zR tt G cd bc bs rt M ret a L s h c n) (kf : Y ≤ X → zR tt G cd bc bs rt M ret nx L s h c n) : zR tt G cd bc bs rt M ret pc L (.int y :: .int x :: s) h c n := r_icmp_lt hM hc (fun q => kt ((fun q => by have := Int32.lt_iff_toInt_lt.mp q; rw [hX, hY] at this; exact this) q)) (fun q => kf ((fun q => by have := Int32.le_iff_toInt_le.mp q; rw [hX, hY] at this; exact this) q))
theorem r_i0_lt {i : Int} {x : Int32} {X : Int} (hM : zmono M) (hc : cd[pc]? = some (some (.ifCond .lt i, nx, a, b, d, v))) (hX : x.toInt = X) (kt : X < 0 → zR tt G cd bc bs rt M ret a L s h c n) (kf : 0 ≤ X → zR tt G cd bc bs rt M ret nx L s h c n) : zR tt G cd bc bs rt M ret pc L (.int x :: s) h c n := have hY : (0 : Int32).toInt = 0 := by decide
  r_if_lt hM hc (fun q => kt ((fun q => by have := Int32.lt_iff_toInt_lt.mp q; rw [hX, hY] at this; exact this) q)) (fun q => kf ((fun q => by have := Int32.le_iff_toInt_le.mp q; rw [hX, hY] at this; exact this) q))
theorem r_lc_lt {i : Int} {x y : Int64} {X Y : Int} {nx0 a0 b0 d0 : Nat} {v0 : Value} (hM : zmono M) (hc0 : cd[pc]? = some (some (.lcmp, nx0, a0, b0, d0, v0))) (hc : cd[nx0]? = some (some (.ifCond .lt i, nx, a, b, d, v))) (hX : x.toInt = X) (hY : y.toInt = Y) (kt : X < Y → zR tt G cd bc bs rt M ret a L s h c n) (kf : Y ≤ X → zR tt G cd bc bs rt M ret nx L s h c n) : zR tt G cd bc bs rt M ret pc L (.long y :: .long x :: s) h c n := r_lcmp hM hc0 (r_if_lt hM hc (fun q => kt ((fun q => by have := Int64.lt_iff_toInt_lt.mp q; rw [hX, hY] at this; exact this) (zlc_lt.mp q))) (fun q => kf ((fun q => by have := Int64.le_iff_toInt_le.mp q; rw [hX, hY] at this; exact this) (zlc_ge.mp q))))
theorem r_ic_ge {i : Int} {x y : Int32} {X Y : Int} (hM : zmono M) (hc : cd[pc]? = some (some (.if_icmp .ge i, nx, a, b, d, v))) (hX : x.toInt = X) (hY : y.toInt = Y) (kt : Y ≤ X → zR tt G cd bc bs rt M ret a L s h c n) (kf : X < Y → zR tt G cd bc bs rt M ret nx L s h c n) : zR tt G cd bc bs rt M ret pc L (.int y :: .int x :: s) h c n := r_icmp_ge hM hc (fun q => kt ((fun q => by have := Int32.le_iff_toInt_le.mp q; rw [hX, hY] at this; exact this) q)) (fun q => kf ((fun q => by have := Int32.lt_iff_toInt_lt.mp q; rw [hX, hY] at this; exact this) q))
theorem r_i0_ge {i : Int} {x : Int32} {X : Int} (hM : zmono M) (hc : cd[pc]? = some (some (.ifCond .ge i, nx, a, b, d, v))) (hX : x.toInt = X) (kt : 0 ≤ X → zR tt G cd bc bs rt M ret a L s h c n) (kf : X < 0 → zR tt G cd bc bs rt M ret nx L s h c n) : zR tt G cd bc bs rt M ret pc L (.int x :: s) h c n := have hY : (0 : Int32).toInt = 0 := by decide
  r_if_ge hM hc (fun q => kt ((fun q => by have := Int32.le_iff_toInt_le.mp q; rw [hX, hY] at this; exact this) q)) (fun q => kf ((fun q => by have := Int32.lt_iff_toInt_lt.mp q; rw [hX, hY] at this; exact this) q))
theorem r_lc_ge {i : Int} {x y : Int64} {X Y : Int} {nx0 a0 b0 d0 : Nat} {v0 : Value} (hM : zmono M) (hc0 : cd[pc]? = some (some (.lcmp, nx0, a0, b0, d0, v0))) (hc : cd[nx0]? = some (some (.ifCond .ge i, nx, a, b, d, v))) (hX : x.toInt = X) (hY : y.toInt = Y) (kt : Y ≤ X → zR tt G cd bc bs rt M ret a L s h c n) (kf : X < Y → zR tt G cd bc bs rt M ret nx L s h c n) : zR tt G cd bc bs rt M ret pc L (.long y :: .long x :: s) h c n := r_lcmp hM hc0 (r_if_ge hM hc (fun q => kt ((fun q => by have := Int64.le_iff_toInt_le.mp q; rw [hX, hY] at this; exact this) (zlc_ge.mp q))) (fun q => kf ((fun q => by have := Int64.lt_iff_toInt_lt.mp q; rw [hX, hY] at this; exact this) (zlc_lt.mp q))))
theorem r_ic_gt {i : Int} {x y : Int32} {X Y : Int} (hM : zmono M) (hc : cd[pc]? = some (some (.if_icmp .gt i, nx, a, b, d, v))) (hX : x.toInt = X) (hY : y.toInt = Y) (kt : Y < X → zR tt G cd bc bs rt M ret a L s h c n) (kf : X ≤ Y → zR tt G cd bc bs rt M ret nx L s h c n) : zR tt G cd bc bs rt M ret pc L (.int y :: .int x :: s) h c n := r_icmp_gt hM hc (fun q => kt ((fun q => by have := Int32.lt_iff_toInt_lt.mp q; rw [hX, hY] at this; exact this) q)) (fun q => kf ((fun q => by have := Int32.le_iff_toInt_le.mp q; rw [hX, hY] at this; exact this) q))
theorem r_i0_gt {i : Int} {x : Int32} {X : Int} (hM : zmono M) (hc : cd[pc]? = some (some (.ifCond .gt i, nx, a, b, d, v))) (hX : x.toInt = X) (kt : 0 < X → zR tt G cd bc bs rt M ret a L s h c n) (kf : X ≤ 0 → zR tt G cd bc bs rt M ret nx L s h c n) : zR tt G cd bc bs rt M ret pc L (.int x :: s) h c n := have hY : (0 : Int32).toInt = 0 := by decide
  r_if_gt hM hc (fun q => kt ((fun q => by have := Int32.lt_iff_toInt_lt.mp q; rw [hX, hY] at this; exact this) q)) (fun q => kf ((fun q => by have := Int32.le_iff_toInt_le.mp q; rw [hX, hY] at this; exact this) q))
theorem r_lc_gt {i : Int} {x y : Int64} {X Y : Int} {nx0 a0 b0 d0 : Nat} {v0 : Value} (hM : zmono M) (hc0 : cd[pc]? = some (some (.lcmp, nx0, a0, b0, d0, v0))) (hc : cd[nx0]? = some (some (.ifCond .gt i, nx, a, b, d, v))) (hX : x.toInt = X) (hY : y.toInt = Y) (kt : Y < X → zR tt G cd bc bs rt M ret a L s h c n) (kf : X ≤ Y → zR tt G cd bc bs rt M ret nx L s h c n) : zR tt G cd bc bs rt M ret pc L (.long y :: .long x :: s) h c n := r_lcmp hM hc0 (r_if_gt hM hc (fun q => kt ((fun q => by have := Int64.lt_iff_toInt_lt.mp q; rw [hX, hY] at this; exact this) (zlc_gt.mp q))) (fun q => kf ((fun q => by have := Int64.le_iff_toInt_le.mp q; rw [hX, hY] at this; exact this) (zlc_le.mp q))))
theorem r_ic_le {i : Int} {x y : Int32} {X Y : Int} (hM : zmono M) (hc : cd[pc]? = some (some (.if_icmp .le i, nx, a, b, d, v))) (hX : x.toInt = X) (hY : y.toInt = Y) (kt : X ≤ Y → zR tt G cd bc bs rt M ret a L s h c n) (kf : Y < X → zR tt G cd bc bs rt M ret nx L s h c n) : zR tt G cd bc bs rt M ret pc L (.int y :: .int x :: s) h c n := r_icmp_le hM hc (fun q => kt ((fun q => by have := Int32.le_iff_toInt_le.mp q; rw [hX, hY] at this; exact this) q)) (fun q => kf ((fun q => by have := Int32.lt_iff_toInt_lt.mp q; rw [hX, hY] at this; exact this) q))
theorem r_i0_le {i : Int} {x : Int32} {X : Int} (hM : zmono M) (hc : cd[pc]? = some (some (.ifCond .le i, nx, a, b, d, v))) (hX : x.toInt = X) (kt : X ≤ 0 → zR tt G cd bc bs rt M ret a L s h c n) (kf : 0 < X → zR tt G cd bc bs rt M ret nx L s h c n) : zR tt G cd bc bs rt M ret pc L (.int x :: s) h c n := have hY : (0 : Int32).toInt = 0 := by decide
  r_if_le hM hc (fun q => kt ((fun q => by have := Int32.le_iff_toInt_le.mp q; rw [hX, hY] at this; exact this) q)) (fun q => kf ((fun q => by have := Int32.lt_iff_toInt_lt.mp q; rw [hX, hY] at this; exact this) q))
theorem r_lc_le {i : Int} {x y : Int64} {X Y : Int} {nx0 a0 b0 d0 : Nat} {v0 : Value} (hM : zmono M) (hc0 : cd[pc]? = some (some (.lcmp, nx0, a0, b0, d0, v0))) (hc : cd[nx0]? = some (some (.ifCond .le i, nx, a, b, d, v))) (hX : x.toInt = X) (hY : y.toInt = Y) (kt : X ≤ Y → zR tt G cd bc bs rt M ret a L s h c n) (kf : Y < X → zR tt G cd bc bs rt M ret nx L s h c n) : zR tt G cd bc bs rt M ret pc L (.long y :: .long x :: s) h c n := r_lcmp hM hc0 (r_if_le hM hc (fun q => kt ((fun q => by have := Int64.le_iff_toInt_le.mp q; rw [hX, hY] at this; exact this) (zlc_le.mp q))) (fun q => kf ((fun q => by have := Int64.lt_iff_toInt_lt.mp q; rw [hX, hY] at this; exact this) (zlc_gt.mp q))))
end ZCI
end
section
/-! Arrays.fill and Arrays.copyOf by hand, for cells that are new -/
theorem zofN_add (i : Nat) : Int32.ofNat i + 1 = Int32.ofNat (i + 1) := (Int32.ofNat_add i 1).symm
theorem zofN_cl {i : Nat} (h : i < 2 ^ 31) : (Int32.ofNat i).toNatClampNeg = i := by
  have := yofN h
  show (Int32.ofNat i).toInt.toNat = i
  omega
theorem zvp {i N : Nat} (h : i < N) (hN : N < 2 ^ 31) : vp_in (Int32.ofNat i) N := (yvp_in (by rw [yofN (by omega)]; omega) (by rw [yofN (by omega)]; omega)).1
theorem zfill_loop {G : zG} (hG : G.1 = zProg) {d : Nat} {h : zH} {r N : Nat} {v : Int32} (hN : N ≤ 1000) {K : zQ} (hK : ∀ g : Nat → Int32, (∀ i, i < N → g i = v) → K none (h.set r (.inl (0, N, .inl g)))) (hl : r < h.length) : ∀ (k i : Nat) (g : Nat → Int32), i + k = N → (∀ j, j < i → g j = v) → zR zTt G cd_282 0 0 none (zW zTt G d) K 5 [some (.ref r), some (.int v), some (.int (Int32.ofNat i)), some (.int (Int32.ofNat N))] [] (h.set r (.inl (0, N, .inl g))) 0 0
  | 0, i, g, hi, hg => by
    have e : i = N := by omega
    subst e
    refine r_iload (zW_mono _ _ _) rfl rfl ?_
    refine r_iload (zW_mono _ _ _) rfl rfl ?_
    refine r_icmp_ge (zW_mono _ _ _) rfl (fun _ => ?_) (fun q => ?_)
    · exact r_vret (zW_mono _ _ _) rfl rfl (hK g hg)
    · have := Int32.lt_iff_toInt_lt.mp q
      omega
  | k + 1, i, g, hi, hg => by
    refine r_iload (zW_mono _ _ _) rfl rfl ?_
    refine r_iload (zW_mono _ _ _) rfl rfl ?_
    refine r_icmp_ge (zW_mono _ _ _) rfl (fun q => ?_) (fun _ => ?_)
    · have := Int32.le_iff_toInt_le.mp q
      rw [yofN (by omega), yofN (by omega)] at this
      omega
    · refine r_aload (zW_mono _ _ _) rfl rfl ?_
      refine r_iload (zW_mono _ _ _) rfl rfl ?_
      refine r_iload (zW_mono _ _ _) rfl rfl ?_
      refine r_iast (zW_mono _ _ _) rfl (List.getElem?_set_self hl) (zvp (by omega) (by omega)) ?_
      refine r_iinc (zW_mono _ _ _) rfl rfl (Nat.le_of_ble_eq_true rfl) ?_
      refine r_goto (zW_mono _ _ _) rfl ?_
      rw [List.set_set, zofN_cl (by omega), zofN_add]
      exact zfill_loop hG hN hK hl k (i + 1) _ (by omega) (fun j hj => by
        unfold upd
        by_cases e : j = i
        · rw [if_pos e]
        · rw [if_neg e]; exact hg j (by omega))
theorem zfill {G : zG} (hG : G.1 = zProg) {d : Nat} {h : zH} {r N : Nat} {v : Int32} {f : Nat → Int32} (hN : N ≤ 1000) (hr : h[r]? = some (.inl (0, N, .inl f))) {K : zQ} (hK : ∀ g : Nat → Int32, (∀ i, i < N → g i = v) → K none (h.set r (.inl (0, N, .inl g)))) : zW zTt G (d + 1) 282 [.ref r, .int v] h K := by
  have hl : r < h.length := by
    rcases Nat.lt_or_ge r h.length with z | z
    · exact z
    · rw [List.getElem?_eq_none z] at hr; cases hr
  refine zW_in (by rw [hG]; rfl) (Nat.le_of_ble_eq_true rfl) ?_
  refine r_push (zW_mono _ _ _) rfl ?_
  refine r_istore (zW_mono _ _ _) rfl (Nat.le_of_ble_eq_true rfl) ?_
  refine r_aload (zW_mono _ _ _) rfl rfl ?_
  refine r_alen (zW_mono _ _ _) rfl hr (by decide) ?_
  refine r_istore (zW_mono _ _ _) rfl (Nat.le_of_ble_eq_true rfl) ?_
  have h0 : h = h.set r (.inl (0, N, .inl f)) := by
    apply List.ext_getElem?
    intro q
    by_cases e : r = q
    · subst e; rw [List.getElem?_set_self hl, hr]
    · rw [List.getElem?_set_ne e]
  have := zfill_loop (d := d) hG hN hK hl N 0 f (by omega) (fun j hj => by omega)
  rw [← h0] at this
  exact this
end
