/-! FUNCTIONAL PROOFS IN TANDEM: a run that is known to end is walked once more, for what it answers; nothing of its safety is asked again. -/
noncomputable def zcj (M M2 : zM) : Prop := ∀ (j : Nat) (as : List Value) (h : zH) (Q1 Q2 : zQ), M j as h Q1 → M2 j as h Q2 → M j as h (fun w h2 => Q1 w h2 ∧ Q2 w h2)
noncomputable abbrev zconj (M : zM) : Prop := zcj M M
theorem zex1_and {X Y : zX} {e : zE} {L : zL} {st : List Value} {h : zH} {c n : Nat} : zex1 X e L st h c n → zex1 Y e L st h c n → zex1 (fun pc L st h c n => X pc L st h c n ∧ Y pc L st h c n) e L st h c n := by
  obtain ⟨ins, nx, a, b, d, v⟩ := e
  unfold zex1
  cases ins <;> dsimp only <;> (try split) <;> first
    | exact fun p _ => p.elim
    | exact fun p q => ⟨p, q⟩
    | exact fun p q => ⟨p.1, p.2, q.2⟩
    | exact fun p q => ⟨p.1, p.2.1, p.2.2, q.2.2⟩
    | exact fun p q => ⟨fun z => ⟨p.1 z, q.1 z⟩, fun z => ⟨p.2 z, q.2 z⟩⟩
theorem zex2_and {tt : zT} {G : zG} {bc bs : Nat} {rt : Option FieldType} {M M2 : zM} {ret ret2 : zQ} (hM : zcj M M2) {X Y : zX} {e : zE} {L : zL} {st : List Value} {h : zH} {c n : Nat} : zex2 tt G bc bs rt M ret X e L st h c n → zex2 tt G bc bs rt M2 ret2 Y e L st h c n → zex2 tt G bc bs rt M (fun w h => ret w h ∧ ret2 w h) (fun pc L st h c n => X pc L st h c n ∧ Y pc L st h c n) e L st h c n := by
  obtain ⟨ins, nx, a, b, d, v⟩ := e
  unfold zex2
  cases ins <;> dsimp only <;> (try split) <;> first
    | exact fun p _ => p.elim
    | exact fun p q => ⟨p, q⟩
    | exact fun p q => ⟨p.1, p.2, q.2⟩
    | exact fun p q => ⟨p.1, p.2.1, p.2.2, q.2.2⟩
    | exact fun p q => ⟨p.1, p.2.1, p.2.2.1, p.2.2.2.1, p.2.2.2.2.1, p.2.2.2.2.2, q.2.2.2.2.2⟩
    | exact fun p q => ⟨p.1, p.2.1, p.2.2.1, p.2.2.2.1, p.2.2.2.2.1, p.2.2.2.2.2.1, p.2.2.2.2.2.2, q.2.2.2.2.2.2⟩
    | exact fun p q => ⟨p.1, p.2.1, p.2.2.1, p.2.2.2.1, p.2.2.2.2.1, hM _ _ _ _ _ p.2.2.2.2.2 q.2.2.2.2.2⟩
    | exact fun p q => ⟨p.1, p.2.1, p.2.2.1, p.2.2.2.1, hM _ _ _ _ _ p.2.2.2.2 q.2.2.2.2⟩
    | exact fun p q => ⟨fun z => ⟨p.1 z, q.1 z⟩, fun z1 z2 => by
        obtain ⟨t, p1, p2⟩ := p.2 z1 z2
        obtain ⟨t2, q1, q2⟩ := q.2 z1 z2
        rw [p1] at q1
        cases q1
        exact ⟨t, p1, p2, q2⟩⟩
    | (intro p q
       obtain ⟨N, f, p1, p2, p3⟩ := p
       obtain ⟨N2, f2, q1, q2, q3⟩ := q
       rw [p1] at q1
       cases q1
       exact ⟨N, f, p1, p2, p3, q3⟩)
    | (intro p q
       obtain ⟨N, f, p1, p2, p3⟩ := p
       obtain ⟨N2, f2, q1, q2, q3⟩ := q
       rw [p1] at q1
       cases q1
       rw [p2] at q2
       cases q2
       exact ⟨N, f, p1, p2, p3, q3⟩)
    | (intro p q
       obtain ⟨k, N, f, p0, p1, p2, p3⟩ := p
       obtain ⟨k2, N2, f2, q0, q1, q2, q3⟩ := q
       rw [p1] at q1
       cases q1
       exact ⟨k, N, f, p0, p1, p2, p3, q3⟩)
    | (intro p q
       obtain ⟨k, N, f, p0, p1, p2⟩ := p
       obtain ⟨k2, N2, f2, q0, q1, q2⟩ := q
       rw [p1] at q1
       cases q1
       exact ⟨k, N, f, p0, p1, p2, q2⟩)
    | (intro p q
       obtain ⟨N, K, f, g, p0, p1, p2, p3⟩ := p
       obtain ⟨N2, K2, f2, g2, q0, q1, q2, q3⟩ := q
       rw [p0] at q0
       cases q0
       rw [p1] at q1
       cases q1
       exact ⟨N, K, f, g, p0, p1, p2, p3, q3⟩)
    | (intro p q
       obtain ⟨fs, t, p1, p2, p3, p4, p5, p6⟩ := p
       obtain ⟨fs2, t2, q1, q2, q3, q4, q5, q6⟩ := q
       rw [p1] at q1
       cases q1
       exact ⟨fs, t, p1, p2, p3, p4, p5, p6, q6⟩)
theorem zex12 {tt : zT} {G : zG} {bc bs : Nat} {rt : Option FieldType} {M : zM} {ret : zQ} {X Y : zX} {e : zE} {L : zL} {st : List Value} {h : zH} {c n : Nat} : zex1 X e L st h c n → zex2 tt G bc bs rt M ret Y e L st h c n → False := by
  obtain ⟨ins, nx, a, b, d, v⟩ := e
  unfold zex1 zex2
  cases ins <;> dsimp only <;> first
    | exact fun p _ => p
    | exact fun _ q => q
noncomputable abbrev tTr : zQ := fun _ _ => True
noncomputable abbrev tFz : zX := fun _ _ _ _ _ _ => False
/-- a run that comes to a cut (behind a step, if f is false), or to its end -/
noncomputable def tCt (tt : zT) (G : zG) (cd : zK) (bc bs : Nat) (rt : Option FieldType) (M : zM) (Q : zQ) (Z : zX) (f : Bool) (pc : Nat) (L : zL) (st : List Value) (h : zH) (c n : Nat) : Prop :=
  ∀ X : Bool → zX, (∀ f pc L st h c n, ((f = true ∧ Z pc L st h c n) ∨ zstep tt G bc bs rt M Q (X true) cd pc L st h c n) → X f pc L st h c n) → X f pc L st h c n
noncomputable def tG (tt : zT) (G : zG) (cd : zK) (bc bs : Nat) (rt : Option FieldType) (M : zM) (Q : zQ) (Z : zX) (f : Bool) (pc : Nat) (L : zL) (st : List Value) (h : zH) (c n : Nat) : Prop := zR tt G cd bc bs rt M tTr pc L st h c n → tCt tt G cd bc bs rt M Q Z f pc L st h c n
section TA
variable {tt : zT} {G : zG} {cd : zK} {bc bs : Nat} {rt : Option FieldType} {M M2 : zM} {ret ret2 Q : zQ} {Z : zX} {f : Bool} {pc : Nat} {L : zL} {st : List Value} {h : zH} {c n : Nat}
theorem zstep_and (hM : zcj M M2) {X Y : zX} : zstep tt G bc bs rt M ret X cd pc L st h c n → zstep tt G bc bs rt M2 ret2 Y cd pc L st h c n → zstep tt G bc bs rt M (fun w h => ret w h ∧ ret2 w h) (fun pc L st h c n => X pc L st h c n ∧ Y pc L st h c n) cd pc L st h c n := by
  unfold zstep zex
  split
  · intro p q
    rcases p with p | p <;> rcases q with q | q
    · exact Or.inl (zex1_and p q)
    · exact (zex12 p q).elim
    · exact (zex12 q p).elim
    · exact Or.inr (zex2_and hM p q)
  · exact fun p _ => p.elim
theorem zR.inv (hM : zmono M) (k : zR tt G cd bc bs rt M ret pc L st h c n) : zstep tt G bc bs rt M ret (zR tt G cd bc bs rt M ret) cd pc L st h c n :=
  k (fun pc L st h c n => zstep tt G bc bs rt M ret (zR tt G cd bc bs rt M ret) cd pc L st h c n) (fun _ _ _ _ _ _ q => zstep_mono hM (fun _ _ z => z) (fun _ _ _ _ _ _ z => zR.step hM z) q)
theorem zR_and (hM : zmono M) (hM2 : zmono M2) (hC : zcj M M2) (k1 : zR tt G cd bc bs rt M ret pc L st h c n) (k2 : zR tt G cd bc bs rt M2 ret2 pc L st h c n) : zR tt G cd bc bs rt M (fun w h => ret w h ∧ ret2 w h) pc L st h c n :=
  k1 (fun pc L st h c n => zR tt G cd bc bs rt M2 ret2 pc L st h c n → zR tt G cd bc bs rt M (fun w h => ret w h ∧ ret2 w h) pc L st h c n) (fun _ _ _ _ _ _ q z => zR.step hM (zstep_mono hM (fun _ _ z => z) (fun _ _ _ _ _ _ w => w.1 w.2) (zstep_and hC q (zR.inv hM2 z)))) k2
theorem tCt.fix (hM : zmono M) (z : (f = true ∧ Z pc L st h c n) ∨ zstep tt G bc bs rt M Q (tCt tt G cd bc bs rt M Q Z true) cd pc L st h c n) : tCt tt G cd bc bs rt M Q Z f pc L st h c n :=
  fun X hX => hX _ _ _ _ _ _ _ (z.imp id (fun q => zstep_mono hM (fun _ _ z => z) (fun _ _ _ _ _ _ q => q X hX) q))
theorem tCt.inv (hM : zmono M) (k : tCt tt G cd bc bs rt M Q Z f pc L st h c n) : (f = true ∧ Z pc L st h c n) ∨ zstep tt G bc bs rt M Q (tCt tt G cd bc bs rt M Q Z true) cd pc L st h c n :=
  k (fun f pc L st h c n => (f = true ∧ Z pc L st h c n) ∨ zstep tt G bc bs rt M Q (tCt tt G cd bc bs rt M Q Z true) cd pc L st h c n) (fun _ _ _ _ _ _ _ q => q.imp id (fun q => zstep_mono hM (fun _ _ z => z) (fun _ _ _ _ _ _ z => tCt.fix hM z) q))
theorem tG_cut (hM : zmono M) (z : Z pc L st h c n) : tG tt G cd bc bs rt M Q Z true pc L st h c n := fun _ => tCt.fix hM (Or.inl ⟨rfl, z⟩)
theorem tG_end (hM : zmono M) (k : tG tt G cd bc bs rt M Q tFz f pc L st h c n) (z : zR tt G cd bc bs rt M tTr pc L st h c n) : zR tt G cd bc bs rt M Q pc L st h c n :=
  k z (fun _ pc L st h c n => zR tt G cd bc bs rt M Q pc L st h c n) (fun _ _ _ _ _ _ _ q => q.elim (fun w => w.2.elim) (fun w => zR.step hM w))
/-- a loop: what holds at its head, each time -/
theorem tG_loop (hM : zmono M) (hC : zconj M) {V : zX} (hb : ∀ pc L st h c n, V pc L st h c n → tG tt G cd bc bs rt M Q (fun pc L st h c n => Z pc L st h c n ∨ V pc L st h c n) false pc L st h c n) (hi : V pc L st h c n) : tG tt G cd bc bs rt M Q Z f pc L st h c n := by
  intro z
  have key := z (fun pc L st h c n => zR tt G cd bc bs rt M tTr pc L st h c n ∧ ∀ f, tCt tt G cd bc bs rt M Q (fun pc L st h c n => Z pc L st h c n ∨ V pc L st h c n) f pc L st h c n → tCt tt G cd bc bs rt M Q Z f pc L st h c n) (fun pc L st h c n q => by
    have z1 : zR tt G cd bc bs rt M tTr pc L st h c n := zR.step hM (zstep_mono hM (fun _ _ z => z) (fun _ _ _ _ _ _ w => w.1) q)
    have go : ∀ f, zstep tt G bc bs rt M Q (tCt tt G cd bc bs rt M Q (fun pc L st h c n => Z pc L st h c n ∨ V pc L st h c n) true) cd pc L st h c n → tCt tt G cd bc bs rt M Q Z f pc L st h c n := fun f g => tCt.fix hM (Or.inr (zstep_mono hM (fun _ _ w => w.2) (fun _ _ _ _ _ _ w => w.1.2 true w.2) (zstep_and hC q g)))
    refine ⟨z1, fun f g => ?_⟩
    rcases tCt.inv hM g with ⟨e, g | g⟩ | g
    · exact tCt.fix hM (Or.inl ⟨e, g⟩)
    · rcases tCt.inv hM (hb _ _ _ _ _ _ g z1) with ⟨e2, _⟩ | g2
      · cases e2
      · exact go f g2
    · exact go f g)
  have k0 := key.2 false (hb _ _ _ _ _ _ hi z)
  rcases tCt.inv hM k0 with ⟨e, _⟩ | g
  · cases e
  · exact tCt.fix hM (Or.inr g)
end TA
theorem zW_cj (tt : zT) (G : zG) : ∀ d e : Nat, zcj (zW tt G d) (zW tt G e)
  | 0, _ => fun _ _ _ _ _ p _ => p
  | _ + 1, 0 => fun _ _ _ _ _ _ q => q.elim
  | d + 1, e + 1 => by
    intro j as h Q1 Q2
    unfold zW
    split
    · exact fun p q => ⟨p.1, zR_and (zW_mono tt G d) (zW_mono tt G e) (zW_cj tt G d e) p.2 q.2⟩
    · exact fun p _ => p
theorem zW_conj (tt : zT) (G : zG) (d : Nat) : zconj (zW tt G d) := zW_cj tt G d d
/-- what a call answers, if it comes to an end -/
noncomputable def tC (tt : zT) (G : zG) (j : Nat) (as : List Value) (h : zH) (Q : zQ) : Prop := ∀ d, zW tt G d j as h tTr → zW tt G d j as h Q
theorem tC.mono {tt : zT} {G : zG} {j : Nat} {as : List Value} {h : zH} {Q Q2 : zQ} (k : tC tt G j as h Q) (hq : ∀ w h2, Q w h2 → Q2 w h2) : tC tt G j as h Q2 := fun d z => zW_mono tt G d _ _ _ _ _ hq (k d z)
theorem tC.both {tt : zT} {G : zG} {j : Nat} {as : List Value} {h : zH} {P Q : zQ} (k : tC tt G j as h Q) {d : Nat} (z : zW tt G d j as h P) : zW tt G d j as h (fun w h2 => P w h2 ∧ Q w h2) := zW_conj tt G d _ _ _ _ _ z (k d (zW_mono tt G d _ _ _ _ _ (fun _ _ _ => trivial) z))
theorem tC_of {tt : zT} {G : zG} {j : Nat} {as : List Value} {h : zH} {Q : zQ} {D : Nat} (k : zW tt G D j as h Q) : tC tt G j as h Q := fun d z => zW_mono tt G d _ _ _ _ _ (fun _ _ w => w.2) (zW_cj tt G d D _ _ _ _ _ z k)
theorem tC_in {tt : zT} {G : zG} {j : Nat} {as : List Value} {h : zH} {Q : zQ} {cd : zK} {nL : Nat} {rt : Option FieldType} {bc bs : Nat} (hj : G.1[j]? = some (cd, nL, rt, bc, bs)) (k : ∀ d, tG tt G cd bc bs rt (zW tt G d) Q tFz false 0 (zentry as nL) [] h 0 0) : tC tt G j as h Q := by
  intro d z
  cases d with
  | zero => exact z.elim
  | succ d =>
    unfold zW at z ⊢
    rw [hj] at z ⊢
    exact ⟨z.1, tG_end (zW_mono tt G d) (k d) z.2⟩
noncomputable def tvI : Value → Int32
  | .int x => x
  | _ => 0
noncomputable def tvJ : Value → Int64
  | .long x => x
  | _ => 0
theorem tvI_i (x : Int32) : tvI (.int x) = x := rfl
theorem tvJ_j (x : Int64) : tvJ (.long x) = x := rfl
noncomputable def tvR : Value → Nat
  | .ref x => x
  | _ => 0
theorem tvR_r (x : Nat) : tvR (.ref x) = x := rfl
/-- fields, elements, lengths -/
noncomputable def tF (h : zH) (p b : Nat) : Value := match h[p]? with
  | some (.inr (_, fs)) => fs.getD b .null
  | _ => .null
noncomputable def tA (h : zH) (p i : Nat) : Int32 := match h[p]? with
  | some (.inl (_, _, .inl f)) => f i
  | _ => 0
noncomputable def tJ (h : zH) (p i : Nat) : Int64 := match h[p]? with
  | some (.inl (_, _, .inr (.inl f))) => f i
  | _ => 0
noncomputable def tO (h : zH) (p i : Nat) : Option Nat := match h[p]? with
  | some (.inl (_, _, .inr (.inr (.inr (.inr f))))) => f i
  | _ => none
noncomputable def tN (h : zH) (p : Nat) : Nat := match h[p]? with
  | some (.inl (_, N, _)) => N
  | _ => 0
noncomputable def tSF (h : zH) (r b : Nat) (w : Value) : zH := match h[r]? with
  | some (.inr (a, fs)) => h.set r (.inr (a, fs.set b w))
  | _ => h
noncomputable def tSA (h : zH) (r i : Nat) (x : Int32) : zH := match h[r]? with
  | some (.inl (k, N, .inl f)) => h.set r (.inl (k, N, .inl (upd f i x)))
  | _ => h
noncomputable def tSJ (h : zH) (r i : Nat) (x : Int64) : zH := match h[r]? with
  | some (.inl (k, N, .inr (.inl f))) => h.set r (.inl (k, N, .inr (.inl (vp_updL f i x))))
  | _ => h
noncomputable def tSO (h : zH) (r i : Nat) (x : Option Nat) : zH := match h[r]? with
  | some (.inl (k, N, .inr (.inr (.inr (.inr f))))) => h.set r (.inl (k, N, .inr (.inr (.inr (.inr (va_up f i x))))))
  | _ => h
/-- what a step that was taken says of its cell -/
noncomputable def tIn (h : zH) (r kd : Nat) (i : Int32) : Prop := ∃ (N : Nat) (f : Nat → Int32), h[r]? = some (.inl (kd, N, .inl f)) ∧ vp_in i N
noncomputable def tInJ (h : zH) (r : Nat) (i : Int32) : Prop := ∃ (N : Nat) (f : Nat → Int64), h[r]? = some (.inl (3, N, .inr (.inl f))) ∧ vp_in i N
noncomputable def tInO (h : zH) (r : Nat) (i : Int32) : Prop := ∃ (k N : Nat) (f : Nat → Option Nat), h[r]? = some (.inl (k, N, .inr (.inr (.inr (.inr f))))) ∧ vp_in i N
noncomputable def tFd (h : zH) (r b : Nat) : Prop := ∃ (a : Nat) (fs : List Value), h[r]? = some (.inr (a, fs)) ∧ b < fs.length
theorem tup_at {α : Type} {h : List α} {r : Nat} {x y : α} (e : h[r]? = some x) (p : Nat) : (h.set r y)[p]? = if p = r then some y else h[p]? := by
  have hl : r < h.length := by
    rcases Nat.lt_or_ge r h.length with q | q
    · exact q
    · rw [List.getElem?_eq_none q] at e; cases e
  rw [List.getElem?_set]
  by_cases q : r = p
  · subst q; rw [if_pos rfl, if_pos hl, if_pos rfl]
  · rw [if_neg q, if_neg (fun z => q z.symm)]
theorem tA_tSF (h : zH) (r : Nat) (b : Nat) (w : Value) : tA (tSF h r b w) = tA h := by
  unfold tSF
  split
  · rename_i e
    funext p
    unfold tA
    rw [tup_at e]
    by_cases q : p = r
    · subst q; rw [if_pos rfl, e]
    · rw [if_neg q]
  · rfl
theorem tJ_tSF (h : zH) (r : Nat) (b : Nat) (w : Value) : tJ (tSF h r b w) = tJ h := by
  unfold tSF
  split
  · rename_i e
    funext p
    unfold tJ
    rw [tup_at e]
    by_cases q : p = r
    · subst q; rw [if_pos rfl, e]
    · rw [if_neg q]
  · rfl
theorem tO_tSF (h : zH) (r : Nat) (b : Nat) (w : Value) : tO (tSF h r b w) = tO h := by
  unfold tSF
  split
  · rename_i e
    funext p
    unfold tO
    rw [tup_at e]
    by_cases q : p = r
    · subst q; rw [if_pos rfl, e]
    · rw [if_neg q]
  · rfl
theorem tN_tSF (h : zH) (r : Nat) (b : Nat) (w : Value) : tN (tSF h r b w) = tN h := by
  unfold tSF
  split
  · rename_i e
    funext p
    unfold tN
    rw [tup_at e]
    by_cases q : p = r
    · subst q; rw [if_pos rfl, e]
    · rw [if_neg q]
  · rfl
theorem tlen_tSF (h : zH) (r : Nat) (b : Nat) (w : Value) : (tSF h r b w).length = h.length := by
  unfold tSF
  split
  · rw [List.length_set]
  · rfl
theorem tF_tSA (h : zH) (r : Nat) (i : Nat) (x : Int32) : tF (tSA h r i x) = tF h := by
  unfold tSA
  split
  · rename_i e
    funext p
    unfold tF
    rw [tup_at e]
    by_cases q : p = r
    · subst q; rw [if_pos rfl, e]
    · rw [if_neg q]
  · rfl
theorem tJ_tSA (h : zH) (r : Nat) (i : Nat) (x : Int32) : tJ (tSA h r i x) = tJ h := by
  unfold tSA
  split
  · rename_i e
    funext p
    unfold tJ
    rw [tup_at e]
    by_cases q : p = r
    · subst q; rw [if_pos rfl, e]
    · rw [if_neg q]
  · rfl
theorem tO_tSA (h : zH) (r : Nat) (i : Nat) (x : Int32) : tO (tSA h r i x) = tO h := by
  unfold tSA
  split
  · rename_i e
    funext p
    unfold tO
    rw [tup_at e]
    by_cases q : p = r
    · subst q; rw [if_pos rfl, e]
    · rw [if_neg q]
  · rfl
theorem tN_tSA (h : zH) (r : Nat) (i : Nat) (x : Int32) : tN (tSA h r i x) = tN h := by
  unfold tSA
  split
  · rename_i e
    funext p
    unfold tN
    rw [tup_at e]
    by_cases q : p = r
    · subst q; rw [if_pos rfl, e]
    · rw [if_neg q]
  · rfl
theorem tlen_tSA (h : zH) (r : Nat) (i : Nat) (x : Int32) : (tSA h r i x).length = h.length := by
  unfold tSA
  split
  · rw [List.length_set]
  · rfl
theorem tF_tSJ (h : zH) (r : Nat) (i : Nat) (x : Int64) : tF (tSJ h r i x) = tF h := by
  unfold tSJ
  split
  · rename_i e
    funext p
    unfold tF
    rw [tup_at e]
    by_cases q : p = r
    · subst q; rw [if_pos rfl, e]
    · rw [if_neg q]
  · rfl
theorem tA_tSJ (h : zH) (r : Nat) (i : Nat) (x : Int64) : tA (tSJ h r i x) = tA h := by
  unfold tSJ
  split
  · rename_i e
    funext p
    unfold tA
    rw [tup_at e]
    by_cases q : p = r
    · subst q; rw [if_pos rfl, e]
    · rw [if_neg q]
  · rfl
theorem tO_tSJ (h : zH) (r : Nat) (i : Nat) (x : Int64) : tO (tSJ h r i x) = tO h := by
  unfold tSJ
  split
  · rename_i e
    funext p
    unfold tO
    rw [tup_at e]
    by_cases q : p = r
    · subst q; rw [if_pos rfl, e]
    · rw [if_neg q]
  · rfl
theorem tN_tSJ (h : zH) (r : Nat) (i : Nat) (x : Int64) : tN (tSJ h r i x) = tN h := by
  unfold tSJ
  split
  · rename_i e
    funext p
    unfold tN
    rw [tup_at e]
    by_cases q : p = r
    · subst q; rw [if_pos rfl, e]
    · rw [if_neg q]
  · rfl
theorem tlen_tSJ (h : zH) (r : Nat) (i : Nat) (x : Int64) : (tSJ h r i x).length = h.length := by
  unfold tSJ
  split
  · rw [List.length_set]
  · rfl
theorem tF_tSO (h : zH) (r : Nat) (i : Nat) (x : Option Nat) : tF (tSO h r i x) = tF h := by
  unfold tSO
  split
  · rename_i e
    funext p
    unfold tF
    rw [tup_at e]
    by_cases q : p = r
    · subst q; rw [if_pos rfl, e]
    · rw [if_neg q]
  · rfl
theorem tA_tSO (h : zH) (r : Nat) (i : Nat) (x : Option Nat) : tA (tSO h r i x) = tA h := by
  unfold tSO
  split
  · rename_i e
    funext p
    unfold tA
    rw [tup_at e]
    by_cases q : p = r
    · subst q; rw [if_pos rfl, e]
    · rw [if_neg q]
  · rfl
theorem tJ_tSO (h : zH) (r : Nat) (i : Nat) (x : Option Nat) : tJ (tSO h r i x) = tJ h := by
  unfold tSO
  split
  · rename_i e
    funext p
    unfold tJ
    rw [tup_at e]
    by_cases q : p = r
    · subst q; rw [if_pos rfl, e]
    · rw [if_neg q]
  · rfl
theorem tN_tSO (h : zH) (r : Nat) (i : Nat) (x : Option Nat) : tN (tSO h r i x) = tN h := by
  unfold tSO
  split
  · rename_i e
    funext p
    unfold tN
    rw [tup_at e]
    by_cases q : p = r
    · subst q; rw [if_pos rfl, e]
    · rw [if_neg q]
  · rfl
theorem tlen_tSO (h : zH) (r : Nat) (i : Nat) (x : Option Nat) : (tSO h r i x).length = h.length := by
  unfold tSO
  split
  · rw [List.length_set]
  · rfl
theorem tF_tSF {h : zH} {r b : Nat} (hf : tFd h r b) (w : Value) : tF (tSF h r b w) = fun p q => if p = r ∧ q = b then w else tF h p q := by
  obtain ⟨a, fs, e, hl⟩ := hf
  unfold tSF
  rw [e]
  funext p q
  unfold tF
  dsimp only
  rw [tup_at e]
  by_cases h1 : p = r
  · subst h1
    rw [if_pos rfl, e]
    dsimp only
    by_cases h2 : q = b
    · subst h2
      rw [if_pos ⟨rfl, rfl⟩, List.getD_eq_getElem?_getD, List.getElem?_set_self hl]
      rfl
    · rw [if_neg (fun z => h2 z.2), List.getD_eq_getElem?_getD, List.getElem?_set_ne (fun z => h2 z.symm), List.getD_eq_getElem?_getD]
  · rw [if_neg h1, if_neg (fun z => h1 z.1)]
theorem tA_tSA {h : zH} {r : Nat} (hf : ∃ (kd N : Nat) (f : Nat → Int32), h[r]? = some (.inl (kd, N, .inl f))) (i : Nat) (x : Int32) : tA (tSA h r i x) = fun p q => if p = r ∧ q = i then x else tA h p q := by
  obtain ⟨kd, N, f, e⟩ := hf
  unfold tSA
  rw [e]
  funext p q
  unfold tA
  dsimp only
  rw [tup_at e]
  by_cases h1 : p = r
  · subst h1
    rw [if_pos rfl, e]
    dsimp only [upd]
    by_cases h2 : q = i
    · rw [if_pos h2, if_pos ⟨rfl, h2⟩]
    · rw [if_neg h2, if_neg (fun z => h2 z.2)]
  · rw [if_neg h1, if_neg (fun z => h1 z.1)]
theorem tJ_tSJ {h : zH} {r : Nat} (hf : ∃ (kd N : Nat) (f : Nat → Int64), h[r]? = some (.inl (kd, N, .inr (.inl f)))) (i : Nat) (x : Int64) : tJ (tSJ h r i x) = fun p q => if p = r ∧ q = i then x else tJ h p q := by
  obtain ⟨kd, N, f, e⟩ := hf
  unfold tSJ
  rw [e]
  funext p q
  unfold tJ
  dsimp only
  rw [tup_at e]
  by_cases h1 : p = r
  · subst h1
    rw [if_pos rfl, e]
    dsimp only [vp_updL]
    by_cases h2 : q = i
    · rw [if_pos h2, if_pos ⟨rfl, h2⟩]
    · rw [if_neg h2, if_neg (fun z => h2 z.2)]
  · rw [if_neg h1, if_neg (fun z => h1 z.1)]
theorem tO_tSO {h : zH} {r : Nat} (hf : ∃ (kd N : Nat) (f : Nat → Option Nat), h[r]? = some (.inl (kd, N, .inr (.inr (.inr (.inr f)))))) (i : Nat) (x : Option Nat) : tO (tSO h r i x) = fun p q => if p = r ∧ q = i then x else tO h p q := by
  obtain ⟨kd, N, f, e⟩ := hf
  unfold tSO
  rw [e]
  funext p q
  unfold tO
  dsimp only
  rw [tup_at e]
  by_cases h1 : p = r
  · subst h1
    rw [if_pos rfl, e]
    dsimp only [va_up]
    by_cases h2 : q = i
    · rw [if_pos h2, if_pos ⟨rfl, h2⟩]
    · rw [if_neg h2, if_neg (fun z => h2 z.2)]
  · rw [if_neg h1, if_neg (fun z => h1 z.1)]
theorem tIn.cell {h : zH} {r kd : Nat} {i : Int32} (k : tIn h r kd i) : ∃ (kd N : Nat) (f : Nat → Int32), h[r]? = some (.inl (kd, N, .inl f)) := by
  obtain ⟨N, f, e, -⟩ := k
  exact ⟨kd, N, f, e⟩
theorem tInJ.cell {h : zH} {r : Nat} {i : Int32} (k : tInJ h r i) : ∃ (kd N : Nat) (f : Nat → Int64), h[r]? = some (.inl (kd, N, .inr (.inl f))) := by
  obtain ⟨N, f, e, -⟩ := k
  exact ⟨3, N, f, e⟩
theorem tInO.cell {h : zH} {r : Nat} {i : Int32} (k : tInO h r i) : ∃ (kd N : Nat) (f : Nat → Option Nat), h[r]? = some (.inl (kd, N, .inr (.inr (.inr (.inr f))))) := by
  obtain ⟨kd, N, f, e, -⟩ := k
  exact ⟨kd, N, f, e⟩
theorem tIn.rg {h : zH} {r kd : Nat} {i : Int32} (k : tIn h r kd i) : 0 ≤ i.toInt ∧ i.toNatClampNeg < tN h r := by
  obtain ⟨N, f, e, hi⟩ := k
  unfold vp_in at hi
  unfold tN
  rw [e]
  dsimp only
  refine ⟨?_, by omega⟩
  rcases Int.lt_or_le i.toInt 0 with q | q
  · exact absurd (Or.inl (Int32.lt_iff_toInt_lt.mpr q)) hi
  · exact q
theorem tInO.rg {h : zH} {r : Nat} {i : Int32} (k : tInO h r i) : 0 ≤ i.toInt ∧ i.toNatClampNeg < tN h r := by
  obtain ⟨kd, N, f, e, hi⟩ := k
  unfold vp_in at hi
  unfold tN
  rw [e]
  dsimp only
  refine ⟨?_, by omega⟩
  rcases Int.lt_or_le i.toInt 0 with q | q
  · exact absurd (Or.inl (Int32.lt_iff_toInt_lt.mpr q)) hi
  · exact q
theorem tF_a {h : zH} {r i p b : Nat} {x : Int32} {w : Value} (k : tF h p b = w) : tF (tSA h r i x) p b = w := by rw [tF_tSA]; exact k
theorem tF_j {h : zH} {r i p b : Nat} {x : Int64} {w : Value} (k : tF h p b = w) : tF (tSJ h r i x) p b = w := by rw [tF_tSJ]; exact k
theorem tF_o {h : zH} {r i p b : Nat} {x : Option Nat} {w : Value} (k : tF h p b = w) : tF (tSO h r i x) p b = w := by rw [tF_tSO]; exact k
theorem tF_same {h : zH} {r b : Nat} {w : Value} (hf : tFd h r b) : tF (tSF h r b w) r b = w := by rw [tF_tSF hf]; exact if_pos ⟨rfl, rfl⟩
theorem tF_nz {h : zH} {r b p q : Nat} {w : Value} (hn : ¬ (p = r ∧ q = b)) : tF (tSF h r b w) p q = tF h p q := by
  unfold tSF
  split
  · rename_i a fs e
    unfold tF
    rw [tup_at e]
    by_cases h1 : p = r
    · subst h1
      rw [if_pos rfl, e]
      dsimp only
      rw [List.getD_eq_getElem?_getD, List.getElem?_set_ne (fun z => hn ⟨rfl, z.symm⟩), List.getD_eq_getElem?_getD]
    · rw [if_neg h1]
  · rfl
theorem tF_ne {h : zH} {r b p q : Nat} {w u : Value} (hn : ¬ (p = r ∧ q = b)) (k : tF h p q = u) : tF (tSF h r b w) p q = u := by rw [tF_nz hn]; exact k
theorem tA_nz {h : zH} {r i p : Nat} {x : Int32} (hn : p ≠ r) : tA (tSA h r i x) p = tA h p := by
  unfold tSA
  split
  · rename_i e
    unfold tA
    funext j
    rw [tup_at e, if_neg hn]
  · rfl
theorem tA_a {h : zH} {r i p j : Nat} {x y : Int32} (hn : p ≠ r) (k : tA h p j = y) : tA (tSA h r i x) p j = y := by rw [tA_nz hn]; exact k
theorem tA_f {h : zH} {r b p j : Nat} {w : Value} {y : Int32} (k : tA h p j = y) : tA (tSF h r b w) p j = y := by rw [tA_tSF]; exact k
theorem tA_j {h : zH} {r i p j : Nat} {x : Int64} {y : Int32} (k : tA h p j = y) : tA (tSJ h r i x) p j = y := by rw [tA_tSJ]; exact k
theorem tA_o {h : zH} {r i p j : Nat} {x : Option Nat} {y : Int32} (k : tA h p j = y) : tA (tSO h r i x) p j = y := by rw [tA_tSO]; exact k
section TR
variable {tt : zT} {G : zG} {cd : zK} {bc bs : Nat} {rt : Option FieldType} {dp : Nat} {Q : zQ} {Z : zX} {f : Bool} {pc : Nat} {L : zL} {s : List Value} {h : zH} {c n : Nat} {nx a b d : Nat} {v w w1 w2 w3 : Value}
theorem tG_row {e : zE} {st : List Value} (hc : cd[pc]? = some (some e)) (k : zex tt G bc bs rt (zW tt G dp) tTr (zR tt G cd bc bs rt (zW tt G dp) tTr) e L st h c n → zex tt G bc bs rt (zW tt G dp) Q (tCt tt G cd bc bs rt (zW tt G dp) Q Z true) e L st h c n) : tG tt G cd bc bs rt (zW tt G dp) Q Z f pc L st h c n := fun z => tCt.fix (zW_mono tt G dp) (Or.inr (by
  have z1 := zR.inv (zW_mono tt G dp) z
  unfold zstep at z1 ⊢
  rw [hc] at z1 ⊢
  exact k z1))
theorem tw_push  (hc : cd[pc]? = some (some (.aconst_null, nx, a, b, d, v))) (k : tG tt G cd bc bs rt (zW tt G dp) Q Z true nx L (v :: s) h c n) : tG tt G cd bc bs rt (zW tt G dp) Q Z f pc L s h c n := tG_row hc (fun z => Or.elim z (fun z => by exact Or.inl (k z)) (fun z => False.elim z))
theorem tw_iload {i : Nat} (hc : cd[pc]? = some (some (.iload i, nx, a, b, d, v))) (hl : L.getD a none = some w) (k : tG tt G cd bc bs rt (zW tt G dp) Q Z true nx L (w :: s) h c n) : tG tt G cd bc bs rt (zW tt G dp) Q Z f pc L s h c n := tG_row hc (fun z => Or.elim z (fun z => by
  unfold zex1 at z
  dsimp only at z
  rw [hl] at z
  cases w <;> first | exact False.elim z | (refine Or.inl ?_; unfold zex1; dsimp only; rw [hl]; exact k z)) (fun z => False.elim z))
theorem tw_lload {i : Nat} (hc : cd[pc]? = some (some (.lload i, nx, a, b, d, v))) (hl : L.getD a none = some w) (k : tG tt G cd bc bs rt (zW tt G dp) Q Z true nx L (w :: s) h c n) : tG tt G cd bc bs rt (zW tt G dp) Q Z f pc L s h c n := tG_row hc (fun z => Or.elim z (fun z => by
  unfold zex1 at z
  dsimp only at z
  rw [hl] at z
  cases w <;> first | exact False.elim z | (refine Or.inl ?_; unfold zex1; dsimp only; rw [hl]; exact k z)) (fun z => False.elim z))
theorem tw_aload {i : Nat} (hc : cd[pc]? = some (some (.aload i, nx, a, b, d, v))) (hl : L.getD a none = some w) (k : tG tt G cd bc bs rt (zW tt G dp) Q Z true nx L (w :: s) h c n) : tG tt G cd bc bs rt (zW tt G dp) Q Z f pc L s h c n := tG_row hc (fun z => Or.elim z (fun z => by
  unfold zex1 at z
  dsimp only at z
  rw [hl] at z
  cases w <;> first | exact False.elim z | (refine Or.inl ?_; unfold zex1; dsimp only; rw [hl]; exact k z)) (fun z => False.elim z))
theorem tw_istore {i : Nat} (hc : cd[pc]? = some (some (.istore i, nx, a, b, d, v))) (k : tG tt G cd bc bs rt (zW tt G dp) Q Z true nx (zst L a (.int (tvI w))) s h c n) : tG tt G cd bc bs rt (zW tt G dp) Q Z f pc L (w :: s) h c n := tG_row hc (fun z => Or.elim z (fun z => by cases w <;> first | exact False.elim z | (exact Or.inl ⟨z.1, k z.2⟩)) (fun z => False.elim z))
theorem tw_lstore {i : Nat} (hc : cd[pc]? = some (some (.lstore i, nx, a, b, d, v))) (k : tG tt G cd bc bs rt (zW tt G dp) Q Z true nx (zst L a (.long (tvJ w))) s h c n) : tG tt G cd bc bs rt (zW tt G dp) Q Z f pc L (w :: s) h c n := tG_row hc (fun z => Or.elim z (fun z => by cases w <;> first | exact False.elim z | (exact Or.inl ⟨z.1, k z.2⟩)) (fun z => False.elim z))
theorem tw_astore {i x : Nat} (hc : cd[pc]? = some (some (.astore i, nx, a, b, d, v))) (k : tG tt G cd bc bs rt (zW tt G dp) Q Z true nx (zst L a (.ref x)) s h c n) : tG tt G cd bc bs rt (zW tt G dp) Q Z f pc L (.ref x :: s) h c n := tG_row hc (fun z => Or.elim z (fun z => by exact Or.inl ⟨z.1, k z.2⟩) (fun z => False.elim z))
theorem tw_astoreN {i : Nat} (hc : cd[pc]? = some (some (.astore i, nx, a, b, d, v))) (k : tG tt G cd bc bs rt (zW tt G dp) Q Z true nx (zst L a .null) s h c n) : tG tt G cd bc bs rt (zW tt G dp) Q Z f pc L (.null :: s) h c n := tG_row hc (fun z => Or.elim z (fun z => by exact Or.inl ⟨z.1, k z.2⟩) (fun z => False.elim z))
theorem tw_astoreS {i x : Nat} (hc : cd[pc]? = some (some (.astore i, nx, a, b, d, v))) (k : tG tt G cd bc bs rt (zW tt G dp) Q Z true nx (zst L a (.retAddr x)) s h c n) : tG tt G cd bc bs rt (zW tt G dp) Q Z f pc L (.retAddr x :: s) h c n := tG_row hc (fun z => Or.elim z (fun z => by exact Or.inl ⟨z.1, k z.2⟩) (fun z => False.elim z))
theorem tw_iinc {i : Nat} {z0 : Int} {y : Int32} (hc : cd[pc]? = some (some (.iinc i z0, nx, a, b, d, .int y))) (hl : L.getD a none = some w) (k : tG tt G cd bc bs rt (zW tt G dp) Q Z true nx (zst L a (.int (tvI w + y))) s h c n) : tG tt G cd bc bs rt (zW tt G dp) Q Z f pc L s h c n := tG_row hc (fun z => Or.elim z (fun z => by
  unfold zex1 at z
  dsimp only at z
  rw [hl] at z
  cases w <;> first | exact False.elim z | (refine Or.inl ?_; unfold zex1; dsimp only; rw [hl]; exact ⟨z.1, k z.2⟩)) (fun z => False.elim z))
theorem tw_pop  (hc : cd[pc]? = some (some (.pop, nx, a, b, d, v))) (k : tG tt G cd bc bs rt (zW tt G dp) Q Z true nx L s h c n) : tG tt G cd bc bs rt (zW tt G dp) Q Z f pc L (w :: s) h c n := tG_row hc (fun z => Or.elim z (fun z => by exact Or.inl ⟨z.1, k z.2⟩) (fun z => False.elim z))
theorem tw_popl  (hc : cd[pc]? = some (some (.drem, nx, a, b, d, v))) (k : tG tt G cd bc bs rt (zW tt G dp) Q Z true nx L s h c n) : tG tt G cd bc bs rt (zW tt G dp) Q Z f pc L (w :: s) h c n := tG_row hc (fun z => Or.elim z (fun z => by exact Or.inl ⟨z.1, k z.2⟩) (fun z => False.elim z))
theorem tw_dup  (hc : cd[pc]? = some (some (.dup, nx, a, b, d, v))) (k : tG tt G cd bc bs rt (zW tt G dp) Q Z true nx L (w :: w :: s) h c n) : tG tt G cd bc bs rt (zW tt G dp) Q Z f pc L (w :: s) h c n := tG_row hc (fun z => Or.elim z (fun z => by exact Or.inl ⟨z.1, k z.2⟩) (fun z => False.elim z))
theorem tw_dup_x1  (hc : cd[pc]? = some (some (.dup_x1, nx, a, b, d, v))) (k : tG tt G cd bc bs rt (zW tt G dp) Q Z true nx L (w1 :: w2 :: w1 :: s) h c n) : tG tt G cd bc bs rt (zW tt G dp) Q Z f pc L (w1 :: w2 :: s) h c n := tG_row hc (fun z => Or.elim z (fun z => by exact Or.inl ⟨z.1, z.2.1, k z.2.2⟩) (fun z => False.elim z))
theorem tw_dup2  (hc : cd[pc]? = some (some (.dup2, nx, a, b, d, v))) (k : tG tt G cd bc bs rt (zW tt G dp) Q Z true nx L (w1 :: w2 :: w1 :: w2 :: s) h c n) : tG tt G cd bc bs rt (zW tt G dp) Q Z f pc L (w1 :: w2 :: s) h c n := tG_row hc (fun z => Or.elim z (fun z => by exact Or.inl ⟨z.1, z.2.1, k z.2.2⟩) (fun z => False.elim z))
theorem tw_dupl  (hc : cd[pc]? = some (some (.dup2_x1, nx, a, b, d, v))) (k : tG tt G cd bc bs rt (zW tt G dp) Q Z true nx L (w :: w :: s) h c n) : tG tt G cd bc bs rt (zW tt G dp) Q Z f pc L (w :: s) h c n := tG_row hc (fun z => Or.elim z (fun z => by exact Or.inl ⟨z.1, k z.2⟩) (fun z => False.elim z))
theorem tw_iadd  (hc : cd[pc]? = some (some (.iadd, nx, a, b, d, v))) (k : tG tt G cd bc bs rt (zW tt G dp) Q Z true nx L (.int (tvI w2 + tvI w1) :: s) h c n) : tG tt G cd bc bs rt (zW tt G dp) Q Z f pc L (w1 :: w2 :: s) h c n := tG_row hc (fun z => Or.elim z (fun z => by cases w1 <;> first | exact False.elim z | (cases w2 <;> first | exact False.elim z | (exact Or.inl (k z)))) (fun z => False.elim z))
theorem tw_isub  (hc : cd[pc]? = some (some (.isub, nx, a, b, d, v))) (k : tG tt G cd bc bs rt (zW tt G dp) Q Z true nx L (.int (tvI w2 - tvI w1) :: s) h c n) : tG tt G cd bc bs rt (zW tt G dp) Q Z f pc L (w1 :: w2 :: s) h c n := tG_row hc (fun z => Or.elim z (fun z => by cases w1 <;> first | exact False.elim z | (cases w2 <;> first | exact False.elim z | (exact Or.inl (k z)))) (fun z => False.elim z))
theorem tw_imul  (hc : cd[pc]? = some (some (.imul, nx, a, b, d, v))) (k : tG tt G cd bc bs rt (zW tt G dp) Q Z true nx L (.int (tvI w2 * tvI w1) :: s) h c n) : tG tt G cd bc bs rt (zW tt G dp) Q Z f pc L (w1 :: w2 :: s) h c n := tG_row hc (fun z => Or.elim z (fun z => by cases w1 <;> first | exact False.elim z | (cases w2 <;> first | exact False.elim z | (exact Or.inl (k z)))) (fun z => False.elim z))
theorem tw_iand  (hc : cd[pc]? = some (some (.iand, nx, a, b, d, v))) (k : tG tt G cd bc bs rt (zW tt G dp) Q Z true nx L (.int (tvI w2 &&& tvI w1) :: s) h c n) : tG tt G cd bc bs rt (zW tt G dp) Q Z f pc L (w1 :: w2 :: s) h c n := tG_row hc (fun z => Or.elim z (fun z => by cases w1 <;> first | exact False.elim z | (cases w2 <;> first | exact False.elim z | (exact Or.inl (k z)))) (fun z => False.elim z))
theorem tw_ior  (hc : cd[pc]? = some (some (.ior, nx, a, b, d, v))) (k : tG tt G cd bc bs rt (zW tt G dp) Q Z true nx L (.int (tvI w2 ||| tvI w1) :: s) h c n) : tG tt G cd bc bs rt (zW tt G dp) Q Z f pc L (w1 :: w2 :: s) h c n := tG_row hc (fun z => Or.elim z (fun z => by cases w1 <;> first | exact False.elim z | (cases w2 <;> first | exact False.elim z | (exact Or.inl (k z)))) (fun z => False.elim z))
theorem tw_ishl  (hc : cd[pc]? = some (some (.ishl, nx, a, b, d, v))) (k : tG tt G cd bc bs rt (zW tt G dp) Q Z true nx L (.int (tvI w2 <<< (tvI w1 &&& 31)) :: s) h c n) : tG tt G cd bc bs rt (zW tt G dp) Q Z f pc L (w1 :: w2 :: s) h c n := tG_row hc (fun z => Or.elim z (fun z => by cases w1 <;> first | exact False.elim z | (cases w2 <;> first | exact False.elim z | (exact Or.inl (k z)))) (fun z => False.elim z))
theorem tw_ishr  (hc : cd[pc]? = some (some (.ishr, nx, a, b, d, v))) (k : tG tt G cd bc bs rt (zW tt G dp) Q Z true nx L (.int (tvI w2 >>> (tvI w1 &&& 31)) :: s) h c n) : tG tt G cd bc bs rt (zW tt G dp) Q Z f pc L (w1 :: w2 :: s) h c n := tG_row hc (fun z => Or.elim z (fun z => by cases w1 <;> first | exact False.elim z | (cases w2 <;> first | exact False.elim z | (exact Or.inl (k z)))) (fun z => False.elim z))
theorem tw_idiv  (hc : cd[pc]? = some (some (.idiv, nx, a, b, d, v))) (k : ¬ tvI w1 = 0 → tG tt G cd bc bs rt (zW tt G dp) Q Z true nx L (.int (tvI w2 / tvI w1) :: s) h c n) : tG tt G cd bc bs rt (zW tt G dp) Q Z f pc L (w1 :: w2 :: s) h c n := tG_row hc (fun z => Or.elim z (fun z => by cases w1 <;> first | exact False.elim z | (cases w2 <;> first | exact False.elim z | (exact Or.inl ⟨z.1, k z.1 z.2⟩))) (fun z => False.elim z))
theorem tw_ladd  (hc : cd[pc]? = some (some (.ladd, nx, a, b, d, v))) (k : tG tt G cd bc bs rt (zW tt G dp) Q Z true nx L (.long (tvJ w2 + tvJ w1) :: s) h c n) : tG tt G cd bc bs rt (zW tt G dp) Q Z f pc L (w1 :: w2 :: s) h c n := tG_row hc (fun z => Or.elim z (fun z => by cases w1 <;> first | exact False.elim z | (cases w2 <;> first | exact False.elim z | (exact Or.inl (k z)))) (fun z => False.elim z))
theorem tw_lsub  (hc : cd[pc]? = some (some (.lsub, nx, a, b, d, v))) (k : tG tt G cd bc bs rt (zW tt G dp) Q Z true nx L (.long (tvJ w2 - tvJ w1) :: s) h c n) : tG tt G cd bc bs rt (zW tt G dp) Q Z f pc L (w1 :: w2 :: s) h c n := tG_row hc (fun z => Or.elim z (fun z => by cases w1 <;> first | exact False.elim z | (cases w2 <;> first | exact False.elim z | (exact Or.inl (k z)))) (fun z => False.elim z))
theorem tw_lmul  (hc : cd[pc]? = some (some (.lmul, nx, a, b, d, v))) (k : tG tt G cd bc bs rt (zW tt G dp) Q Z true nx L (.long (tvJ w2 * tvJ w1) :: s) h c n) : tG tt G cd bc bs rt (zW tt G dp) Q Z f pc L (w1 :: w2 :: s) h c n := tG_row hc (fun z => Or.elim z (fun z => by cases w1 <;> first | exact False.elim z | (cases w2 <;> first | exact False.elim z | (exact Or.inl (k z)))) (fun z => False.elim z))
theorem tw_land  (hc : cd[pc]? = some (some (.land, nx, a, b, d, v))) (k : tG tt G cd bc bs rt (zW tt G dp) Q Z true nx L (.long (tvJ w2 &&& tvJ w1) :: s) h c n) : tG tt G cd bc bs rt (zW tt G dp) Q Z f pc L (w1 :: w2 :: s) h c n := tG_row hc (fun z => Or.elim z (fun z => by cases w1 <;> first | exact False.elim z | (cases w2 <;> first | exact False.elim z | (exact Or.inl (k z)))) (fun z => False.elim z))
theorem tw_lor  (hc : cd[pc]? = some (some (.lor, nx, a, b, d, v))) (k : tG tt G cd bc bs rt (zW tt G dp) Q Z true nx L (.long (tvJ w2 ||| tvJ w1) :: s) h c n) : tG tt G cd bc bs rt (zW tt G dp) Q Z f pc L (w1 :: w2 :: s) h c n := tG_row hc (fun z => Or.elim z (fun z => by cases w1 <;> first | exact False.elim z | (cases w2 <;> first | exact False.elim z | (exact Or.inl (k z)))) (fun z => False.elim z))
theorem tw_lxor  (hc : cd[pc]? = some (some (.lxor, nx, a, b, d, v))) (k : tG tt G cd bc bs rt (zW tt G dp) Q Z true nx L (.long (tvJ w2 ^^^ tvJ w1) :: s) h c n) : tG tt G cd bc bs rt (zW tt G dp) Q Z f pc L (w1 :: w2 :: s) h c n := tG_row hc (fun z => Or.elim z (fun z => by cases w1 <;> first | exact False.elim z | (cases w2 <;> first | exact False.elim z | (exact Or.inl (k z)))) (fun z => False.elim z))
theorem tw_ldiv  (hc : cd[pc]? = some (some (.ldiv, nx, a, b, d, v))) (k : ¬ tvJ w1 = 0 → tG tt G cd bc bs rt (zW tt G dp) Q Z true nx L (.long (tvJ w2 / tvJ w1) :: s) h c n) : tG tt G cd bc bs rt (zW tt G dp) Q Z f pc L (w1 :: w2 :: s) h c n := tG_row hc (fun z => Or.elim z (fun z => by cases w1 <;> first | exact False.elim z | (cases w2 <;> first | exact False.elim z | (exact Or.inl ⟨z.1, k z.1 z.2⟩))) (fun z => False.elim z))
theorem tw_lrem  (hc : cd[pc]? = some (some (.lrem, nx, a, b, d, v))) (k : ¬ tvJ w1 = 0 → tG tt G cd bc bs rt (zW tt G dp) Q Z true nx L (.long (tvJ w2 - tvJ w2 / tvJ w1 * tvJ w1) :: s) h c n) : tG tt G cd bc bs rt (zW tt G dp) Q Z f pc L (w1 :: w2 :: s) h c n := tG_row hc (fun z => Or.elim z (fun z => by cases w1 <;> first | exact False.elim z | (cases w2 <;> first | exact False.elim z | (exact Or.inl ⟨z.1, k z.1 z.2⟩))) (fun z => False.elim z))
theorem tw_lneg  (hc : cd[pc]? = some (some (.lneg, nx, a, b, d, v))) (k : tG tt G cd bc bs rt (zW tt G dp) Q Z true nx L (.long (-tvJ w) :: s) h c n) : tG tt G cd bc bs rt (zW tt G dp) Q Z f pc L (w :: s) h c n := tG_row hc (fun z => Or.elim z (fun z => by cases w <;> first | exact False.elim z | (exact Or.inl (k z))) (fun z => False.elim z))
theorem tw_lshl  (hc : cd[pc]? = some (some (.lshl, nx, a, b, d, v))) (k : tG tt G cd bc bs rt (zW tt G dp) Q Z true nx L (.long (tvJ w2 <<< ((tvI w1).toInt64 &&& 63)) :: s) h c n) : tG tt G cd bc bs rt (zW tt G dp) Q Z f pc L (w1 :: w2 :: s) h c n := tG_row hc (fun z => Or.elim z (fun z => by cases w1 <;> first | exact False.elim z | (cases w2 <;> first | exact False.elim z | (exact Or.inl (k z)))) (fun z => False.elim z))
theorem tw_lshr  (hc : cd[pc]? = some (some (.lshr, nx, a, b, d, v))) (k : tG tt G cd bc bs rt (zW tt G dp) Q Z true nx L (.long (tvJ w2 >>> ((tvI w1).toInt64 &&& 63)) :: s) h c n) : tG tt G cd bc bs rt (zW tt G dp) Q Z f pc L (w1 :: w2 :: s) h c n := tG_row hc (fun z => Or.elim z (fun z => by cases w1 <;> first | exact False.elim z | (cases w2 <;> first | exact False.elim z | (exact Or.inl (k z)))) (fun z => False.elim z))
theorem tw_lcmp  (hc : cd[pc]? = some (some (.lcmp, nx, a, b, d, v))) (k : tG tt G cd bc bs rt (zW tt G dp) Q Z true nx L (.int (lg_cmp (tvJ w2) (tvJ w1)) :: s) h c n) : tG tt G cd bc bs rt (zW tt G dp) Q Z f pc L (w1 :: w2 :: s) h c n := tG_row hc (fun z => Or.elim z (fun z => by cases w1 <;> first | exact False.elim z | (cases w2 <;> first | exact False.elim z | (exact Or.inl (k z)))) (fun z => False.elim z))
theorem tw_i2l  (hc : cd[pc]? = some (some (.i2l, nx, a, b, d, v))) (k : tG tt G cd bc bs rt (zW tt G dp) Q Z true nx L (.long (tvI w).toInt64 :: s) h c n) : tG tt G cd bc bs rt (zW tt G dp) Q Z f pc L (w :: s) h c n := tG_row hc (fun z => Or.elim z (fun z => by cases w <;> first | exact False.elim z | (exact Or.inl (k z))) (fun z => False.elim z))
theorem tw_l2i  (hc : cd[pc]? = some (some (.l2i, nx, a, b, d, v))) (k : tG tt G cd bc bs rt (zW tt G dp) Q Z true nx L (.int (tvJ w).toInt32 :: s) h c n) : tG tt G cd bc bs rt (zW tt G dp) Q Z f pc L (w :: s) h c n := tG_row hc (fun z => Or.elim z (fun z => by cases w <;> first | exact False.elim z | (exact Or.inl (k z))) (fun z => False.elim z))
theorem tw_i2b  (hc : cd[pc]? = some (some (.i2b, nx, a, b, d, v))) (k : tG tt G cd bc bs rt (zW tt G dp) Q Z true nx L (.int (tvI w).toInt8.toInt32 :: s) h c n) : tG tt G cd bc bs rt (zW tt G dp) Q Z f pc L (w :: s) h c n := tG_row hc (fun z => Or.elim z (fun z => by cases w <;> first | exact False.elim z | (exact Or.inl (k z))) (fun z => False.elim z))
theorem tw_imax  (hc : cd[pc]? = some (some (.fadd, nx, a, b, d, v))) (k : tG tt G cd bc bs rt (zW tt G dp) Q Z true nx L (.int (if tvI w2 < tvI w1 then tvI w1 else tvI w2) :: s) h c n) : tG tt G cd bc bs rt (zW tt G dp) Q Z f pc L (w1 :: w2 :: s) h c n := tG_row hc (fun z => Or.elim z (fun z => by cases w1 <;> first | exact False.elim z | (cases w2 <;> first | exact False.elim z | (exact Or.inl ⟨z.1, k z.2⟩))) (fun z => False.elim z))
theorem tw_imin  (hc : cd[pc]? = some (some (.fsub, nx, a, b, d, v))) (k : tG tt G cd bc bs rt (zW tt G dp) Q Z true nx L (.int (if tvI w1 < tvI w2 then tvI w1 else tvI w2) :: s) h c n) : tG tt G cd bc bs rt (zW tt G dp) Q Z f pc L (w1 :: w2 :: s) h c n := tG_row hc (fun z => Or.elim z (fun z => by cases w1 <;> first | exact False.elim z | (cases w2 <;> first | exact False.elim z | (exact Or.inl ⟨z.1, k z.2⟩))) (fun z => False.elim z))
theorem tw_lmax  (hc : cd[pc]? = some (some (.dadd, nx, a, b, d, v))) (k : tG tt G cd bc bs rt (zW tt G dp) Q Z true nx L (.long (if tvJ w1 < tvJ w2 then tvJ w2 else tvJ w1) :: s) h c n) : tG tt G cd bc bs rt (zW tt G dp) Q Z f pc L (w1 :: w2 :: s) h c n := tG_row hc (fun z => Or.elim z (fun z => by cases w1 <;> first | exact False.elim z | (cases w2 <;> first | exact False.elim z | (exact Or.inl ⟨z.1, k z.2⟩))) (fun z => False.elim z))
theorem tw_lmin  (hc : cd[pc]? = some (some (.dsub, nx, a, b, d, v))) (k : tG tt G cd bc bs rt (zW tt G dp) Q Z true nx L (.long (if tvJ w1 < tvJ w2 then tvJ w1 else tvJ w2) :: s) h c n) : tG tt G cd bc bs rt (zW tt G dp) Q Z f pc L (w1 :: w2 :: s) h c n := tG_row hc (fun z => Or.elim z (fun z => by cases w1 <;> first | exact False.elim z | (cases w2 <;> first | exact False.elim z | (exact Or.inl ⟨z.1, k z.2⟩))) (fun z => False.elim z))
theorem tw_fdiv  (hc : cd[pc]? = some (some (.ddiv, nx, a, b, d, v))) (k : ¬ tvJ w1 = 0 → tG tt G cd bc bs rt (zW tt G dp) Q Z true nx L (.long (if (tvJ w2 ^^^ tvJ w1) < 0 ∧ ¬ tvJ w2 / tvJ w1 * tvJ w1 = tvJ w2 then tvJ w2 / tvJ w1 - 1 else tvJ w2 / tvJ w1) :: s) h c n) : tG tt G cd bc bs rt (zW tt G dp) Q Z f pc L (w1 :: w2 :: s) h c n := tG_row hc (fun z => Or.elim z (fun z => by cases w1 <;> first | exact False.elim z | (cases w2 <;> first | exact False.elim z | (exact Or.inl ⟨z.1, z.2.1, k z.1 z.2.2⟩))) (fun z => False.elim z))
theorem tw_goto {i : Int} (hc : cd[pc]? = some (some (.goto i, nx, a, b, d, v))) (k : tG tt G cd bc bs rt (zW tt G dp) Q Z true a L s h c n) : tG tt G cd bc bs rt (zW tt G dp) Q Z f pc L s h c n := tG_row hc (fun z => Or.elim z (fun z => by exact Or.inl (k z)) (fun z => False.elim z))
theorem tz0 : (0 : Int32).toInt = 0 := rfl
theorem tcond_lt {x y : Int32} : zcond .lt x y ↔ x.toInt < y.toInt := Int32.lt_iff_toInt_lt
theorem tcn_lt {x y : Int32} (q : ¬ zcond .lt x y) : y.toInt ≤ x.toInt := Int.not_lt.mp (fun w => q (tcond_lt.mpr w))
theorem tc0_lt {x : Int32} (q : zcond .lt x 0) : x.toInt < 0 := by have := tcond_lt.mp q; rw [tz0] at this; exact this
theorem tn0_lt {x : Int32} (q : ¬ zcond .lt x 0) : 0 ≤ x.toInt := by have := tcn_lt q; rw [tz0] at this; exact this
theorem tcond_ge {x y : Int32} : zcond .ge x y ↔ y.toInt ≤ x.toInt := Int32.le_iff_toInt_le
theorem tcn_ge {x y : Int32} (q : ¬ zcond .ge x y) : x.toInt < y.toInt := Int.not_le.mp (fun w => q (tcond_ge.mpr w))
theorem tc0_ge {x : Int32} (q : zcond .ge x 0) : 0 ≤ x.toInt := by have := tcond_ge.mp q; rw [tz0] at this; exact this
theorem tn0_ge {x : Int32} (q : ¬ zcond .ge x 0) : x.toInt < 0 := by have := tcn_ge q; rw [tz0] at this; exact this
theorem tcond_gt {x y : Int32} : zcond .gt x y ↔ y.toInt < x.toInt := Int32.lt_iff_toInt_lt
theorem tcn_gt {x y : Int32} (q : ¬ zcond .gt x y) : x.toInt ≤ y.toInt := Int.not_lt.mp (fun w => q (tcond_gt.mpr w))
theorem tc0_gt {x : Int32} (q : zcond .gt x 0) : 0 < x.toInt := by have := tcond_gt.mp q; rw [tz0] at this; exact this
theorem tn0_gt {x : Int32} (q : ¬ zcond .gt x 0) : x.toInt ≤ 0 := by have := tcn_gt q; rw [tz0] at this; exact this
theorem tcond_le {x y : Int32} : zcond .le x y ↔ x.toInt ≤ y.toInt := Int32.le_iff_toInt_le
theorem tcn_le {x y : Int32} (q : ¬ zcond .le x y) : y.toInt < x.toInt := Int.not_le.mp (fun w => q (tcond_le.mpr w))
theorem tc0_le {x : Int32} (q : zcond .le x 0) : x.toInt ≤ 0 := by have := tcond_le.mp q; rw [tz0] at this; exact this
theorem tn0_le {x : Int32} (q : ¬ zcond .le x 0) : 0 < x.toInt := by have := tcn_le q; rw [tz0] at this; exact this
theorem tw_if_eq {i : Int} (hc : cd[pc]? = some (some (.ifCond .eq i, nx, a, b, d, v))) (kt : tvI w = 0 → tG tt G cd bc bs rt (zW tt G dp) Q Z true a L s h c n) (kf : ¬ tvI w = 0 → tG tt G cd bc bs rt (zW tt G dp) Q Z true nx L s h c n) : tG tt G cd bc bs rt (zW tt G dp) Q Z f pc L (w :: s) h c n := tG_row hc (fun z => Or.elim z (fun z => by cases w <;> first | exact False.elim z | (exact Or.inl ⟨fun q => kt q (z.1 q), fun q => kf q (z.2 q)⟩)) (fun z => False.elim z))
theorem tw_ic_eq {i : Int} (hc : cd[pc]? = some (some (.if_icmp .eq i, nx, a, b, d, v))) (kt : tvI w2 = tvI w1 → tG tt G cd bc bs rt (zW tt G dp) Q Z true a L s h c n) (kf : ¬ tvI w2 = tvI w1 → tG tt G cd bc bs rt (zW tt G dp) Q Z true nx L s h c n) : tG tt G cd bc bs rt (zW tt G dp) Q Z f pc L (w1 :: w2 :: s) h c n := tG_row hc (fun z => Or.elim z (fun z => by cases w1 <;> first | exact False.elim z | (cases w2 <;> first | exact False.elim z | (exact Or.inl ⟨fun q => kt q (z.1 q), fun q => kf q (z.2 q)⟩))) (fun z => False.elim z))
theorem tw_if_ne {i : Int} (hc : cd[pc]? = some (some (.ifCond .ne i, nx, a, b, d, v))) (kt : ¬ tvI w = 0 → tG tt G cd bc bs rt (zW tt G dp) Q Z true a L s h c n) (kf : tvI w = 0 → tG tt G cd bc bs rt (zW tt G dp) Q Z true nx L s h c n) : tG tt G cd bc bs rt (zW tt G dp) Q Z f pc L (w :: s) h c n := tG_row hc (fun z => Or.elim z (fun z => by cases w <;> first | exact False.elim z | (exact Or.inl ⟨fun q => kt q (z.1 q), fun q => kf (Classical.not_not.mp q) (z.2 q)⟩)) (fun z => False.elim z))
theorem tw_ic_ne {i : Int} (hc : cd[pc]? = some (some (.if_icmp .ne i, nx, a, b, d, v))) (kt : ¬ tvI w2 = tvI w1 → tG tt G cd bc bs rt (zW tt G dp) Q Z true a L s h c n) (kf : tvI w2 = tvI w1 → tG tt G cd bc bs rt (zW tt G dp) Q Z true nx L s h c n) : tG tt G cd bc bs rt (zW tt G dp) Q Z f pc L (w1 :: w2 :: s) h c n := tG_row hc (fun z => Or.elim z (fun z => by cases w1 <;> first | exact False.elim z | (cases w2 <;> first | exact False.elim z | (exact Or.inl ⟨fun q => kt q (z.1 q), fun q => kf (Classical.not_not.mp q) (z.2 q)⟩))) (fun z => False.elim z))
theorem tw_if_lt {i : Int} (hc : cd[pc]? = some (some (.ifCond .lt i, nx, a, b, d, v))) (kt : (tvI w).toInt < 0 → tG tt G cd bc bs rt (zW tt G dp) Q Z true a L s h c n) (kf : 0 ≤ (tvI w).toInt → tG tt G cd bc bs rt (zW tt G dp) Q Z true nx L s h c n) : tG tt G cd bc bs rt (zW tt G dp) Q Z f pc L (w :: s) h c n := tG_row hc (fun z => Or.elim z (fun z => by cases w <;> first | exact False.elim z | (exact Or.inl ⟨fun q => kt (tc0_lt q) (z.1 q), fun q => kf (tn0_lt q) (z.2 q)⟩)) (fun z => False.elim z))
theorem tw_ic_lt {i : Int} (hc : cd[pc]? = some (some (.if_icmp .lt i, nx, a, b, d, v))) (kt : (tvI w2).toInt < (tvI w1).toInt → tG tt G cd bc bs rt (zW tt G dp) Q Z true a L s h c n) (kf : (tvI w1).toInt ≤ (tvI w2).toInt → tG tt G cd bc bs rt (zW tt G dp) Q Z true nx L s h c n) : tG tt G cd bc bs rt (zW tt G dp) Q Z f pc L (w1 :: w2 :: s) h c n := tG_row hc (fun z => Or.elim z (fun z => by cases w1 <;> first | exact False.elim z | (cases w2 <;> first | exact False.elim z | (exact Or.inl ⟨fun q => kt (tcond_lt.mp q) (z.1 q), fun q => kf (tcn_lt q) (z.2 q)⟩))) (fun z => False.elim z))
theorem tw_if_ge {i : Int} (hc : cd[pc]? = some (some (.ifCond .ge i, nx, a, b, d, v))) (kt : 0 ≤ (tvI w).toInt → tG tt G cd bc bs rt (zW tt G dp) Q Z true a L s h c n) (kf : (tvI w).toInt < 0 → tG tt G cd bc bs rt (zW tt G dp) Q Z true nx L s h c n) : tG tt G cd bc bs rt (zW tt G dp) Q Z f pc L (w :: s) h c n := tG_row hc (fun z => Or.elim z (fun z => by cases w <;> first | exact False.elim z | (exact Or.inl ⟨fun q => kt (tc0_ge q) (z.1 q), fun q => kf (tn0_ge q) (z.2 q)⟩)) (fun z => False.elim z))
theorem tw_ic_ge {i : Int} (hc : cd[pc]? = some (some (.if_icmp .ge i, nx, a, b, d, v))) (kt : (tvI w1).toInt ≤ (tvI w2).toInt → tG tt G cd bc bs rt (zW tt G dp) Q Z true a L s h c n) (kf : (tvI w2).toInt < (tvI w1).toInt → tG tt G cd bc bs rt (zW tt G dp) Q Z true nx L s h c n) : tG tt G cd bc bs rt (zW tt G dp) Q Z f pc L (w1 :: w2 :: s) h c n := tG_row hc (fun z => Or.elim z (fun z => by cases w1 <;> first | exact False.elim z | (cases w2 <;> first | exact False.elim z | (exact Or.inl ⟨fun q => kt (tcond_ge.mp q) (z.1 q), fun q => kf (tcn_ge q) (z.2 q)⟩))) (fun z => False.elim z))
theorem tw_if_gt {i : Int} (hc : cd[pc]? = some (some (.ifCond .gt i, nx, a, b, d, v))) (kt : 0 < (tvI w).toInt → tG tt G cd bc bs rt (zW tt G dp) Q Z true a L s h c n) (kf : (tvI w).toInt ≤ 0 → tG tt G cd bc bs rt (zW tt G dp) Q Z true nx L s h c n) : tG tt G cd bc bs rt (zW tt G dp) Q Z f pc L (w :: s) h c n := tG_row hc (fun z => Or.elim z (fun z => by cases w <;> first | exact False.elim z | (exact Or.inl ⟨fun q => kt (tc0_gt q) (z.1 q), fun q => kf (tn0_gt q) (z.2 q)⟩)) (fun z => False.elim z))
theorem tw_ic_gt {i : Int} (hc : cd[pc]? = some (some (.if_icmp .gt i, nx, a, b, d, v))) (kt : (tvI w1).toInt < (tvI w2).toInt → tG tt G cd bc bs rt (zW tt G dp) Q Z true a L s h c n) (kf : (tvI w2).toInt ≤ (tvI w1).toInt → tG tt G cd bc bs rt (zW tt G dp) Q Z true nx L s h c n) : tG tt G cd bc bs rt (zW tt G dp) Q Z f pc L (w1 :: w2 :: s) h c n := tG_row hc (fun z => Or.elim z (fun z => by cases w1 <;> first | exact False.elim z | (cases w2 <;> first | exact False.elim z | (exact Or.inl ⟨fun q => kt (tcond_gt.mp q) (z.1 q), fun q => kf (tcn_gt q) (z.2 q)⟩))) (fun z => False.elim z))
theorem tw_if_le {i : Int} (hc : cd[pc]? = some (some (.ifCond .le i, nx, a, b, d, v))) (kt : (tvI w).toInt ≤ 0 → tG tt G cd bc bs rt (zW tt G dp) Q Z true a L s h c n) (kf : 0 < (tvI w).toInt → tG tt G cd bc bs rt (zW tt G dp) Q Z true nx L s h c n) : tG tt G cd bc bs rt (zW tt G dp) Q Z f pc L (w :: s) h c n := tG_row hc (fun z => Or.elim z (fun z => by cases w <;> first | exact False.elim z | (exact Or.inl ⟨fun q => kt (tc0_le q) (z.1 q), fun q => kf (tn0_le q) (z.2 q)⟩)) (fun z => False.elim z))
theorem tw_ic_le {i : Int} (hc : cd[pc]? = some (some (.if_icmp .le i, nx, a, b, d, v))) (kt : (tvI w2).toInt ≤ (tvI w1).toInt → tG tt G cd bc bs rt (zW tt G dp) Q Z true a L s h c n) (kf : (tvI w1).toInt < (tvI w2).toInt → tG tt G cd bc bs rt (zW tt G dp) Q Z true nx L s h c n) : tG tt G cd bc bs rt (zW tt G dp) Q Z f pc L (w1 :: w2 :: s) h c n := tG_row hc (fun z => Or.elim z (fun z => by cases w1 <;> first | exact False.elim z | (cases w2 <;> first | exact False.elim z | (exact Or.inl ⟨fun q => kt (tcond_le.mp q) (z.1 q), fun q => kf (tcn_le q) (z.2 q)⟩))) (fun z => False.elim z))
theorem tw_lc_eq {i : Int} {nx0 a0 b0 d0 : Nat} {v0 : Value} (hc0 : cd[pc]? = some (some (.lcmp, nx0, a0, b0, d0, v0))) (hc : cd[nx0]? = some (some (.ifCond .eq i, nx, a, b, d, v))) (kt : tvJ w2 = tvJ w1 → tG tt G cd bc bs rt (zW tt G dp) Q Z true a L s h c n) (kf : ¬ tvJ w2 = tvJ w1 → tG tt G cd bc bs rt (zW tt G dp) Q Z true nx L s h c n) : tG tt G cd bc bs rt (zW tt G dp) Q Z f pc L (w1 :: w2 :: s) h c n := tw_lcmp hc0 (tw_if_eq hc (fun q => kt (by exact (lg_cmp_eq _ _).mp q)) (fun q => kf (by exact fun z => q ((lg_cmp_eq _ _).mpr z))))
theorem tw_lc_ne {i : Int} {nx0 a0 b0 d0 : Nat} {v0 : Value} (hc0 : cd[pc]? = some (some (.lcmp, nx0, a0, b0, d0, v0))) (hc : cd[nx0]? = some (some (.ifCond .ne i, nx, a, b, d, v))) (kt : ¬ tvJ w2 = tvJ w1 → tG tt G cd bc bs rt (zW tt G dp) Q Z true a L s h c n) (kf : tvJ w2 = tvJ w1 → tG tt G cd bc bs rt (zW tt G dp) Q Z true nx L s h c n) : tG tt G cd bc bs rt (zW tt G dp) Q Z f pc L (w1 :: w2 :: s) h c n := tw_lcmp hc0 (tw_if_ne hc (fun q => kt (by exact fun z => q ((lg_cmp_eq _ _).mpr z))) (fun q => kf (by exact (lg_cmp_eq _ _).mp q)))
theorem tw_lc_lt {i : Int} {nx0 a0 b0 d0 : Nat} {v0 : Value} (hc0 : cd[pc]? = some (some (.lcmp, nx0, a0, b0, d0, v0))) (hc : cd[nx0]? = some (some (.ifCond .lt i, nx, a, b, d, v))) (kt : (tvJ w2).toInt < (tvJ w1).toInt → tG tt G cd bc bs rt (zW tt G dp) Q Z true a L s h c n) (kf : (tvJ w1).toInt ≤ (tvJ w2).toInt → tG tt G cd bc bs rt (zW tt G dp) Q Z true nx L s h c n) : tG tt G cd bc bs rt (zW tt G dp) Q Z f pc L (w1 :: w2 :: s) h c n := tw_lcmp hc0 (tw_if_lt hc (fun q => kt (by have q2 := (lg_cmp_lt _ _).mp (tcond_lt.mpr (by rw [tz0]; exact q)); exact Int64.lt_iff_toInt_lt.mp q2)) (fun q => kf (by have q2 := (lg_cmp_ge _ _).mp (tcond_ge.mpr (by rw [tz0]; exact q)); exact Int64.le_iff_toInt_le.mp q2)))
theorem tw_lc_ge {i : Int} {nx0 a0 b0 d0 : Nat} {v0 : Value} (hc0 : cd[pc]? = some (some (.lcmp, nx0, a0, b0, d0, v0))) (hc : cd[nx0]? = some (some (.ifCond .ge i, nx, a, b, d, v))) (kt : (tvJ w1).toInt ≤ (tvJ w2).toInt → tG tt G cd bc bs rt (zW tt G dp) Q Z true a L s h c n) (kf : (tvJ w2).toInt < (tvJ w1).toInt → tG tt G cd bc bs rt (zW tt G dp) Q Z true nx L s h c n) : tG tt G cd bc bs rt (zW tt G dp) Q Z f pc L (w1 :: w2 :: s) h c n := tw_lcmp hc0 (tw_if_ge hc (fun q => kt (by have q2 := (lg_cmp_ge _ _).mp (tcond_ge.mpr (by rw [tz0]; exact q)); exact Int64.le_iff_toInt_le.mp q2)) (fun q => kf (by have q2 := (lg_cmp_lt _ _).mp (tcond_lt.mpr (by rw [tz0]; exact q)); exact Int64.lt_iff_toInt_lt.mp q2)))
theorem tw_lc_gt {i : Int} {nx0 a0 b0 d0 : Nat} {v0 : Value} (hc0 : cd[pc]? = some (some (.lcmp, nx0, a0, b0, d0, v0))) (hc : cd[nx0]? = some (some (.ifCond .gt i, nx, a, b, d, v))) (kt : (tvJ w1).toInt < (tvJ w2).toInt → tG tt G cd bc bs rt (zW tt G dp) Q Z true a L s h c n) (kf : (tvJ w2).toInt ≤ (tvJ w1).toInt → tG tt G cd bc bs rt (zW tt G dp) Q Z true nx L s h c n) : tG tt G cd bc bs rt (zW tt G dp) Q Z f pc L (w1 :: w2 :: s) h c n := tw_lcmp hc0 (tw_if_gt hc (fun q => kt (by have q2 := (lg_cmp_gt _ _).mp (tcond_gt.mpr (by rw [tz0]; exact q)); exact Int64.lt_iff_toInt_lt.mp q2)) (fun q => kf (by have q2 := (lg_cmp_le _ _).mp (tcond_le.mpr (by rw [tz0]; exact q)); exact Int64.le_iff_toInt_le.mp q2)))
theorem tw_lc_le {i : Int} {nx0 a0 b0 d0 : Nat} {v0 : Value} (hc0 : cd[pc]? = some (some (.lcmp, nx0, a0, b0, d0, v0))) (hc : cd[nx0]? = some (some (.ifCond .le i, nx, a, b, d, v))) (kt : (tvJ w2).toInt ≤ (tvJ w1).toInt → tG tt G cd bc bs rt (zW tt G dp) Q Z true a L s h c n) (kf : (tvJ w1).toInt < (tvJ w2).toInt → tG tt G cd bc bs rt (zW tt G dp) Q Z true nx L s h c n) : tG tt G cd bc bs rt (zW tt G dp) Q Z f pc L (w1 :: w2 :: s) h c n := tw_lcmp hc0 (tw_if_le hc (fun q => kt (by have q2 := (lg_cmp_le _ _).mp (tcond_le.mpr (by rw [tz0]; exact q)); exact Int64.le_iff_toInt_le.mp q2)) (fun q => kf (by have q2 := (lg_cmp_gt _ _).mp (tcond_gt.mpr (by rw [tz0]; exact q)); exact Int64.lt_iff_toInt_lt.mp q2)))
theorem tw_ifnull {i : Int} (hc : cd[pc]? = some (some (.ifnull i, nx, a, b, d, v))) (kt : w = .null → tG tt G cd bc bs rt (zW tt G dp) Q Z true a L s h c n) (kf : ∀ x, w = .ref x → tG tt G cd bc bs rt (zW tt G dp) Q Z true nx L s h c n) : tG tt G cd bc bs rt (zW tt G dp) Q Z f pc L (w :: s) h c n := tG_row hc (fun z => Or.elim z (fun z => by cases w <;> first | exact False.elim z | exact Or.inl (kt rfl z) | exact Or.inl (kf _ rfl z)) (fun z => False.elim z))
theorem tw_ifnn {i : Int} (hc : cd[pc]? = some (some (.ifnonnull i, nx, a, b, d, v))) (kf : w = .null → tG tt G cd bc bs rt (zW tt G dp) Q Z true nx L s h c n) (kt : ∀ x, w = .ref x → tG tt G cd bc bs rt (zW tt G dp) Q Z true a L s h c n) : tG tt G cd bc bs rt (zW tt G dp) Q Z f pc L (w :: s) h c n := tG_row hc (fun z => Or.elim z (fun z => by cases w <;> first | exact False.elim z | exact Or.inl (kf rfl z) | exact Or.inl (kt _ rfl z)) (fun z => False.elim z))
theorem tw_table {df lo hi : Int} {tg : Array Int} (hc : cd[pc]? = some (some (.tableswitch df lo hi tg, nx, a, b, d, v))) (k1 : ((tvI w).toInt < lo ∨ hi < (tvI w).toInt) → tG tt G cd bc bs rt (zW tt G dp) Q Z true df.toNat L s h c n) (k2 : ∀ t : Int, lo ≤ (tvI w).toInt → (tvI w).toInt ≤ hi → tg[((tvI w).toInt - lo).toNat]? = some t → tG tt G cd bc bs rt (zW tt G dp) Q Z true t.toNat L s h c n) : tG tt G cd bc bs rt (zW tt G dp) Q Z f pc L (w :: s) h c n := tG_row hc (fun z => Or.elim z (fun z => False.elim z) (fun z => by cases w <;> first | exact False.elim z | exact Or.inr ⟨fun q => k1 q (z.1 q), fun q1 q2 => (by obtain ⟨t, e1, e2⟩ := z.2 q1 q2; exact ⟨t, e1, k2 t (Int.not_lt.mp q1) (Int.not_lt.mp q2) e1 e2⟩)⟩))
theorem tw_lookup {df : Int} {ps : Array (Int × Int)} (hc : cd[pc]? = some (some (.lookupswitch df ps, nx, a, b, d, v))) (k : tG tt G cd bc bs rt (zW tt G dp) Q Z true (Op.lookupswitch.offset ps.toList df (tvI w).toInt).toNat L s h c n) : tG tt G cd bc bs rt (zW tt G dp) Q Z f pc L (w :: s) h c n := tG_row hc (fun z => Or.elim z (fun z => False.elim z) (fun z => by cases w <;> first | exact False.elim z | exact Or.inr (k z)))
theorem tw_iald  (hc : cd[pc]? = some (some (.iaload, nx, a, b, d, v))) (k : tIn h (tvR w2) 0 (tvI w1) → tG tt G cd bc bs rt (zW tt G dp) Q Z true nx L (.int (tA h (tvR w2) (tvI w1).toNatClampNeg) :: s) h c n) : tG tt G cd bc bs rt (zW tt G dp) Q Z f pc L (w1 :: w2 :: s) h c n := tG_row hc (fun z => Or.elim z (fun z => False.elim z) (fun z => by cases w1 <;> first | exact False.elim z | (cases w2 <;> first | exact False.elim z | (obtain ⟨N, g, e, hi, z⟩ := z; refine Or.inr ⟨N, g, e, hi, ?_⟩; have q := k ⟨N, g, e, hi⟩; unfold tA at q; dsimp only [tvR, tvI] at q; rw [e] at q; exact q z))))
theorem tw_lald  (hc : cd[pc]? = some (some (.laload, nx, a, b, d, v))) (k : tInJ h (tvR w2) (tvI w1) → tG tt G cd bc bs rt (zW tt G dp) Q Z true nx L (.long (tJ h (tvR w2) (tvI w1).toNatClampNeg) :: s) h c n) : tG tt G cd bc bs rt (zW tt G dp) Q Z f pc L (w1 :: w2 :: s) h c n := tG_row hc (fun z => Or.elim z (fun z => False.elim z) (fun z => by cases w1 <;> first | exact False.elim z | (cases w2 <;> first | exact False.elim z | (obtain ⟨N, g, e, hi, z⟩ := z; refine Or.inr ⟨N, g, e, hi, ?_⟩; have q := k ⟨N, g, e, hi⟩; unfold tJ at q; dsimp only [tvR, tvI] at q; rw [e] at q; exact q z))))
theorem tw_bald  (hc : cd[pc]? = some (some (.baload, nx, a, b, d, v))) (k : (∃ kd, tIn h (tvR w2) kd (tvI w1)) → tG tt G cd bc bs rt (zW tt G dp) Q Z true nx L (.int (tA h (tvR w2) (tvI w1).toNatClampNeg) :: s) h c n) : tG tt G cd bc bs rt (zW tt G dp) Q Z f pc L (w1 :: w2 :: s) h c n := tG_row hc (fun z => Or.elim z (fun z => False.elim z) (fun z => by cases w1 <;> first | exact False.elim z | (cases w2 <;> first | exact False.elim z | (obtain ⟨kd, N, g, hk, e, hi, z⟩ := z; refine Or.inr ⟨kd, N, g, hk, e, hi, ?_⟩; have q := k ⟨kd, N, g, e, hi⟩; unfold tA at q; dsimp only [tvR, tvI] at q; rw [e] at q; exact q z))))
theorem tw_aald  (hc : cd[pc]? = some (some (.aaload, nx, a, b, d, v))) (k : tInO h (tvR w2) (tvI w1) → tG tt G cd bc bs rt (zW tt G dp) Q Z true nx L (zrf (tO h (tvR w2) (tvI w1).toNatClampNeg) :: s) h c n) : tG tt G cd bc bs rt (zW tt G dp) Q Z f pc L (w1 :: w2 :: s) h c n := tG_row hc (fun z => Or.elim z (fun z => False.elim z) (fun z => by cases w1 <;> first | exact False.elim z | (cases w2 <;> first | exact False.elim z | (obtain ⟨kd, N, g, hk, e, hi, z⟩ := z; refine Or.inr ⟨kd, N, g, hk, e, hi, ?_⟩; have q := k ⟨kd, N, g, e, hi⟩; unfold tO at q; dsimp only [tvR, tvI] at q; rw [e] at q; exact q z))))
theorem tw_iast  (hc : cd[pc]? = some (some (.iastore, nx, a, b, d, v))) (k : tIn h (tvR w3) 0 (tvI w2) → tG tt G cd bc bs rt (zW tt G dp) Q Z true nx L s (tSA h (tvR w3) (tvI w2).toNatClampNeg (tvI w1)) c n) : tG tt G cd bc bs rt (zW tt G dp) Q Z f pc L (w1 :: w2 :: w3 :: s) h c n := tG_row hc (fun z => Or.elim z (fun z => False.elim z) (fun z => by cases w1 <;> first | exact False.elim z | (cases w2 <;> first | exact False.elim z | (cases w3 <;> first | exact False.elim z | (obtain ⟨N, g, e, hi, z⟩ := z; refine Or.inr ⟨N, g, e, hi, ?_⟩; have q := k ⟨N, g, e, hi⟩; unfold tSA at q; dsimp only [tvR, tvI] at q; rw [e] at q; exact q z)))))
theorem tw_last  (hc : cd[pc]? = some (some (.lastore, nx, a, b, d, v))) (k : tInJ h (tvR w3) (tvI w2) → tG tt G cd bc bs rt (zW tt G dp) Q Z true nx L s (tSJ h (tvR w3) (tvI w2).toNatClampNeg (tvJ w1)) c n) : tG tt G cd bc bs rt (zW tt G dp) Q Z f pc L (w1 :: w2 :: w3 :: s) h c n := tG_row hc (fun z => Or.elim z (fun z => False.elim z) (fun z => by cases w1 <;> first | exact False.elim z | (cases w2 <;> first | exact False.elim z | (cases w3 <;> first | exact False.elim z | (obtain ⟨N, g, e, hi, z⟩ := z; refine Or.inr ⟨N, g, e, hi, ?_⟩; have q := k ⟨N, g, e, hi⟩; unfold tSJ at q; dsimp only [tvR, tvI, tvJ] at q; rw [e] at q; exact q z)))))
theorem tw_bast  (hc : cd[pc]? = some (some (.bastore, nx, a, b, d, v))) (k : ∀ kd, (kd = 1 ∨ kd = 2) → tIn h (tvR w3) kd (tvI w2) → tG tt G cd bc bs rt (zW tt G dp) Q Z true nx L s (tSA h (tvR w3) (tvI w2).toNatClampNeg (vp_nar (if kd = 1 then .boolean else .byte) (tvI w1))) c n) : tG tt G cd bc bs rt (zW tt G dp) Q Z f pc L (w1 :: w2 :: w3 :: s) h c n := tG_row hc (fun z => Or.elim z (fun z => False.elim z) (fun z => by cases w1 <;> first | exact False.elim z | (cases w2 <;> first | exact False.elim z | (cases w3 <;> first | exact False.elim z | (obtain ⟨kd, N, g, hk, e, hi, z⟩ := z; refine Or.inr ⟨kd, N, g, hk, e, hi, ?_⟩; have q := k kd hk ⟨N, g, e, hi⟩; unfold tSA at q; dsimp only [tvR, tvI] at q; rw [e] at q; exact q z)))))
theorem tw_aast {y : Nat} (hc : cd[pc]? = some (some (.aastore, nx, a, b, d, v))) (k : tInO h (tvR w3) (tvI w2) → tG tt G cd bc bs rt (zW tt G dp) Q Z true nx L s (tSO h (tvR w3) (tvI w2).toNatClampNeg (some y)) c n) : tG tt G cd bc bs rt (zW tt G dp) Q Z f pc L (.ref y :: w2 :: w3 :: s) h c n := tG_row hc (fun z => Or.elim z (fun z => False.elim z) (fun z => by cases w2 <;> first | exact False.elim z | (cases w3 <;> first | exact False.elim z | (obtain ⟨kd, N, g, hk, e, hi, z⟩ := z; refine Or.inr ⟨kd, N, g, hk, e, hi, ?_⟩; have q := k ⟨kd, N, g, e, hi⟩; unfold tSO at q; dsimp only [tvR, tvI] at q; rw [e] at q; exact q z))))
theorem tw_alen  (hc : cd[pc]? = some (some (.arraylength, nx, a, b, d, v))) (k : tG tt G cd bc bs rt (zW tt G dp) Q Z true nx L (.int (Int32.ofNat (tN h (tvR w))) :: s) h c n) : tG tt G cd bc bs rt (zW tt G dp) Q Z f pc L (w :: s) h c n := tG_row hc (fun z => Or.elim z (fun z => False.elim z) (fun z => by cases w <;> first | exact False.elim z | (obtain ⟨kd, N, x, hk, e, z⟩ := z; refine Or.inr ⟨kd, N, x, hk, e, ?_⟩; have q := k; unfold tN at q; dsimp only [tvR] at q; rw [e] at q; exact q z)))
theorem tw_ialdS {x : Int32} (hc : cd[pc]? = some (some (.iaload, nx, a, b, d, v))) (hv : tIn h (tvR w2) 0 (tvI w1) → tA h (tvR w2) (tvI w1).toNatClampNeg = x) (k : tIn h (tvR w2) 0 (tvI w1) → tG tt G cd bc bs rt (zW tt G dp) Q Z true nx L (.int x :: s) h c n) : tG tt G cd bc bs rt (zW tt G dp) Q Z f pc L (w1 :: w2 :: s) h c n := tw_iald hc (fun z => by rw [hv z]; exact k z)
theorem tw_baldS {x : Int32} (hc : cd[pc]? = some (some (.baload, nx, a, b, d, v))) (hv : (∃ kd, tIn h (tvR w2) kd (tvI w1)) → tA h (tvR w2) (tvI w1).toNatClampNeg = x) (k : (∃ kd, tIn h (tvR w2) kd (tvI w1)) → tG tt G cd bc bs rt (zW tt G dp) Q Z true nx L (.int x :: s) h c n) : tG tt G cd bc bs rt (zW tt G dp) Q Z f pc L (w1 :: w2 :: s) h c n := tw_bald hc (fun z => by rw [hv z]; exact k z)
theorem tw_aaldS {w : Value} (hc : cd[pc]? = some (some (.aaload, nx, a, b, d, v))) (hv : tInO h (tvR w2) (tvI w1) → zrf (tO h (tvR w2) (tvI w1).toNatClampNeg) = w) (k : tG tt G cd bc bs rt (zW tt G dp) Q Z true nx L (w :: s) h c n) : tG tt G cd bc bs rt (zW tt G dp) Q Z f pc L (w1 :: w2 :: s) h c n := tw_aald hc (fun z => by rw [hv z]; exact k)
theorem tnar01 {x : Int32} (h1 : 0 ≤ x.toInt) (h2 : x.toInt ≤ 1) (kd : Nat) : vp_nar (if kd = 1 then .boolean else .byte) x = x := by
  rcases (by omega : x.toInt = 0 ∨ x.toInt = 1) with q | q
  · have e : x = 0 := Int32.toInt_inj.mp (by rw [q]; rfl)
    subst e
    split <;> rfl
  · have e : x = 1 := Int32.toInt_inj.mp (by rw [q]; rfl)
    subst e
    split <;> rfl
theorem tw_bastZ {x : Int32} (hx : 0 ≤ x.toInt ∧ x.toInt ≤ 1) (hc : cd[pc]? = some (some (.bastore, nx, a, b, d, v))) (k : ∀ kd, tIn h (tvR w3) kd (tvI w2) → tG tt G cd bc bs rt (zW tt G dp) Q Z true nx L s (tSA h (tvR w3) (tvI w2).toNatClampNeg x) c n) : tG tt G cd bc bs rt (zW tt G dp) Q Z f pc L (.int x :: w2 :: w3 :: s) h c n := tw_bast hc (fun kd _ z => by rw [show vp_nar (if kd = 1 then .boolean else .byte) (tvI (.int x)) = x from tnar01 hx.1 hx.2 kd]; exact k kd z)
theorem tw_get {i r : Nat} (hc : cd[pc]? = some (some (.getfield i, nx, a, b, d, v))) (k : tG tt G cd bc bs rt (zW tt G dp) Q Z true nx L (tF h r b :: s) h c n) : tG tt G cd bc bs rt (zW tt G dp) Q Z f pc L (.ref r :: s) h c n := tG_row hc (fun z => Or.elim z (fun z => False.elim z) (fun z => by obtain ⟨fs, w, e, e2, z⟩ := z; refine Or.inr ⟨fs, w, e, e2, ?_⟩; have q := k; unfold tF at q; rw [e] at q; dsimp only at q; rw [List.getD_eq_getElem?_getD, e2] at q; exact q z))
theorem tw_getS {i r : Nat} (hc : cd[pc]? = some (some (.getfield i, nx, a, b, d, v))) (hv : tF h r b = w) (k : tG tt G cd bc bs rt (zW tt G dp) Q Z true nx L (w :: s) h c n) : tG tt G cd bc bs rt (zW tt G dp) Q Z f pc L (.ref r :: s) h c n := tw_get hc (by rw [hv]; exact k)
theorem tw_put {i r : Nat} (hc : cd[pc]? = some (some (.putfield i, nx, a, b, d, v))) (k : tFd h r b → tG tt G cd bc bs rt (zW tt G dp) Q Z true nx L s (tSF h r b w) c n) : tG tt G cd bc bs rt (zW tt G dp) Q Z f pc L (w :: .ref r :: s) h c n := tG_row hc (fun z => Or.elim z (fun z => False.elim z) (fun z => by obtain ⟨fs, t, e, e1, e2, e3, e4, z⟩ := z; refine Or.inr ⟨fs, t, e, e1, e2, e3, e4, ?_⟩; have q := k ⟨a, fs, e, e1⟩; unfold tSF at q; rw [e] at q; exact q z))
theorem tw_oinit {r : Nat} (hc : cd[pc]? = some (some (.pop2, nx, a, b, d, v))) (k : tG tt G cd bc bs rt (zW tt G dp) Q Z true nx L s h c n) : tG tt G cd bc bs rt (zW tt G dp) Q Z f pc L (.ref r :: s) h c n := tG_row hc (fun z => Or.elim z (fun z => False.elim z) (fun z => Or.inr ⟨z.1, k z.2⟩))
theorem tw_new {i : Nat} {fs : List Value} (hc : cd[pc]? = some (some (.new i, nx, a, b, d, v))) (hf : zcls tt a = fs) (k : tG tt G cd bc bs rt (zW tt G dp) Q Z true nx L (.ref h.length :: s) (h ++ [.inr (a, fs)]) (c + 1) (n + fs.length)) : tG tt G cd bc bs rt (zW tt G dp) Q Z f pc L s h c n := tG_row hc (fun z => Or.elim z (fun z => False.elim z) (fun z => by subst hf; exact Or.inr ⟨z.1, z.2.1, k z.2.2⟩))
theorem tw_newa {t : ArrayType} (hc : cd[pc]? = some (some (.newarray t, nx, a, b, d, v))) (k : tG tt G cd bc bs rt (zW tt G dp) Q Z true nx L (.ref h.length :: s) (h ++ [zarr (zkind t) (tvI w).toNatClampNeg]) (c + 1) (n + (tvI w).toNatClampNeg)) : tG tt G cd bc bs rt (zW tt G dp) Q Z f pc L (w :: s) h c n := tG_row hc (fun z => Or.elim z (fun z => False.elim z) (fun z => by cases w <;> first | exact False.elim z | exact Or.inr ⟨z.1, z.2.1, z.2.2.1, z.2.2.2.1, z.2.2.2.2.1, k z.2.2.2.2.2⟩))
theorem tw_sald  (hc : cd[pc]? = some (some (.saload, nx, a, b, d, v))) (k : vp_in (tvI w) G.2.2.1 → tG tt G cd bc bs rt (zW tt G dp) Q Z true nx L (.int (G.2.2.2 (tvI w).toNatClampNeg) :: s) h c n) : tG tt G cd bc bs rt (zW tt G dp) Q Z f pc L (w :: .retAddr 0 :: s) h c n := tG_row hc (fun z => Or.elim z (fun z => False.elim z) (fun z => by cases w <;> first | exact False.elim z | exact Or.inr ⟨z.1, k z.1 z.2⟩))
theorem tw_chr {q : Nat} (hc : cd[pc]? = some (some (.caload, nx, a, b, d, v))) (k : vp_in (tvI w) (G.2.1 q).length → tG tt G cd bc bs rt (zW tt G dp) Q Z true nx L (.int ((G.2.1 q).getD (tvI w).toNatClampNeg 0) :: s) h c n) : tG tt G cd bc bs rt (zW tt G dp) Q Z f pc L (w :: .retAddr q :: s) h c n := tG_row hc (fun z => Or.elim z (fun z => False.elim z) (fun z => by cases w <;> first | exact False.elim z | exact Or.inr ⟨z.1, z.2.1, k z.1 z.2.2⟩))
theorem tw_tlen {q : Nat} (hc : cd[pc]? = some (some (.i2c, nx, a, b, d, v))) (k : tG tt G cd bc bs rt (zW tt G dp) Q Z true nx L (.int (Int32.ofNat (G.2.1 q).length) :: s) h c n) : tG tt G cd bc bs rt (zW tt G dp) Q Z f pc L (.retAddr q :: s) h c n := tG_row hc (fun z => Or.elim z (fun z => False.elim z) (fun z => Or.inr ⟨z.1, z.2.1, k z.2.2⟩))
theorem tw_virt0 {i r : Nat} {Qa : zQ} (hc : cd[pc]? = some (some (.invokevirtual i, nx, a, 0, d, v))) (kc : tC tt G a (.ref r :: []) h Qa) (k : ∀ w h2, Qa w h2 → tG tt G cd bc bs rt (zW tt G dp) Q Z true nx L (w.toList ++ s) h2 (c + (zbud G a).1) (n + (zbud G a).2)) : tG tt G cd bc bs rt (zW tt G dp) Q Z f pc L (.ref r :: s) h c n := tG_row hc (fun z => Or.elim z (fun z => False.elim z) (fun z => Or.inr ⟨z.1, z.2.1, z.2.2.1, z.2.2.2.1, z.2.2.2.2.1, zW_mono tt G dp _ _ _ _ _ (fun w h2 q => k w h2 q.2 q.1) (tC.both kc z.2.2.2.2.2)⟩))
theorem tw_spec0 {i r : Nat} {Qa : zQ} (hc : cd[pc]? = some (some (.invokespecial i, nx, a, 0, d, v))) (kc : tC tt G a (.ref r :: []) h Qa) (k : ∀ w h2, Qa w h2 → tG tt G cd bc bs rt (zW tt G dp) Q Z true nx L (w.toList ++ s) h2 (c + (zbud G a).1) (n + (zbud G a).2)) : tG tt G cd bc bs rt (zW tt G dp) Q Z f pc L (.ref r :: s) h c n := tG_row hc (fun z => Or.elim z (fun z => False.elim z) (fun z => Or.inr ⟨z.1, z.2.1, z.2.2.1, z.2.2.2.1, zW_mono tt G dp _ _ _ _ _ (fun w h2 q => k w h2 q.2 q.1) (tC.both kc z.2.2.2.2)⟩))
theorem tw_virt1 {i r : Nat} {Qa : zQ} {x1 : Value} (hc : cd[pc]? = some (some (.invokevirtual i, nx, a, 1, d, v))) (kc : tC tt G a (.ref r :: [x1]) h Qa) (k : ∀ w h2, Qa w h2 → tG tt G cd bc bs rt (zW tt G dp) Q Z true nx L (w.toList ++ s) h2 (c + (zbud G a).1) (n + (zbud G a).2)) : tG tt G cd bc bs rt (zW tt G dp) Q Z f pc L (x1 :: .ref r :: s) h c n := tG_row hc (fun z => Or.elim z (fun z => False.elim z) (fun z => Or.inr ⟨z.1, z.2.1, z.2.2.1, z.2.2.2.1, z.2.2.2.2.1, zW_mono tt G dp _ _ _ _ _ (fun w h2 q => k w h2 q.2 q.1) (tC.both kc z.2.2.2.2.2)⟩))
theorem tw_spec1 {i r : Nat} {Qa : zQ} {x1 : Value} (hc : cd[pc]? = some (some (.invokespecial i, nx, a, 1, d, v))) (kc : tC tt G a (.ref r :: [x1]) h Qa) (k : ∀ w h2, Qa w h2 → tG tt G cd bc bs rt (zW tt G dp) Q Z true nx L (w.toList ++ s) h2 (c + (zbud G a).1) (n + (zbud G a).2)) : tG tt G cd bc bs rt (zW tt G dp) Q Z f pc L (x1 :: .ref r :: s) h c n := tG_row hc (fun z => Or.elim z (fun z => False.elim z) (fun z => Or.inr ⟨z.1, z.2.1, z.2.2.1, z.2.2.2.1, zW_mono tt G dp _ _ _ _ _ (fun w h2 q => k w h2 q.2 q.1) (tC.both kc z.2.2.2.2)⟩))
theorem tw_stat1 {i : Nat} {Qa : zQ} {x1 : Value} (hc : cd[pc]? = some (some (.invokestatic i, nx, a, 1, d, v))) (kc : tC tt G a [x1] h Qa) (k : ∀ w h2, Qa w h2 → tG tt G cd bc bs rt (zW tt G dp) Q Z true nx L (w.toList ++ s) h2 (c + (zbud G a).1) (n + (zbud G a).2)) : tG tt G cd bc bs rt (zW tt G dp) Q Z f pc L (x1 :: s) h c n := tG_row hc (fun z => Or.elim z (fun z => False.elim z) (fun z => Or.inr ⟨z.1, z.2.1, z.2.2.1, z.2.2.2.1, zW_mono tt G dp _ _ _ _ _ (fun w h2 q => k w h2 q.2 q.1) (tC.both kc z.2.2.2.2)⟩))
theorem tw_virt2 {i r : Nat} {Qa : zQ} {x1 x2 : Value} (hc : cd[pc]? = some (some (.invokevirtual i, nx, a, 2, d, v))) (kc : tC tt G a (.ref r :: [x1, x2]) h Qa) (k : ∀ w h2, Qa w h2 → tG tt G cd bc bs rt (zW tt G dp) Q Z true nx L (w.toList ++ s) h2 (c + (zbud G a).1) (n + (zbud G a).2)) : tG tt G cd bc bs rt (zW tt G dp) Q Z f pc L (x2 :: x1 :: .ref r :: s) h c n := tG_row hc (fun z => Or.elim z (fun z => False.elim z) (fun z => Or.inr ⟨z.1, z.2.1, z.2.2.1, z.2.2.2.1, z.2.2.2.2.1, zW_mono tt G dp _ _ _ _ _ (fun w h2 q => k w h2 q.2 q.1) (tC.both kc z.2.2.2.2.2)⟩))
theorem tw_spec2 {i r : Nat} {Qa : zQ} {x1 x2 : Value} (hc : cd[pc]? = some (some (.invokespecial i, nx, a, 2, d, v))) (kc : tC tt G a (.ref r :: [x1, x2]) h Qa) (k : ∀ w h2, Qa w h2 → tG tt G cd bc bs rt (zW tt G dp) Q Z true nx L (w.toList ++ s) h2 (c + (zbud G a).1) (n + (zbud G a).2)) : tG tt G cd bc bs rt (zW tt G dp) Q Z f pc L (x2 :: x1 :: .ref r :: s) h c n := tG_row hc (fun z => Or.elim z (fun z => False.elim z) (fun z => Or.inr ⟨z.1, z.2.1, z.2.2.1, z.2.2.2.1, zW_mono tt G dp _ _ _ _ _ (fun w h2 q => k w h2 q.2 q.1) (tC.both kc z.2.2.2.2)⟩))
theorem tw_stat2 {i : Nat} {Qa : zQ} {x1 x2 : Value} (hc : cd[pc]? = some (some (.invokestatic i, nx, a, 2, d, v))) (kc : tC tt G a [x1, x2] h Qa) (k : ∀ w h2, Qa w h2 → tG tt G cd bc bs rt (zW tt G dp) Q Z true nx L (w.toList ++ s) h2 (c + (zbud G a).1) (n + (zbud G a).2)) : tG tt G cd bc bs rt (zW tt G dp) Q Z f pc L (x2 :: x1 :: s) h c n := tG_row hc (fun z => Or.elim z (fun z => False.elim z) (fun z => Or.inr ⟨z.1, z.2.1, z.2.2.1, z.2.2.2.1, zW_mono tt G dp _ _ _ _ _ (fun w h2 q => k w h2 q.2 q.1) (tC.both kc z.2.2.2.2)⟩))
theorem tw_virt3 {i r : Nat} {Qa : zQ} {x1 x2 x3 : Value} (hc : cd[pc]? = some (some (.invokevirtual i, nx, a, 3, d, v))) (kc : tC tt G a (.ref r :: [x1, x2, x3]) h Qa) (k : ∀ w h2, Qa w h2 → tG tt G cd bc bs rt (zW tt G dp) Q Z true nx L (w.toList ++ s) h2 (c + (zbud G a).1) (n + (zbud G a).2)) : tG tt G cd bc bs rt (zW tt G dp) Q Z f pc L (x3 :: x2 :: x1 :: .ref r :: s) h c n := tG_row hc (fun z => Or.elim z (fun z => False.elim z) (fun z => Or.inr ⟨z.1, z.2.1, z.2.2.1, z.2.2.2.1, z.2.2.2.2.1, zW_mono tt G dp _ _ _ _ _ (fun w h2 q => k w h2 q.2 q.1) (tC.both kc z.2.2.2.2.2)⟩))
theorem tw_spec3 {i r : Nat} {Qa : zQ} {x1 x2 x3 : Value} (hc : cd[pc]? = some (some (.invokespecial i, nx, a, 3, d, v))) (kc : tC tt G a (.ref r :: [x1, x2, x3]) h Qa) (k : ∀ w h2, Qa w h2 → tG tt G cd bc bs rt (zW tt G dp) Q Z true nx L (w.toList ++ s) h2 (c + (zbud G a).1) (n + (zbud G a).2)) : tG tt G cd bc bs rt (zW tt G dp) Q Z f pc L (x3 :: x2 :: x1 :: .ref r :: s) h c n := tG_row hc (fun z => Or.elim z (fun z => False.elim z) (fun z => Or.inr ⟨z.1, z.2.1, z.2.2.1, z.2.2.2.1, zW_mono tt G dp _ _ _ _ _ (fun w h2 q => k w h2 q.2 q.1) (tC.both kc z.2.2.2.2)⟩))
theorem tw_stat3 {i : Nat} {Qa : zQ} {x1 x2 x3 : Value} (hc : cd[pc]? = some (some (.invokestatic i, nx, a, 3, d, v))) (kc : tC tt G a [x1, x2, x3] h Qa) (k : ∀ w h2, Qa w h2 → tG tt G cd bc bs rt (zW tt G dp) Q Z true nx L (w.toList ++ s) h2 (c + (zbud G a).1) (n + (zbud G a).2)) : tG tt G cd bc bs rt (zW tt G dp) Q Z f pc L (x3 :: x2 :: x1 :: s) h c n := tG_row hc (fun z => Or.elim z (fun z => False.elim z) (fun z => Or.inr ⟨z.1, z.2.1, z.2.2.1, z.2.2.2.1, zW_mono tt G dp _ _ _ _ _ (fun w h2 q => k w h2 q.2 q.1) (tC.both kc z.2.2.2.2)⟩))
theorem tw_virt4 {i r : Nat} {Qa : zQ} {x1 x2 x3 x4 : Value} (hc : cd[pc]? = some (some (.invokevirtual i, nx, a, 4, d, v))) (kc : tC tt G a (.ref r :: [x1, x2, x3, x4]) h Qa) (k : ∀ w h2, Qa w h2 → tG tt G cd bc bs rt (zW tt G dp) Q Z true nx L (w.toList ++ s) h2 (c + (zbud G a).1) (n + (zbud G a).2)) : tG tt G cd bc bs rt (zW tt G dp) Q Z f pc L (x4 :: x3 :: x2 :: x1 :: .ref r :: s) h c n := tG_row hc (fun z => Or.elim z (fun z => False.elim z) (fun z => Or.inr ⟨z.1, z.2.1, z.2.2.1, z.2.2.2.1, z.2.2.2.2.1, zW_mono tt G dp _ _ _ _ _ (fun w h2 q => k w h2 q.2 q.1) (tC.both kc z.2.2.2.2.2)⟩))
theorem tw_spec4 {i r : Nat} {Qa : zQ} {x1 x2 x3 x4 : Value} (hc : cd[pc]? = some (some (.invokespecial i, nx, a, 4, d, v))) (kc : tC tt G a (.ref r :: [x1, x2, x3, x4]) h Qa) (k : ∀ w h2, Qa w h2 → tG tt G cd bc bs rt (zW tt G dp) Q Z true nx L (w.toList ++ s) h2 (c + (zbud G a).1) (n + (zbud G a).2)) : tG tt G cd bc bs rt (zW tt G dp) Q Z f pc L (x4 :: x3 :: x2 :: x1 :: .ref r :: s) h c n := tG_row hc (fun z => Or.elim z (fun z => False.elim z) (fun z => Or.inr ⟨z.1, z.2.1, z.2.2.1, z.2.2.2.1, zW_mono tt G dp _ _ _ _ _ (fun w h2 q => k w h2 q.2 q.1) (tC.both kc z.2.2.2.2)⟩))
theorem tw_stat4 {i : Nat} {Qa : zQ} {x1 x2 x3 x4 : Value} (hc : cd[pc]? = some (some (.invokestatic i, nx, a, 4, d, v))) (kc : tC tt G a [x1, x2, x3, x4] h Qa) (k : ∀ w h2, Qa w h2 → tG tt G cd bc bs rt (zW tt G dp) Q Z true nx L (w.toList ++ s) h2 (c + (zbud G a).1) (n + (zbud G a).2)) : tG tt G cd bc bs rt (zW tt G dp) Q Z f pc L (x4 :: x3 :: x2 :: x1 :: s) h c n := tG_row hc (fun z => Or.elim z (fun z => False.elim z) (fun z => Or.inr ⟨z.1, z.2.1, z.2.2.1, z.2.2.2.1, zW_mono tt G dp _ _ _ _ _ (fun w h2 q => k w h2 q.2 q.1) (tC.both kc z.2.2.2.2)⟩))
theorem tw_virt5 {i r : Nat} {Qa : zQ} {x1 x2 x3 x4 x5 : Value} (hc : cd[pc]? = some (some (.invokevirtual i, nx, a, 5, d, v))) (kc : tC tt G a (.ref r :: [x1, x2, x3, x4, x5]) h Qa) (k : ∀ w h2, Qa w h2 → tG tt G cd bc bs rt (zW tt G dp) Q Z true nx L (w.toList ++ s) h2 (c + (zbud G a).1) (n + (zbud G a).2)) : tG tt G cd bc bs rt (zW tt G dp) Q Z f pc L (x5 :: x4 :: x3 :: x2 :: x1 :: .ref r :: s) h c n := tG_row hc (fun z => Or.elim z (fun z => False.elim z) (fun z => Or.inr ⟨z.1, z.2.1, z.2.2.1, z.2.2.2.1, z.2.2.2.2.1, zW_mono tt G dp _ _ _ _ _ (fun w h2 q => k w h2 q.2 q.1) (tC.both kc z.2.2.2.2.2)⟩))
theorem tw_spec5 {i r : Nat} {Qa : zQ} {x1 x2 x3 x4 x5 : Value} (hc : cd[pc]? = some (some (.invokespecial i, nx, a, 5, d, v))) (kc : tC tt G a (.ref r :: [x1, x2, x3, x4, x5]) h Qa) (k : ∀ w h2, Qa w h2 → tG tt G cd bc bs rt (zW tt G dp) Q Z true nx L (w.toList ++ s) h2 (c + (zbud G a).1) (n + (zbud G a).2)) : tG tt G cd bc bs rt (zW tt G dp) Q Z f pc L (x5 :: x4 :: x3 :: x2 :: x1 :: .ref r :: s) h c n := tG_row hc (fun z => Or.elim z (fun z => False.elim z) (fun z => Or.inr ⟨z.1, z.2.1, z.2.2.1, z.2.2.2.1, zW_mono tt G dp _ _ _ _ _ (fun w h2 q => k w h2 q.2 q.1) (tC.both kc z.2.2.2.2)⟩))
theorem tw_stat5 {i : Nat} {Qa : zQ} {x1 x2 x3 x4 x5 : Value} (hc : cd[pc]? = some (some (.invokestatic i, nx, a, 5, d, v))) (kc : tC tt G a [x1, x2, x3, x4, x5] h Qa) (k : ∀ w h2, Qa w h2 → tG tt G cd bc bs rt (zW tt G dp) Q Z true nx L (w.toList ++ s) h2 (c + (zbud G a).1) (n + (zbud G a).2)) : tG tt G cd bc bs rt (zW tt G dp) Q Z f pc L (x5 :: x4 :: x3 :: x2 :: x1 :: s) h c n := tG_row hc (fun z => Or.elim z (fun z => False.elim z) (fun z => Or.inr ⟨z.1, z.2.1, z.2.2.1, z.2.2.2.1, zW_mono tt G dp _ _ _ _ _ (fun w h2 q => k w h2 q.2 q.1) (tC.both kc z.2.2.2.2)⟩))
theorem tw_virt6 {i r : Nat} {Qa : zQ} {x1 x2 x3 x4 x5 x6 : Value} (hc : cd[pc]? = some (some (.invokevirtual i, nx, a, 6, d, v))) (kc : tC tt G a (.ref r :: [x1, x2, x3, x4, x5, x6]) h Qa) (k : ∀ w h2, Qa w h2 → tG tt G cd bc bs rt (zW tt G dp) Q Z true nx L (w.toList ++ s) h2 (c + (zbud G a).1) (n + (zbud G a).2)) : tG tt G cd bc bs rt (zW tt G dp) Q Z f pc L (x6 :: x5 :: x4 :: x3 :: x2 :: x1 :: .ref r :: s) h c n := tG_row hc (fun z => Or.elim z (fun z => False.elim z) (fun z => Or.inr ⟨z.1, z.2.1, z.2.2.1, z.2.2.2.1, z.2.2.2.2.1, zW_mono tt G dp _ _ _ _ _ (fun w h2 q => k w h2 q.2 q.1) (tC.both kc z.2.2.2.2.2)⟩))
theorem tw_spec6 {i r : Nat} {Qa : zQ} {x1 x2 x3 x4 x5 x6 : Value} (hc : cd[pc]? = some (some (.invokespecial i, nx, a, 6, d, v))) (kc : tC tt G a (.ref r :: [x1, x2, x3, x4, x5, x6]) h Qa) (k : ∀ w h2, Qa w h2 → tG tt G cd bc bs rt (zW tt G dp) Q Z true nx L (w.toList ++ s) h2 (c + (zbud G a).1) (n + (zbud G a).2)) : tG tt G cd bc bs rt (zW tt G dp) Q Z f pc L (x6 :: x5 :: x4 :: x3 :: x2 :: x1 :: .ref r :: s) h c n := tG_row hc (fun z => Or.elim z (fun z => False.elim z) (fun z => Or.inr ⟨z.1, z.2.1, z.2.2.1, z.2.2.2.1, zW_mono tt G dp _ _ _ _ _ (fun w h2 q => k w h2 q.2 q.1) (tC.both kc z.2.2.2.2)⟩))
theorem tw_stat6 {i : Nat} {Qa : zQ} {x1 x2 x3 x4 x5 x6 : Value} (hc : cd[pc]? = some (some (.invokestatic i, nx, a, 6, d, v))) (kc : tC tt G a [x1, x2, x3, x4, x5, x6] h Qa) (k : ∀ w h2, Qa w h2 → tG tt G cd bc bs rt (zW tt G dp) Q Z true nx L (w.toList ++ s) h2 (c + (zbud G a).1) (n + (zbud G a).2)) : tG tt G cd bc bs rt (zW tt G dp) Q Z f pc L (x6 :: x5 :: x4 :: x3 :: x2 :: x1 :: s) h c n := tG_row hc (fun z => Or.elim z (fun z => False.elim z) (fun z => Or.inr ⟨z.1, z.2.1, z.2.2.1, z.2.2.2.1, zW_mono tt G dp _ _ _ _ _ (fun w h2 q => k w h2 q.2 q.1) (tC.both kc z.2.2.2.2)⟩))
theorem tw_virt7 {i r : Nat} {Qa : zQ} {x1 x2 x3 x4 x5 x6 x7 : Value} (hc : cd[pc]? = some (some (.invokevirtual i, nx, a, 7, d, v))) (kc : tC tt G a (.ref r :: [x1, x2, x3, x4, x5, x6, x7]) h Qa) (k : ∀ w h2, Qa w h2 → tG tt G cd bc bs rt (zW tt G dp) Q Z true nx L (w.toList ++ s) h2 (c + (zbud G a).1) (n + (zbud G a).2)) : tG tt G cd bc bs rt (zW tt G dp) Q Z f pc L (x7 :: x6 :: x5 :: x4 :: x3 :: x2 :: x1 :: .ref r :: s) h c n := tG_row hc (fun z => Or.elim z (fun z => False.elim z) (fun z => Or.inr ⟨z.1, z.2.1, z.2.2.1, z.2.2.2.1, z.2.2.2.2.1, zW_mono tt G dp _ _ _ _ _ (fun w h2 q => k w h2 q.2 q.1) (tC.both kc z.2.2.2.2.2)⟩))
theorem tw_spec7 {i r : Nat} {Qa : zQ} {x1 x2 x3 x4 x5 x6 x7 : Value} (hc : cd[pc]? = some (some (.invokespecial i, nx, a, 7, d, v))) (kc : tC tt G a (.ref r :: [x1, x2, x3, x4, x5, x6, x7]) h Qa) (k : ∀ w h2, Qa w h2 → tG tt G cd bc bs rt (zW tt G dp) Q Z true nx L (w.toList ++ s) h2 (c + (zbud G a).1) (n + (zbud G a).2)) : tG tt G cd bc bs rt (zW tt G dp) Q Z f pc L (x7 :: x6 :: x5 :: x4 :: x3 :: x2 :: x1 :: .ref r :: s) h c n := tG_row hc (fun z => Or.elim z (fun z => False.elim z) (fun z => Or.inr ⟨z.1, z.2.1, z.2.2.1, z.2.2.2.1, zW_mono tt G dp _ _ _ _ _ (fun w h2 q => k w h2 q.2 q.1) (tC.both kc z.2.2.2.2)⟩))
theorem tw_stat7 {i : Nat} {Qa : zQ} {x1 x2 x3 x4 x5 x6 x7 : Value} (hc : cd[pc]? = some (some (.invokestatic i, nx, a, 7, d, v))) (kc : tC tt G a [x1, x2, x3, x4, x5, x6, x7] h Qa) (k : ∀ w h2, Qa w h2 → tG tt G cd bc bs rt (zW tt G dp) Q Z true nx L (w.toList ++ s) h2 (c + (zbud G a).1) (n + (zbud G a).2)) : tG tt G cd bc bs rt (zW tt G dp) Q Z f pc L (x7 :: x6 :: x5 :: x4 :: x3 :: x2 :: x1 :: s) h c n := tG_row hc (fun z => Or.elim z (fun z => False.elim z) (fun z => Or.inr ⟨z.1, z.2.1, z.2.2.1, z.2.2.2.1, zW_mono tt G dp _ _ _ _ _ (fun w h2 q => k w h2 q.2 q.1) (tC.both kc z.2.2.2.2)⟩))
theorem tw_virt8 {i r : Nat} {Qa : zQ} {x1 x2 x3 x4 x5 x6 x7 x8 : Value} (hc : cd[pc]? = some (some (.invokevirtual i, nx, a, 8, d, v))) (kc : tC tt G a (.ref r :: [x1, x2, x3, x4, x5, x6, x7, x8]) h Qa) (k : ∀ w h2, Qa w h2 → tG tt G cd bc bs rt (zW tt G dp) Q Z true nx L (w.toList ++ s) h2 (c + (zbud G a).1) (n + (zbud G a).2)) : tG tt G cd bc bs rt (zW tt G dp) Q Z f pc L (x8 :: x7 :: x6 :: x5 :: x4 :: x3 :: x2 :: x1 :: .ref r :: s) h c n := tG_row hc (fun z => Or.elim z (fun z => False.elim z) (fun z => Or.inr ⟨z.1, z.2.1, z.2.2.1, z.2.2.2.1, z.2.2.2.2.1, zW_mono tt G dp _ _ _ _ _ (fun w h2 q => k w h2 q.2 q.1) (tC.both kc z.2.2.2.2.2)⟩))
theorem tw_spec8 {i r : Nat} {Qa : zQ} {x1 x2 x3 x4 x5 x6 x7 x8 : Value} (hc : cd[pc]? = some (some (.invokespecial i, nx, a, 8, d, v))) (kc : tC tt G a (.ref r :: [x1, x2, x3, x4, x5, x6, x7, x8]) h Qa) (k : ∀ w h2, Qa w h2 → tG tt G cd bc bs rt (zW tt G dp) Q Z true nx L (w.toList ++ s) h2 (c + (zbud G a).1) (n + (zbud G a).2)) : tG tt G cd bc bs rt (zW tt G dp) Q Z f pc L (x8 :: x7 :: x6 :: x5 :: x4 :: x3 :: x2 :: x1 :: .ref r :: s) h c n := tG_row hc (fun z => Or.elim z (fun z => False.elim z) (fun z => Or.inr ⟨z.1, z.2.1, z.2.2.1, z.2.2.2.1, zW_mono tt G dp _ _ _ _ _ (fun w h2 q => k w h2 q.2 q.1) (tC.both kc z.2.2.2.2)⟩))
theorem tw_stat8 {i : Nat} {Qa : zQ} {x1 x2 x3 x4 x5 x6 x7 x8 : Value} (hc : cd[pc]? = some (some (.invokestatic i, nx, a, 8, d, v))) (kc : tC tt G a [x1, x2, x3, x4, x5, x6, x7, x8] h Qa) (k : ∀ w h2, Qa w h2 → tG tt G cd bc bs rt (zW tt G dp) Q Z true nx L (w.toList ++ s) h2 (c + (zbud G a).1) (n + (zbud G a).2)) : tG tt G cd bc bs rt (zW tt G dp) Q Z f pc L (x8 :: x7 :: x6 :: x5 :: x4 :: x3 :: x2 :: x1 :: s) h c n := tG_row hc (fun z => Or.elim z (fun z => False.elim z) (fun z => Or.inr ⟨z.1, z.2.1, z.2.2.1, z.2.2.2.1, zW_mono tt G dp _ _ _ _ _ (fun w h2 q => k w h2 q.2 q.1) (tC.both kc z.2.2.2.2)⟩))
theorem tw_iret  (hc : cd[pc]? = some (some (.ireturn, nx, a, b, d, v))) (k : Q (some (.int (tvI w))) h) : tG tt G cd bc bs rt (zW tt G dp) Q Z f pc L [w] h c n := tG_row hc (fun z => Or.elim z (fun z => False.elim z) (fun z => by cases w <;> first | exact False.elim z | exact Or.inr ⟨z.1, k⟩))
theorem tw_lret  (hc : cd[pc]? = some (some (.lreturn, nx, a, b, d, v))) (k : Q (some (.long (tvJ w))) h) : tG tt G cd bc bs rt (zW tt G dp) Q Z f pc L [w] h c n := tG_row hc (fun z => Or.elim z (fun z => False.elim z) (fun z => by cases w <;> first | exact False.elim z | exact Or.inr ⟨z.1, k⟩))
theorem tw_aret  (hc : cd[pc]? = some (some (.areturn, nx, a, b, d, v))) (k : Q (some w) h) : tG tt G cd bc bs rt (zW tt G dp) Q Z f pc L [w] h c n := tG_row hc (fun z => Or.elim z (fun z => False.elim z) (fun z => by cases w <;> first | exact False.elim z | exact Or.inr ⟨z.1, k⟩))
theorem tw_vret  (hc : cd[pc]? = some (some (.return_, nx, a, b, d, v))) (k : Q none h) : tG tt G cd bc bs rt (zW tt G dp) Q Z f pc L [] h c n := tG_row hc (fun z => Or.elim z (fun z => False.elim z) (fun z => Or.inr ⟨z.1, k⟩))
end TR
