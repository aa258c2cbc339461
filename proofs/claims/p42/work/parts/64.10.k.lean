section
/-! FUNCTIONAL PROOFS IN TANDEM: a run that is known to end is walked once more, for what it answers; nothing of its safety is asked again. -/
noncomputable def zcj (M M2 : zM) : Prop := ∀ (j : Nat) (as : List Value) (h : zH) (Q1 Q2 : zQ), M j as h Q1 → M2 j as h Q2 → M j as h (fun w h2 => Q1 w h2 ∧ Q2 w h2)
noncomputable abbrev zconj (M : zM) : Prop := zcj M M
theorem zex1_and {X Y : zX} {e : zE} {L : zL} {st : List Value} {h : zH} {c n : Nat} : zex1 X e L st h c n → zex1 Y e L st h c n → zex1 (fun pc L st h c n => X pc L st h c n ∧ Y pc L st h c n) e L st h c n := by
  obtain ⟨ins, nx, a, b, d, v⟩ := e
  unfold zex1
  cases ins <;> dsimp only <;> (try split) <;> first
    | exact fun p _ => p.elim
    | exact fun p q => ⟨p, q⟩
    | exact fun p q => ⟨p.1, p.2, q.2⟩
    | exact fun p q => ⟨p.1, p.2.1, p.2.2, q.2.2⟩
    | exact fun p q => ⟨fun z => ⟨p.1 z, q.1 z⟩, fun z => ⟨p.2 z, q.2 z⟩⟩
theorem zex2_and {tt : zT} {G : zG} {bc bs : Nat} {rt : Option FieldType} {M M2 : zM} {ret ret2 : zQ} (hM : zcj M M2) {X Y : zX} {e : zE} {L : zL} {st : List Value} {h : zH} {c n : Nat} : zex2 tt G bc bs rt M ret X e L st h c n → zex2 tt G bc bs rt M2 ret2 Y e L st h c n → zex2 tt G bc bs rt M (fun w h => ret w h ∧ ret2 w h) (fun pc L st h c n => X pc L st h c n ∧ Y pc L st h c n) e L st h c n := by
  obtain ⟨ins, nx, a, b, d, v⟩ := e
  unfold zex2
  cases ins <;> dsimp only <;> (try split) <;> first
    | exact fun p _ => p.elim
    | exact fun p q => ⟨p, q⟩
    | exact fun p q => ⟨p.1, p.2, q.2⟩
    | exact fun p q => ⟨p.1, p.2.1, p.2.2, q.2.2⟩
    | exact fun p q => ⟨p.1, p.2.1, p.2.2.1, p.2.2.2.1, p.2.2.2.2.1, p.2.2.2.2.2, q.2.2.2.2.2⟩
    | exact fun p q => ⟨p.1, p.2.1, p.2.2.1, p.2.2.2.1, p.2.2.2.2.1, p.2.2.2.2.2.1, p.2.2.2.2.2.2, q.2.2.2.2.2.2⟩
    | exact fun p q => ⟨p.1, p.2.1, p.2.2.1, p.2.2.2.1, p.2.2.2.2.1, hM _ _ _ _ _ p.2.2.2.2.2 q.2.2.2.2.2⟩
    | exact fun p q => ⟨p.1, p.2.1, p.2.2.1, p.2.2.2.1, hM _ _ _ _ _ p.2.2.2.2 q.2.2.2.2⟩
    | exact fun p q => ⟨fun z => ⟨p.1 z, q.1 z⟩, fun z1 z2 => by
        obtain ⟨t, p1, p2⟩ := p.2 z1 z2
        obtain ⟨t2, q1, q2⟩ := q.2 z1 z2
        rw [p1] at q1
        cases q1
        exact ⟨t, p1, p2, q2⟩⟩
    | (intro p q
       obtain ⟨N, f, p1, p2, p3⟩ := p
       obtain ⟨N2, f2, q1, q2, q3⟩ := q
       rw [p1] at q1
       cases q1
       exact ⟨N, f, p1, p2, p3, q3⟩)
    | (intro p q
       obtain ⟨N, f, p1, p2, p3⟩ := p
       obtain ⟨N2, f2, q1, q2, q3⟩ := q
       rw [p1] at q1
       cases q1
       rw [p2] at q2
       cases q2
       exact ⟨N, f, p1, p2, p3, q3⟩)
    | (intro p q
       obtain ⟨k, N, f, p0, p1, p2, p3⟩ := p
       obtain ⟨k2, N2, f2, q0, q1, q2, q3⟩ := q
       rw [p1] at q1
       cases q1
       exact ⟨k, N, f, p0, p1, p2, p3, q3⟩)
    | (intro p q
       obtain ⟨k, N, f, p0, p1, p2⟩ := p
       obtain ⟨k2, N2, f2, q0, q1, q2⟩ := q
       rw [p1] at q1
       cases q1
       exact ⟨k, N, f, p0, p1, p2, q2⟩)
    | (intro p q
       obtain ⟨N, K, f, g, p0, p1, p2, p3⟩ := p
       obtain ⟨N2, K2, f2, g2, q0, q1, q2, q3⟩ := q
       rw [p0] at q0
       cases q0
       rw [p1] at q1
       cases q1
       exact ⟨N, K, f, g, p0, p1, p2, p3, q3⟩)
    | (intro p q
       obtain ⟨fs, t, p1, p2, p3, p4, p5, p6⟩ := p
       obtain ⟨fs2, t2, q1, q2, q3, q4, q5, q6⟩ := q
       rw [p1] at q1
       cases q1
       exact ⟨fs, t, p1, p2, p3, p4, p5, p6, q6⟩)
theorem zex12 {tt : zT} {G : zG} {bc bs : Nat} {rt : Option FieldType} {M : zM} {ret : zQ} {X Y : zX} {e : zE} {L : zL} {st : List Value} {h : zH} {c n : Nat} : zex1 X e L st h c n → zex2 tt G bc bs rt M ret Y e L st h c n → False := by
  obtain ⟨ins, nx, a, b, d, v⟩ := e
  unfold zex1 zex2
  cases ins <;> dsimp only <;> first
    | exact fun p _ => p
    | exact fun _ q => q
noncomputable abbrev tTr : zQ := fun _ _ => True
noncomputable abbrev tFz : zX := fun _ _ _ _ _ _ => False
/-- a run that comes to a cut (behind a step, if f is false), or to its end -/
noncomputable def tCt (tt : zT) (G : zG) (cd : zK) (bc bs : Nat) (rt : Option FieldType) (M : zM) (Q : zQ) (Z : zX) (f : Bool) (pc : Nat) (L : zL) (st : List Value) (h : zH) (c n : Nat) : Prop :=
  ∀ X : Bool → zX, (∀ f pc L st h c n, ((f = true ∧ Z pc L st h c n) ∨ zstep tt G bc bs rt M Q (X true) cd pc L st h c n) → X f pc L st h c n) → X f pc L st h c n
noncomputable def tG (tt : zT) (G : zG) (cd : zK) (bc bs : Nat) (rt : Option FieldType) (M : zM) (Q : zQ) (Z : zX) (f : Bool) (pc : Nat) (L : zL) (st : List Value) (h : zH) (c n : Nat) : Prop := zR tt G cd bc bs rt M tTr pc L st h c n → tCt tt G cd bc bs rt M Q Z f pc L st h c n
section TA
variable {tt : zT} {G : zG} {cd : zK} {bc bs : Nat} {rt : Option FieldType} {M M2 : zM} {ret ret2 Q : zQ} {Z : zX} {f : Bool} {pc : Nat} {L : zL} {st : List Value} {h : zH} {c n : Nat}
theorem zstep_and (hM : zcj M M2) {X Y : zX} : zstep tt G bc bs rt M ret X cd pc L st h c n → zstep tt G bc bs rt M2 ret2 Y cd pc L st h c n → zstep tt G bc bs rt M (fun w h => ret w h ∧ ret2 w h) (fun pc L st h c n => X pc L st h c n ∧ Y pc L st h c n) cd pc L st h c n := by
  unfold zstep zex
  split
  · intro p q
    rcases p with p | p <;> rcases q with q | q
    · exact Or.inl (zex1_and p q)
    · exact (zex12 p q).elim
    · exact (zex12 q p).elim
    · exact Or.inr (zex2_and hM p q)
  · exact fun p _ => p.elim
theorem zR.inv (hM : zmono M) (k : zR tt G cd bc bs rt M ret pc L st h c n) : zstep tt G bc bs rt M ret (zR tt G cd bc bs rt M ret) cd pc L st h c n :=
  k (fun pc L st h c n => zstep tt G bc bs rt M ret (zR tt G cd bc bs rt M ret) cd pc L st h c n) (fun _ _ _ _ _ _ q => zstep_mono hM (fun _ _ z => z) (fun _ _ _ _ _ _ z => zR.step hM z) q)
theorem zR_and (hM : zmono M) (hM2 : zmono M2) (hC : zcj M M2) (k1 : zR tt G cd bc bs rt M ret pc L st h c n) (k2 : zR tt G cd bc bs rt M2 ret2 pc L st h c n) : zR tt G cd bc bs rt M (fun w h => ret w h ∧ ret2 w h) pc L st h c n :=
  k1 (fun pc L st h c n => zR tt G cd bc bs rt M2 ret2 pc L st h c n → zR tt G cd bc bs rt M (fun w h => ret w h ∧ ret2 w h) pc L st h c n) (fun _ _ _ _ _ _ q z => zR.step hM (zstep_mono hM (fun _ _ z => z) (fun _ _ _ _ _ _ w => w.1 w.2) (zstep_and hC q (zR.inv hM2 z)))) k2
theorem tCt.fix (hM : zmono M) (z : (f = true ∧ Z pc L st h c n) ∨ zstep tt G bc bs rt M Q (tCt tt G cd bc bs rt M Q Z true) cd pc L st h c n) : tCt tt G cd bc bs rt M Q Z f pc L st h c n :=
  fun X hX => hX _ _ _ _ _ _ _ (z.imp id (fun q => zstep_mono hM (fun _ _ z => z) (fun _ _ _ _ _ _ q => q X hX) q))
theorem tCt.inv (hM : zmono M) (k : tCt tt G cd bc bs rt M Q Z f pc L st h c n) : (f = true ∧ Z pc L st h c n) ∨ zstep tt G bc bs rt M Q (tCt tt G cd bc bs rt M Q Z true) cd pc L st h c n :=
  k (fun f pc L st h c n => (f = true ∧ Z pc L st h c n) ∨ zstep tt G bc bs rt M Q (tCt tt G cd bc bs rt M Q Z true) cd pc L st h c n) (fun _ _ _ _ _ _ _ q => q.imp id (fun q => zstep_mono hM (fun _ _ z => z) (fun _ _ _ _ _ _ z => tCt.fix hM z) q))
theorem tG_cut (hM : zmono M) (z : Z pc L st h c n) : tG tt G cd bc bs rt M Q Z true pc L st h c n := fun _ => tCt.fix hM (Or.inl ⟨rfl, z⟩)
theorem tG_end (hM : zmono M) (k : tG tt G cd bc bs rt M Q tFz f pc L st h c n) (z : zR tt G cd bc bs rt M tTr pc L st h c n) : zR tt G cd bc bs rt M Q pc L st h c n :=
  k z (fun _ pc L st h c n => zR tt G cd bc bs rt M Q pc L st h c n) (fun _ _ _ _ _ _ _ q => q.elim (fun w => w.2.elim) (fun w => zR.step hM w))
/-- a loop: what holds at its head, each time -/
theorem tG_loop (hM : zmono M) (hC : zconj M) {V : zX} (hb : ∀ pc L st h c n, V pc L st h c n → tG tt G cd bc bs rt M Q (fun pc L st h c n => Z pc L st h c n ∨ V pc L st h c n) false pc L st h c n) (hi : V pc L st h c n) : tG tt G cd bc bs rt M Q Z f pc L st h c n := by
  intro z
  have key := z (fun pc L st h c n => zR tt G cd bc bs rt M tTr pc L st h c n ∧ ∀ f, tCt tt G cd bc bs rt M Q (fun pc L st h c n => Z pc L st h c n ∨ V pc L st h c n) f pc L st h c n → tCt tt G cd bc bs rt M Q Z f pc L st h c n) (fun pc L st h c n q => by
    have z1 : zR tt G cd bc bs rt M tTr pc L st h c n := zR.step hM (zstep_mono hM (fun _ _ z => z) (fun _ _ _ _ _ _ w => w.1) q)
    have go : ∀ f, zstep tt G bc bs rt M Q (tCt tt G cd bc bs rt M Q (fun pc L st h c n => Z pc L st h c n ∨ V pc L st h c n) true) cd pc L st h c n → tCt tt G cd bc bs rt M Q Z f pc L st h c n := fun f g => tCt.fix hM (Or.inr (zstep_mono hM (fun _ _ w => w.2) (fun _ _ _ _ _ _ w => w.1.2 true w.2) (zstep_and hC q g)))
    refine ⟨z1, fun f g => ?_⟩
    rcases tCt.inv hM g with ⟨e, g | g⟩ | g
    · exact tCt.fix hM (Or.inl ⟨e, g⟩)
    · rcases tCt.inv hM (hb _ _ _ _ _ _ g z1) with ⟨e2, _⟩ | g2
      · cases e2
      · exact go f g2
    · exact go f g)
  have k0 := key.2 false (hb _ _ _ _ _ _ hi z)
  rcases tCt.inv hM k0 with ⟨e, _⟩ | g
  · cases e
  · exact tCt.fix hM (Or.inr g)
end TA
theorem zW_cj (tt : zT) (G : zG) : ∀ d e : Nat, zcj (zW tt G d) (zW tt G e)
  | 0, _ => fun _ _ _ _ _ p _ => p
  | _ + 1, 0 => fun _ _ _ _ _ _ q => q.elim
  | d + 1, e + 1 => by
    intro j as h Q1 Q2
    unfold zW
    split
    · exact fun p q => ⟨p.1, zR_and (zW_mono tt G d) (zW_mono tt G e) (zW_cj tt G d e) p.2 q.2⟩
    · exact fun p _ => p
theorem zW_conj (tt : zT) (G : zG) (d : Nat) : zconj (zW tt G d) := zW_cj tt G d d
/-- what a call answers, if it comes to an end -/
noncomputable def tC (tt : zT) (G : zG) (j : Nat) (as : List Value) (h : zH) (Q : zQ) : Prop := ∀ d, zW tt G d j as h tTr → zW tt G d j as h Q
theorem tC.mono {tt : zT} {G : zG} {j : Nat} {as : List Value} {h : zH} {Q Q2 : zQ} (k : tC tt G j as h Q) (hq : ∀ w h2, Q w h2 → Q2 w h2) : tC tt G j as h Q2 := fun d z => zW_mono tt G d _ _ _ _ _ hq (k d z)
theorem tC.both {tt : zT} {G : zG} {j : Nat} {as : List Value} {h : zH} {P Q : zQ} (k : tC tt G j as h Q) {d : Nat} (z : zW tt G d j as h P) : zW tt G d j as h (fun w h2 => P w h2 ∧ Q w h2) := zW_conj tt G d _ _ _ _ _ z (k d (zW_mono tt G d _ _ _ _ _ (fun _ _ _ => trivial) z))
theorem tC_of {tt : zT} {G : zG} {j : Nat} {as : List Value} {h : zH} {Q : zQ} {D : Nat} (k : zW tt G D j as h Q) : tC tt G j as h Q := fun d z => zW_mono tt G d _ _ _ _ _ (fun _ _ w => w.2) (zW_cj tt G d D _ _ _ _ _ z k)
theorem tC_in {tt : zT} {G : zG} {j : Nat} {as : List Value} {h : zH} {Q : zQ} {cd : zK} {nL : Nat} {rt : Option FieldType} {bc bs : Nat} (hj : G.1[j]? = some (cd, nL, rt, bc, bs)) (k : ∀ d, tG tt G cd bc bs rt (zW tt G d) Q tFz false 0 (zentry as nL) [] h 0 0) : tC tt G j as h Q := by
  intro d z
  cases d with
  | zero => exact z.elim
  | succ d =>
    unfold zW at z ⊢
    rw [hj] at z ⊢
    exact ⟨z.1, tG_end (zW_mono tt G d) (k d) z.2⟩
noncomputable def tvI : Value → Int32
  | .int x => x
  | _ => 0
noncomputable def tvJ : Value → Int64
  | .long x => x
  | _ => 0
theorem tvI_i (x : Int32) : tvI (.int x) = x := rfl
theorem tvJ_j (x : Int64) : tvJ (.long x) = x := rfl
noncomputable def tvR : Value → Nat
  | .ref x => x
  | _ => 0
theorem tvR_r (x : Nat) : tvR (.ref x) = x := rfl
/-- fields, elements, lengths -/
noncomputable def tF (h : zH) (p b : Nat) : Value := match h[p]? with
  | some (.inr (_, fs)) => fs.getD b .null
  | _ => .null
noncomputable def tA (h : zH) (p i : Nat) : Int32 := match h[p]? with
  | some (.inl (_, _, .inl f)) => f i
  | _ => 0
noncomputable def tJ (h : zH) (p i : Nat) : Int64 := match h[p]? with
  | some (.inl (_, _, .inr (.inl f))) => f i
  | _ => 0
noncomputable def tO (h : zH) (p i : Nat) : Option Nat := match h[p]? with
  | some (.inl (_, _, .inr (.inr (.inr (.inr f))))) => f i
  | _ => none
noncomputable def tN (h : zH) (p : Nat) : Nat := match h[p]? with
  | some (.inl (_, N, _)) => N
  | _ => 0
noncomputable def tSF (h : zH) (r b : Nat) (w : Value) : zH := match h[r]? with
  | some (.inr (a, fs)) => h.set r (.inr (a, fs.set b w))
  | _ => h
noncomputable def tSA (h : zH) (r i : Nat) (x : Int32) : zH := match h[r]? with
  | some (.inl (k, N, .inl f)) => h.set r (.inl (k, N, .inl (upd f i x)))
  | _ => h
noncomputable def tSJ (h : zH) (r i : Nat) (x : Int64) : zH := match h[r]? with
  | some (.inl (k, N, .inr (.inl f))) => h.set r (.inl (k, N, .inr (.inl (vp_updL f i x))))
  | _ => h
noncomputable def tSO (h : zH) (r i : Nat) (x : Option Nat) : zH := match h[r]? with
  | some (.inl (k, N, .inr (.inr (.inr (.inr f))))) => h.set r (.inl (k, N, .inr (.inr (.inr (.inr (va_up f i x))))))
  | _ => h
/-- what a step that was taken says of its cell -/
noncomputable def tIn (h : zH) (r kd : Nat) (i : Int32) : Prop := ∃ (N : Nat) (f : Nat → Int32), h[r]? = some (.inl (kd, N, .inl f)) ∧ vp_in i N
noncomputable def tInJ (h : zH) (r : Nat) (i : Int32) : Prop := ∃ (N : Nat) (f : Nat → Int64), h[r]? = some (.inl (3, N, .inr (.inl f))) ∧ vp_in i N
noncomputable def tInO (h : zH) (r : Nat) (i : Int32) : Prop := ∃ (k N : Nat) (f : Nat → Option Nat), h[r]? = some (.inl (k, N, .inr (.inr (.inr (.inr f))))) ∧ vp_in i N
noncomputable def tFd (h : zH) (r b : Nat) : Prop := ∃ (a : Nat) (fs : List Value), h[r]? = some (.inr (a, fs)) ∧ b < fs.length
theorem tup_at {α : Type} {h : List α} {r : Nat} {x y : α} (e : h[r]? = some x) (p : Nat) : (h.set r y)[p]? = if p = r then some y else h[p]? := by
  have hl : r < h.length := by
    rcases Nat.lt_or_ge r h.length with q | q
    · exact q
    · rw [List.getElem?_eq_none q] at e; cases e
  rw [List.getElem?_set]
  by_cases q : r = p
  · subst q; rw [if_pos rfl, if_pos hl, if_pos rfl]
  · rw [if_neg q, if_neg (fun z => q z.symm)]
theorem tA_tSF (h : zH) (r : Nat) (b : Nat) (w : Value) : tA (tSF h r b w) = tA h := by
  unfold tSF
  split
  · rename_i e
    funext p
    unfold tA
    rw [tup_at e]
    by_cases q : p = r
    · subst q; rw [if_pos rfl, e]
    · rw [if_neg q]
  · rfl
theorem tJ_tSF (h : zH) (r : Nat) (b : Nat) (w : Value) : tJ (tSF h r b w) = tJ h := by
  unfold tSF
  split
  · rename_i e
    funext p
    unfold tJ
    rw [tup_at e]
    by_cases q : p = r
    · subst q; rw [if_pos rfl, e]
    · rw [if_neg q]
  · rfl
theorem tO_tSF (h : zH) (r : Nat) (b : Nat) (w : Value) : tO (tSF h r b w) = tO h := by
  unfold tSF
  split
  · rename_i e
    funext p
    unfold tO
    rw [tup_at e]
    by_cases q : p = r
    · subst q; rw [if_pos rfl, e]
    · rw [if_neg q]
  · rfl
theorem tN_tSF (h : zH) (r : Nat) (b : Nat) (w : Value) : tN (tSF h r b w) = tN h := by
  unfold tSF
  split
  · rename_i e
    funext p
    unfold tN
    rw [tup_at e]
    by_cases q : p = r
    · subst q; rw [if_pos rfl, e]
    · rw [if_neg q]
  · rfl
theorem tlen_tSF (h : zH) (r : Nat) (b : Nat) (w : Value) : (tSF h r b w).length = h.length := by
  unfold tSF
  split
  · rw [List.length_set]
  · rfl
theorem tF_tSA (h : zH) (r : Nat) (i : Nat) (x : Int32) : tF (tSA h r i x) = tF h := by
  unfold tSA
  split
  · rename_i e
    funext p
    unfold tF
    rw [tup_at e]
    by_cases q : p = r
    · subst q; rw [if_pos rfl, e]
    · rw [if_neg q]
  · rfl
theorem tJ_tSA (h : zH) (r : Nat) (i : Nat) (x : Int32) : tJ (tSA h r i x) = tJ h := by
  unfold tSA
  split
  · rename_i e
    funext p
    unfold tJ
    rw [tup_at e]
    by_cases q : p = r
    · subst q; rw [if_pos rfl, e]
    · rw [if_neg q]
  · rfl
theorem tO_tSA (h : zH) (r : Nat) (i : Nat) (x : Int32) : tO (tSA h r i x) = tO h := by
  unfold tSA
  split
  · rename_i e
    funext p
    unfold tO
    rw [tup_at e]
    by_cases q : p = r
    · subst q; rw [if_pos rfl, e]
    · rw [if_neg q]
  · rfl
theorem tN_tSA (h : zH) (r : Nat) (i : Nat) (x : Int32) : tN (tSA h r i x) = tN h := by
  unfold tSA
  split
  · rename_i e
    funext p
    unfold tN
    rw [tup_at e]
    by_cases q : p = r
    · subst q; rw [if_pos rfl, e]
    · rw [if_neg q]
  · rfl
theorem tlen_tSA (h : zH) (r : Nat) (i : Nat) (x : Int32) : (tSA h r i x).length = h.length := by
  unfold tSA
  split
  · rw [List.length_set]
  · rfl
theorem tF_tSJ (h : zH) (r : Nat) (i : Nat) (x : Int64) : tF (tSJ h r i x) = tF h := by
  unfold tSJ
  split
  · rename_i e
    funext p
    unfold tF
    rw [tup_at e]
    by_cases q : p = r
    · subst q; rw [if_pos rfl, e]
    · rw [if_neg q]
  · rfl
theorem tA_tSJ (h : zH) (r : Nat) (i : Nat) (x : Int64) : tA (tSJ h r i x) = tA h := by
  unfold tSJ
  split
  · rename_i e
    funext p
    unfold tA
    rw [tup_at e]
    by_cases q : p = r
    · subst q; rw [if_pos rfl, e]
    · rw [if_neg q]
  · rfl
theorem tO_tSJ (h : zH) (r : Nat) (i : Nat) (x : Int64) : tO (tSJ h r i x) = tO h := by
  unfold tSJ
  split
  · rename_i e
    funext p
    unfold tO
    rw [tup_at e]
    by_cases q : p = r
    · subst q; rw [if_pos rfl, e]
    · rw [if_neg q]
  · rfl
theorem tN_tSJ (h : zH) (r : Nat) (i : Nat) (x : Int64) : tN (tSJ h r i x) = tN h := by
  unfold tSJ
  split
  · rename_i e
    funext p
    unfold tN
    rw [tup_at e]
    by_cases q : p = r
    · subst q; rw [if_pos rfl, e]
    · rw [if_neg q]
  · rfl
theorem tlen_tSJ (h : zH) (r : Nat) (i : Nat) (x : Int64) : (tSJ h r i x).length = h.length := by
  unfold tSJ
  split
  · rw [List.length_set]
  · rfl
theorem tF_tSO (h : zH) (r : Nat) (i : Nat) (x : Option Nat) : tF (tSO h r i x) = tF h := by
  unfold tSO
  split
  · rename_i e
    funext p
    unfold tF
    rw [tup_at e]
    by_cases q : p = r
    · subst q; rw [if_pos rfl, e]
    · rw [if_neg q]
  · rfl
theorem tA_tSO (h : zH) (r : Nat) (i : Nat) (x : Option Nat) : tA (tSO h r i x) = tA h := by
  unfold tSO
  split
  · rename_i e
    funext p
    unfold tA
    rw [tup_at e]
    by_cases q : p = r
    · subst q; rw [if_pos rfl, e]
    · rw [if_neg q]
  · rfl
theorem tJ_tSO (h : zH) (r : Nat) (i : Nat) (x : Option Nat) : tJ (tSO h r i x) = tJ h := by
  unfold tSO
  split
  · rename_i e
    funext p
    unfold tJ
    rw [tup_at e]
    by_cases q : p = r
    · subst q; rw [if_pos rfl, e]
    · rw [if_neg q]
  · rfl
theorem tN_tSO (h : zH) (r : Nat) (i : Nat) (x : Option Nat) : tN (tSO h r i x) = tN h := by
  unfold tSO
  split
  · rename_i e
    funext p
    unfold tN
    rw [tup_at e]
    by_cases q : p = r
    · subst q; rw [if_pos rfl, e]
    · rw [if_neg q]
  · rfl
theorem tlen_tSO (h : zH) (r : Nat) (i : Nat) (x : Option Nat) : (tSO h r i x).length = h.length := by
  unfold tSO
  split
  · rw [List.length_set]
  · rfl
theorem tF_tSF {h : zH} {r b : Nat} (hf : tFd h r b) (w : Value) : tF (tSF h r b w) = fun p q => if p = r ∧ q = b then w else tF h p q := by
  obtain ⟨a, fs, e, hl⟩ := hf
  unfold tSF
  rw [e]
  funext p q
  unfold tF
  dsimp only
  rw [tup_at e]
  by_cases h1 : p = r
  · subst h1
    rw [if_pos rfl, e]
    dsimp only
    by_cases h2 : q = b
    · subst h2
      rw [if_pos ⟨rfl, rfl⟩, List.getD_eq_getElem?_getD, List.getElem?_set_self hl]
      rfl
    · rw [if_neg (fun z => h2 z.2), List.getD_eq_getElem?_getD, List.getElem?_set_ne (fun z => h2 z.symm), List.getD_eq_getElem?_getD]
  · rw [if_neg h1, if_neg (fun z => h1 z.1)]
theorem tA_tSA {h : zH} {r : Nat} (hf : ∃ (kd N : Nat) (f : Nat → Int32), h[r]? = some (.inl (kd, N, .inl f))) (i : Nat) (x : Int32) : tA (tSA h r i x) = fun p q => if p = r ∧ q = i then x else tA h p q := by
  obtain ⟨kd, N, f, e⟩ := hf
  unfold tSA
  rw [e]
  funext p q
  unfold tA
  dsimp only
  rw [tup_at e]
  by_cases h1 : p = r
  · subst h1
    rw [if_pos rfl, e]
    dsimp only [upd]
    by_cases h2 : q = i
    · rw [if_pos h2, if_pos ⟨rfl, h2⟩]
    · rw [if_neg h2, if_neg (fun z => h2 z.2)]
  · rw [if_neg h1, if_neg (fun z => h1 z.1)]
theorem tJ_tSJ {h : zH} {r : Nat} (hf : ∃ (kd N : Nat) (f : Nat → Int64), h[r]? = some (.inl (kd, N, .inr (.inl f)))) (i : Nat) (x : Int64) : tJ (tSJ h r i x) = fun p q => if p = r ∧ q = i then x else tJ h p q := by
  obtain ⟨kd, N, f, e⟩ := hf
  unfold tSJ
  rw [e]
  funext p q
  unfold tJ
  dsimp only
  rw [tup_at e]
  by_cases h1 : p = r
  · subst h1
    rw [if_pos rfl, e]
    dsimp only [vp_updL]
    by_cases h2 : q = i
    · rw [if_pos h2, if_pos ⟨rfl, h2⟩]
    · rw [if_neg h2, if_neg (fun z => h2 z.2)]
  · rw [if_neg h1, if_neg (fun z => h1 z.1)]
theorem tO_tSO {h : zH} {r : Nat} (hf : ∃ (kd N : Nat) (f : Nat → Option Nat), h[r]? = some (.inl (kd, N, .inr (.inr (.inr (.inr f)))))) (i : Nat) (x : Option Nat) : tO (tSO h r i x) = fun p q => if p = r ∧ q = i then x else tO h p q := by
  obtain ⟨kd, N, f, e⟩ := hf
  unfold tSO
  rw [e]
  funext p q
  unfold tO
  dsimp only
  rw [tup_at e]
  by_cases h1 : p = r
  · subst h1
    rw [if_pos rfl, e]
    dsimp only [va_up]
    by_cases h2 : q = i
    · rw [if_pos h2, if_pos ⟨rfl, h2⟩]
    · rw [if_neg h2, if_neg (fun z => h2 z.2)]
  · rw [if_neg h1, if_neg (fun z => h1 z.1)]
theorem tIn.cell {h : zH} {r kd : Nat} {i : Int32} (k : tIn h r kd i) : ∃ (kd N : Nat) (f : Nat → Int32), h[r]? = some (.inl (kd, N, .inl f)) := by
  obtain ⟨N, f, e, -⟩ := k
  exact ⟨kd, N, f, e⟩
theorem tInJ.cell {h : zH} {r : Nat} {i : Int32} (k : tInJ h r i) : ∃ (kd N : Nat) (f : Nat → Int64), h[r]? = some (.inl (kd, N, .inr (.inl f))) := by
  obtain ⟨N, f, e, -⟩ := k
  exact ⟨3, N, f, e⟩
theorem tInO.cell {h : zH} {r : Nat} {i : Int32} (k : tInO h r i) : ∃ (kd N : Nat) (f : Nat → Option Nat), h[r]? = some (.inl (kd, N, .inr (.inr (.inr (.inr f))))) := by
  obtain ⟨kd, N, f, e, -⟩ := k
  exact ⟨kd, N, f, e⟩
theorem tIn.rg {h : zH} {r kd : Nat} {i : Int32} (k : tIn h r kd i) : 0 ≤ i.toInt ∧ i.toNatClampNeg < tN h r := by
  obtain ⟨N, f, e, hi⟩ := k
  unfold vp_in at hi
  unfold tN
  rw [e]
  dsimp only
  refine ⟨?_, by omega⟩
  rcases Int.lt_or_le i.toInt 0 with q | q
  · exact absurd (Or.inl (Int32.lt_iff_toInt_lt.mpr q)) hi
  · exact q
theorem tInO.rg {h : zH} {r : Nat} {i : Int32} (k : tInO h r i) : 0 ≤ i.toInt ∧ i.toNatClampNeg < tN h r := by
  obtain ⟨kd, N, f, e, hi⟩ := k
  unfold vp_in at hi
  unfold tN
  rw [e]
  dsimp only
  refine ⟨?_, by omega⟩
  rcases Int.lt_or_le i.toInt 0 with q | q
  · exact absurd (Or.inl (Int32.lt_iff_toInt_lt.mpr q)) hi
  · exact q
theorem tF_a {h : zH} {r i p b : Nat} {x : Int32} {w : Value} (k : tF h p b = w) : tF (tSA h r i x) p b = w := by rw [tF_tSA]; exact k
theorem tF_j {h : zH} {r i p b : Nat} {x : Int64} {w : Value} (k : tF h p b = w) : tF (tSJ h r i x) p b = w := by rw [tF_tSJ]; exact k
theorem tF_o {h : zH} {r i p b : Nat} {x : Option Nat} {w : Value} (k : tF h p b = w) : tF (tSO h r i x) p b = w := by rw [tF_tSO]; exact k
theorem tF_same {h : zH} {r b : Nat} {w : Value} (hf : tFd h r b) : tF (tSF h r b w) r b = w := by rw [tF_tSF hf]; exact if_pos ⟨rfl, rfl⟩
theorem tF_nz {h : zH} {r b p q : Nat} {w : Value} (hn : ¬ (p = r ∧ q = b)) : tF (tSF h r b w) p q = tF h p q := by
  unfold tSF
  split
  · rename_i a fs e
    unfold tF
    rw [tup_at e]
    by_cases h1 : p = r
    · subst h1
      rw [if_pos rfl, e]
      dsimp only
      rw [List.getD_eq_getElem?_getD, List.getElem?_set_ne (fun z => hn ⟨rfl, z.symm⟩), List.getD_eq_getElem?_getD]
    · rw [if_neg h1]
  · rfl
theorem tF_ne {h : zH} {r b p q : Nat} {w u : Value} (hn : ¬ (p = r ∧ q = b)) (k : tF h p q = u) : tF (tSF h r b w) p q = u := by rw [tF_nz hn]; exact k
theorem tA_nz {h : zH} {r i p : Nat} {x : Int32} (hn : p ≠ r) : tA (tSA h r i x) p = tA h p := by
  unfold tSA
  split
  · rename_i e
    unfold tA
    funext j
    rw [tup_at e, if_neg hn]
  · rfl
theorem tA_a {h : zH} {r i p j : Nat} {x y : Int32} (hn : p ≠ r) (k : tA h p j = y) : tA (tSA h r i x) p j = y := by rw [tA_nz hn]; exact k
theorem tA_f {h : zH} {r b p j : Nat} {w : Value} {y : Int32} (k : tA h p j = y) : tA (tSF h r b w) p j = y := by rw [tA_tSF]; exact k
theorem tA_j {h : zH} {r i p j : Nat} {x : Int64} {y : Int32} (k : tA h p j = y) : tA (tSJ h r i x) p j = y := by rw [tA_tSJ]; exact k
theorem tA_o {h : zH} {r i p j : Nat} {x : Option Nat} {y : Int32} (k : tA h p j = y) : tA (tSO h r i x) p j = y := by rw [tA_tSO]; exact k
section TR
variable {tt : zT} {G : zG} {cd : zK} {bc bs : Nat} {rt : Option FieldType} {dp : Nat} {Q : zQ} {Z : zX} {f : Bool} {pc : Nat} {L : zL} {s : List Value} {h : zH} {c n : Nat} {nx a b d : Nat} {v w w1 w2 w3 : Value}
theorem tG_row {e : zE} {st : List Value} (hc : cd[pc]? = some (some e)) (k : zex tt G bc bs rt (zW tt G dp) tTr (zR tt G cd bc bs rt (zW tt G dp) tTr) e L st h c n → zex tt G bc bs rt (zW tt G dp) Q (tCt tt G cd bc bs rt (zW tt G dp) Q Z true) e L st h c n) : tG tt G cd bc bs rt (zW tt G dp) Q Z f pc L st h c n := fun z => tCt.fix (zW_mono tt G dp) (Or.inr (by
  have z1 := zR.inv (zW_mono tt G dp) z
  unfold zstep at z1 ⊢
  rw [hc] at z1 ⊢
  exact k z1))
theorem tw_push  (hc : cd[pc]? = some (some (.aconst_null, nx, a, b, d, v))) (k : tG tt G cd bc bs rt (zW tt G dp) Q Z true nx L (v :: s) h c n) : tG tt G cd bc bs rt (zW tt G dp) Q Z f pc L s h c n := tG_row hc (fun z => Or.elim z (fun z => by exact Or.inl (k z)) (fun z => False.elim z))
theorem tw_iload {i : Nat} (hc : cd[pc]? = some (some (.iload i, nx, a, b, d, v))) (hl : L.getD a none = some w) (k : tG tt G cd bc bs rt (zW tt G dp) Q Z true nx L (w :: s) h c n) : tG tt G cd bc bs rt (zW tt G dp) Q Z f pc L s h c n := tG_row hc (fun z => Or.elim z (fun z => by
  unfold zex1 at z
  dsimp only at z
  rw [hl] at z
  cases w <;> first | exact False.elim z | (refine Or.inl ?_; unfold zex1; dsimp only; rw [hl]; exact k z)) (fun z => False.elim z))
theorem tw_lload {i : Nat} (hc : cd[pc]? = some (some (.lload i, nx, a, b, d, v))) (hl : L.getD a none = some w) (k : tG tt G cd bc bs rt (zW tt G dp) Q Z true nx L (w :: s) h c n) : tG tt G cd bc bs rt (zW tt G dp) Q Z f pc L s h c n := tG_row hc (fun z => Or.elim z (fun z => by
  unfold zex1 at z
  dsimp only at z
  rw [hl] at z
  cases w <;> first | exact False.elim z | (refine Or.inl ?_; unfold zex1; dsimp only; rw [hl]; exact k z)) (fun z => False.elim z))
theorem tw_aload {i : Nat} (hc : cd[pc]? = some (some (.aload i, nx, a, b, d, v))) (hl : L.getD a none = some w) (k : tG tt G cd bc bs rt (zW tt G dp) Q Z true nx L (w :: s) h c n) : tG tt G cd bc bs rt (zW tt G dp) Q Z f pc L s h c n := tG_row hc (fun z => Or.elim z (fun z => by
  unfold zex1 at z
  dsimp only at z
  rw [hl] at z
  cases w <;> first | exact False.elim z | (refine Or.inl ?_; unfold zex1; dsimp only; rw [hl]; exact k z)) (fun z => False.elim z))
theorem tw_istore {i : Nat} (hc : cd[pc]? = some (some (.istore i, nx, a, b, d, v))) (k : tG tt G cd bc bs rt (zW tt G dp) Q Z true nx (zst L a (.int (tvI w))) s h c n) : tG tt G cd bc bs rt (zW tt G dp) Q Z f pc L (w :: s) h c n := tG_row hc (fun z => Or.elim z (fun z => by cases w <;> first | exact False.elim z | (exact Or.inl ⟨z.1, k z.2⟩)) (fun z => False.elim z))
theorem tw_lstore {i : Nat} (hc : cd[pc]? = some (some (.lstore i, nx, a, b, d, v))) (k : tG tt G cd bc bs rt (zW tt G dp) Q Z true nx (zst L a (.long (tvJ w))) s h c n) : tG tt G cd bc bs rt (zW tt G dp) Q Z f pc L (w :: s) h c n := tG_row hc (fun z => Or.elim z (fun z => by cases w <;> first | exact False.elim z | (exact Or.inl ⟨z.1, k z.2⟩)) (fun z => False.elim z))
theorem tw_astore {i x : Nat} (hc : cd[pc]? = some (some (.astore i, nx, a, b, d, v))) (k : tG tt G cd bc bs rt (zW tt G dp) Q Z true nx (zst L a (.ref x)) s h c n) : tG tt G cd bc bs rt (zW tt G dp) Q Z f pc L (.ref x :: s) h c n := tG_row hc (fun z => Or.elim z (fun z => by exact Or.inl ⟨z.1, k z.2⟩) (fun z => False.elim z))
theorem tw_astoreN {i : Nat} (hc : cd[pc]? = some (some (.astore i, nx, a, b, d, v))) (k : tG tt G cd bc bs rt (zW tt G dp) Q Z true nx (zst L a .null) s h c n) : tG tt G cd bc bs rt (zW tt G dp) Q Z f pc L (.null :: s) h c n := tG_row hc (fun z => Or.elim z (fun z => by exact Or.inl ⟨z.1, k z.2⟩) (fun z => False.elim z))
theorem tw_astoreS {i x : Nat} (hc : cd[pc]? = some (some (.astore i, nx, a, b, d, v))) (k : tG tt G cd bc bs rt (zW tt G dp) Q Z true nx (zst L a (.retAddr x)) s h c n) : tG tt G cd bc bs rt (zW tt G dp) Q Z f pc L (.retAddr x :: s) h c n := tG_row hc (fun z => Or.elim z (fun z => by exact Or.inl ⟨z.1, k z.2⟩) (fun z => False.elim z))
theorem tw_iinc {i : Nat} {z0 : Int} {y : Int32} (hc : cd[pc]? = some (some (.iinc i z0, nx, a, b, d, .int y))) (hl : L.getD a none = some w) (k : tG tt G cd bc bs rt (zW tt G dp) Q Z true nx (zst L a (.int (tvI w + y))) s h c n) : tG tt G cd bc bs rt (zW tt G dp) Q Z f pc L s h c n := tG_row hc (fun z => Or.elim z (fun z => by
  unfold zex1 at z
  dsimp only at z
  rw [hl] at z
  cases w <;> first | exact False.elim z | (refine Or.inl ?_; unfold zex1; dsimp only; rw [hl]; exact ⟨z.1, k z.2⟩)) (fun z => False.elim z))
theorem tw_pop  (hc : cd[pc]? = some (some (.pop, nx, a, b, d, v))) (k : tG tt G cd bc bs rt (zW tt G dp) Q Z true nx L s h c n) : tG tt G cd bc bs rt (zW tt G dp) Q Z f pc L (w :: s) h c n := tG_row hc (fun z => Or.elim z (fun z => by exact Or.inl ⟨z.1, k z.2⟩) (fun z => False.elim z))
theorem tw_popl  (hc : cd[pc]? = some (some (.drem, nx, a, b, d, v))) (k : tG tt G cd bc bs rt (zW tt G dp) Q Z true nx L s h c n) : tG tt G cd bc bs rt (zW tt G dp) Q Z f pc L (w :: s) h c n := tG_row hc (fun z => Or.elim z (fun z => by exact Or.inl ⟨z.1, k z.2⟩) (fun z => False.elim z))
theorem tw_dup  (hc : cd[pc]? = some (some (.dup, nx, a, b, d, v))) (k : tG tt G cd bc bs rt (zW tt G dp) Q Z true nx L (w :: w :: s) h c n) : tG tt G cd bc bs rt (zW tt G dp) Q Z f pc L (w :: s) h c n := tG_row hc (fun z => Or.elim z (fun z => by exact Or.inl ⟨z.1, k z.2⟩) (fun z => False.elim z))
theorem tw_dup_x1  (hc : cd[pc]? = some (some (.dup_x1, nx, a, b, d, v))) (k : tG tt G cd bc bs rt (zW tt G dp) Q Z true nx L (w1 :: w2 :: w1 :: s) h c n) : tG tt G cd bc bs rt (zW tt G dp) Q Z f pc L (w1 :: w2 :: s) h c n := tG_row hc (fun z => Or.elim z (fun z => by exact Or.inl ⟨z.1, z.2.1, k z.2.2⟩) (fun z => False.elim z))
theorem tw_dup2  (hc : cd[pc]? = some (some (.dup2, nx, a, b, d, v))) (k : tG tt G cd bc bs rt (zW tt G dp) Q Z true nx L (w1 :: w2 :: w1 :: w2 :: s) h c n) : tG tt G cd bc bs rt (zW tt G dp) Q Z f pc L (w1 :: w2 :: s) h c n := tG_row hc (fun z => Or.elim z (fun z => by exact Or.inl ⟨z.1, z.2.1, k z.2.2⟩) (fun z => False.elim z))
theorem tw_dupl  (hc : cd[pc]? = some (some (.dup2_x1, nx, a, b, d, v))) (k : tG tt G cd bc bs rt (zW tt G dp) Q Z true nx L (w :: w :: s) h c n) : tG tt G cd bc bs rt (zW tt G dp) Q Z f pc L (w :: s) h c n := tG_row hc (fun z => Or.elim z (fun z => by exact Or.inl ⟨z.1, k z.2⟩) (fun z => False.elim z))
theorem tw_iadd  (hc : cd[pc]? = some (some (.iadd, nx, a, b, d, v))) (k : tG tt G cd bc bs rt (zW tt G dp) Q Z true nx L (.int (tvI w2 + tvI w1) :: s) h c n) : tG tt G cd bc bs rt (zW tt G dp) Q Z f pc L (w1 :: w2 :: s) h c n := tG_row hc (fun z => Or.elim z (fun z => by cases w1 <;> first | exact False.elim z | (cases w2 <;> first | exact False.elim z | (exact Or.inl (k z)))) (fun z => False.elim z))
theorem tw_isub  (hc : cd[pc]? = some (some (.isub, nx, a, b, d, v))) (k : tG tt G cd bc bs rt (zW tt G dp) Q Z true nx L (.int (tvI w2 - tvI w1) :: s) h c n) : tG tt G cd bc bs rt (zW tt G dp) Q Z f pc L (w1 :: w2 :: s) h c n := tG_row hc (fun z => Or.elim z (fun z => by cases w1 <;> first | exact False.elim z | (cases w2 <;> first | exact False.elim z | (exact Or.inl (k z)))) (fun z => False.elim z))
theorem tw_imul  (hc : cd[pc]? = some (some (.imul, nx, a, b, d, v))) (k : tG tt G cd bc bs rt (zW tt G dp) Q Z true nx L (.int (tvI w2 * tvI w1) :: s) h c n) : tG tt G cd bc bs rt (zW tt G dp) Q Z f pc L (w1 :: w2 :: s) h c n := tG_row hc (fun z => Or.elim z (fun z => by cases w1 <;> first | exact False.elim z | (cases w2 <;> first | exact False.elim z | (exact Or.inl (k z)))) (fun z => False.elim z))
theorem tw_iand  (hc : cd[pc]? = some (some (.iand, nx, a, b, d, v))) (k : tG tt G cd bc bs rt (zW tt G dp) Q Z true nx L (.int (tvI w2 &&& tvI w1) :: s) h c n) : tG tt G cd bc bs rt (zW tt G dp) Q Z f pc L (w1 :: w2 :: s) h c n := tG_row hc (fun z => Or.elim z (fun z => by cases w1 <;> first | exact False.elim z | (cases w2 <;> first | exact False.elim z | (exact Or.inl (k z)))) (fun z => False.elim z))
theorem tw_ior  (hc : cd[pc]? = some (some (.ior, nx, a, b, d, v))) (k : tG tt G cd bc bs rt (zW tt G dp) Q Z true nx L (.int (tvI w2 ||| tvI w1) :: s) h c n) : tG tt G cd bc bs rt (zW tt G dp) Q Z f pc L (w1 :: w2 :: s) h c n := tG_row hc (fun z => Or.elim z (fun z => by cases w1 <;> first | exact False.elim z | (cases w2 <;> first | exact False.elim z | (exact Or.inl (k z)))) (fun z => False.elim z))
theorem tw_ishl  (hc : cd[pc]? = some (some (.ishl, nx, a, b, d, v))) (k : tG tt G cd bc bs rt (zW tt G dp) Q Z true nx L (.int (tvI w2 <<< (tvI w1 &&& 31)) :: s) h c n) : tG tt G cd bc bs rt (zW tt G dp) Q Z f pc L (w1 :: w2 :: s) h c n := tG_row hc (fun z => Or.elim z (fun z => by cases w1 <;> first | exact False.elim z | (cases w2 <;> first | exact False.elim z | (exact Or.inl (k z)))) (fun z => False.elim z))
theorem tw_ishr  (hc : cd[pc]? = some (some (.ishr, nx, a, b, d, v))) (k : tG tt G cd bc bs rt (zW tt G dp) Q Z true nx L (.int (tvI w2 >>> (tvI w1 &&& 31)) :: s) h c n) : tG tt G cd bc bs rt (zW tt G dp) Q Z f pc L (w1 :: w2 :: s) h c n := tG_row hc (fun z => Or.elim z (fun z => by cases w1 <;> first | exact False.elim z | (cases w2 <;> first | exact False.elim z | (exact Or.inl (k z)))) (fun z => False.elim z))
theorem tw_idiv  (hc : cd[pc]? = some (some (.idiv, nx, a, b, d, v))) (k : ¬ tvI w1 = 0 → tG tt G cd bc bs rt (zW tt G dp) Q Z true nx L (.int (tvI w2 / tvI w1) :: s) h c n) : tG tt G cd bc bs rt (zW tt G dp) Q Z f pc L (w1 :: w2 :: s) h c n := tG_row hc (fun z => Or.elim z (fun z => by cases w1 <;> first | exact False.elim z | (cases w2 <;> first | exact False.elim z | (exact Or.inl ⟨z.1, k z.1 z.2⟩))) (fun z => False.elim z))
theorem tw_ladd  (hc : cd[pc]? = some (some (.ladd, nx, a, b, d, v))) (k : tG tt G cd bc bs rt (zW tt G dp) Q Z true nx L (.long (tvJ w2 + tvJ w1) :: s) h c n) : tG tt G cd bc bs rt (zW tt G dp) Q Z f pc L (w1 :: w2 :: s) h c n := tG_row hc (fun z => Or.elim z (fun z => by cases w1 <;> first | exact False.elim z | (cases w2 <;> first | exact False.elim z | (exact Or.inl (k z)))) (fun z => False.elim z))
theorem tw_lsub  (hc : cd[pc]? = some (some (.lsub, nx, a, b, d, v))) (k : tG tt G cd bc bs rt (zW tt G dp) Q Z true nx L (.long (tvJ w2 - tvJ w1) :: s) h c n) : tG tt G cd bc bs rt (zW tt G dp) Q Z f pc L (w1 :: w2 :: s) h c n := tG_row hc (fun z => Or.elim z (fun z => by cases w1 <;> first | exact False.elim z | (cases w2 <;> first | exact False.elim z | (exact Or.inl (k z)))) (fun z => False.elim z))
theorem tw_lmul  (hc : cd[pc]? = some (some (.lmul, nx, a, b, d, v))) (k : tG tt G cd bc bs rt (zW tt G dp) Q Z true nx L (.long (tvJ w2 * tvJ w1) :: s) h c n) : tG tt G cd bc bs rt (zW tt G dp) Q Z f pc L (w1 :: w2 :: s) h c n := tG_row hc (fun z => Or.elim z (fun z => by cases w1 <;> first | exact False.elim z | (cases w2 <;> first | exact False.elim z | (exact Or.inl (k z)))) (fun z => False.elim z))
theorem tw_land  (hc : cd[pc]? = some (some (.land, nx, a, b, d, v))) (k : tG tt G cd bc bs rt (zW tt G dp) Q Z true nx L (.long (tvJ w2 &&& tvJ w1) :: s) h c n) : tG tt G cd bc bs rt (zW tt G dp) Q Z f pc L (w1 :: w2 :: s) h c n := tG_row hc (fun z => Or.elim z (fun z => by cases w1 <;> first | exact False.elim z | (cases w2 <;> first | exact False.elim z | (exact Or.inl (k z)))) (fun z => False.elim z))
theorem tw_lor  (hc : cd[pc]? = some (some (.lor, nx, a, b, d, v))) (k : tG tt G cd bc bs rt (zW tt G dp) Q Z true nx L (.long (tvJ w2 ||| tvJ w1) :: s) h c n) : tG tt G cd bc bs rt (zW tt G dp) Q Z f pc L (w1 :: w2 :: s) h c n := tG_row hc (fun z => Or.elim z (fun z => by cases w1 <;> first | exact False.elim z | (cases w2 <;> first | exact False.elim z | (exact Or.inl (k z)))) (fun z => False.elim z))
theorem tw_lxor  (hc : cd[pc]? = some (some (.lxor, nx, a, b, d, v))) (k : tG tt G cd bc bs rt (zW tt G dp) Q Z true nx L (.long (tvJ w2 ^^^ tvJ w1) :: s) h c n) : tG tt G cd bc bs rt (zW tt G dp) Q Z f pc L (w1 :: w2 :: s) h c n := tG_row hc (fun z => Or.elim z (fun z => by cases w1 <;> first | exact False.elim z | (cases w2 <;> first | exact False.elim z | (exact Or.inl (k z)))) (fun z => False.elim z))
theorem tw_ldiv  (hc : cd[pc]? = some (some (.ldiv, nx, a, b, d, v))) (k : ¬ tvJ w1 = 0 → tG tt G cd bc bs rt (zW tt G dp) Q Z true nx L (.long (tvJ w2 / tvJ w1) :: s) h c n) : tG tt G cd bc bs rt (zW tt G dp) Q Z f pc L (w1 :: w2 :: s) h c n := tG_row hc (fun z => Or.elim z (fun z => by cases w1 <;> first | exact False.elim z | (cases w2 <;> first | exact False.elim z | (exact Or.inl ⟨z.1, k z.1 z.2⟩))) (fun z => False.elim z))
theorem tw_lrem  (hc : cd[pc]? = some (some (.lrem, nx, a, b, d, v))) (k : ¬ tvJ w1 = 0 → tG tt G cd bc bs rt (zW tt G dp) Q Z true nx L (.long (tvJ w2 - tvJ w2 / tvJ w1 * tvJ w1) :: s) h c n) : tG tt G cd bc bs rt (zW tt G dp) Q Z f pc L (w1 :: w2 :: s) h c n := tG_row hc (fun z => Or.elim z (fun z => by cases w1 <;> first | exact False.elim z | (cases w2 <;> first | exact False.elim z | (exact Or.inl ⟨z.1, k z.1 z.2⟩))) (fun z => False.elim z))
theorem tw_lneg  (hc : cd[pc]? = some (some (.lneg, nx, a, b, d, v))) (k : tG tt G cd bc bs rt (zW tt G dp) Q Z true nx L (.long (-tvJ w) :: s) h c n) : tG tt G cd bc bs rt (zW tt G dp) Q Z f pc L (w :: s) h c n := tG_row hc (fun z => Or.elim z (fun z => by cases w <;> first | exact False.elim z | (exact Or.inl (k z))) (fun z => False.elim z))
theorem tw_lshl  (hc : cd[pc]? = some (some (.lshl, nx, a, b, d, v))) (k : tG tt G cd bc bs rt (zW tt G dp) Q Z true nx L (.long (tvJ w2 <<< ((tvI w1).toInt64 &&& 63)) :: s) h c n) : tG tt G cd bc bs rt (zW tt G dp) Q Z f pc L (w1 :: w2 :: s) h c n := tG_row hc (fun z => Or.elim z (fun z => by cases w1 <;> first | exact False.elim z | (cases w2 <;> first | exact False.elim z | (exact Or.inl (k z)))) (fun z => False.elim z))
theorem tw_lshr  (hc : cd[pc]? = some (some (.lshr, nx, a, b, d, v))) (k : tG tt G cd bc bs rt (zW tt G dp) Q Z true nx L (.long (tvJ w2 >>> ((tvI w1).toInt64 &&& 63)) :: s) h c n) : tG tt G cd bc bs rt (zW tt G dp) Q Z f pc L (w1 :: w2 :: s) h c n := tG_row hc (fun z => Or.elim z (fun z => by cases w1 <;> first | exact False.elim z | (cases w2 <;> first | exact False.elim z | (exact Or.inl (k z)))) (fun z => False.elim z))
theorem tw_lcmp  (hc : cd[pc]? = some (some (.lcmp, nx, a, b, d, v))) (k : tG tt G cd bc bs rt (zW tt G dp) Q Z true nx L (.int (lg_cmp (tvJ w2) (tvJ w1)) :: s) h c n) : tG tt G cd bc bs rt (zW tt G dp) Q Z f pc L (w1 :: w2 :: s) h c n := tG_row hc (fun z => Or.elim z (fun z => by cases w1 <;> first | exact False.elim z | (cases w2 <;> first | exact False.elim z | (exact Or.inl (k z)))) (fun z => False.elim z))
theorem tw_i2l  (hc : cd[pc]? = some (some (.i2l, nx, a, b, d, v))) (k : tG tt G cd bc bs rt (zW tt G dp) Q Z true nx L (.long (tvI w).toInt64 :: s) h c n) : tG tt G cd bc bs rt (zW tt G dp) Q Z f pc L (w :: s) h c n := tG_row hc (fun z => Or.elim z (fun z => by cases w <;> first | exact False.elim z | (exact Or.inl (k z))) (fun z => False.elim z))
theorem tw_l2i  (hc : cd[pc]? = some (some (.l2i, nx, a, b, d, v))) (k : tG tt G cd bc bs rt (zW tt G dp) Q Z true nx L (.int (tvJ w).toInt32 :: s) h c n) : tG tt G cd bc bs rt (zW tt G dp) Q Z f pc L (w :: s) h c n := tG_row hc (fun z => Or.elim z (fun z => by cases w <;> first | exact False.elim z | (exact Or.inl (k z))) (fun z => False.elim z))
theorem tw_i2b  (hc : cd[pc]? = some (some (.i2b, nx, a, b, d, v))) (k : tG tt G cd bc bs rt (zW tt G dp) Q Z true nx L (.int (tvI w).toInt8.toInt32 :: s) h c n) : tG tt G cd bc bs rt (zW tt G dp) Q Z f pc L (w :: s) h c n := tG_row hc (fun z => Or.elim z (fun z => by cases w <;> first | exact False.elim z | (exact Or.inl (k z))) (fun z => False.elim z))
theorem tw_imax  (hc : cd[pc]? = some (some (.fadd, nx, a, b, d, v))) (k : tG tt G cd bc bs rt (zW tt G dp) Q Z true nx L (.int (if tvI w2 < tvI w1 then tvI w1 else tvI w2) :: s) h c n) : tG tt G cd bc bs rt (zW tt G dp) Q Z f pc L (w1 :: w2 :: s) h c n := tG_row hc (fun z => Or.elim z (fun z => by cases w1 <;> first | exact False.elim z | (cases w2 <;> first | exact False.elim z | (exact Or.inl ⟨z.1, k z.2⟩))) (fun z => False.elim z))
theorem tw_imin  (hc : cd[pc]? = some (some (.fsub, nx, a, b, d, v))) (k : tG tt G cd bc bs rt (zW tt G dp) Q Z true nx L (.int (if tvI w1 < tvI w2 then tvI w1 else tvI w2) :: s) h c n) : tG tt G cd bc bs rt (zW tt G dp) Q Z f pc L (w1 :: w2 :: s) h c n := tG_row hc (fun z => Or.elim z (fun z => by cases w1 <;> first | exact False.elim z | (cases w2 <;> first | exact False.elim z | (exact Or.inl ⟨z.1, k z.2⟩))) (fun z => False.elim z))
theorem tw_lmax  (hc : cd[pc]? = some (some (.dadd, nx, a, b, d, v))) (k : tG tt G cd bc bs rt (zW tt G dp) Q Z true nx L (.long (if tvJ w1 < tvJ w2 then tvJ w2 else tvJ w1) :: s) h c n) : tG tt G cd bc bs rt (zW tt G dp) Q Z f pc L (w1 :: w2 :: s) h c n := tG_row hc (fun z => Or.elim z (fun z => by cases w1 <;> first | exact False.elim z | (cases w2 <;> first | exact False.elim z | (exact Or.inl ⟨z.1, k z.2⟩))) (fun z => False.elim z))
theorem tw_lmin  (hc : cd[pc]? = some (some (.dsub, nx, a, b, d, v))) (k : tG tt G cd bc bs rt (zW tt G dp) Q Z true nx L (.long (if tvJ w1 < tvJ w2 then tvJ w1 else tvJ w2) :: s) h c n) : tG tt G cd bc bs rt (zW tt G dp) Q Z f pc L (w1 :: w2 :: s) h c n := tG_row hc (fun z => Or.elim z (fun z => by cases w1 <;> first | exact False.elim z | (cases w2 <;> first | exact False.elim z | (exact Or.inl ⟨z.1, k z.2⟩))) (fun z => False.elim z))
theorem tw_fdiv  (hc : cd[pc]? = some (some (.ddiv, nx, a, b, d, v))) (k : ¬ tvJ w1 = 0 → tG tt G cd bc bs rt (zW tt G dp) Q Z true nx L (.long (if (tvJ w2 ^^^ tvJ w1) < 0 ∧ ¬ tvJ w2 / tvJ w1 * tvJ w1 = tvJ w2 then tvJ w2 / tvJ w1 - 1 else tvJ w2 / tvJ w1) :: s) h c n) : tG tt G cd bc bs rt (zW tt G dp) Q Z f pc L (w1 :: w2 :: s) h c n := tG_row hc (fun z => Or.elim z (fun z => by cases w1 <;> first | exact False.elim z | (cases w2 <;> first | exact False.elim z | (exact Or.inl ⟨z.1, z.2.1, k z.1 z.2.2⟩))) (fun z => False.elim z))
theorem tw_goto {i : Int} (hc : cd[pc]? = some (some (.goto i, nx, a, b, d, v))) (k : tG tt G cd bc bs rt (zW tt G dp) Q Z true a L s h c n) : tG tt G cd bc bs rt (zW tt G dp) Q Z f pc L s h c n := tG_row hc (fun z => Or.elim z (fun z => by exact Or.inl (k z)) (fun z => False.elim z))
theorem tz0 : (0 : Int32).toInt = 0 := rfl
theorem tcond_lt {x y : Int32} : zcond .lt x y ↔ x.toInt < y.toInt := Int32.lt_iff_toInt_lt
theorem tcn_lt {x y : Int32} (q : ¬ zcond .lt x y) : y.toInt ≤ x.toInt := Int.not_lt.mp (fun w => q (tcond_lt.mpr w))
theorem tc0_lt {x : Int32} (q : zcond .lt x 0) : x.toInt < 0 := by have := tcond_lt.mp q; rw [tz0] at this; exact this
theorem tn0_lt {x : Int32} (q : ¬ zcond .lt x 0) : 0 ≤ x.toInt := by have := tcn_lt q; rw [tz0] at this; exact this
theorem tcond_ge {x y : Int32} : zcond .ge x y ↔ y.toInt ≤ x.toInt := Int32.le_iff_toInt_le
theorem tcn_ge {x y : Int32} (q : ¬ zcond .ge x y) : x.toInt < y.toInt := Int.not_le.mp (fun w => q (tcond_ge.mpr w))
theorem tc0_ge {x : Int32} (q : zcond .ge x 0) : 0 ≤ x.toInt := by have := tcond_ge.mp q; rw [tz0] at this; exact this
theorem tn0_ge {x : Int32} (q : ¬ zcond .ge x 0) : x.toInt < 0 := by have := tcn_ge q; rw [tz0] at this; exact this
theorem tcond_gt {x y : Int32} : zcond .gt x y ↔ y.toInt < x.toInt := Int32.lt_iff_toInt_lt
theorem tcn_gt {x y : Int32} (q : ¬ zcond .gt x y) : x.toInt ≤ y.toInt := Int.not_lt.mp (fun w => q (tcond_gt.mpr w))
theorem tc0_gt {x : Int32} (q : zcond .gt x 0) : 0 < x.toInt := by have := tcond_gt.mp q; rw [tz0] at this; exact this
theorem tn0_gt {x : Int32} (q : ¬ zcond .gt x 0) : x.toInt ≤ 0 := by have := tcn_gt q; rw [tz0] at this; exact this
theorem tcond_le {x y : Int32} : zcond .le x y ↔ x.toInt ≤ y.toInt := Int32.le_iff_toInt_le
theorem tcn_le {x y : Int32} (q : ¬ zcond .le x y) : y.toInt < x.toInt := Int.not_le.mp (fun w => q (tcond_le.mpr w))
theorem tc0_le {x : Int32} (q : zcond .le x 0) : x.toInt ≤ 0 := by have := tcond_le.mp q; rw [tz0] at this; exact this
theorem tn0_le {x : Int32} (q : ¬ zcond .le x 0) : 0 < x.toInt := by have := tcn_le q; rw [tz0] at this; exact this
theorem tw_if_eq {i : Int} (hc : cd[pc]? = some (some (.ifCond .eq i, nx, a, b, d, v))) (kt : tvI w = 0 → tG tt G cd bc bs rt (zW tt G dp) Q Z true a L s h c n) (kf : ¬ tvI w = 0 → tG tt G cd bc bs rt (zW tt G dp) Q Z true nx L s h c n) : tG tt G cd bc bs rt (zW tt G dp) Q Z f pc L (w :: s) h c n := tG_row hc (fun z => Or.elim z (fun z => by cases w <;> first | exact False.elim z | (exact Or.inl ⟨fun q => kt q (z.1 q), fun q => kf q (z.2 q)⟩)) (fun z => False.elim z))
theorem tw_ic_eq {i : Int} (hc : cd[pc]? = some (some (.if_icmp .eq i, nx, a, b, d, v))) (kt : tvI w2 = tvI w1 → tG tt G cd bc bs rt (zW tt G dp) Q Z true a L s h c n) (kf : ¬ tvI w2 = tvI w1 → tG tt G cd bc bs rt (zW tt G dp) Q Z true nx L s h c n) : tG tt G cd bc bs rt (zW tt G dp) Q Z f pc L (w1 :: w2 :: s) h c n := tG_row hc (fun z => Or.elim z (fun z => by cases w1 <;> first | exact False.elim z | (cases w2 <;> first | exact False.elim z | (exact Or.inl ⟨fun q => kt q (z.1 q), fun q => kf q (z.2 q)⟩))) (fun z => False.elim z))
theorem tw_if_ne {i : Int} (hc : cd[pc]? = some (some (.ifCond .ne i, nx, a, b, d, v))) (kt : ¬ tvI w = 0 → tG tt G cd bc bs rt (zW tt G dp) Q Z true a L s h c n) (kf : tvI w = 0 → tG tt G cd bc bs rt (zW tt G dp) Q Z true nx L s h c n) : tG tt G cd bc bs rt (zW tt G dp) Q Z f pc L (w :: s) h c n := tG_row hc (fun z => Or.elim z (fun z => by cases w <;> first | exact False.elim z | (exact Or.inl ⟨fun q => kt q (z.1 q), fun q => kf (Classical.not_not.mp q) (z.2 q)⟩)) (fun z => False.elim z))
theorem tw_ic_ne {i : Int} (hc : cd[pc]? = some (some (.if_icmp .ne i, nx, a, b, d, v))) (kt : ¬ tvI w2 = tvI w1 → tG tt G cd bc bs rt (zW tt G dp) Q Z true a L s h c n) (kf : tvI w2 = tvI w1 → tG tt G cd bc bs rt (zW tt G dp) Q Z true nx L s h c n) : tG tt G cd bc bs rt (zW tt G dp) Q Z f pc L (w1 :: w2 :: s) h c n := tG_row hc (fun z => Or.elim z (fun z => by cases w1 <;> first | exact False.elim z | (cases w2 <;> first | exact False.elim z | (exact Or.inl ⟨fun q => kt q (z.1 q), fun q => kf (Classical.not_not.mp q) (z.2 q)⟩))) (fun z => False.elim z))
theorem tw_if_lt {i : Int} (hc : cd[pc]? = some (some (.ifCond .lt i, nx, a, b, d, v))) (kt : (tvI w).toInt < 0 → tG tt G cd bc bs rt (zW tt G dp) Q Z true a L s h c n) (kf : 0 ≤ (tvI w).toInt → tG tt G cd bc bs rt (zW tt G dp) Q Z true nx L s h c n) : tG tt G cd bc bs rt (zW tt G dp) Q Z f pc L (w :: s) h c n := tG_row hc (fun z => Or.elim z (fun z => by cases w <;> first | exact False.elim z | (exact Or.inl ⟨fun q => kt (tc0_lt q) (z.1 q), fun q => kf (tn0_lt q) (z.2 q)⟩)) (fun z => False.elim z))
theorem tw_ic_lt {i : Int} (hc : cd[pc]? = some (some (.if_icmp .lt i, nx, a, b, d, v))) (kt : (tvI w2).toInt < (tvI w1).toInt → tG tt G cd bc bs rt (zW tt G dp) Q Z true a L s h c n) (kf : (tvI w1).toInt ≤ (tvI w2).toInt → tG tt G cd bc bs rt (zW tt G dp) Q Z true nx L s h c n) : tG tt G cd bc bs rt (zW tt G dp) Q Z f pc L (w1 :: w2 :: s) h c n := tG_row hc (fun z => Or.elim z (fun z => by cases w1 <;> first | exact False.elim z | (cases w2 <;> first | exact False.elim z | (exact Or.inl ⟨fun q => kt (tcond_lt.mp q) (z.1 q), fun q => kf (tcn_lt q) (z.2 q)⟩))) (fun z => False.elim z))
theorem tw_if_ge {i : Int} (hc : cd[pc]? = some (some (.ifCond .ge i, nx, a, b, d, v))) (kt : 0 ≤ (tvI w).toInt → tG tt G cd bc bs rt (zW tt G dp) Q Z true a L s h c n) (kf : (tvI w).toInt < 0 → tG tt G cd bc bs rt (zW tt G dp) Q Z true nx L s h c n) : tG tt G cd bc bs rt (zW tt G dp) Q Z f pc L (w :: s) h c n := tG_row hc (fun z => Or.elim z (fun z => by cases w <;> first | exact False.elim z | (exact Or.inl ⟨fun q => kt (tc0_ge q) (z.1 q), fun q => kf (tn0_ge q) (z.2 q)⟩)) (fun z => False.elim z))
theorem tw_ic_ge {i : Int} (hc : cd[pc]? = some (some (.if_icmp .ge i, nx, a, b, d, v))) (kt : (tvI w1).toInt ≤ (tvI w2).toInt → tG tt G cd bc bs rt (zW tt G dp) Q Z true a L s h c n) (kf : (tvI w2).toInt < (tvI w1).toInt → tG tt G cd bc bs rt (zW tt G dp) Q Z true nx L s h c n) : tG tt G cd bc bs rt (zW tt G dp) Q Z f pc L (w1 :: w2 :: s) h c n := tG_row hc (fun z => Or.elim z (fun z => by cases w1 <;> first | exact False.elim z | (cases w2 <;> first | exact False.elim z | (exact Or.inl ⟨fun q => kt (tcond_ge.mp q) (z.1 q), fun q => kf (tcn_ge q) (z.2 q)⟩))) (fun z => False.elim z))
theorem tw_if_gt {i : Int} (hc : cd[pc]? = some (some (.ifCond .gt i, nx, a, b, d, v))) (kt : 0 < (tvI w).toInt → tG tt G cd bc bs rt (zW tt G dp) Q Z true a L s h c n) (kf : (tvI w).toInt ≤ 0 → tG tt G cd bc bs rt (zW tt G dp) Q Z true nx L s h c n) : tG tt G cd bc bs rt (zW tt G dp) Q Z f pc L (w :: s) h c n := tG_row hc (fun z => Or.elim z (fun z => by cases w <;> first | exact False.elim z | (exact Or.inl ⟨fun q => kt (tc0_gt q) (z.1 q), fun q => kf (tn0_gt q) (z.2 q)⟩)) (fun z => False.elim z))
theorem tw_ic_gt {i : Int} (hc : cd[pc]? = some (some (.if_icmp .gt i, nx, a, b, d, v))) (kt : (tvI w1).toInt < (tvI w2).toInt → tG tt G cd bc bs rt (zW tt G dp) Q Z true a L s h c n) (kf : (tvI w2).toInt ≤ (tvI w1).toInt → tG tt G cd bc bs rt (zW tt G dp) Q Z true nx L s h c n) : tG tt G cd bc bs rt (zW tt G dp) Q Z f pc L (w1 :: w2 :: s) h c n := tG_row hc (fun z => Or.elim z (fun z => by cases w1 <;> first | exact False.elim z | (cases w2 <;> first | exact False.elim z | (exact Or.inl ⟨fun q => kt (tcond_gt.mp q) (z.1 q), fun q => kf (tcn_gt q) (z.2 q)⟩))) (fun z => False.elim z))
theorem tw_if_le {i : Int} (hc : cd[pc]? = some (some (.ifCond .le i, nx, a, b, d, v))) (kt : (tvI w).toInt ≤ 0 → tG tt G cd bc bs rt (zW tt G dp) Q Z true a L s h c n) (kf : 0 < (tvI w).toInt → tG tt G cd bc bs rt (zW tt G dp) Q Z true nx L s h c n) : tG tt G cd bc bs rt (zW tt G dp) Q Z f pc L (w :: s) h c n := tG_row hc (fun z => Or.elim z (fun z => by cases w <;> first | exact False.elim z | (exact Or.inl ⟨fun q => kt (tc0_le q) (z.1 q), fun q => kf (tn0_le q) (z.2 q)⟩)) (fun z => False.elim z))
theorem tw_ic_le {i : Int} (hc : cd[pc]? = some (some (.if_icmp .le i, nx, a, b, d, v))) (kt : (tvI w2).toInt ≤ (tvI w1).toInt → tG tt G cd bc bs rt (zW tt G dp) Q Z true a L s h c n) (kf : (tvI w1).toInt < (tvI w2).toInt → tG tt G cd bc bs rt (zW tt G dp) Q Z true nx L s h c n) : tG tt G cd bc bs rt (zW tt G dp) Q Z f pc L (w1 :: w2 :: s) h c n := tG_row hc (fun z => Or.elim z (fun z => by cases w1 <;> first | exact False.elim z | (cases w2 <;> first | exact False.elim z | (exact Or.inl ⟨fun q => kt (tcond_le.mp q) (z.1 q), fun q => kf (tcn_le q) (z.2 q)⟩))) (fun z => False.elim z))
theorem tw_lc_eq {i : Int} {nx0 a0 b0 d0 : Nat} {v0 : Value} (hc0 : cd[pc]? = some (some (.lcmp, nx0, a0, b0, d0, v0))) (hc : cd[nx0]? = some (some (.ifCond .eq i, nx, a, b, d, v))) (kt : tvJ w2 = tvJ w1 → tG tt G cd bc bs rt (zW tt G dp) Q Z true a L s h c n) (kf : ¬ tvJ w2 = tvJ w1 → tG tt G cd bc bs rt (zW tt G dp) Q Z true nx L s h c n) : tG tt G cd bc bs rt (zW tt G dp) Q Z f pc L (w1 :: w2 :: s) h c n := tw_lcmp hc0 (tw_if_eq hc (fun q => kt (by exact (lg_cmp_eq _ _).mp q)) (fun q => kf (by exact fun z => q ((lg_cmp_eq _ _).mpr z))))
theorem tw_lc_ne {i : Int} {nx0 a0 b0 d0 : Nat} {v0 : Value} (hc0 : cd[pc]? = some (some (.lcmp, nx0, a0, b0, d0, v0))) (hc : cd[nx0]? = some (some (.ifCond .ne i, nx, a, b, d, v))) (kt : ¬ tvJ w2 = tvJ w1 → tG tt G cd bc bs rt (zW tt G dp) Q Z true a L s h c n) (kf : tvJ w2 = tvJ w1 → tG tt G cd bc bs rt (zW tt G dp) Q Z true nx L s h c n) : tG tt G cd bc bs rt (zW tt G dp) Q Z f pc L (w1 :: w2 :: s) h c n := tw_lcmp hc0 (tw_if_ne hc (fun q => kt (by exact fun z => q ((lg_cmp_eq _ _).mpr z))) (fun q => kf (by exact (lg_cmp_eq _ _).mp q)))
theorem tw_lc_lt {i : Int} {nx0 a0 b0 d0 : Nat} {v0 : Value} (hc0 : cd[pc]? = some (some (.lcmp, nx0, a0, b0, d0, v0))) (hc : cd[nx0]? = some (some (.ifCond .lt i, nx, a, b, d, v))) (kt : (tvJ w2).toInt < (tvJ w1).toInt → tG tt G cd bc bs rt (zW tt G dp) Q Z true a L s h c n) (kf : (tvJ w1).toInt ≤ (tvJ w2).toInt → tG tt G cd bc bs rt (zW tt G dp) Q Z true nx L s h c n) : tG tt G cd bc bs rt (zW tt G dp) Q Z f pc L (w1 :: w2 :: s) h c n := tw_lcmp hc0 (tw_if_lt hc (fun q => kt (by have q2 := (lg_cmp_lt _ _).mp (tcond_lt.mpr (by rw [tz0]; exact q)); exact Int64.lt_iff_toInt_lt.mp q2)) (fun q => kf (by have q2 := (lg_cmp_ge _ _).mp (tcond_ge.mpr (by rw [tz0]; exact q)); exact Int64.le_iff_toInt_le.mp q2)))
theorem tw_lc_ge {i : Int} {nx0 a0 b0 d0 : Nat} {v0 : Value} (hc0 : cd[pc]? = some (some (.lcmp, nx0, a0, b0, d0, v0))) (hc : cd[nx0]? = some (some (.ifCond .ge i, nx, a, b, d, v))) (kt : (tvJ w1).toInt ≤ (tvJ w2).toInt → tG tt G cd bc bs rt (zW tt G dp) Q Z true a L s h c n) (kf : (tvJ w2).toInt < (tvJ w1).toInt → tG tt G cd bc bs rt (zW tt G dp) Q Z true nx L s h c n) : tG tt G cd bc bs rt (zW tt G dp) Q Z f pc L (w1 :: w2 :: s) h c n := tw_lcmp hc0 (tw_if_ge hc (fun q => kt (by have q2 := (lg_cmp_ge _ _).mp (tcond_ge.mpr (by rw [tz0]; exact q)); exact Int64.le_iff_toInt_le.mp q2)) (fun q => kf (by have q2 := (lg_cmp_lt _ _).mp (tcond_lt.mpr (by rw [tz0]; exact q)); exact Int64.lt_iff_toInt_lt.mp q2)))
theorem tw_lc_gt {i : Int} {nx0 a0 b0 d0 : Nat} {v0 : Value} (hc0 : cd[pc]? = some (some (.lcmp, nx0, a0, b0, d0, v0))) (hc : cd[nx0]? = some (some (.ifCond .gt i, nx, a, b, d, v))) (kt : (tvJ w1).toInt < (tvJ w2).toInt → tG tt G cd bc bs rt (zW tt G dp) Q Z true a L s h c n) (kf : (tvJ w2).toInt ≤ (tvJ w1).toInt → tG tt G cd bc bs rt (zW tt G dp) Q Z true nx L s h c n) : tG tt G cd bc bs rt (zW tt G dp) Q Z f pc L (w1 :: w2 :: s) h c n := tw_lcmp hc0 (tw_if_gt hc (fun q => kt (by have q2 := (lg_cmp_gt _ _).mp (tcond_gt.mpr (by rw [tz0]; exact q)); exact Int64.lt_iff_toInt_lt.mp q2)) (fun q => kf (by have q2 := (lg_cmp_le _ _).mp (tcond_le.mpr (by rw [tz0]; exact q)); exact Int64.le_iff_toInt_le.mp q2)))
theorem tw_lc_le {i : Int} {nx0 a0 b0 d0 : Nat} {v0 : Value} (hc0 : cd[pc]? = some (some (.lcmp, nx0, a0, b0, d0, v0))) (hc : cd[nx0]? = some (some (.ifCond .le i, nx, a, b, d, v))) (kt : (tvJ w2).toInt ≤ (tvJ w1).toInt → tG tt G cd bc bs rt (zW tt G dp) Q Z true a L s h c n) (kf : (tvJ w1).toInt < (tvJ w2).toInt → tG tt G cd bc bs rt (zW tt G dp) Q Z true nx L s h c n) : tG tt G cd bc bs rt (zW tt G dp) Q Z f pc L (w1 :: w2 :: s) h c n := tw_lcmp hc0 (tw_if_le hc (fun q => kt (by have q2 := (lg_cmp_le _ _).mp (tcond_le.mpr (by rw [tz0]; exact q)); exact Int64.le_iff_toInt_le.mp q2)) (fun q => kf (by have q2 := (lg_cmp_gt _ _).mp (tcond_gt.mpr (by rw [tz0]; exact q)); exact Int64.lt_iff_toInt_lt.mp q2)))
theorem tw_ifnull {i : Int} (hc : cd[pc]? = some (some (.ifnull i, nx, a, b, d, v))) (kt : w = .null → tG tt G cd bc bs rt (zW tt G dp) Q Z true a L s h c n) (kf : ∀ x, w = .ref x → tG tt G cd bc bs rt (zW tt G dp) Q Z true nx L s h c n) : tG tt G cd bc bs rt (zW tt G dp) Q Z f pc L (w :: s) h c n := tG_row hc (fun z => Or.elim z (fun z => by cases w <;> first | exact False.elim z | exact Or.inl (kt rfl z) | exact Or.inl (kf _ rfl z)) (fun z => False.elim z))
theorem tw_ifnn {i : Int} (hc : cd[pc]? = some (some (.ifnonnull i, nx, a, b, d, v))) (kf : w = .null → tG tt G cd bc bs rt (zW tt G dp) Q Z true nx L s h c n) (kt : ∀ x, w = .ref x → tG tt G cd bc bs rt (zW tt G dp) Q Z true a L s h c n) : tG tt G cd bc bs rt (zW tt G dp) Q Z f pc L (w :: s) h c n := tG_row hc (fun z => Or.elim z (fun z => by cases w <;> first | exact False.elim z | exact Or.inl (kf rfl z) | exact Or.inl (kt _ rfl z)) (fun z => False.elim z))
theorem tw_table {df lo hi : Int} {tg : Array Int} (hc : cd[pc]? = some (some (.tableswitch df lo hi tg, nx, a, b, d, v))) (k1 : ((tvI w).toInt < lo ∨ hi < (tvI w).toInt) → tG tt G cd bc bs rt (zW tt G dp) Q Z true df.toNat L s h c n) (k2 : ∀ t : Int, lo ≤ (tvI w).toInt → (tvI w).toInt ≤ hi → tg[((tvI w).toInt - lo).toNat]? = some t → tG tt G cd bc bs rt (zW tt G dp) Q Z true t.toNat L s h c n) : tG tt G cd bc bs rt (zW tt G dp) Q Z f pc L (w :: s) h c n := tG_row hc (fun z => Or.elim z (fun z => False.elim z) (fun z => by cases w <;> first | exact False.elim z | exact Or.inr ⟨fun q => k1 q (z.1 q), fun q1 q2 => (by obtain ⟨t, e1, e2⟩ := z.2 q1 q2; exact ⟨t, e1, k2 t (Int.not_lt.mp q1) (Int.not_lt.mp q2) e1 e2⟩)⟩))
theorem tw_lookup {df : Int} {ps : Array (Int × Int)} (hc : cd[pc]? = some (some (.lookupswitch df ps, nx, a, b, d, v))) (k : tG tt G cd bc bs rt (zW tt G dp) Q Z true (Op.lookupswitch.offset ps.toList df (tvI w).toInt).toNat L s h c n) : tG tt G cd bc bs rt (zW tt G dp) Q Z f pc L (w :: s) h c n := tG_row hc (fun z => Or.elim z (fun z => False.elim z) (fun z => by cases w <;> first | exact False.elim z | exact Or.inr (k z)))
theorem tw_iald  (hc : cd[pc]? = some (some (.iaload, nx, a, b, d, v))) (k : tIn h (tvR w2) 0 (tvI w1) → tG tt G cd bc bs rt (zW tt G dp) Q Z true nx L (.int (tA h (tvR w2) (tvI w1).toNatClampNeg) :: s) h c n) : tG tt G cd bc bs rt (zW tt G dp) Q Z f pc L (w1 :: w2 :: s) h c n := tG_row hc (fun z => Or.elim z (fun z => False.elim z) (fun z => by cases w1 <;> first | exact False.elim z | (cases w2 <;> first | exact False.elim z | (obtain ⟨N, g, e, hi, z⟩ := z; refine Or.inr ⟨N, g, e, hi, ?_⟩; have q := k ⟨N, g, e, hi⟩; unfold tA at q; dsimp only [tvR, tvI] at q; rw [e] at q; exact q z))))
theorem tw_lald  (hc : cd[pc]? = some (some (.laload, nx, a, b, d, v))) (k : tInJ h (tvR w2) (tvI w1) → tG tt G cd bc bs rt (zW tt G dp) Q Z true nx L (.long (tJ h (tvR w2) (tvI w1).toNatClampNeg) :: s) h c n) : tG tt G cd bc bs rt (zW tt G dp) Q Z f pc L (w1 :: w2 :: s) h c n := tG_row hc (fun z => Or.elim z (fun z => False.elim z) (fun z => by cases w1 <;> first | exact False.elim z | (cases w2 <;> first | exact False.elim z | (obtain ⟨N, g, e, hi, z⟩ := z; refine Or.inr ⟨N, g, e, hi, ?_⟩; have q := k ⟨N, g, e, hi⟩; unfold tJ at q; dsimp only [tvR, tvI] at q; rw [e] at q; exact q z))))
theorem tw_bald  (hc : cd[pc]? = some (some (.baload, nx, a, b, d, v))) (k : (∃ kd, tIn h (tvR w2) kd (tvI w1)) → tG tt G cd bc bs rt (zW tt G dp) Q Z true nx L (.int (tA h (tvR w2) (tvI w1).toNatClampNeg) :: s) h c n) : tG tt G cd bc bs rt (zW tt G dp) Q Z f pc L (w1 :: w2 :: s) h c n := tG_row hc (fun z => Or.elim z (fun z => False.elim z) (fun z => by cases w1 <;> first | exact False.elim z | (cases w2 <;> first | exact False.elim z | (obtain ⟨kd, N, g, hk, e, hi, z⟩ := z; refine Or.inr ⟨kd, N, g, hk, e, hi, ?_⟩; have q := k ⟨kd, N, g, e, hi⟩; unfold tA at q; dsimp only [tvR, tvI] at q; rw [e] at q; exact q z))))
theorem tw_aald  (hc : cd[pc]? = some (some (.aaload, nx, a, b, d, v))) (k : tInO h (tvR w2) (tvI w1) → tG tt G cd bc bs rt (zW tt G dp) Q Z true nx L (zrf (tO h (tvR w2) (tvI w1).toNatClampNeg) :: s) h c n) : tG tt G cd bc bs rt (zW tt G dp) Q Z f pc L (w1 :: w2 :: s) h c n := tG_row hc (fun z => Or.elim z (fun z => False.elim z) (fun z => by cases w1 <;> first | exact False.elim z | (cases w2 <;> first | exact False.elim z | (obtain ⟨kd, N, g, hk, e, hi, z⟩ := z; refine Or.inr ⟨kd, N, g, hk, e, hi, ?_⟩; have q := k ⟨kd, N, g, e, hi⟩; unfold tO at q; dsimp only [tvR, tvI] at q; rw [e] at q; exact q z))))
theorem tw_iast  (hc : cd[pc]? = some (some (.iastore, nx, a, b, d, v))) (k : tIn h (tvR w3) 0 (tvI w2) → tG tt G cd bc bs rt (zW tt G dp) Q Z true nx L s (tSA h (tvR w3) (tvI w2).toNatClampNeg (tvI w1)) c n) : tG tt G cd bc bs rt (zW tt G dp) Q Z f pc L (w1 :: w2 :: w3 :: s) h c n := tG_row hc (fun z => Or.elim z (fun z => False.elim z) (fun z => by cases w1 <;> first | exact False.elim z | (cases w2 <;> first | exact False.elim z | (cases w3 <;> first | exact False.elim z | (obtain ⟨N, g, e, hi, z⟩ := z; refine Or.inr ⟨N, g, e, hi, ?_⟩; have q := k ⟨N, g, e, hi⟩; unfold tSA at q; dsimp only [tvR, tvI] at q; rw [e] at q; exact q z)))))
theorem tw_last  (hc : cd[pc]? = some (some (.lastore, nx, a, b, d, v))) (k : tInJ h (tvR w3) (tvI w2) → tG tt G cd bc bs rt (zW tt G dp) Q Z true nx L s (tSJ h (tvR w3) (tvI w2).toNatClampNeg (tvJ w1)) c n) : tG tt G cd bc bs rt (zW tt G dp) Q Z f pc L (w1 :: w2 :: w3 :: s) h c n := tG_row hc (fun z => Or.elim z (fun z => False.elim z) (fun z => by cases w1 <;> first | exact False.elim z | (cases w2 <;> first | exact False.elim z | (cases w3 <;> first | exact False.elim z | (obtain ⟨N, g, e, hi, z⟩ := z; refine Or.inr ⟨N, g, e, hi, ?_⟩; have q := k ⟨N, g, e, hi⟩; unfold tSJ at q; dsimp only [tvR, tvI, tvJ] at q; rw [e] at q; exact q z)))))
theorem tw_bast  (hc : cd[pc]? = some (some (.bastore, nx, a, b, d, v))) (k : ∀ kd, (kd = 1 ∨ kd = 2) → tIn h (tvR w3) kd (tvI w2) → tG tt G cd bc bs rt (zW tt G dp) Q Z true nx L s (tSA h (tvR w3) (tvI w2).toNatClampNeg (vp_nar (if kd = 1 then .boolean else .byte) (tvI w1))) c n) : tG tt G cd bc bs rt (zW tt G dp) Q Z f pc L (w1 :: w2 :: w3 :: s) h c n := tG_row hc (fun z => Or.elim z (fun z => False.elim z) (fun z => by cases w1 <;> first | exact False.elim z | (cases w2 <;> first | exact False.elim z | (cases w3 <;> first | exact False.elim z | (obtain ⟨kd, N, g, hk, e, hi, z⟩ := z; refine Or.inr ⟨kd, N, g, hk, e, hi, ?_⟩; have q := k kd hk ⟨N, g, e, hi⟩; unfold tSA at q; dsimp only [tvR, tvI] at q; rw [e] at q; exact q z)))))
theorem tw_aast {y : Nat} (hc : cd[pc]? = some (some (.aastore, nx, a, b, d, v))) (k : tInO h (tvR w3) (tvI w2) → tG tt G cd bc bs rt (zW tt G dp) Q Z true nx L s (tSO h (tvR w3) (tvI w2).toNatClampNeg (some y)) c n) : tG tt G cd bc bs rt (zW tt G dp) Q Z f pc L (.ref y :: w2 :: w3 :: s) h c n := tG_row hc (fun z => Or.elim z (fun z => False.elim z) (fun z => by cases w2 <;> first | exact False.elim z | (cases w3 <;> first | exact False.elim z | (obtain ⟨kd, N, g, hk, e, hi, z⟩ := z; refine Or.inr ⟨kd, N, g, hk, e, hi, ?_⟩; have q := k ⟨kd, N, g, e, hi⟩; unfold tSO at q; dsimp only [tvR, tvI] at q; rw [e] at q; exact q z))))
theorem tw_alen  (hc : cd[pc]? = some (some (.arraylength, nx, a, b, d, v))) (k : tG tt G cd bc bs rt (zW tt G dp) Q Z true nx L (.int (Int32.ofNat (tN h (tvR w))) :: s) h c n) : tG tt G cd bc bs rt (zW tt G dp) Q Z f pc L (w :: s) h c n := tG_row hc (fun z => Or.elim z (fun z => False.elim z) (fun z => by cases w <;> first | exact False.elim z | (obtain ⟨kd, N, x, hk, e, z⟩ := z; refine Or.inr ⟨kd, N, x, hk, e, ?_⟩; have q := k; unfold tN at q; dsimp only [tvR] at q; rw [e] at q; exact q z)))
theorem tw_ialdS {x : Int32} (hc : cd[pc]? = some (some (.iaload, nx, a, b, d, v))) (hv : tIn h (tvR w2) 0 (tvI w1) → tA h (tvR w2) (tvI w1).toNatClampNeg = x) (k : tIn h (tvR w2) 0 (tvI w1) → tG tt G cd bc bs rt (zW tt G dp) Q Z true nx L (.int x :: s) h c n) : tG tt G cd bc bs rt (zW tt G dp) Q Z f pc L (w1 :: w2 :: s) h c n := tw_iald hc (fun z => by rw [hv z]; exact k z)
theorem tw_baldS {x : Int32} (hc : cd[pc]? = some (some (.baload, nx, a, b, d, v))) (hv : (∃ kd, tIn h (tvR w2) kd (tvI w1)) → tA h (tvR w2) (tvI w1).toNatClampNeg = x) (k : (∃ kd, tIn h (tvR w2) kd (tvI w1)) → tG tt G cd bc bs rt (zW tt G dp) Q Z true nx L (.int x :: s) h c n) : tG tt G cd bc bs rt (zW tt G dp) Q Z f pc L (w1 :: w2 :: s) h c n := tw_bald hc (fun z => by rw [hv z]; exact k z)
theorem tw_aaldS {w : Value} (hc : cd[pc]? = some (some (.aaload, nx, a, b, d, v))) (hv : tInO h (tvR w2) (tvI w1) → zrf (tO h (tvR w2) (tvI w1).toNatClampNeg) = w) (k : tG tt G cd bc bs rt (zW tt G dp) Q Z true nx L (w :: s) h c n) : tG tt G cd bc bs rt (zW tt G dp) Q Z f pc L (w1 :: w2 :: s) h c n := tw_aald hc (fun z => by rw [hv z]; exact k)
theorem tnar01 {x : Int32} (h1 : 0 ≤ x.toInt) (h2 : x.toInt ≤ 1) (kd : Nat) : vp_nar (if kd = 1 then .boolean else .byte) x = x := by
  rcases (by omega : x.toInt = 0 ∨ x.toInt = 1) with q | q
  · have e : x = 0 := Int32.toInt_inj.mp (by rw [q]; rfl)
    subst e
    split <;> rfl
  · have e : x = 1 := Int32.toInt_inj.mp (by rw [q]; rfl)
    subst e
    split <;> rfl
theorem tw_bastZ {x : Int32} (hx : 0 ≤ x.toInt ∧ x.toInt ≤ 1) (hc : cd[pc]? = some (some (.bastore, nx, a, b, d, v))) (k : ∀ kd, tIn h (tvR w3) kd (tvI w2) → tG tt G cd bc bs rt (zW tt G dp) Q Z true nx L s (tSA h (tvR w3) (tvI w2).toNatClampNeg x) c n) : tG tt G cd bc bs rt (zW tt G dp) Q Z f pc L (.int x :: w2 :: w3 :: s) h c n := tw_bast hc (fun kd _ z => by rw [show vp_nar (if kd = 1 then .boolean else .byte) (tvI (.int x)) = x from tnar01 hx.1 hx.2 kd]; exact k kd z)
theorem tw_get {i r : Nat} (hc : cd[pc]? = some (some (.getfield i, nx, a, b, d, v))) (k : tG tt G cd bc bs rt (zW tt G dp) Q Z true nx L (tF h r b :: s) h c n) : tG tt G cd bc bs rt (zW tt G dp) Q Z f pc L (.ref r :: s) h c n := tG_row hc (fun z => Or.elim z (fun z => False.elim z) (fun z => by obtain ⟨fs, w, e, e2, z⟩ := z; refine Or.inr ⟨fs, w, e, e2, ?_⟩; have q := k; unfold tF at q; rw [e] at q; dsimp only at q; rw [List.getD_eq_getElem?_getD, e2] at q; exact q z))
theorem tw_getS {i r : Nat} (hc : cd[pc]? = some (some (.getfield i, nx, a, b, d, v))) (hv : tF h r b = w) (k : tG tt G cd bc bs rt (zW tt G dp) Q Z true nx L (w :: s) h c n) : tG tt G cd bc bs rt (zW tt G dp) Q Z f pc L (.ref r :: s) h c n := tw_get hc (by rw [hv]; exact k)
theorem tw_put {i r : Nat} (hc : cd[pc]? = some (some (.putfield i, nx, a, b, d, v))) (k : tFd h r b → tG tt G cd bc bs rt (zW tt G dp) Q Z true nx L s (tSF h r b w) c n) : tG tt G cd bc bs rt (zW tt G dp) Q Z f pc L (w :: .ref r :: s) h c n := tG_row hc (fun z => Or.elim z (fun z => False.elim z) (fun z => by obtain ⟨fs, t, e, e1, e2, e3, e4, z⟩ := z; refine Or.inr ⟨fs, t, e, e1, e2, e3, e4, ?_⟩; have q := k ⟨a, fs, e, e1⟩; unfold tSF at q; rw [e] at q; exact q z))
theorem tw_oinit {r : Nat} (hc : cd[pc]? = some (some (.pop2, nx, a, b, d, v))) (k : tG tt G cd bc bs rt (zW tt G dp) Q Z true nx L s h c n) : tG tt G cd bc bs rt (zW tt G dp) Q Z f pc L (.ref r :: s) h c n := tG_row hc (fun z => Or.elim z (fun z => False.elim z) (fun z => Or.inr ⟨z.1, k z.2⟩))
theorem tw_new {i : Nat} {fs : List Value} (hc : cd[pc]? = some (some (.new i, nx, a, b, d, v))) (hf : zcls tt a = fs) (k : tG tt G cd bc bs rt (zW tt G dp) Q Z true nx L (.ref h.length :: s) (h ++ [.inr (a, fs)]) (c + 1) (n + fs.length)) : tG tt G cd bc bs rt (zW tt G dp) Q Z f pc L s h c n := tG_row hc (fun z => Or.elim z (fun z => False.elim z) (fun z => by subst hf; exact Or.inr ⟨z.1, z.2.1, k z.2.2⟩))
theorem tw_newa {t : ArrayType} (hc : cd[pc]? = some (some (.newarray t, nx, a, b, d, v))) (k : tG tt G cd bc bs rt (zW tt G dp) Q Z true nx L (.ref h.length :: s) (h ++ [zarr (zkind t) (tvI w).toNatClampNeg]) (c + 1) (n + (tvI w).toNatClampNeg)) : tG tt G cd bc bs rt (zW tt G dp) Q Z f pc L (w :: s) h c n := tG_row hc (fun z => Or.elim z (fun z => False.elim z) (fun z => by cases w <;> first | exact False.elim z | exact Or.inr ⟨z.1, z.2.1, z.2.2.1, z.2.2.2.1, z.2.2.2.2.1, k z.2.2.2.2.2⟩))
theorem tw_sald  (hc : cd[pc]? = some (some (.saload, nx, a, b, d, v))) (k : vp_in (tvI w) G.2.2.1 → tG tt G cd bc bs rt (zW tt G dp) Q Z true nx L (.int (G.2.2.2 (tvI w).toNatClampNeg) :: s) h c n) : tG tt G cd bc bs rt (zW tt G dp) Q Z f pc L (w :: .retAddr 0 :: s) h c n := tG_row hc (fun z => Or.elim z (fun z => False.elim z) (fun z => by cases w <;> first | exact False.elim z | exact Or.inr ⟨z.1, k z.1 z.2⟩))
theorem tw_chr {q : Nat} (hc : cd[pc]? = some (some (.caload, nx, a, b, d, v))) (k : vp_in (tvI w) (G.2.1 q).length → tG tt G cd bc bs rt (zW tt G dp) Q Z true nx L (.int ((G.2.1 q).getD (tvI w).toNatClampNeg 0) :: s) h c n) : tG tt G cd bc bs rt (zW tt G dp) Q Z f pc L (w :: .retAddr q :: s) h c n := tG_row hc (fun z => Or.elim z (fun z => False.elim z) (fun z => by cases w <;> first | exact False.elim z | exact Or.inr ⟨z.1, z.2.1, k z.1 z.2.2⟩))
theorem tw_tlen {q : Nat} (hc : cd[pc]? = some (some (.i2c, nx, a, b, d, v))) (k : tG tt G cd bc bs rt (zW tt G dp) Q Z true nx L (.int (Int32.ofNat (G.2.1 q).length) :: s) h c n) : tG tt G cd bc bs rt (zW tt G dp) Q Z f pc L (.retAddr q :: s) h c n := tG_row hc (fun z => Or.elim z (fun z => False.elim z) (fun z => Or.inr ⟨z.1, z.2.1, k z.2.2⟩))
theorem tw_virt0 {i r : Nat} {Qa : zQ} (hc : cd[pc]? = some (some (.invokevirtual i, nx, a, 0, d, v))) (kc : tC tt G a (.ref r :: []) h Qa) (k : ∀ w h2, Qa w h2 → tG tt G cd bc bs rt (zW tt G dp) Q Z true nx L (w.toList ++ s) h2 (c + (zbud G a).1) (n + (zbud G a).2)) : tG tt G cd bc bs rt (zW tt G dp) Q Z f pc L (.ref r :: s) h c n := tG_row hc (fun z => Or.elim z (fun z => False.elim z) (fun z => Or.inr ⟨z.1, z.2.1, z.2.2.1, z.2.2.2.1, z.2.2.2.2.1, zW_mono tt G dp _ _ _ _ _ (fun w h2 q => k w h2 q.2 q.1) (tC.both kc z.2.2.2.2.2)⟩))
theorem tw_spec0 {i r : Nat} {Qa : zQ} (hc : cd[pc]? = some (some (.invokespecial i, nx, a, 0, d, v))) (kc : tC tt G a (.ref r :: []) h Qa) (k : ∀ w h2, Qa w h2 → tG tt G cd bc bs rt (zW tt G dp) Q Z true nx L (w.toList ++ s) h2 (c + (zbud G a).1) (n + (zbud G a).2)) : tG tt G cd bc bs rt (zW tt G dp) Q Z f pc L (.ref r :: s) h c n := tG_row hc (fun z => Or.elim z (fun z => False.elim z) (fun z => Or.inr ⟨z.1, z.2.1, z.2.2.1, z.2.2.2.1, zW_mono tt G dp _ _ _ _ _ (fun w h2 q => k w h2 q.2 q.1) (tC.both kc z.2.2.2.2)⟩))
theorem tw_virt1 {i r : Nat} {Qa : zQ} {x1 : Value} (hc : cd[pc]? = some (some (.invokevirtual i, nx, a, 1, d, v))) (kc : tC tt G a (.ref r :: [x1]) h Qa) (k : ∀ w h2, Qa w h2 → tG tt G cd bc bs rt (zW tt G dp) Q Z true nx L (w.toList ++ s) h2 (c + (zbud G a).1) (n + (zbud G a).2)) : tG tt G cd bc bs rt (zW tt G dp) Q Z f pc L (x1 :: .ref r :: s) h c n := tG_row hc (fun z => Or.elim z (fun z => False.elim z) (fun z => Or.inr ⟨z.1, z.2.1, z.2.2.1, z.2.2.2.1, z.2.2.2.2.1, zW_mono tt G dp _ _ _ _ _ (fun w h2 q => k w h2 q.2 q.1) (tC.both kc z.2.2.2.2.2)⟩))
theorem tw_spec1 {i r : Nat} {Qa : zQ} {x1 : Value} (hc : cd[pc]? = some (some (.invokespecial i, nx, a, 1, d, v))) (kc : tC tt G a (.ref r :: [x1]) h Qa) (k : ∀ w h2, Qa w h2 → tG tt G cd bc bs rt (zW tt G dp) Q Z true nx L (w.toList ++ s) h2 (c + (zbud G a).1) (n + (zbud G a).2)) : tG tt G cd bc bs rt (zW tt G dp) Q Z f pc L (x1 :: .ref r :: s) h c n := tG_row hc (fun z => Or.elim z (fun z => False.elim z) (fun z => Or.inr ⟨z.1, z.2.1, z.2.2.1, z.2.2.2.1, zW_mono tt G dp _ _ _ _ _ (fun w h2 q => k w h2 q.2 q.1) (tC.both kc z.2.2.2.2)⟩))
theorem tw_stat1 {i : Nat} {Qa : zQ} {x1 : Value} (hc : cd[pc]? = some (some (.invokestatic i, nx, a, 1, d, v))) (kc : tC tt G a [x1] h Qa) (k : ∀ w h2, Qa w h2 → tG tt G cd bc bs rt (zW tt G dp) Q Z true nx L (w.toList ++ s) h2 (c + (zbud G a).1) (n + (zbud G a).2)) : tG tt G cd bc bs rt (zW tt G dp) Q Z f pc L (x1 :: s) h c n := tG_row hc (fun z => Or.elim z (fun z => False.elim z) (fun z => Or.inr ⟨z.1, z.2.1, z.2.2.1, z.2.2.2.1, zW_mono tt G dp _ _ _ _ _ (fun w h2 q => k w h2 q.2 q.1) (tC.both kc z.2.2.2.2)⟩))
theorem tw_virt2 {i r : Nat} {Qa : zQ} {x1 x2 : Value} (hc : cd[pc]? = some (some (.invokevirtual i, nx, a, 2, d, v))) (kc : tC tt G a (.ref r :: [x1, x2]) h Qa) (k : ∀ w h2, Qa w h2 → tG tt G cd bc bs rt (zW tt G dp) Q Z true nx L (w.toList ++ s) h2 (c + (zbud G a).1) (n + (zbud G a).2)) : tG tt G cd bc bs rt (zW tt G dp) Q Z f pc L (x2 :: x1 :: .ref r :: s) h c n := tG_row hc (fun z => Or.elim z (fun z => False.elim z) (fun z => Or.inr ⟨z.1, z.2.1, z.2.2.1, z.2.2.2.1, z.2.2.2.2.1, zW_mono tt G dp _ _ _ _ _ (fun w h2 q => k w h2 q.2 q.1) (tC.both kc z.2.2.2.2.2)⟩))
theorem tw_spec2 {i r : Nat} {Qa : zQ} {x1 x2 : Value} (hc : cd[pc]? = some (some (.invokespecial i, nx, a, 2, d, v))) (kc : tC tt G a (.ref r :: [x1, x2]) h Qa) (k : ∀ w h2, Qa w h2 → tG tt G cd bc bs rt (zW tt G dp) Q Z true nx L (w.toList ++ s) h2 (c + (zbud G a).1) (n + (zbud G a).2)) : tG tt G cd bc bs rt (zW tt G dp) Q Z f pc L (x2 :: x1 :: .ref r :: s) h c n := tG_row hc (fun z => Or.elim z (fun z => False.elim z) (fun z => Or.inr ⟨z.1, z.2.1, z.2.2.1, z.2.2.2.1, zW_mono tt G dp _ _ _ _ _ (fun w h2 q => k w h2 q.2 q.1) (tC.both kc z.2.2.2.2)⟩))
theorem tw_stat2 {i : Nat} {Qa : zQ} {x1 x2 : Value} (hc : cd[pc]? = some (some (.invokestatic i, nx, a, 2, d, v))) (kc : tC tt G a [x1, x2] h Qa) (k : ∀ w h2, Qa w h2 → tG tt G cd bc bs rt (zW tt G dp) Q Z true nx L (w.toList ++ s) h2 (c + (zbud G a).1) (n + (zbud G a).2)) : tG tt G cd bc bs rt (zW tt G dp) Q Z f pc L (x2 :: x1 :: s) h c n := tG_row hc (fun z => Or.elim z (fun z => False.elim z) (fun z => Or.inr ⟨z.1, z.2.1, z.2.2.1, z.2.2.2.1, zW_mono tt G dp _ _ _ _ _ (fun w h2 q => k w h2 q.2 q.1) (tC.both kc z.2.2.2.2)⟩))
theorem tw_virt3 {i r : Nat} {Qa : zQ} {x1 x2 x3 : Value} (hc : cd[pc]? = some (some (.invokevirtual i, nx, a, 3, d, v))) (kc : tC tt G a (.ref r :: [x1, x2, x3]) h Qa) (k : ∀ w h2, Qa w h2 → tG tt G cd bc bs rt (zW tt G dp) Q Z true nx L (w.toList ++ s) h2 (c + (zbud G a).1) (n + (zbud G a).2)) : tG tt G cd bc bs rt (zW tt G dp) Q Z f pc L (x3 :: x2 :: x1 :: .ref r :: s) h c n := tG_row hc (fun z => Or.elim z (fun z => False.elim z) (fun z => Or.inr ⟨z.1, z.2.1, z.2.2.1, z.2.2.2.1, z.2.2.2.2.1, zW_mono tt G dp _ _ _ _ _ (fun w h2 q => k w h2 q.2 q.1) (tC.both kc z.2.2.2.2.2)⟩))
theorem tw_spec3 {i r : Nat} {Qa : zQ} {x1 x2 x3 : Value} (hc : cd[pc]? = some (some (.invokespecial i, nx, a, 3, d, v))) (kc : tC tt G a (.ref r :: [x1, x2, x3]) h Qa) (k : ∀ w h2, Qa w h2 → tG tt G cd bc bs rt (zW tt G dp) Q Z true nx L (w.toList ++ s) h2 (c + (zbud G a).1) (n + (zbud G a).2)) : tG tt G cd bc bs rt (zW tt G dp) Q Z f pc L (x3 :: x2 :: x1 :: .ref r :: s) h c n := tG_row hc (fun z => Or.elim z (fun z => False.elim z) (fun z => Or.inr ⟨z.1, z.2.1, z.2.2.1, z.2.2.2.1, zW_mono tt G dp _ _ _ _ _ (fun w h2 q => k w h2 q.2 q.1) (tC.both kc z.2.2.2.2)⟩))
theorem tw_stat3 {i : Nat} {Qa : zQ} {x1 x2 x3 : Value} (hc : cd[pc]? = some (some (.invokestatic i, nx, a, 3, d, v))) (kc : tC tt G a [x1, x2, x3] h Qa) (k : ∀ w h2, Qa w h2 → tG tt G cd bc bs rt (zW tt G dp) Q Z true nx L (w.toList ++ s) h2 (c + (zbud G a).1) (n + (zbud G a).2)) : tG tt G cd bc bs rt (zW tt G dp) Q Z f pc L (x3 :: x2 :: x1 :: s) h c n := tG_row hc (fun z => Or.elim z (fun z => False.elim z) (fun z => Or.inr ⟨z.1, z.2.1, z.2.2.1, z.2.2.2.1, zW_mono tt G dp _ _ _ _ _ (fun w h2 q => k w h2 q.2 q.1) (tC.both kc z.2.2.2.2)⟩))
theorem tw_virt4 {i r : Nat} {Qa : zQ} {x1 x2 x3 x4 : Value} (hc : cd[pc]? = some (some (.invokevirtual i, nx, a, 4, d, v))) (kc : tC tt G a (.ref r :: [x1, x2, x3, x4]) h Qa) (k : ∀ w h2, Qa w h2 → tG tt G cd bc bs rt (zW tt G dp) Q Z true nx L (w.toList ++ s) h2 (c + (zbud G a).1) (n + (zbud G a).2)) : tG tt G cd bc bs rt (zW tt G dp) Q Z f pc L (x4 :: x3 :: x2 :: x1 :: .ref r :: s) h c n := tG_row hc (fun z => Or.elim z (fun z => False.elim z) (fun z => Or.inr ⟨z.1, z.2.1, z.2.2.1, z.2.2.2.1, z.2.2.2.2.1, zW_mono tt G dp _ _ _ _ _ (fun w h2 q => k w h2 q.2 q.1) (tC.both kc z.2.2.2.2.2)⟩))
theorem tw_spec4 {i r : Nat} {Qa : zQ} {x1 x2 x3 x4 : Value} (hc : cd[pc]? = some (some (.invokespecial i, nx, a, 4, d, v))) (kc : tC tt G a (.ref r :: [x1, x2, x3, x4]) h Qa) (k : ∀ w h2, Qa w h2 → tG tt G cd bc bs rt (zW tt G dp) Q Z true nx L (w.toList ++ s) h2 (c + (zbud G a).1) (n + (zbud G a).2)) : tG tt G cd bc bs rt (zW tt G dp) Q Z f pc L (x4 :: x3 :: x2 :: x1 :: .ref r :: s) h c n := tG_row hc (fun z => Or.elim z (fun z => False.elim z) (fun z => Or.inr ⟨z.1, z.2.1, z.2.2.1, z.2.2.2.1, zW_mono tt G dp _ _ _ _ _ (fun w h2 q => k w h2 q.2 q.1) (tC.both kc z.2.2.2.2)⟩))
theorem tw_stat4 {i : Nat} {Qa : zQ} {x1 x2 x3 x4 : Value} (hc : cd[pc]? = some (some (.invokestatic i, nx, a, 4, d, v))) (kc : tC tt G a [x1, x2, x3, x4] h Qa) (k : ∀ w h2, Qa w h2 → tG tt G cd bc bs rt (zW tt G dp) Q Z true nx L (w.toList ++ s) h2 (c + (zbud G a).1) (n + (zbud G a).2)) : tG tt G cd bc bs rt (zW tt G dp) Q Z f pc L (x4 :: x3 :: x2 :: x1 :: s) h c n := tG_row hc (fun z => Or.elim z (fun z => False.elim z) (fun z => Or.inr ⟨z.1, z.2.1, z.2.2.1, z.2.2.2.1, zW_mono tt G dp _ _ _ _ _ (fun w h2 q => k w h2 q.2 q.1) (tC.both kc z.2.2.2.2)⟩))
theorem tw_virt5 {i r : Nat} {Qa : zQ} {x1 x2 x3 x4 x5 : Value} (hc : cd[pc]? = some (some (.invokevirtual i, nx, a, 5, d, v))) (kc : tC tt G a (.ref r :: [x1, x2, x3, x4, x5]) h Qa) (k : ∀ w h2, Qa w h2 → tG tt G cd bc bs rt (zW tt G dp) Q Z true nx L (w.toList ++ s) h2 (c + (zbud G a).1) (n + (zbud G a).2)) : tG tt G cd bc bs rt (zW tt G dp) Q Z f pc L (x5 :: x4 :: x3 :: x2 :: x1 :: .ref r :: s) h c n := tG_row hc (fun z => Or.elim z (fun z => False.elim z) (fun z => Or.inr ⟨z.1, z.2.1, z.2.2.1, z.2.2.2.1, z.2.2.2.2.1, zW_mono tt G dp _ _ _ _ _ (fun w h2 q => k w h2 q.2 q.1) (tC.both kc z.2.2.2.2.2)⟩))
theorem tw_spec5 {i r : Nat} {Qa : zQ} {x1 x2 x3 x4 x5 : Value} (hc : cd[pc]? = some (some (.invokespecial i, nx, a, 5, d, v))) (kc : tC tt G a (.ref r :: [x1, x2, x3, x4, x5]) h Qa) (k : ∀ w h2, Qa w h2 → tG tt G cd bc bs rt (zW tt G dp) Q Z true nx L (w.toList ++ s) h2 (c + (zbud G a).1) (n + (zbud G a).2)) : tG tt G cd bc bs rt (zW tt G dp) Q Z f pc L (x5 :: x4 :: x3 :: x2 :: x1 :: .ref r :: s) h c n := tG_row hc (fun z => Or.elim z (fun z => False.elim z) (fun z => Or.inr ⟨z.1, z.2.1, z.2.2.1, z.2.2.2.1, zW_mono tt G dp _ _ _ _ _ (fun w h2 q => k w h2 q.2 q.1) (tC.both kc z.2.2.2.2)⟩))
theorem tw_stat5 {i : Nat} {Qa : zQ} {x1 x2 x3 x4 x5 : Value} (hc : cd[pc]? = some (some (.invokestatic i, nx, a, 5, d, v))) (kc : tC tt G a [x1, x2, x3, x4, x5] h Qa) (k : ∀ w h2, Qa w h2 → tG tt G cd bc bs rt (zW tt G dp) Q Z true nx L (w.toList ++ s) h2 (c + (zbud G a).1) (n + (zbud G a).2)) : tG tt G cd bc bs rt (zW tt G dp) Q Z f pc L (x5 :: x4 :: x3 :: x2 :: x1 :: s) h c n := tG_row hc (fun z => Or.elim z (fun z => False.elim z) (fun z => Or.inr ⟨z.1, z.2.1, z.2.2.1, z.2.2.2.1, zW_mono tt G dp _ _ _ _ _ (fun w h2 q => k w h2 q.2 q.1) (tC.both kc z.2.2.2.2)⟩))
theorem tw_virt6 {i r : Nat} {Qa : zQ} {x1 x2 x3 x4 x5 x6 : Value} (hc : cd[pc]? = some (some (.invokevirtual i, nx, a, 6, d, v))) (kc : tC tt G a (.ref r :: [x1, x2, x3, x4, x5, x6]) h Qa) (k : ∀ w h2, Qa w h2 → tG tt G cd bc bs rt (zW tt G dp) Q Z true nx L (w.toList ++ s) h2 (c + (zbud G a).1) (n + (zbud G a).2)) : tG tt G cd bc bs rt (zW tt G dp) Q Z f pc L (x6 :: x5 :: x4 :: x3 :: x2 :: x1 :: .ref r :: s) h c n := tG_row hc (fun z => Or.elim z (fun z => False.elim z) (fun z => Or.inr ⟨z.1, z.2.1, z.2.2.1, z.2.2.2.1, z.2.2.2.2.1, zW_mono tt G dp _ _ _ _ _ (fun w h2 q => k w h2 q.2 q.1) (tC.both kc z.2.2.2.2.2)⟩))
theorem tw_spec6 {i r : Nat} {Qa : zQ} {x1 x2 x3 x4 x5 x6 : Value} (hc : cd[pc]? = some (some (.invokespecial i, nx, a, 6, d, v))) (kc : tC tt G a (.ref r :: [x1, x2, x3, x4, x5, x6]) h Qa) (k : ∀ w h2, Qa w h2 → tG tt G cd bc bs rt (zW tt G dp) Q Z true nx L (w.toList ++ s) h2 (c + (zbud G a).1) (n + (zbud G a).2)) : tG tt G cd bc bs rt (zW tt G dp) Q Z f pc L (x6 :: x5 :: x4 :: x3 :: x2 :: x1 :: .ref r :: s) h c n := tG_row hc (fun z => Or.elim z (fun z => False.elim z) (fun z => Or.inr ⟨z.1, z.2.1, z.2.2.1, z.2.2.2.1, zW_mono tt G dp _ _ _ _ _ (fun w h2 q => k w h2 q.2 q.1) (tC.both kc z.2.2.2.2)⟩))
theorem tw_stat6 {i : Nat} {Qa : zQ} {x1 x2 x3 x4 x5 x6 : Value} (hc : cd[pc]? = some (some (.invokestatic i, nx, a, 6, d, v))) (kc : tC tt G a [x1, x2, x3, x4, x5, x6] h Qa) (k : ∀ w h2, Qa w h2 → tG tt G cd bc bs rt (zW tt G dp) Q Z true nx L (w.toList ++ s) h2 (c + (zbud G a).1) (n + (zbud G a).2)) : tG tt G cd bc bs rt (zW tt G dp) Q Z f pc L (x6 :: x5 :: x4 :: x3 :: x2 :: x1 :: s) h c n := tG_row hc (fun z => Or.elim z (fun z => False.elim z) (fun z => Or.inr ⟨z.1, z.2.1, z.2.2.1, z.2.2.2.1, zW_mono tt G dp _ _ _ _ _ (fun w h2 q => k w h2 q.2 q.1) (tC.both kc z.2.2.2.2)⟩))
theorem tw_virt7 {i r : Nat} {Qa : zQ} {x1 x2 x3 x4 x5 x6 x7 : Value} (hc : cd[pc]? = some (some (.invokevirtual i, nx, a, 7, d, v))) (kc : tC tt G a (.ref r :: [x1, x2, x3, x4, x5, x6, x7]) h Qa) (k : ∀ w h2, Qa w h2 → tG tt G cd bc bs rt (zW tt G dp) Q Z true nx L (w.toList ++ s) h2 (c + (zbud G a).1) (n + (zbud G a).2)) : tG tt G cd bc bs rt (zW tt G dp) Q Z f pc L (x7 :: x6 :: x5 :: x4 :: x3 :: x2 :: x1 :: .ref r :: s) h c n := tG_row hc (fun z => Or.elim z (fun z => False.elim z) (fun z => Or.inr ⟨z.1, z.2.1, z.2.2.1, z.2.2.2.1, z.2.2.2.2.1, zW_mono tt G dp _ _ _ _ _ (fun w h2 q => k w h2 q.2 q.1) (tC.both kc z.2.2.2.2.2)⟩))
theorem tw_spec7 {i r : Nat} {Qa : zQ} {x1 x2 x3 x4 x5 x6 x7 : Value} (hc : cd[pc]? = some (some (.invokespecial i, nx, a, 7, d, v))) (kc : tC tt G a (.ref r :: [x1, x2, x3, x4, x5, x6, x7]) h Qa) (k : ∀ w h2, Qa w h2 → tG tt G cd bc bs rt (zW tt G dp) Q Z true nx L (w.toList ++ s) h2 (c + (zbud G a).1) (n + (zbud G a).2)) : tG tt G cd bc bs rt (zW tt G dp) Q Z f pc L (x7 :: x6 :: x5 :: x4 :: x3 :: x2 :: x1 :: .ref r :: s) h c n := tG_row hc (fun z => Or.elim z (fun z => False.elim z) (fun z => Or.inr ⟨z.1, z.2.1, z.2.2.1, z.2.2.2.1, zW_mono tt G dp _ _ _ _ _ (fun w h2 q => k w h2 q.2 q.1) (tC.both kc z.2.2.2.2)⟩))
theorem tw_stat7 {i : Nat} {Qa : zQ} {x1 x2 x3 x4 x5 x6 x7 : Value} (hc : cd[pc]? = some (some (.invokestatic i, nx, a, 7, d, v))) (kc : tC tt G a [x1, x2, x3, x4, x5, x6, x7] h Qa) (k : ∀ w h2, Qa w h2 → tG tt G cd bc bs rt (zW tt G dp) Q Z true nx L (w.toList ++ s) h2 (c + (zbud G a).1) (n + (zbud G a).2)) : tG tt G cd bc bs rt (zW tt G dp) Q Z f pc L (x7 :: x6 :: x5 :: x4 :: x3 :: x2 :: x1 :: s) h c n := tG_row hc (fun z => Or.elim z (fun z => False.elim z) (fun z => Or.inr ⟨z.1, z.2.1, z.2.2.1, z.2.2.2.1, zW_mono tt G dp _ _ _ _ _ (fun w h2 q => k w h2 q.2 q.1) (tC.both kc z.2.2.2.2)⟩))
theorem tw_virt8 {i r : Nat} {Qa : zQ} {x1 x2 x3 x4 x5 x6 x7 x8 : Value} (hc : cd[pc]? = some (some (.invokevirtual i, nx, a, 8, d, v))) (kc : tC tt G a (.ref r :: [x1, x2, x3, x4, x5, x6, x7, x8]) h Qa) (k : ∀ w h2, Qa w h2 → tG tt G cd bc bs rt (zW tt G dp) Q Z true nx L (w.toList ++ s) h2 (c + (zbud G a).1) (n + (zbud G a).2)) : tG tt G cd bc bs rt (zW tt G dp) Q Z f pc L (x8 :: x7 :: x6 :: x5 :: x4 :: x3 :: x2 :: x1 :: .ref r :: s) h c n := tG_row hc (fun z => Or.elim z (fun z => False.elim z) (fun z => Or.inr ⟨z.1, z.2.1, z.2.2.1, z.2.2.2.1, z.2.2.2.2.1, zW_mono tt G dp _ _ _ _ _ (fun w h2 q => k w h2 q.2 q.1) (tC.both kc z.2.2.2.2.2)⟩))
theorem tw_spec8 {i r : Nat} {Qa : zQ} {x1 x2 x3 x4 x5 x6 x7 x8 : Value} (hc : cd[pc]? = some (some (.invokespecial i, nx, a, 8, d, v))) (kc : tC tt G a (.ref r :: [x1, x2, x3, x4, x5, x6, x7, x8]) h Qa) (k : ∀ w h2, Qa w h2 → tG tt G cd bc bs rt (zW tt G dp) Q Z true nx L (w.toList ++ s) h2 (c + (zbud G a).1) (n + (zbud G a).2)) : tG tt G cd bc bs rt (zW tt G dp) Q Z f pc L (x8 :: x7 :: x6 :: x5 :: x4 :: x3 :: x2 :: x1 :: .ref r :: s) h c n := tG_row hc (fun z => Or.elim z (fun z => False.elim z) (fun z => Or.inr ⟨z.1, z.2.1, z.2.2.1, z.2.2.2.1, zW_mono tt G dp _ _ _ _ _ (fun w h2 q => k w h2 q.2 q.1) (tC.both kc z.2.2.2.2)⟩))
theorem tw_stat8 {i : Nat} {Qa : zQ} {x1 x2 x3 x4 x5 x6 x7 x8 : Value} (hc : cd[pc]? = some (some (.invokestatic i, nx, a, 8, d, v))) (kc : tC tt G a [x1, x2, x3, x4, x5, x6, x7, x8] h Qa) (k : ∀ w h2, Qa w h2 → tG tt G cd bc bs rt (zW tt G dp) Q Z true nx L (w.toList ++ s) h2 (c + (zbud G a).1) (n + (zbud G a).2)) : tG tt G cd bc bs rt (zW tt G dp) Q Z f pc L (x8 :: x7 :: x6 :: x5 :: x4 :: x3 :: x2 :: x1 :: s) h c n := tG_row hc (fun z => Or.elim z (fun z => False.elim z) (fun z => Or.inr ⟨z.1, z.2.1, z.2.2.1, z.2.2.2.1, zW_mono tt G dp _ _ _ _ _ (fun w h2 q => k w h2 q.2 q.1) (tC.both kc z.2.2.2.2)⟩))
theorem tw_iret  (hc : cd[pc]? = some (some (.ireturn, nx, a, b, d, v))) (k : Q (some (.int (tvI w))) h) : tG tt G cd bc bs rt (zW tt G dp) Q Z f pc L [w] h c n := tG_row hc (fun z => Or.elim z (fun z => False.elim z) (fun z => by cases w <;> first | exact False.elim z | exact Or.inr ⟨z.1, k⟩))
theorem tw_lret  (hc : cd[pc]? = some (some (.lreturn, nx, a, b, d, v))) (k : Q (some (.long (tvJ w))) h) : tG tt G cd bc bs rt (zW tt G dp) Q Z f pc L [w] h c n := tG_row hc (fun z => Or.elim z (fun z => False.elim z) (fun z => by cases w <;> first | exact False.elim z | exact Or.inr ⟨z.1, k⟩))
theorem tw_aret  (hc : cd[pc]? = some (some (.areturn, nx, a, b, d, v))) (k : Q (some w) h) : tG tt G cd bc bs rt (zW tt G dp) Q Z f pc L [w] h c n := tG_row hc (fun z => Or.elim z (fun z => False.elim z) (fun z => by cases w <;> first | exact False.elim z | exact Or.inr ⟨z.1, k⟩))
theorem tw_vret  (hc : cd[pc]? = some (some (.return_, nx, a, b, d, v))) (k : Q none h) : tG tt G cd bc bs rt (zW tt G dp) Q Z f pc L [] h c n := tG_row hc (fun z => Or.elim z (fun z => False.elim z) (fun z => Or.inr ⟨z.1, k⟩))
end TR
end
section
/-! what is kept between the calls of a run; the ops' contracts as one rule; shapes of the fixed objects -/
noncomputable def zBs (xs : Nat → Int32) (τ : List Nat) (h : zH) : Prop := yHo zTTy τ h ∧ yPre zTG τ ∧ zKI h ∧ zgp xs 4 h 0 0
noncomputable def zIv (xs : Nat → Int32) (R : zH → Prop) (h : zH) : Prop := (∃ τ, zBs xs τ h) ∧ R h
noncomputable def zpS : Nat → List (Int × Int) → List (Nat × Nat × Nat)
  | _, [] => []
  | k, _ :: r => (0, k + 1, 0) :: zpS (k + 1) r
noncomputable def zpE : Nat → List (Int × Int) → yE
  | _, [] => []
  | k, (lo, hi) :: r => (k, lo, hi, 0) :: zpE (k + 1) r
noncomputable def zpL : Nat → List (Int × Int) → yLs
  | _, [] => []
  | k, _ :: r => some (0, (.ofNat 0, [(k, .ofNat 1)])) :: zpL (k + 1) r
noncomputable def zpM (x : Nat) (bs : List (Int × Int)) (g : Bool) : yM := (zpS 0 bs, zpE 0 bs, [], some (2, (.ofNat x, [])) :: zpL 0 bs, [], [], bif g then [((100008, (.ofNat 0, [])), (.ofNat 0, []))] else [])
noncomputable def zpB : List (Int × Int) → List Int32 → Prop
  | [], [] => True
  | (lo, hi) :: r, x :: xs => (lo ≤ x.toInt ∧ x.toInt ≤ hi) ∧ zpB r xs
  | [], _ :: _ => False
  | _ :: _, [] => False
noncomputable abbrev zfI : Int × Int := (.negSucc 2147483647, .ofNat 2147483647)
noncomputable abbrev zbI : Int × Int := (.ofNat 0, .ofNat 1)
theorem zfI_ok (x : Int32) : zfI.1 ≤ x.toInt ∧ x.toInt ≤ zfI.2 := ⟨Int32.le_toInt x, by have := Int32.toInt_lt x; show x.toInt ≤ 2147483647; omega⟩
noncomputable def zpR (xs : List Int32) : yR := fun i => (xs.getD i 0).toInt
theorem zpS_len : ∀ (k : Nat) (bs : List (Int × Int)), (zpS k bs).length = bs.length
  | _, [] => rfl
  | k, _ :: r => by unfold zpS; rw [List.length_cons, List.length_cons, zpS_len (k + 1) r]
theorem zpE_ok {K : Nat} {ρ : yR} {τ : List Nat} : ∀ {bs : List (Int × Int)} {xs : List Int32} {k : Nat}, zpB bs xs → (∀ i, ρ (k + i) = (xs.getD i 0).toInt) → k + bs.length ≤ K → yEk K ρ τ (zpE k bs)
  | [], _, _, _, _, _ => fun e he => by cases he
  | (lo, hi) :: r, x :: xs, k, hb, hr, hk => by
    intro e he
    unfold zpE at he
    rw [List.length_cons] at hk
    rcases List.mem_cons.mp he with rfl | he
    · have h0 := hr 0
      rw [Nat.add_zero] at h0
      have h0 : ρ k = x.toInt := h0
      refine ⟨by dsimp only; omega, ?_, ?_, Or.inl rfl⟩
      · dsimp only; rw [h0]; exact hb.1.1
      · dsimp only; rw [h0]; exact hb.1.2
    · exact zpE_ok (k := k + 1) hb.2 (fun i => by
        have := hr (i + 1)
        rw [show k + 1 + i = k + (i + 1) by omega]
        exact this) (by omega) e he
  | _ :: _, [], _, hb, _, _ => hb.elim
theorem zpL_ok {K : Nat} {ρ : yR} : ∀ {bs : List (Int × Int)} {xs : List Int32} {k : Nat}, zpB bs xs → (∀ i, ρ (k + i) = (xs.getD i 0).toInt) → k + bs.length ≤ K → yLo ρ K (zpL k bs) (zargs (xs.map Value.int))
  | [], [], _, _, _, _ => trivial
  | (lo, hi) :: r, x :: xs, k, hb, hr, hk => by
    rw [List.length_cons] at hk
    refine ⟨fun v hv => ?_, ?_⟩
    · cases hv
      refine ⟨.int x, rfl, ysp_var (i := k) (by omega), x, rfl, ?_⟩
      show x.toInt = yev ρ (yvar k)
      rw [yev_var]
      have h0 := hr 0
      rw [Nat.add_zero] at h0
      exact h0.symm
    · exact zpL_ok (k := k + 1) hb.2 (fun i => by
        have := hr (i + 1)
        rw [show k + 1 + i = k + (i + 1) by omega]
        exact this) (by omega)
  | _ :: _, [], _, hb, _, _ => hb.elim
  | [], _ :: _, _, hb, _, _ => hb.elim
noncomputable def zTy (kd : Nat) (w : Option Value) : Prop := match kd with
  | 0 => ∃ x : Int32, w = some (.int x)
  | _ => ∃ x : Int64, w = some (.long x)
noncomputable def zpT (kd : Nat) (P : List yM) : Bool := P.all (fun Q => match Q.2.2.2.2.1 with
  | [(k, _)] => Nat.beq k kd && Nat.ble kd 1
  | _ => false)
noncomputable def zgF (W : Nat → Nat → Bool) : Bool := !(W 79 30) && !(W 101 0) && !(W 102 0) && !(W 105 0) && !(W 106 0) && !(W 107 0) && !(W 108 0)
noncomputable def zpG (W : Nat → Nat → Bool) (P : List yM) : Bool := zgF W || P.all (fun Q => decide (((100008, ((.ofNat 0, []) : yL)), ((.ofNat 0, []) : yL)) ∈ Q.2.2.2.2.2.2))
theorem zgp4_fr {xs : Nat → Int32} {τ : List Nat} {h h2 : zH} {W : Nat → Nat → Bool} (hB : zBs xs τ h) (hf : yFr W τ h h2) (hW : zgF W = true) : zgp xs 4 h2 0 0 := by
  obtain ⟨hh, hp, -, hg⟩ := hB
  unfold zgF at hW
  simp only [Bool.and_eq_true, Bool.not_eq_true'] at hW
  obtain ⟨⟨⟨⟨⟨⟨w1, w2⟩, w3⟩, w4⟩, w5⟩, w6⟩, w7⟩ := hW
  have f1 : zfi h2 111 30 = zfi h 111 30 := yfr_f (hp 111 79 rfl) hh hf w1
  have e0 : zei h2 133 = zei h 133 := yfr_e (hp 133 101 rfl) hh hf w2
  have e1 : zei h2 134 = zei h 134 := yfr_e (hp 134 102 rfl) hh hf w3
  have e2 : zei h2 137 = zei h 137 := yfr_e (hp 137 105 rfl) hh hf w4
  have e3 : zei h2 138 = zei h 138 := yfr_e (hp 138 106 rfl) hh hf w5
  have e4 : zei h2 139 = zei h 139 := yfr_e (hp 139 107 rfl) hh hf w6
  have e5 : zei h2 140 = zei h 140 := yfr_e (hp 140 108 rfl) hh hf w7
  show zR4 (zfi h2 111 30) (zei h2 133) (zei h2 134) (zei h2 137) (zei h2 138) (zei h2 139) (zei h2 140)
  rw [f1, e0, e1, e2, e3, e4, e5]
  exact hg
section PB
variable {G : zG}
theorem zpM_ok {x : Nat} {bs : List (Int × Int)} {g : Bool} {xs : List Int32} {τ : List Nat} {h : zH} (hb : zpB bs xs) (hB : zBs G.2.2.2 τ h) : yPr (zXt G) zTG zTTy zKI (zpM x bs g) (zpR xs) τ h (.ref x :: xs.map Value.int) := by
  have hl : (zpM x bs g).1.length = bs.length := zpS_len 0 bs
  refine ⟨⟨?_, (fun f hf => by cases hf), (fun q hq => by cases hq), ?_⟩, hB.1, hB.2.1, hB.2.2.1, ?_⟩
  · show yEk (zpM x bs g).1.length _ _ _
    rw [hl]
    exact zpE_ok (k := 0) hb (fun i => by rw [Nat.zero_add]; rfl) (by omega)
  · intro q hq
    cases g with
    | false => cases hq
    | true =>
      rcases List.mem_singleton.mp hq with rfl
      exact ⟨ysp_con _ _, ysp_con _ _, hB.2.2.2⟩
  · show yLo _ (zpM x bs g).1.length _ _
    rw [hl]
    exact ⟨fun v hv => by cases hv; exact ⟨_, rfl, ysp_con _ _, rfl⟩, zpL_ok (k := 0) hb (fun i => by rw [Nat.zero_add]; rfl) (by omega)⟩
theorem zpub (hG : G.1 = zProg) (hT : G.2.1 = ztx) (hN : G.2.2.1 ≤ 4096) {j x kd : Nat} {ct : yCt} {bs : List (Int × Int)} {g : Bool} {lv : Nat} {cts : List yCt} (hc : zCT[j]? = some cts) (hi : ct ∈ cts) (hp : ct.1 = zpM x bs g) (hl : ct.2.2.1 = (.ofNat lv, [])) (hv : lv ≤ 64) (hk : zpT kd ct.2.2.2 = true) (hg : zpG (ywf ct.2.1) ct.2.2.2 = true) {xs : List Int32} {τ : List Nat} {h : zH} (hb : zpB bs xs) (hB : zBs G.2.2.2 τ h) : zW zTt G 64 j (.ref x :: xs.map Value.int) h (fun w h2 => zTy kd w ∧ (∃ τ2, zBs G.2.2.2 τ2 h2) ∧ yFr (ywf ct.2.1) τ h h2) := by
  have hpr := zpM_ok (G := G) (x := x) (g := g) hb hB
  rw [← hp] at hpr
  have e : yev (zpR xs) ct.2.2.1 = (lv : Int) := by rw [hl]; exact yev_con _ _
  refine zW_mono zTt G 64 _ _ _ _ _ ?_ (zAll hG hT hN 65 j cts ct hc hi (zpR xs) τ h _ 64 hpr (by rw [e]; omega) (by rw [e]; omega))
  rintro w h2 ⟨Q, hQ, ρ', τ', -, ⟨y1, y2, y3, y4, y5⟩, yW, yS⟩
  refine ⟨?_, ⟨τ', y1, y2, y3, ?_⟩, y5⟩
  · have h1 := List.all_eq_true.mp hk Q hQ
    split at h1
    · rename_i k a hst
      rw [Bool.and_eq_true] at h1
      have h2 := Nat.eq_of_beq_eq_true h1.1
      have h3 := Nat.le_of_ble_eq_true h1.2
      subst h2
      rw [hst] at yS
      match w, yS with
      | some w, yS =>
        obtain ⟨⟨-, yv⟩, -⟩ := yS
        match k, h3, yv with
        | 0, _, ⟨z, e, _⟩ => exact ⟨z, by rw [e]⟩
        | 1, _, ⟨z, e, _⟩ => exact ⟨z, by rw [e]⟩
      | none, yS => exact yS.elim
    · cases h1
  · unfold zpG at hg
    rw [Bool.or_eq_true] at hg
    rcases hg with hg | hg
    · exact zgp4_fr hB y5 hg
    · have h1 := of_decide_eq_true (List.all_eq_true.mp hg Q hQ)
      obtain ⟨-, -, h3⟩ := yW.2.2.2 _ h1
      exact h3
/-- an arm of the law: two calls, what is kept -/
noncomputable def zAr (G : zG) (R : zH → Prop) (j1 j2 kd : Nat) (bs : List (Int × Int)) (cmp : Bool) : Prop := ∀ (xs : List Int32) (h : zH), zpB bs xs → zIv G.2.2.2 R h → zW zTt G 64 j1 (.ref 0 :: xs.map Value.int) h (fun w h2 => zTy kd w ∧ (∃ fs, h2[111]? = some (.inr (12, fs))) ∧ zW zTt G 64 j2 (.ref 111 :: xs.map Value.int) h2 (fun w2 h3 => zTy kd w2 ∧ (cmp = true → w2 = w) ∧ zIv G.2.2.2 R h3))
theorem zBs_0 {xs : Nat → Int32} {τ : List Nat} {h : zH} (hB : zBs xs τ h) : ∃ fs, h[0]? = some (.inr (11, fs)) := by
  obtain ⟨ct, c, a1, a2, a3⟩ := hB.1.2 0 1 (hB.2.1 0 1 rfl)
  cases a1
  obtain ⟨fs, rfl, -⟩ := a3
  exact ⟨fs, a2⟩
theorem zBs_111 {xs : Nat → Int32} {τ : List Nat} {h : zH} (hB : zBs xs τ h) : ∃ fs, h[111]? = some (.inr (12, fs)) := by
  obtain ⟨ct, c, a1, a2, a3⟩ := hB.1.2 111 79 (hB.2.1 111 79 rfl)
  cases a1
  obtain ⟨fs, rfl, -⟩ := a3
  exact ⟨fs, a2⟩
/-- R speaks of the cells FT alone -/
noncomputable def zFrm (xs : Nat → Int32) (FT : Nat → Nat → Bool) (R : zH → Prop) : Prop := ∀ (W : Nat → Nat → Bool) (τ : List Nat) (h h2 : zH), (∀ t f, FT t f = true → W t f = false) → zBs xs τ h → yFr W τ h h2 → R h → R h2
noncomputable def zav (W : List (Nat × Nat)) (FT : Nat → Nat → Bool) : Bool := W.all (fun q => !(FT q.1 q.2))
theorem zav_ok {W : List (Nat × Nat)} {FT : Nat → Nat → Bool} (h : zav W FT = true) : ∀ t f, FT t f = true → ywf W t f = false := by
  intro t f hf
  induction W with
  | nil => rfl
  | cons q r ih =>
    unfold zav at h
    rw [List.all_cons, Bool.and_eq_true] at h
    unfold ywf
    cases hb : (Nat.beq q.1 t && Nat.beq q.2 f) with
    | true =>
      rw [Bool.and_eq_true] at hb
      have e1 := Nat.eq_of_beq_eq_true hb.1
      have e2 := Nat.eq_of_beq_eq_true hb.2
      have h1 := h.1
      rw [e1, e2, hf] at h1
      cases h1
    | false => exact ih h.2
theorem zAr_keep (hG : G.1 = zProg) (hT : G.2.1 = ztx) (hN : G.2.2.1 ≤ 4096) {R : zH → Prop} {FT : Nat → Nat → Bool} (hF : zFrm G.2.2.2 FT R) {j1 j2 kd : Nat} {bs : List (Int × Int)} {ct1 ct2 : yCt} {g1 g2 : Bool} {l1 l2 : Nat} {cs1 cs2 : List yCt} (c1 : zCT[j1]? = some cs1) (i1 : ct1 ∈ cs1) (p1 : ct1.1 = zpM 0 bs g1) (v1 : ct1.2.2.1 = (.ofNat l1, [])) (v1' : l1 ≤ 64) (k1 : zpT kd ct1.2.2.2 = true) (q1 : zpG (ywf ct1.2.1) ct1.2.2.2 = true) (a1 : zav ct1.2.1 FT = true)
  (c2 : zCT[j2]? = some cs2) (i2 : ct2 ∈ cs2) (p2 : ct2.1 = zpM 111 bs g2) (v2 : ct2.2.2.1 = (.ofNat l2, [])) (v2' : l2 ≤ 64) (k2 : zpT kd ct2.2.2.2 = true) (q2 : zpG (ywf ct2.2.1) ct2.2.2.2 = true) (a2 : zav ct2.2.1 FT = true) : zAr G R j1 j2 kd bs false := by
  intro xs h hb ⟨⟨τ, hB⟩, hR⟩
  refine zW_mono zTt G 64 _ _ _ _ _ ?_ (zpub hG hT hN c1 i1 p1 v1 v1' k1 q1 hb hB)
  rintro w h2 ⟨t1, ⟨τ2, hB2⟩, f1⟩
  have hR2 := hF _ _ _ _ (zav_ok a1) hB f1 hR
  refine ⟨t1, zBs_111 hB2, zW_mono zTt G 64 _ _ _ _ _ ?_ (zpub hG hT hN c2 i2 p2 v2 v2' k2 q2 hb hB2)⟩
  rintro w2 h3 ⟨t2, ⟨τ3, hB3⟩, f2⟩
  exact ⟨t2, (fun e => by cases e), ⟨τ3, hB3⟩, hF _ _ _ _ (zav_ok a2) hB2 f2 hR2⟩
theorem zAr_of (hG : G.1 = zProg) (hT : G.2.1 = ztx) (hN : G.2.2.1 ≤ 4096) {R : zH → Prop} {cmp : Bool} {φ1 φ2 : List Int32 → zH → Option Value → zH → Prop} {j1 j2 kd : Nat} {bs : List (Int × Int)} {ct1 ct2 : yCt} {g1 g2 : Bool} {l1 l2 : Nat} {cs1 cs2 : List yCt} (c1 : zCT[j1]? = some cs1) (i1 : ct1 ∈ cs1) (p1 : ct1.1 = zpM 0 bs g1) (v1 : ct1.2.2.1 = (.ofNat l1, [])) (v1' : l1 ≤ 64) (k1 : zpT kd ct1.2.2.2 = true) (q1 : zpG (ywf ct1.2.1) ct1.2.2.2 = true)
  (c2 : zCT[j2]? = some cs2) (i2 : ct2 ∈ cs2) (p2 : ct2.1 = zpM 111 bs g2) (v2 : ct2.2.2.1 = (.ofNat l2, [])) (v2' : l2 ≤ 64) (k2 : zpT kd ct2.2.2.2 = true) (q2 : zpG (ywf ct2.2.1) ct2.2.2.2 = true)
  (f1 : ∀ xs τ h, zpB bs xs → zBs G.2.2.2 τ h → R h → tC zTt G j1 (.ref 0 :: xs.map Value.int) h (fun w h2 => φ1 xs h w h2)) (f2 : ∀ xs τ h, zpB bs xs → zBs G.2.2.2 τ h → tC zTt G j2 (.ref 111 :: xs.map Value.int) h (fun w h2 => φ2 xs h w h2))
  (fin : ∀ xs τ h w h2 τ2 w2 h3 τ3, zpB bs xs → zBs G.2.2.2 τ h → R h → φ1 xs h w h2 → zBs G.2.2.2 τ2 h2 → yFr (ywf ct1.2.1) τ h h2 → φ2 xs h2 w2 h3 → zBs G.2.2.2 τ3 h3 → yFr (ywf ct2.2.1) τ2 h2 h3 → (cmp = true → w2 = w) ∧ R h3) : zAr G R j1 j2 kd bs cmp := by
  intro xs h hb ⟨⟨τ, hB⟩, hR⟩
  refine zW_mono zTt G 64 _ _ _ _ _ ?_ ((f1 xs τ h hb hB hR).both (zpub hG hT hN c1 i1 p1 v1 v1' k1 q1 hb hB))
  rintro w h2 ⟨⟨t1, ⟨τ2, hB2⟩, r1⟩, h1⟩
  refine ⟨t1, zBs_111 hB2, zW_mono zTt G 64 _ _ _ _ _ ?_ ((f2 xs τ2 h2 hb hB2).both (zpub hG hT hN c2 i2 p2 v2 v2' k2 q2 hb hB2))⟩
  rintro w2 h3 ⟨⟨t2, ⟨τ3, hB3⟩, r2⟩, hh2⟩
  obtain ⟨e1, e2⟩ := fin xs τ h w h2 τ2 w2 h3 τ3 hb hB hR h1 hB2 r1 hh2 hB3 r2
  exact ⟨t2, e1, ⟨τ3, hB3⟩, e2⟩
end PB
section SH
variable {xs : Nat → Int32} {τ : List Nat} {h h2 : zH} {W : Nat → Nat → Bool}
theorem tfr_F {p t b : Nat} (hB : zBs xs τ h) (hf : yFr W τ h h2) (ht : zTG[p]? = some t) (hW : W t b = false) : tF h2 p b = tF h p b := by
  obtain ⟨ct, c, a1, a2, -⟩ := hB.1.2 _ _ (hB.2.1 _ _ ht)
  obtain ⟨c2, b1, b2⟩ := hf _ _ _ (hB.2.1 _ _ ht) a2
  unfold tF
  rw [a2, b1]
  match c, c2, b2 with
  | .inr (x, fs), .inr (y, gs), b2 =>
    dsimp only
    rw [List.getD_eq_getElem?_getD, List.getD_eq_getElem?_getD, b2.2.2 b hW]
  | .inl (k, N, x), .inl (k2, N2, y), b2 => rfl
theorem tfr_A {p t : Nat} (hB : zBs xs τ h) (hf : yFr W τ h h2) (ht : zTG[p]? = some t) (hW : W t 0 = false) : tA h2 p = tA h p ∧ tJ h2 p = tJ h p ∧ tO h2 p = tO h p := by
  obtain ⟨ct, c, a1, a2, -⟩ := hB.1.2 _ _ (hB.2.1 _ _ ht)
  obtain ⟨c2, b1, b2⟩ := hf _ _ _ (hB.2.1 _ _ ht) a2
  unfold tA tJ tO
  refine ⟨?_, ?_, ?_⟩ <;> funext i <;> rw [a2, b1]
  all_goals
    match c, c2, b2 with
    | .inr (x, fs), .inr (y, gs), b2 => rfl
    | .inl (k, N, x), .inl (k2, N2, y), b2 =>
      have := b2.2.2 hW
      subst this
      cases y with
      | inl f => rfl
      | inr y => cases y with
        | inl f => rfl
        | inr y => cases y with
          | inl f => rfl
          | inr y => cases y with
            | inl f => rfl
            | inr f => rfl
theorem tkd_r {p t b cls : Nat} {q : Nat} {tg : Nat} {vts : List yT} (hB : zBs xs τ h) (ht : zTG[p]? = some t) (hT : zTTy[t]? = some (.inl (cls, vts))) (hv : vts[b]? = some (2, (q : Int), (q : Int), tg)) : tF h p b = .ref q := by
  obtain ⟨ct, c, a1, a2, a3⟩ := hB.1.2 _ _ (hB.2.1 _ _ ht)
  rw [hT] at a1
  cases a1
  obtain ⟨fs, rfl, -, h3⟩ := a3
  obtain ⟨w, w1, x, rfl, x1, x2, -⟩ := h3 _ _ hv
  have : x = q := by omega
  subst this
  unfold tF
  rw [a2]
  dsimp only
  rw [List.getD_eq_getElem?_getD, w1]
  unfold zrn
  rw [if_neg (by omega)]
  rfl
theorem tkd_i {p t b cls : Nat} {lo hi : Int} {tg : Nat} {vts : List yT} (hB : zBs xs τ h) (ht : zTG[p]? = some t) (hT : zTTy[t]? = some (.inl (cls, vts))) (hv : vts[b]? = some (0, lo, hi, tg)) : tF h p b = .int (tvI (tF h p b)) ∧ lo ≤ (tvI (tF h p b)).toInt ∧ (tvI (tF h p b)).toInt ≤ hi := by
  obtain ⟨ct, c, a1, a2, a3⟩ := hB.1.2 _ _ (hB.2.1 _ _ ht)
  rw [hT] at a1
  cases a1
  obtain ⟨fs, rfl, -, h3⟩ := a3
  obtain ⟨w, w1, x, rfl, x1, x2⟩ := h3 _ _ hv
  have e : tF h p b = .int x := by
    unfold tF
    rw [a2]
    dsimp only
    rw [List.getD_eq_getElem?_getD, w1]
    rfl
  rw [e]
  exact ⟨rfl, x1, x2⟩
theorem tkd_a {p t k nlo nhi : Nat} {lo hi : Int} {tg : Nat} (hB : zBs xs τ h) (ht : zTG[p]? = some t) (hT : zTTy[t]? = some (.inr (k, nlo, nhi, (0, lo, hi, tg)))) : nlo ≤ tN h p ∧ tN h p ≤ nhi ∧ ∀ i, i < tN h p → lo ≤ (tA h p i).toInt ∧ (tA h p i).toInt ≤ hi := by
  obtain ⟨ct, c, a1, a2, a3⟩ := hB.1.2 _ _ (hB.2.1 _ _ ht)
  rw [hT] at a1
  cases a1
  obtain ⟨N, x, rfl, h1, h2, f, rfl, h3⟩ := a3
  unfold tN tA
  rw [a2]
  exact ⟨h1, h2, h3⟩
theorem tkd_o {p t k nlo nhi : Nat} {lo hi : Int} {tg : Nat} (hB : zBs xs τ h) (ht : zTG[p]? = some t) (hT : zTTy[t]? = some (.inr (k, nlo, nhi, (2, lo, hi, tg)))) : nlo ≤ tN h p ∧ tN h p ≤ nhi ∧ ∀ i, i < tN h p → lo ≤ zoi (tO h p i) ∧ zoi (tO h p i) ≤ hi ∧ yTo τ (zoi (tO h p i)) tg := by
  obtain ⟨ct, c, a1, a2, a3⟩ := hB.1.2 _ _ (hB.2.1 _ _ ht)
  rw [hT] at a1
  cases a1
  obtain ⟨N, x, rfl, h1, h2, f, rfl, h3⟩ := a3
  unfold tN tO
  rw [a2]
  exact ⟨h1, h2, h3⟩
end SH
noncomputable def tSr : List (Nat × Nat × Nat) := [(0, 0, 1), (0, 1, 36), (0, 2, 44), (0, 3, 48), (0, 4, 54), (0, 5, 63), (0, 6, 76), (0, 7, 81), (0, 8, 89), (0, 9, 94), (0, 10, 107), (0, 11, 108), (0, 12, 109), (0, 13, 110), (1, 0, 2), (1, 1, 3), (1, 2, 4), (1, 3, 13), (1, 4, 14), (1, 5, 27), (36, 0, 37), (36, 1, 38), (36, 3, 39), (36, 5, 40), (36, 6, 41), (36, 7, 42), (36, 8, 43), (44, 0, 45), (44, 4, 46), (44, 6, 47), (48, 0, 49), (48, 1, 50), (48, 2, 51), (48, 4, 52), (48, 5, 53), (54, 0, 55), (54, 1, 56), (54, 2, 57), (54, 3, 58), (54, 4, 59), (54, 6, 60), (54, 7, 61), (54, 8, 62), (63, 0, 64), (63, 1, 65), (63, 2, 66), (63, 3, 67), (63, 4, 68), (63, 5, 69), (63, 6, 70), (63, 7, 71), (63, 9, 72), (63, 10, 73), (63, 11, 74), (63, 12, 75), (76, 1, 77), (76, 2, 78), (76, 3, 79), (76, 4, 80), (81, 0, 82), (81, 1, 83), (81, 2, 84), (81, 3, 85), (81, 4, 86), (81, 5, 87), (81, 6, 88), (89, 0, 90), (89, 1, 91), (89, 2, 92), (89, 3, 93), (94, 0, 95), (94, 1, 96), (94, 2, 97), (111, 7, 112), (111, 8, 113), (111, 9, 114), (111, 10, 115), (111, 11, 116), (111, 12, 117), (111, 13, 118), (111, 14, 119), (111, 15, 120), (111, 16, 121), (111, 17, 122), (111, 18, 123), (111, 19, 124), (111, 20, 125), (111, 21, 126), (111, 22, 127), (111, 23, 128), (111, 24, 129), (111, 25, 130), (111, 26, 131), (111, 35, 132), (111, 36, 133), (111, 37, 134), (111, 38, 135), (111, 39, 136), (111, 40, 137), (111, 41, 138), (111, 42, 139), (111, 43, 140), (111, 44, 141), (111, 45, 142), (111, 48, 143), (111, 49, 144), (111, 52, 145), (111, 53, 146), (111, 54, 147), (111, 55, 148), (111, 56, 149), (111, 57, 150), (111, 58, 151), (111, 60, 152), (111, 61, 153), (111, 62, 154), (111, 63, 155), (111, 64, 156), (111, 65, 157), (111, 66, 158), (111, 67, 159), (111, 68, 160), (111, 69, 161), (111, 70, 162), (111, 72, 163), (111, 73, 164), (111, 74, 165), (111, 75, 166), (111, 77, 167), (111, 78, 168), (111, 79, 169), (111, 80, 170), (111, 81, 171), (111, 82, 172), (111, 84, 173), (111, 85, 174), (111, 86, 175), (111, 87, 176), (111, 88, 177), (111, 89, 178), (111, 93, 179), (111, 94, 180), (111, 95, 181)]
noncomputable def tSi : List (Nat × Nat) := [(0, 14), (1, 6), (1, 7), (36, 2), (36, 4), (36, 9), (44, 1), (44, 2), (44, 3), (44, 5), (44, 7), (44, 8), (44, 9), (48, 3), (54, 5), (54, 9), (63, 8), (76, 0), (81, 7), (89, 4), (94, 3), (94, 4), (94, 5), (111, 0), (111, 1), (111, 2), (111, 3), (111, 4), (111, 5), (111, 6), (111, 27), (111, 28), (111, 29), (111, 30), (111, 31), (111, 32), (111, 33), (111, 34), (111, 46), (111, 47), (111, 50), (111, 51), (111, 59), (111, 71), (111, 76), (111, 83), (111, 90), (111, 91), (111, 92)]
/-- the fixed objects' fields are of their kinds -/
noncomputable def tSh (h : zH) : Prop := (∀ q ∈ tSr, tF h q.1 q.2.1 = .ref q.2.2) ∧ (∀ q ∈ tSi, tF h q.1 q.2 = .int (tvI (tF h q.1 q.2)))
theorem tSh_F {h h2 : zH} (e : tF h2 = tF h) (k : tSh h) : tSh h2 := by unfold tSh; rw [e]; exact k
theorem tSh_SA {h : zH} {r i : Nat} {x : Int32} (k : tSh h) : tSh (tSA h r i x) := tSh_F (tF_tSA h r i x) k
theorem tSh_SJ {h : zH} {r i : Nat} {x : Int64} (k : tSh h) : tSh (tSJ h r i x) := tSh_F (tF_tSJ h r i x) k
theorem tSh_SO {h : zH} {r i : Nat} {x : Option Nat} (k : tSh h) : tSh (tSO h r i x) := tSh_F (tF_tSO h r i x) k
theorem tSh_SF {h : zH} {r b : Nat} {x : Int32} (hf : tFd h r b) (hn : tSr.all (fun q => !(Nat.beq q.1 r && Nat.beq q.2.1 b)) = true) (k : tSh h) : tSh (tSF h r b (.int x)) := by
  unfold tSh
  rw [tF_tSF hf]
  refine ⟨fun q hq => ?_, fun q hq => ?_⟩
  · dsimp only
    rw [if_neg]
    · exact k.1 q hq
    · rintro ⟨e1, e2⟩
      have := List.all_eq_true.mp hn q hq
      rw [e1, e2] at this
      simp at this
  · dsimp only
    by_cases e : q.1 = r ∧ q.2 = b
    · rw [if_pos e]; rfl
    · rw [if_neg e]; exact k.2 q hq
section SG
variable {xs : Nat → Int32} {τ : List Nat} {h : zH}
set_option maxRecDepth 20000 in
theorem zBs_sh (hB : zBs xs τ h) : tSh h := by
  refine ⟨?_, ?_⟩
  · intro q hq
    unfold tSr at hq
    rcases List.mem_cons.mp hq with rfl | hq
    · exact tkd_r hB (t := 1) rfl rfl rfl
    rcases List.mem_cons.mp hq with rfl | hq
    · exact tkd_r hB (t := 1) rfl rfl rfl
    rcases List.mem_cons.mp hq with rfl | hq
    · exact tkd_r hB (t := 1) rfl rfl rfl
    rcases List.mem_cons.mp hq with rfl | hq
    · exact tkd_r hB (t := 1) rfl rfl rfl
    rcases List.mem_cons.mp hq with rfl | hq
    · exact tkd_r hB (t := 1) rfl rfl rfl
    rcases List.mem_cons.mp hq with rfl | hq
    · exact tkd_r hB (t := 1) rfl rfl rfl
    rcases List.mem_cons.mp hq with rfl | hq
    · exact tkd_r hB (t := 1) rfl rfl rfl
    rcases List.mem_cons.mp hq with rfl | hq
    · exact tkd_r hB (t := 1) rfl rfl rfl
    rcases List.mem_cons.mp hq with rfl | hq
    · exact tkd_r hB (t := 1) rfl rfl rfl
    rcases List.mem_cons.mp hq with rfl | hq
    · exact tkd_r hB (t := 1) rfl rfl rfl
    rcases List.mem_cons.mp hq with rfl | hq
    · exact tkd_r hB (t := 1) rfl rfl rfl
    rcases List.mem_cons.mp hq with rfl | hq
    · exact tkd_r hB (t := 1) rfl rfl rfl
    rcases List.mem_cons.mp hq with rfl | hq
    · exact tkd_r hB (t := 1) rfl rfl rfl
    rcases List.mem_cons.mp hq with rfl | hq
    · exact tkd_r hB (t := 1) rfl rfl rfl
    rcases List.mem_cons.mp hq with rfl | hq
    · exact tkd_r hB (t := 2) rfl rfl rfl
    rcases List.mem_cons.mp hq with rfl | hq
    · exact tkd_r hB (t := 2) rfl rfl rfl
    rcases List.mem_cons.mp hq with rfl | hq
    · exact tkd_r hB (t := 2) rfl rfl rfl
    rcases List.mem_cons.mp hq with rfl | hq
    · exact tkd_r hB (t := 2) rfl rfl rfl
    rcases List.mem_cons.mp hq with rfl | hq
    · exact tkd_r hB (t := 2) rfl rfl rfl
    rcases List.mem_cons.mp hq with rfl | hq
    · exact tkd_r hB (t := 2) rfl rfl rfl
    rcases List.mem_cons.mp hq with rfl | hq
    · exact tkd_r hB (t := 12) rfl rfl rfl
    rcases List.mem_cons.mp hq with rfl | hq
    · exact tkd_r hB (t := 12) rfl rfl rfl
    rcases List.mem_cons.mp hq with rfl | hq
    · exact tkd_r hB (t := 12) rfl rfl rfl
    rcases List.mem_cons.mp hq with rfl | hq
    · exact tkd_r hB (t := 12) rfl rfl rfl
    rcases List.mem_cons.mp hq with rfl | hq
    · exact tkd_r hB (t := 12) rfl rfl rfl
    rcases List.mem_cons.mp hq with rfl | hq
    · exact tkd_r hB (t := 12) rfl rfl rfl
    rcases List.mem_cons.mp hq with rfl | hq
    · exact tkd_r hB (t := 12) rfl rfl rfl
    rcases List.mem_cons.mp hq with rfl | hq
    · exact tkd_r hB (t := 20) rfl rfl rfl
    rcases List.mem_cons.mp hq with rfl | hq
    · exact tkd_r hB (t := 20) rfl rfl rfl
    rcases List.mem_cons.mp hq with rfl | hq
    · exact tkd_r hB (t := 20) rfl rfl rfl
    rcases List.mem_cons.mp hq with rfl | hq
    · exact tkd_r hB (t := 24) rfl rfl rfl
    rcases List.mem_cons.mp hq with rfl | hq
    · exact tkd_r hB (t := 24) rfl rfl rfl
    rcases List.mem_cons.mp hq with rfl | hq
    · exact tkd_r hB (t := 24) rfl rfl rfl
    rcases List.mem_cons.mp hq with rfl | hq
    · exact tkd_r hB (t := 24) rfl rfl rfl
    rcases List.mem_cons.mp hq with rfl | hq
    · exact tkd_r hB (t := 24) rfl rfl rfl
    rcases List.mem_cons.mp hq with rfl | hq
    · exact tkd_r hB (t := 30) rfl rfl rfl
    rcases List.mem_cons.mp hq with rfl | hq
    · exact tkd_r hB (t := 30) rfl rfl rfl
    rcases List.mem_cons.mp hq with rfl | hq
    · exact tkd_r hB (t := 30) rfl rfl rfl
    rcases List.mem_cons.mp hq with rfl | hq
    · exact tkd_r hB (t := 30) rfl rfl rfl
    rcases List.mem_cons.mp hq with rfl | hq
    · exact tkd_r hB (t := 30) rfl rfl rfl
    rcases List.mem_cons.mp hq with rfl | hq
    · exact tkd_r hB (t := 30) rfl rfl rfl
    rcases List.mem_cons.mp hq with rfl | hq
    · exact tkd_r hB (t := 30) rfl rfl rfl
    rcases List.mem_cons.mp hq with rfl | hq
    · exact tkd_r hB (t := 30) rfl rfl rfl
    rcases List.mem_cons.mp hq with rfl | hq
    · exact tkd_r hB (t := 39) rfl rfl rfl
    rcases List.mem_cons.mp hq with rfl | hq
    · exact tkd_r hB (t := 39) rfl rfl rfl
    rcases List.mem_cons.mp hq with rfl | hq
    · exact tkd_r hB (t := 39) rfl rfl rfl
    rcases List.mem_cons.mp hq with rfl | hq
    · exact tkd_r hB (t := 39) rfl rfl rfl
    rcases List.mem_cons.mp hq with rfl | hq
    · exact tkd_r hB (t := 39) rfl rfl rfl
    rcases List.mem_cons.mp hq with rfl | hq
    · exact tkd_r hB (t := 39) rfl rfl rfl
    rcases List.mem_cons.mp hq with rfl | hq
    · exact tkd_r hB (t := 39) rfl rfl rfl
    rcases List.mem_cons.mp hq with rfl | hq
    · exact tkd_r hB (t := 39) rfl rfl rfl
    rcases List.mem_cons.mp hq with rfl | hq
    · exact tkd_r hB (t := 39) rfl rfl rfl
    rcases List.mem_cons.mp hq with rfl | hq
    · exact tkd_r hB (t := 39) rfl rfl rfl
    rcases List.mem_cons.mp hq with rfl | hq
    · exact tkd_r hB (t := 39) rfl rfl rfl
    rcases List.mem_cons.mp hq with rfl | hq
    · exact tkd_r hB (t := 39) rfl rfl rfl
    rcases List.mem_cons.mp hq with rfl | hq
    · exact tkd_r hB (t := 52) rfl rfl rfl
    rcases List.mem_cons.mp hq with rfl | hq
    · exact tkd_r hB (t := 52) rfl rfl rfl
    rcases List.mem_cons.mp hq with rfl | hq
    · exact tkd_r hB (t := 52) rfl rfl rfl
    rcases List.mem_cons.mp hq with rfl | hq
    · exact tkd_r hB (t := 52) rfl rfl rfl
    rcases List.mem_cons.mp hq with rfl | hq
    · exact tkd_r hB (t := 57) rfl rfl rfl
    rcases List.mem_cons.mp hq with rfl | hq
    · exact tkd_r hB (t := 57) rfl rfl rfl
    rcases List.mem_cons.mp hq with rfl | hq
    · exact tkd_r hB (t := 57) rfl rfl rfl
    rcases List.mem_cons.mp hq with rfl | hq
    · exact tkd_r hB (t := 57) rfl rfl rfl
    rcases List.mem_cons.mp hq with rfl | hq
    · exact tkd_r hB (t := 57) rfl rfl rfl
    rcases List.mem_cons.mp hq with rfl | hq
    · exact tkd_r hB (t := 57) rfl rfl rfl
    rcases List.mem_cons.mp hq with rfl | hq
    · exact tkd_r hB (t := 57) rfl rfl rfl
    rcases List.mem_cons.mp hq with rfl | hq
    · exact tkd_r hB (t := 65) rfl rfl rfl
    rcases List.mem_cons.mp hq with rfl | hq
    · exact tkd_r hB (t := 65) rfl rfl rfl
    rcases List.mem_cons.mp hq with rfl | hq
    · exact tkd_r hB (t := 65) rfl rfl rfl
    rcases List.mem_cons.mp hq with rfl | hq
    · exact tkd_r hB (t := 65) rfl rfl rfl
    rcases List.mem_cons.mp hq with rfl | hq
    · exact tkd_r hB (t := 70) rfl rfl rfl
    rcases List.mem_cons.mp hq with rfl | hq
    · exact tkd_r hB (t := 70) rfl rfl rfl
    rcases List.mem_cons.mp hq with rfl | hq
    · exact tkd_r hB (t := 70) rfl rfl rfl
    rcases List.mem_cons.mp hq with rfl | hq
    · exact tkd_r hB (t := 79) rfl rfl rfl
    rcases List.mem_cons.mp hq with rfl | hq
    · exact tkd_r hB (t := 79) rfl rfl rfl
    rcases List.mem_cons.mp hq with rfl | hq
    · exact tkd_r hB (t := 79) rfl rfl rfl
    rcases List.mem_cons.mp hq with rfl | hq
    · exact tkd_r hB (t := 79) rfl rfl rfl
    rcases List.mem_cons.mp hq with rfl | hq
    · exact tkd_r hB (t := 79) rfl rfl rfl
    rcases List.mem_cons.mp hq with rfl | hq
    · exact tkd_r hB (t := 79) rfl rfl rfl
    rcases List.mem_cons.mp hq with rfl | hq
    · exact tkd_r hB (t := 79) rfl rfl rfl
    rcases List.mem_cons.mp hq with rfl | hq
    · exact tkd_r hB (t := 79) rfl rfl rfl
    rcases List.mem_cons.mp hq with rfl | hq
    · exact tkd_r hB (t := 79) rfl rfl rfl
    rcases List.mem_cons.mp hq with rfl | hq
    · exact tkd_r hB (t := 79) rfl rfl rfl
    rcases List.mem_cons.mp hq with rfl | hq
    · exact tkd_r hB (t := 79) rfl rfl rfl
    rcases List.mem_cons.mp hq with rfl | hq
    · exact tkd_r hB (t := 79) rfl rfl rfl
    rcases List.mem_cons.mp hq with rfl | hq
    · exact tkd_r hB (t := 79) rfl rfl rfl
    rcases List.mem_cons.mp hq with rfl | hq
    · exact tkd_r hB (t := 79) rfl rfl rfl
    rcases List.mem_cons.mp hq with rfl | hq
    · exact tkd_r hB (t := 79) rfl rfl rfl
    rcases List.mem_cons.mp hq with rfl | hq
    · exact tkd_r hB (t := 79) rfl rfl rfl
    rcases List.mem_cons.mp hq with rfl | hq
    · exact tkd_r hB (t := 79) rfl rfl rfl
    rcases List.mem_cons.mp hq with rfl | hq
    · exact tkd_r hB (t := 79) rfl rfl rfl
    rcases List.mem_cons.mp hq with rfl | hq
    · exact tkd_r hB (t := 79) rfl rfl rfl
    rcases List.mem_cons.mp hq with rfl | hq
    · exact tkd_r hB (t := 79) rfl rfl rfl
    rcases List.mem_cons.mp hq with rfl | hq
    · exact tkd_r hB (t := 79) rfl rfl rfl
    rcases List.mem_cons.mp hq with rfl | hq
    · exact tkd_r hB (t := 79) rfl rfl rfl
    rcases List.mem_cons.mp hq with rfl | hq
    · exact tkd_r hB (t := 79) rfl rfl rfl
    rcases List.mem_cons.mp hq with rfl | hq
    · exact tkd_r hB (t := 79) rfl rfl rfl
    rcases List.mem_cons.mp hq with rfl | hq
    · exact tkd_r hB (t := 79) rfl rfl rfl
    rcases List.mem_cons.mp hq with rfl | hq
    · exact tkd_r hB (t := 79) rfl rfl rfl
    rcases List.mem_cons.mp hq with rfl | hq
    · exact tkd_r hB (t := 79) rfl rfl rfl
    rcases List.mem_cons.mp hq with rfl | hq
    · exact tkd_r hB (t := 79) rfl rfl rfl
    rcases List.mem_cons.mp hq with rfl | hq
    · exact tkd_r hB (t := 79) rfl rfl rfl
    rcases List.mem_cons.mp hq with rfl | hq
    · exact tkd_r hB (t := 79) rfl rfl rfl
    rcases List.mem_cons.mp hq with rfl | hq
    · exact tkd_r hB (t := 79) rfl rfl rfl
    rcases List.mem_cons.mp hq with rfl | hq
    · exact tkd_r hB (t := 79) rfl rfl rfl
    rcases List.mem_cons.mp hq with rfl | hq
    · exact tkd_r hB (t := 79) rfl rfl rfl
    rcases List.mem_cons.mp hq with rfl | hq
    · exact tkd_r hB (t := 79) rfl rfl rfl
    rcases List.mem_cons.mp hq with rfl | hq
    · exact tkd_r hB (t := 79) rfl rfl rfl
    rcases List.mem_cons.mp hq with rfl | hq
    · exact tkd_r hB (t := 79) rfl rfl rfl
    rcases List.mem_cons.mp hq with rfl | hq
    · exact tkd_r hB (t := 79) rfl rfl rfl
    rcases List.mem_cons.mp hq with rfl | hq
    · exact tkd_r hB (t := 79) rfl rfl rfl
    rcases List.mem_cons.mp hq with rfl | hq
    · exact tkd_r hB (t := 79) rfl rfl rfl
    rcases List.mem_cons.mp hq with rfl | hq
    · exact tkd_r hB (t := 79) rfl rfl rfl
    rcases List.mem_cons.mp hq with rfl | hq
    · exact tkd_r hB (t := 79) rfl rfl rfl
    rcases List.mem_cons.mp hq with rfl | hq
    · exact tkd_r hB (t := 79) rfl rfl rfl
    rcases List.mem_cons.mp hq with rfl | hq
    · exact tkd_r hB (t := 79) rfl rfl rfl
    rcases List.mem_cons.mp hq with rfl | hq
    · exact tkd_r hB (t := 79) rfl rfl rfl
    rcases List.mem_cons.mp hq with rfl | hq
    · exact tkd_r hB (t := 79) rfl rfl rfl
    rcases List.mem_cons.mp hq with rfl | hq
    · exact tkd_r hB (t := 79) rfl rfl rfl
    rcases List.mem_cons.mp hq with rfl | hq
    · exact tkd_r hB (t := 79) rfl rfl rfl
    rcases List.mem_cons.mp hq with rfl | hq
    · exact tkd_r hB (t := 79) rfl rfl rfl
    rcases List.mem_cons.mp hq with rfl | hq
    · exact tkd_r hB (t := 79) rfl rfl rfl
    rcases List.mem_cons.mp hq with rfl | hq
    · exact tkd_r hB (t := 79) rfl rfl rfl
    rcases List.mem_cons.mp hq with rfl | hq
    · exact tkd_r hB (t := 79) rfl rfl rfl
    rcases List.mem_cons.mp hq with rfl | hq
    · exact tkd_r hB (t := 79) rfl rfl rfl
    rcases List.mem_cons.mp hq with rfl | hq
    · exact tkd_r hB (t := 79) rfl rfl rfl
    rcases List.mem_cons.mp hq with rfl | hq
    · exact tkd_r hB (t := 79) rfl rfl rfl
    rcases List.mem_cons.mp hq with rfl | hq
    · exact tkd_r hB (t := 79) rfl rfl rfl
    rcases List.mem_cons.mp hq with rfl | hq
    · exact tkd_r hB (t := 79) rfl rfl rfl
    rcases List.mem_cons.mp hq with rfl | hq
    · exact tkd_r hB (t := 79) rfl rfl rfl
    rcases List.mem_cons.mp hq with rfl | hq
    · exact tkd_r hB (t := 79) rfl rfl rfl
    rcases List.mem_cons.mp hq with rfl | hq
    · exact tkd_r hB (t := 79) rfl rfl rfl
    rcases List.mem_cons.mp hq with rfl | hq
    · exact tkd_r hB (t := 79) rfl rfl rfl
    rcases List.mem_cons.mp hq with rfl | hq
    · exact tkd_r hB (t := 79) rfl rfl rfl
    rcases List.mem_cons.mp hq with rfl | hq
    · exact tkd_r hB (t := 79) rfl rfl rfl
    rcases List.mem_cons.mp hq with rfl | hq
    · exact tkd_r hB (t := 79) rfl rfl rfl
    rcases List.mem_cons.mp hq with rfl | hq
    · exact tkd_r hB (t := 79) rfl rfl rfl
    rcases List.mem_cons.mp hq with rfl | hq
    · exact tkd_r hB (t := 79) rfl rfl rfl
    rcases List.mem_cons.mp hq with rfl | hq
    · exact tkd_r hB (t := 79) rfl rfl rfl
    rcases List.mem_cons.mp hq with rfl | hq
    · exact tkd_r hB (t := 79) rfl rfl rfl
    rcases List.mem_cons.mp hq with rfl | hq
    · exact tkd_r hB (t := 79) rfl rfl rfl
    rcases List.mem_cons.mp hq with rfl | hq
    · exact tkd_r hB (t := 79) rfl rfl rfl
    rcases List.mem_cons.mp hq with rfl | hq
    · exact tkd_r hB (t := 79) rfl rfl rfl
    cases hq
  · intro q hq
    unfold tSi at hq
    rcases List.mem_cons.mp hq with rfl | hq
    · exact (tkd_i hB (t := 1) rfl rfl rfl).1
    rcases List.mem_cons.mp hq with rfl | hq
    · exact (tkd_i hB (t := 2) rfl rfl rfl).1
    rcases List.mem_cons.mp hq with rfl | hq
    · exact (tkd_i hB (t := 2) rfl rfl rfl).1
    rcases List.mem_cons.mp hq with rfl | hq
    · exact (tkd_i hB (t := 12) rfl rfl rfl).1
    rcases List.mem_cons.mp hq with rfl | hq
    · exact (tkd_i hB (t := 12) rfl rfl rfl).1
    rcases List.mem_cons.mp hq with rfl | hq
    · exact (tkd_i hB (t := 12) rfl rfl rfl).1
    rcases List.mem_cons.mp hq with rfl | hq
    · exact (tkd_i hB (t := 20) rfl rfl rfl).1
    rcases List.mem_cons.mp hq with rfl | hq
    · exact (tkd_i hB (t := 20) rfl rfl rfl).1
    rcases List.mem_cons.mp hq with rfl | hq
    · exact (tkd_i hB (t := 20) rfl rfl rfl).1
    rcases List.mem_cons.mp hq with rfl | hq
    · exact (tkd_i hB (t := 20) rfl rfl rfl).1
    rcases List.mem_cons.mp hq with rfl | hq
    · exact (tkd_i hB (t := 20) rfl rfl rfl).1
    rcases List.mem_cons.mp hq with rfl | hq
    · exact (tkd_i hB (t := 20) rfl rfl rfl).1
    rcases List.mem_cons.mp hq with rfl | hq
    · exact (tkd_i hB (t := 20) rfl rfl rfl).1
    rcases List.mem_cons.mp hq with rfl | hq
    · exact (tkd_i hB (t := 24) rfl rfl rfl).1
    rcases List.mem_cons.mp hq with rfl | hq
    · exact (tkd_i hB (t := 30) rfl rfl rfl).1
    rcases List.mem_cons.mp hq with rfl | hq
    · exact (tkd_i hB (t := 30) rfl rfl rfl).1
    rcases List.mem_cons.mp hq with rfl | hq
    · exact (tkd_i hB (t := 39) rfl rfl rfl).1
    rcases List.mem_cons.mp hq with rfl | hq
    · exact (tkd_i hB (t := 52) rfl rfl rfl).1
    rcases List.mem_cons.mp hq with rfl | hq
    · exact (tkd_i hB (t := 57) rfl rfl rfl).1
    rcases List.mem_cons.mp hq with rfl | hq
    · exact (tkd_i hB (t := 65) rfl rfl rfl).1
    rcases List.mem_cons.mp hq with rfl | hq
    · exact (tkd_i hB (t := 70) rfl rfl rfl).1
    rcases List.mem_cons.mp hq with rfl | hq
    · exact (tkd_i hB (t := 70) rfl rfl rfl).1
    rcases List.mem_cons.mp hq with rfl | hq
    · exact (tkd_i hB (t := 70) rfl rfl rfl).1
    rcases List.mem_cons.mp hq with rfl | hq
    · exact (tkd_i hB (t := 79) rfl rfl rfl).1
    rcases List.mem_cons.mp hq with rfl | hq
    · exact (tkd_i hB (t := 79) rfl rfl rfl).1
    rcases List.mem_cons.mp hq with rfl | hq
    · exact (tkd_i hB (t := 79) rfl rfl rfl).1
    rcases List.mem_cons.mp hq with rfl | hq
    · exact (tkd_i hB (t := 79) rfl rfl rfl).1
    rcases List.mem_cons.mp hq with rfl | hq
    · exact (tkd_i hB (t := 79) rfl rfl rfl).1
    rcases List.mem_cons.mp hq with rfl | hq
    · exact (tkd_i hB (t := 79) rfl rfl rfl).1
    rcases List.mem_cons.mp hq with rfl | hq
    · exact (tkd_i hB (t := 79) rfl rfl rfl).1
    rcases List.mem_cons.mp hq with rfl | hq
    · exact (tkd_i hB (t := 79) rfl rfl rfl).1
    rcases List.mem_cons.mp hq with rfl | hq
    · exact (tkd_i hB (t := 79) rfl rfl rfl).1
    rcases List.mem_cons.mp hq with rfl | hq
    · exact (tkd_i hB (t := 79) rfl rfl rfl).1
    rcases List.mem_cons.mp hq with rfl | hq
    · exact (tkd_i hB (t := 79) rfl rfl rfl).1
    rcases List.mem_cons.mp hq with rfl | hq
    · exact (tkd_i hB (t := 79) rfl rfl rfl).1
    rcases List.mem_cons.mp hq with rfl | hq
    · exact (tkd_i hB (t := 79) rfl rfl rfl).1
    rcases List.mem_cons.mp hq with rfl | hq
    · exact (tkd_i hB (t := 79) rfl rfl rfl).1
    rcases List.mem_cons.mp hq with rfl | hq
    · exact (tkd_i hB (t := 79) rfl rfl rfl).1
    rcases List.mem_cons.mp hq with rfl | hq
    · exact (tkd_i hB (t := 79) rfl rfl rfl).1
    rcases List.mem_cons.mp hq with rfl | hq
    · exact (tkd_i hB (t := 79) rfl rfl rfl).1
    rcases List.mem_cons.mp hq with rfl | hq
    · exact (tkd_i hB (t := 79) rfl rfl rfl).1
    rcases List.mem_cons.mp hq with rfl | hq
    · exact (tkd_i hB (t := 79) rfl rfl rfl).1
    rcases List.mem_cons.mp hq with rfl | hq
    · exact (tkd_i hB (t := 79) rfl rfl rfl).1
    rcases List.mem_cons.mp hq with rfl | hq
    · exact (tkd_i hB (t := 79) rfl rfl rfl).1
    rcases List.mem_cons.mp hq with rfl | hq
    · exact (tkd_i hB (t := 79) rfl rfl rfl).1
    rcases List.mem_cons.mp hq with rfl | hq
    · exact (tkd_i hB (t := 79) rfl rfl rfl).1
    rcases List.mem_cons.mp hq with rfl | hq
    · exact (tkd_i hB (t := 79) rfl rfl rfl).1
    rcases List.mem_cons.mp hq with rfl | hq
    · exact (tkd_i hB (t := 79) rfl rfl rfl).1
    rcases List.mem_cons.mp hq with rfl | hq
    · exact (tkd_i hB (t := 79) rfl rfl rfl).1
    cases hq
end SG
theorem hs_0_0 {h : zH} (k : tSh h) : tF h 0 0 = .ref 1 := k.1 (0, 0, 1) (by decide +kernel)
theorem hs_0_1 {h : zH} (k : tSh h) : tF h 0 1 = .ref 36 := k.1 (0, 1, 36) (by decide +kernel)
theorem hs_0_2 {h : zH} (k : tSh h) : tF h 0 2 = .ref 44 := k.1 (0, 2, 44) (by decide +kernel)
theorem hs_0_3 {h : zH} (k : tSh h) : tF h 0 3 = .ref 48 := k.1 (0, 3, 48) (by decide +kernel)
theorem hs_0_4 {h : zH} (k : tSh h) : tF h 0 4 = .ref 54 := k.1 (0, 4, 54) (by decide +kernel)
theorem hs_0_5 {h : zH} (k : tSh h) : tF h 0 5 = .ref 63 := k.1 (0, 5, 63) (by decide +kernel)
theorem hs_0_6 {h : zH} (k : tSh h) : tF h 0 6 = .ref 76 := k.1 (0, 6, 76) (by decide +kernel)
theorem hs_0_7 {h : zH} (k : tSh h) : tF h 0 7 = .ref 81 := k.1 (0, 7, 81) (by decide +kernel)
theorem hs_0_8 {h : zH} (k : tSh h) : tF h 0 8 = .ref 89 := k.1 (0, 8, 89) (by decide +kernel)
theorem hs_0_9 {h : zH} (k : tSh h) : tF h 0 9 = .ref 94 := k.1 (0, 9, 94) (by decide +kernel)
theorem hs_0_10 {h : zH} (k : tSh h) : tF h 0 10 = .ref 107 := k.1 (0, 10, 107) (by decide +kernel)
theorem hs_0_11 {h : zH} (k : tSh h) : tF h 0 11 = .ref 108 := k.1 (0, 11, 108) (by decide +kernel)
theorem hs_0_12 {h : zH} (k : tSh h) : tF h 0 12 = .ref 109 := k.1 (0, 12, 109) (by decide +kernel)
theorem hs_0_13 {h : zH} (k : tSh h) : tF h 0 13 = .ref 110 := k.1 (0, 13, 110) (by decide +kernel)
theorem hs_1_0 {h : zH} (k : tSh h) : tF h 1 0 = .ref 2 := k.1 (1, 0, 2) (by decide +kernel)
theorem hs_1_1 {h : zH} (k : tSh h) : tF h 1 1 = .ref 3 := k.1 (1, 1, 3) (by decide +kernel)
theorem hs_1_2 {h : zH} (k : tSh h) : tF h 1 2 = .ref 4 := k.1 (1, 2, 4) (by decide +kernel)
theorem hs_1_3 {h : zH} (k : tSh h) : tF h 1 3 = .ref 13 := k.1 (1, 3, 13) (by decide +kernel)
theorem hs_1_4 {h : zH} (k : tSh h) : tF h 1 4 = .ref 14 := k.1 (1, 4, 14) (by decide +kernel)
theorem hs_1_5 {h : zH} (k : tSh h) : tF h 1 5 = .ref 27 := k.1 (1, 5, 27) (by decide +kernel)
theorem hs_36_0 {h : zH} (k : tSh h) : tF h 36 0 = .ref 37 := k.1 (36, 0, 37) (by decide +kernel)
theorem hs_36_1 {h : zH} (k : tSh h) : tF h 36 1 = .ref 38 := k.1 (36, 1, 38) (by decide +kernel)
theorem hs_36_3 {h : zH} (k : tSh h) : tF h 36 3 = .ref 39 := k.1 (36, 3, 39) (by decide +kernel)
theorem hs_36_5 {h : zH} (k : tSh h) : tF h 36 5 = .ref 40 := k.1 (36, 5, 40) (by decide +kernel)
theorem hs_36_6 {h : zH} (k : tSh h) : tF h 36 6 = .ref 41 := k.1 (36, 6, 41) (by decide +kernel)
theorem hs_36_7 {h : zH} (k : tSh h) : tF h 36 7 = .ref 42 := k.1 (36, 7, 42) (by decide +kernel)
theorem hs_36_8 {h : zH} (k : tSh h) : tF h 36 8 = .ref 43 := k.1 (36, 8, 43) (by decide +kernel)
theorem hs_44_0 {h : zH} (k : tSh h) : tF h 44 0 = .ref 45 := k.1 (44, 0, 45) (by decide +kernel)
theorem hs_44_4 {h : zH} (k : tSh h) : tF h 44 4 = .ref 46 := k.1 (44, 4, 46) (by decide +kernel)
theorem hs_44_6 {h : zH} (k : tSh h) : tF h 44 6 = .ref 47 := k.1 (44, 6, 47) (by decide +kernel)
theorem hs_48_0 {h : zH} (k : tSh h) : tF h 48 0 = .ref 49 := k.1 (48, 0, 49) (by decide +kernel)
theorem hs_48_1 {h : zH} (k : tSh h) : tF h 48 1 = .ref 50 := k.1 (48, 1, 50) (by decide +kernel)
theorem hs_48_2 {h : zH} (k : tSh h) : tF h 48 2 = .ref 51 := k.1 (48, 2, 51) (by decide +kernel)
theorem hs_48_4 {h : zH} (k : tSh h) : tF h 48 4 = .ref 52 := k.1 (48, 4, 52) (by decide +kernel)
theorem hs_48_5 {h : zH} (k : tSh h) : tF h 48 5 = .ref 53 := k.1 (48, 5, 53) (by decide +kernel)
theorem hs_54_0 {h : zH} (k : tSh h) : tF h 54 0 = .ref 55 := k.1 (54, 0, 55) (by decide +kernel)
theorem hs_54_1 {h : zH} (k : tSh h) : tF h 54 1 = .ref 56 := k.1 (54, 1, 56) (by decide +kernel)
theorem hs_54_2 {h : zH} (k : tSh h) : tF h 54 2 = .ref 57 := k.1 (54, 2, 57) (by decide +kernel)
theorem hs_54_3 {h : zH} (k : tSh h) : tF h 54 3 = .ref 58 := k.1 (54, 3, 58) (by decide +kernel)
theorem hs_54_4 {h : zH} (k : tSh h) : tF h 54 4 = .ref 59 := k.1 (54, 4, 59) (by decide +kernel)
theorem hs_54_6 {h : zH} (k : tSh h) : tF h 54 6 = .ref 60 := k.1 (54, 6, 60) (by decide +kernel)
theorem hs_54_7 {h : zH} (k : tSh h) : tF h 54 7 = .ref 61 := k.1 (54, 7, 61) (by decide +kernel)
theorem hs_54_8 {h : zH} (k : tSh h) : tF h 54 8 = .ref 62 := k.1 (54, 8, 62) (by decide +kernel)
theorem hs_63_0 {h : zH} (k : tSh h) : tF h 63 0 = .ref 64 := k.1 (63, 0, 64) (by decide +kernel)
theorem hs_63_1 {h : zH} (k : tSh h) : tF h 63 1 = .ref 65 := k.1 (63, 1, 65) (by decide +kernel)
theorem hs_63_2 {h : zH} (k : tSh h) : tF h 63 2 = .ref 66 := k.1 (63, 2, 66) (by decide +kernel)
theorem hs_63_3 {h : zH} (k : tSh h) : tF h 63 3 = .ref 67 := k.1 (63, 3, 67) (by decide +kernel)
theorem hs_63_4 {h : zH} (k : tSh h) : tF h 63 4 = .ref 68 := k.1 (63, 4, 68) (by decide +kernel)
theorem hs_63_5 {h : zH} (k : tSh h) : tF h 63 5 = .ref 69 := k.1 (63, 5, 69) (by decide +kernel)
theorem hs_63_6 {h : zH} (k : tSh h) : tF h 63 6 = .ref 70 := k.1 (63, 6, 70) (by decide +kernel)
theorem hs_63_7 {h : zH} (k : tSh h) : tF h 63 7 = .ref 71 := k.1 (63, 7, 71) (by decide +kernel)
theorem hs_63_9 {h : zH} (k : tSh h) : tF h 63 9 = .ref 72 := k.1 (63, 9, 72) (by decide +kernel)
theorem hs_63_10 {h : zH} (k : tSh h) : tF h 63 10 = .ref 73 := k.1 (63, 10, 73) (by decide +kernel)
theorem hs_63_11 {h : zH} (k : tSh h) : tF h 63 11 = .ref 74 := k.1 (63, 11, 74) (by decide +kernel)
theorem hs_63_12 {h : zH} (k : tSh h) : tF h 63 12 = .ref 75 := k.1 (63, 12, 75) (by decide +kernel)
theorem hs_76_1 {h : zH} (k : tSh h) : tF h 76 1 = .ref 77 := k.1 (76, 1, 77) (by decide +kernel)
theorem hs_76_2 {h : zH} (k : tSh h) : tF h 76 2 = .ref 78 := k.1 (76, 2, 78) (by decide +kernel)
theorem hs_76_3 {h : zH} (k : tSh h) : tF h 76 3 = .ref 79 := k.1 (76, 3, 79) (by decide +kernel)
theorem hs_76_4 {h : zH} (k : tSh h) : tF h 76 4 = .ref 80 := k.1 (76, 4, 80) (by decide +kernel)
theorem hs_81_0 {h : zH} (k : tSh h) : tF h 81 0 = .ref 82 := k.1 (81, 0, 82) (by decide +kernel)
theorem hs_81_1 {h : zH} (k : tSh h) : tF h 81 1 = .ref 83 := k.1 (81, 1, 83) (by decide +kernel)
theorem hs_81_2 {h : zH} (k : tSh h) : tF h 81 2 = .ref 84 := k.1 (81, 2, 84) (by decide +kernel)
theorem hs_81_3 {h : zH} (k : tSh h) : tF h 81 3 = .ref 85 := k.1 (81, 3, 85) (by decide +kernel)
theorem hs_81_4 {h : zH} (k : tSh h) : tF h 81 4 = .ref 86 := k.1 (81, 4, 86) (by decide +kernel)
theorem hs_81_5 {h : zH} (k : tSh h) : tF h 81 5 = .ref 87 := k.1 (81, 5, 87) (by decide +kernel)
theorem hs_81_6 {h : zH} (k : tSh h) : tF h 81 6 = .ref 88 := k.1 (81, 6, 88) (by decide +kernel)
theorem hs_89_0 {h : zH} (k : tSh h) : tF h 89 0 = .ref 90 := k.1 (89, 0, 90) (by decide +kernel)
theorem hs_89_1 {h : zH} (k : tSh h) : tF h 89 1 = .ref 91 := k.1 (89, 1, 91) (by decide +kernel)
theorem hs_89_2 {h : zH} (k : tSh h) : tF h 89 2 = .ref 92 := k.1 (89, 2, 92) (by decide +kernel)
theorem hs_89_3 {h : zH} (k : tSh h) : tF h 89 3 = .ref 93 := k.1 (89, 3, 93) (by decide +kernel)
theorem hs_94_0 {h : zH} (k : tSh h) : tF h 94 0 = .ref 95 := k.1 (94, 0, 95) (by decide +kernel)
theorem hs_94_1 {h : zH} (k : tSh h) : tF h 94 1 = .ref 96 := k.1 (94, 1, 96) (by decide +kernel)
theorem hs_94_2 {h : zH} (k : tSh h) : tF h 94 2 = .ref 97 := k.1 (94, 2, 97) (by decide +kernel)
theorem hs_111_7 {h : zH} (k : tSh h) : tF h 111 7 = .ref 112 := k.1 (111, 7, 112) (by decide +kernel)
theorem hs_111_8 {h : zH} (k : tSh h) : tF h 111 8 = .ref 113 := k.1 (111, 8, 113) (by decide +kernel)
theorem hs_111_9 {h : zH} (k : tSh h) : tF h 111 9 = .ref 114 := k.1 (111, 9, 114) (by decide +kernel)
theorem hs_111_10 {h : zH} (k : tSh h) : tF h 111 10 = .ref 115 := k.1 (111, 10, 115) (by decide +kernel)
theorem hs_111_11 {h : zH} (k : tSh h) : tF h 111 11 = .ref 116 := k.1 (111, 11, 116) (by decide +kernel)
theorem hs_111_12 {h : zH} (k : tSh h) : tF h 111 12 = .ref 117 := k.1 (111, 12, 117) (by decide +kernel)
theorem hs_111_13 {h : zH} (k : tSh h) : tF h 111 13 = .ref 118 := k.1 (111, 13, 118) (by decide +kernel)
theorem hs_111_14 {h : zH} (k : tSh h) : tF h 111 14 = .ref 119 := k.1 (111, 14, 119) (by decide +kernel)
theorem hs_111_15 {h : zH} (k : tSh h) : tF h 111 15 = .ref 120 := k.1 (111, 15, 120) (by decide +kernel)
theorem hs_111_16 {h : zH} (k : tSh h) : tF h 111 16 = .ref 121 := k.1 (111, 16, 121) (by decide +kernel)
theorem hs_111_17 {h : zH} (k : tSh h) : tF h 111 17 = .ref 122 := k.1 (111, 17, 122) (by decide +kernel)
theorem hs_111_18 {h : zH} (k : tSh h) : tF h 111 18 = .ref 123 := k.1 (111, 18, 123) (by decide +kernel)
theorem hs_111_19 {h : zH} (k : tSh h) : tF h 111 19 = .ref 124 := k.1 (111, 19, 124) (by decide +kernel)
theorem hs_111_20 {h : zH} (k : tSh h) : tF h 111 20 = .ref 125 := k.1 (111, 20, 125) (by decide +kernel)
theorem hs_111_21 {h : zH} (k : tSh h) : tF h 111 21 = .ref 126 := k.1 (111, 21, 126) (by decide +kernel)
theorem hs_111_22 {h : zH} (k : tSh h) : tF h 111 22 = .ref 127 := k.1 (111, 22, 127) (by decide +kernel)
theorem hs_111_23 {h : zH} (k : tSh h) : tF h 111 23 = .ref 128 := k.1 (111, 23, 128) (by decide +kernel)
theorem hs_111_24 {h : zH} (k : tSh h) : tF h 111 24 = .ref 129 := k.1 (111, 24, 129) (by decide +kernel)
theorem hs_111_25 {h : zH} (k : tSh h) : tF h 111 25 = .ref 130 := k.1 (111, 25, 130) (by decide +kernel)
theorem hs_111_26 {h : zH} (k : tSh h) : tF h 111 26 = .ref 131 := k.1 (111, 26, 131) (by decide +kernel)
theorem hs_111_35 {h : zH} (k : tSh h) : tF h 111 35 = .ref 132 := k.1 (111, 35, 132) (by decide +kernel)
theorem hs_111_36 {h : zH} (k : tSh h) : tF h 111 36 = .ref 133 := k.1 (111, 36, 133) (by decide +kernel)
theorem hs_111_37 {h : zH} (k : tSh h) : tF h 111 37 = .ref 134 := k.1 (111, 37, 134) (by decide +kernel)
theorem hs_111_38 {h : zH} (k : tSh h) : tF h 111 38 = .ref 135 := k.1 (111, 38, 135) (by decide +kernel)
theorem hs_111_39 {h : zH} (k : tSh h) : tF h 111 39 = .ref 136 := k.1 (111, 39, 136) (by decide +kernel)
theorem hs_111_40 {h : zH} (k : tSh h) : tF h 111 40 = .ref 137 := k.1 (111, 40, 137) (by decide +kernel)
theorem hs_111_41 {h : zH} (k : tSh h) : tF h 111 41 = .ref 138 := k.1 (111, 41, 138) (by decide +kernel)
theorem hs_111_42 {h : zH} (k : tSh h) : tF h 111 42 = .ref 139 := k.1 (111, 42, 139) (by decide +kernel)
theorem hs_111_43 {h : zH} (k : tSh h) : tF h 111 43 = .ref 140 := k.1 (111, 43, 140) (by decide +kernel)
theorem hs_111_44 {h : zH} (k : tSh h) : tF h 111 44 = .ref 141 := k.1 (111, 44, 141) (by decide +kernel)
theorem hs_111_45 {h : zH} (k : tSh h) : tF h 111 45 = .ref 142 := k.1 (111, 45, 142) (by decide +kernel)
theorem hs_111_48 {h : zH} (k : tSh h) : tF h 111 48 = .ref 143 := k.1 (111, 48, 143) (by decide +kernel)
theorem hs_111_49 {h : zH} (k : tSh h) : tF h 111 49 = .ref 144 := k.1 (111, 49, 144) (by decide +kernel)
theorem hs_111_52 {h : zH} (k : tSh h) : tF h 111 52 = .ref 145 := k.1 (111, 52, 145) (by decide +kernel)
theorem hs_111_53 {h : zH} (k : tSh h) : tF h 111 53 = .ref 146 := k.1 (111, 53, 146) (by decide +kernel)
theorem hs_111_54 {h : zH} (k : tSh h) : tF h 111 54 = .ref 147 := k.1 (111, 54, 147) (by decide +kernel)
theorem hs_111_55 {h : zH} (k : tSh h) : tF h 111 55 = .ref 148 := k.1 (111, 55, 148) (by decide +kernel)
theorem hs_111_56 {h : zH} (k : tSh h) : tF h 111 56 = .ref 149 := k.1 (111, 56, 149) (by decide +kernel)
theorem hs_111_57 {h : zH} (k : tSh h) : tF h 111 57 = .ref 150 := k.1 (111, 57, 150) (by decide +kernel)
theorem hs_111_58 {h : zH} (k : tSh h) : tF h 111 58 = .ref 151 := k.1 (111, 58, 151) (by decide +kernel)
theorem hs_111_60 {h : zH} (k : tSh h) : tF h 111 60 = .ref 152 := k.1 (111, 60, 152) (by decide +kernel)
theorem hs_111_61 {h : zH} (k : tSh h) : tF h 111 61 = .ref 153 := k.1 (111, 61, 153) (by decide +kernel)
theorem hs_111_62 {h : zH} (k : tSh h) : tF h 111 62 = .ref 154 := k.1 (111, 62, 154) (by decide +kernel)
theorem hs_111_63 {h : zH} (k : tSh h) : tF h 111 63 = .ref 155 := k.1 (111, 63, 155) (by decide +kernel)
theorem hs_111_64 {h : zH} (k : tSh h) : tF h 111 64 = .ref 156 := k.1 (111, 64, 156) (by decide +kernel)
theorem hs_111_65 {h : zH} (k : tSh h) : tF h 111 65 = .ref 157 := k.1 (111, 65, 157) (by decide +kernel)
theorem hs_111_66 {h : zH} (k : tSh h) : tF h 111 66 = .ref 158 := k.1 (111, 66, 158) (by decide +kernel)
theorem hs_111_67 {h : zH} (k : tSh h) : tF h 111 67 = .ref 159 := k.1 (111, 67, 159) (by decide +kernel)
theorem hs_111_68 {h : zH} (k : tSh h) : tF h 111 68 = .ref 160 := k.1 (111, 68, 160) (by decide +kernel)
theorem hs_111_69 {h : zH} (k : tSh h) : tF h 111 69 = .ref 161 := k.1 (111, 69, 161) (by decide +kernel)
theorem hs_111_70 {h : zH} (k : tSh h) : tF h 111 70 = .ref 162 := k.1 (111, 70, 162) (by decide +kernel)
theorem hs_111_72 {h : zH} (k : tSh h) : tF h 111 72 = .ref 163 := k.1 (111, 72, 163) (by decide +kernel)
theorem hs_111_73 {h : zH} (k : tSh h) : tF h 111 73 = .ref 164 := k.1 (111, 73, 164) (by decide +kernel)
theorem hs_111_74 {h : zH} (k : tSh h) : tF h 111 74 = .ref 165 := k.1 (111, 74, 165) (by decide +kernel)
theorem hs_111_75 {h : zH} (k : tSh h) : tF h 111 75 = .ref 166 := k.1 (111, 75, 166) (by decide +kernel)
theorem hs_111_77 {h : zH} (k : tSh h) : tF h 111 77 = .ref 167 := k.1 (111, 77, 167) (by decide +kernel)
theorem hs_111_78 {h : zH} (k : tSh h) : tF h 111 78 = .ref 168 := k.1 (111, 78, 168) (by decide +kernel)
theorem hs_111_79 {h : zH} (k : tSh h) : tF h 111 79 = .ref 169 := k.1 (111, 79, 169) (by decide +kernel)
theorem hs_111_80 {h : zH} (k : tSh h) : tF h 111 80 = .ref 170 := k.1 (111, 80, 170) (by decide +kernel)
theorem hs_111_81 {h : zH} (k : tSh h) : tF h 111 81 = .ref 171 := k.1 (111, 81, 171) (by decide +kernel)
theorem hs_111_82 {h : zH} (k : tSh h) : tF h 111 82 = .ref 172 := k.1 (111, 82, 172) (by decide +kernel)
theorem hs_111_84 {h : zH} (k : tSh h) : tF h 111 84 = .ref 173 := k.1 (111, 84, 173) (by decide +kernel)
theorem hs_111_85 {h : zH} (k : tSh h) : tF h 111 85 = .ref 174 := k.1 (111, 85, 174) (by decide +kernel)
theorem hs_111_86 {h : zH} (k : tSh h) : tF h 111 86 = .ref 175 := k.1 (111, 86, 175) (by decide +kernel)
theorem hs_111_87 {h : zH} (k : tSh h) : tF h 111 87 = .ref 176 := k.1 (111, 87, 176) (by decide +kernel)
theorem hs_111_88 {h : zH} (k : tSh h) : tF h 111 88 = .ref 177 := k.1 (111, 88, 177) (by decide +kernel)
theorem hs_111_89 {h : zH} (k : tSh h) : tF h 111 89 = .ref 178 := k.1 (111, 89, 178) (by decide +kernel)
theorem hs_111_93 {h : zH} (k : tSh h) : tF h 111 93 = .ref 179 := k.1 (111, 93, 179) (by decide +kernel)
theorem hs_111_94 {h : zH} (k : tSh h) : tF h 111 94 = .ref 180 := k.1 (111, 94, 180) (by decide +kernel)
theorem hs_111_95 {h : zH} (k : tSh h) : tF h 111 95 = .ref 181 := k.1 (111, 95, 181) (by decide +kernel)
theorem hi_0_14 {h : zH} (k : tSh h) : tF h 0 14 = .int (tvI (tF h 0 14)) := k.2 (0, 14) (by decide +kernel)
theorem hw_0_14 {h : zH} {x : Int32} (hf : tFd h 0 14) (k : tSh h) : tSh (tSF h 0 14 (.int x)) := tSh_SF hf (by decide +kernel) k
theorem hi_1_6 {h : zH} (k : tSh h) : tF h 1 6 = .int (tvI (tF h 1 6)) := k.2 (1, 6) (by decide +kernel)
theorem hw_1_6 {h : zH} {x : Int32} (hf : tFd h 1 6) (k : tSh h) : tSh (tSF h 1 6 (.int x)) := tSh_SF hf (by decide +kernel) k
theorem hi_1_7 {h : zH} (k : tSh h) : tF h 1 7 = .int (tvI (tF h 1 7)) := k.2 (1, 7) (by decide +kernel)
theorem hw_1_7 {h : zH} {x : Int32} (hf : tFd h 1 7) (k : tSh h) : tSh (tSF h 1 7 (.int x)) := tSh_SF hf (by decide +kernel) k
theorem hi_36_2 {h : zH} (k : tSh h) : tF h 36 2 = .int (tvI (tF h 36 2)) := k.2 (36, 2) (by decide +kernel)
theorem hw_36_2 {h : zH} {x : Int32} (hf : tFd h 36 2) (k : tSh h) : tSh (tSF h 36 2 (.int x)) := tSh_SF hf (by decide +kernel) k
theorem hi_36_4 {h : zH} (k : tSh h) : tF h 36 4 = .int (tvI (tF h 36 4)) := k.2 (36, 4) (by decide +kernel)
theorem hw_36_4 {h : zH} {x : Int32} (hf : tFd h 36 4) (k : tSh h) : tSh (tSF h 36 4 (.int x)) := tSh_SF hf (by decide +kernel) k
theorem hi_36_9 {h : zH} (k : tSh h) : tF h 36 9 = .int (tvI (tF h 36 9)) := k.2 (36, 9) (by decide +kernel)
theorem hw_36_9 {h : zH} {x : Int32} (hf : tFd h 36 9) (k : tSh h) : tSh (tSF h 36 9 (.int x)) := tSh_SF hf (by decide +kernel) k
theorem hi_44_1 {h : zH} (k : tSh h) : tF h 44 1 = .int (tvI (tF h 44 1)) := k.2 (44, 1) (by decide +kernel)
theorem hw_44_1 {h : zH} {x : Int32} (hf : tFd h 44 1) (k : tSh h) : tSh (tSF h 44 1 (.int x)) := tSh_SF hf (by decide +kernel) k
theorem hi_44_2 {h : zH} (k : tSh h) : tF h 44 2 = .int (tvI (tF h 44 2)) := k.2 (44, 2) (by decide +kernel)
theorem hw_44_2 {h : zH} {x : Int32} (hf : tFd h 44 2) (k : tSh h) : tSh (tSF h 44 2 (.int x)) := tSh_SF hf (by decide +kernel) k
theorem hi_44_3 {h : zH} (k : tSh h) : tF h 44 3 = .int (tvI (tF h 44 3)) := k.2 (44, 3) (by decide +kernel)
theorem hw_44_3 {h : zH} {x : Int32} (hf : tFd h 44 3) (k : tSh h) : tSh (tSF h 44 3 (.int x)) := tSh_SF hf (by decide +kernel) k
theorem hi_44_5 {h : zH} (k : tSh h) : tF h 44 5 = .int (tvI (tF h 44 5)) := k.2 (44, 5) (by decide +kernel)
theorem hw_44_5 {h : zH} {x : Int32} (hf : tFd h 44 5) (k : tSh h) : tSh (tSF h 44 5 (.int x)) := tSh_SF hf (by decide +kernel) k
theorem hi_44_7 {h : zH} (k : tSh h) : tF h 44 7 = .int (tvI (tF h 44 7)) := k.2 (44, 7) (by decide +kernel)
theorem hw_44_7 {h : zH} {x : Int32} (hf : tFd h 44 7) (k : tSh h) : tSh (tSF h 44 7 (.int x)) := tSh_SF hf (by decide +kernel) k
theorem hi_44_8 {h : zH} (k : tSh h) : tF h 44 8 = .int (tvI (tF h 44 8)) := k.2 (44, 8) (by decide +kernel)
theorem hw_44_8 {h : zH} {x : Int32} (hf : tFd h 44 8) (k : tSh h) : tSh (tSF h 44 8 (.int x)) := tSh_SF hf (by decide +kernel) k
theorem hi_44_9 {h : zH} (k : tSh h) : tF h 44 9 = .int (tvI (tF h 44 9)) := k.2 (44, 9) (by decide +kernel)
theorem hw_44_9 {h : zH} {x : Int32} (hf : tFd h 44 9) (k : tSh h) : tSh (tSF h 44 9 (.int x)) := tSh_SF hf (by decide +kernel) k
theorem hi_48_3 {h : zH} (k : tSh h) : tF h 48 3 = .int (tvI (tF h 48 3)) := k.2 (48, 3) (by decide +kernel)
theorem hw_48_3 {h : zH} {x : Int32} (hf : tFd h 48 3) (k : tSh h) : tSh (tSF h 48 3 (.int x)) := tSh_SF hf (by decide +kernel) k
theorem hi_54_5 {h : zH} (k : tSh h) : tF h 54 5 = .int (tvI (tF h 54 5)) := k.2 (54, 5) (by decide +kernel)
theorem hw_54_5 {h : zH} {x : Int32} (hf : tFd h 54 5) (k : tSh h) : tSh (tSF h 54 5 (.int x)) := tSh_SF hf (by decide +kernel) k
theorem hi_54_9 {h : zH} (k : tSh h) : tF h 54 9 = .int (tvI (tF h 54 9)) := k.2 (54, 9) (by decide +kernel)
theorem hw_54_9 {h : zH} {x : Int32} (hf : tFd h 54 9) (k : tSh h) : tSh (tSF h 54 9 (.int x)) := tSh_SF hf (by decide +kernel) k
theorem hi_63_8 {h : zH} (k : tSh h) : tF h 63 8 = .int (tvI (tF h 63 8)) := k.2 (63, 8) (by decide +kernel)
theorem hw_63_8 {h : zH} {x : Int32} (hf : tFd h 63 8) (k : tSh h) : tSh (tSF h 63 8 (.int x)) := tSh_SF hf (by decide +kernel) k
theorem hi_76_0 {h : zH} (k : tSh h) : tF h 76 0 = .int (tvI (tF h 76 0)) := k.2 (76, 0) (by decide +kernel)
theorem hw_76_0 {h : zH} {x : Int32} (hf : tFd h 76 0) (k : tSh h) : tSh (tSF h 76 0 (.int x)) := tSh_SF hf (by decide +kernel) k
theorem hi_81_7 {h : zH} (k : tSh h) : tF h 81 7 = .int (tvI (tF h 81 7)) := k.2 (81, 7) (by decide +kernel)
theorem hw_81_7 {h : zH} {x : Int32} (hf : tFd h 81 7) (k : tSh h) : tSh (tSF h 81 7 (.int x)) := tSh_SF hf (by decide +kernel) k
theorem hi_89_4 {h : zH} (k : tSh h) : tF h 89 4 = .int (tvI (tF h 89 4)) := k.2 (89, 4) (by decide +kernel)
theorem hw_89_4 {h : zH} {x : Int32} (hf : tFd h 89 4) (k : tSh h) : tSh (tSF h 89 4 (.int x)) := tSh_SF hf (by decide +kernel) k
theorem hi_94_3 {h : zH} (k : tSh h) : tF h 94 3 = .int (tvI (tF h 94 3)) := k.2 (94, 3) (by decide +kernel)
theorem hw_94_3 {h : zH} {x : Int32} (hf : tFd h 94 3) (k : tSh h) : tSh (tSF h 94 3 (.int x)) := tSh_SF hf (by decide +kernel) k
theorem hi_94_4 {h : zH} (k : tSh h) : tF h 94 4 = .int (tvI (tF h 94 4)) := k.2 (94, 4) (by decide +kernel)
theorem hw_94_4 {h : zH} {x : Int32} (hf : tFd h 94 4) (k : tSh h) : tSh (tSF h 94 4 (.int x)) := tSh_SF hf (by decide +kernel) k
theorem hi_94_5 {h : zH} (k : tSh h) : tF h 94 5 = .int (tvI (tF h 94 5)) := k.2 (94, 5) (by decide +kernel)
theorem hw_94_5 {h : zH} {x : Int32} (hf : tFd h 94 5) (k : tSh h) : tSh (tSF h 94 5 (.int x)) := tSh_SF hf (by decide +kernel) k
theorem hi_111_0 {h : zH} (k : tSh h) : tF h 111 0 = .int (tvI (tF h 111 0)) := k.2 (111, 0) (by decide +kernel)
theorem hw_111_0 {h : zH} {x : Int32} (hf : tFd h 111 0) (k : tSh h) : tSh (tSF h 111 0 (.int x)) := tSh_SF hf (by decide +kernel) k
theorem hi_111_1 {h : zH} (k : tSh h) : tF h 111 1 = .int (tvI (tF h 111 1)) := k.2 (111, 1) (by decide +kernel)
theorem hw_111_1 {h : zH} {x : Int32} (hf : tFd h 111 1) (k : tSh h) : tSh (tSF h 111 1 (.int x)) := tSh_SF hf (by decide +kernel) k
theorem hi_111_2 {h : zH} (k : tSh h) : tF h 111 2 = .int (tvI (tF h 111 2)) := k.2 (111, 2) (by decide +kernel)
theorem hw_111_2 {h : zH} {x : Int32} (hf : tFd h 111 2) (k : tSh h) : tSh (tSF h 111 2 (.int x)) := tSh_SF hf (by decide +kernel) k
theorem hi_111_3 {h : zH} (k : tSh h) : tF h 111 3 = .int (tvI (tF h 111 3)) := k.2 (111, 3) (by decide +kernel)
theorem hw_111_3 {h : zH} {x : Int32} (hf : tFd h 111 3) (k : tSh h) : tSh (tSF h 111 3 (.int x)) := tSh_SF hf (by decide +kernel) k
theorem hi_111_4 {h : zH} (k : tSh h) : tF h 111 4 = .int (tvI (tF h 111 4)) := k.2 (111, 4) (by decide +kernel)
theorem hw_111_4 {h : zH} {x : Int32} (hf : tFd h 111 4) (k : tSh h) : tSh (tSF h 111 4 (.int x)) := tSh_SF hf (by decide +kernel) k
theorem hi_111_5 {h : zH} (k : tSh h) : tF h 111 5 = .int (tvI (tF h 111 5)) := k.2 (111, 5) (by decide +kernel)
theorem hw_111_5 {h : zH} {x : Int32} (hf : tFd h 111 5) (k : tSh h) : tSh (tSF h 111 5 (.int x)) := tSh_SF hf (by decide +kernel) k
theorem hi_111_6 {h : zH} (k : tSh h) : tF h 111 6 = .int (tvI (tF h 111 6)) := k.2 (111, 6) (by decide +kernel)
theorem hw_111_6 {h : zH} {x : Int32} (hf : tFd h 111 6) (k : tSh h) : tSh (tSF h 111 6 (.int x)) := tSh_SF hf (by decide +kernel) k
theorem hi_111_27 {h : zH} (k : tSh h) : tF h 111 27 = .int (tvI (tF h 111 27)) := k.2 (111, 27) (by decide +kernel)
theorem hw_111_27 {h : zH} {x : Int32} (hf : tFd h 111 27) (k : tSh h) : tSh (tSF h 111 27 (.int x)) := tSh_SF hf (by decide +kernel) k
theorem hi_111_28 {h : zH} (k : tSh h) : tF h 111 28 = .int (tvI (tF h 111 28)) := k.2 (111, 28) (by decide +kernel)
theorem hw_111_28 {h : zH} {x : Int32} (hf : tFd h 111 28) (k : tSh h) : tSh (tSF h 111 28 (.int x)) := tSh_SF hf (by decide +kernel) k
theorem hi_111_29 {h : zH} (k : tSh h) : tF h 111 29 = .int (tvI (tF h 111 29)) := k.2 (111, 29) (by decide +kernel)
theorem hw_111_29 {h : zH} {x : Int32} (hf : tFd h 111 29) (k : tSh h) : tSh (tSF h 111 29 (.int x)) := tSh_SF hf (by decide +kernel) k
theorem hi_111_30 {h : zH} (k : tSh h) : tF h 111 30 = .int (tvI (tF h 111 30)) := k.2 (111, 30) (by decide +kernel)
theorem hw_111_30 {h : zH} {x : Int32} (hf : tFd h 111 30) (k : tSh h) : tSh (tSF h 111 30 (.int x)) := tSh_SF hf (by decide +kernel) k
theorem hi_111_31 {h : zH} (k : tSh h) : tF h 111 31 = .int (tvI (tF h 111 31)) := k.2 (111, 31) (by decide +kernel)
theorem hw_111_31 {h : zH} {x : Int32} (hf : tFd h 111 31) (k : tSh h) : tSh (tSF h 111 31 (.int x)) := tSh_SF hf (by decide +kernel) k
theorem hi_111_32 {h : zH} (k : tSh h) : tF h 111 32 = .int (tvI (tF h 111 32)) := k.2 (111, 32) (by decide +kernel)
theorem hw_111_32 {h : zH} {x : Int32} (hf : tFd h 111 32) (k : tSh h) : tSh (tSF h 111 32 (.int x)) := tSh_SF hf (by decide +kernel) k
theorem hi_111_33 {h : zH} (k : tSh h) : tF h 111 33 = .int (tvI (tF h 111 33)) := k.2 (111, 33) (by decide +kernel)
theorem hw_111_33 {h : zH} {x : Int32} (hf : tFd h 111 33) (k : tSh h) : tSh (tSF h 111 33 (.int x)) := tSh_SF hf (by decide +kernel) k
theorem hi_111_34 {h : zH} (k : tSh h) : tF h 111 34 = .int (tvI (tF h 111 34)) := k.2 (111, 34) (by decide +kernel)
theorem hw_111_34 {h : zH} {x : Int32} (hf : tFd h 111 34) (k : tSh h) : tSh (tSF h 111 34 (.int x)) := tSh_SF hf (by decide +kernel) k
theorem hi_111_46 {h : zH} (k : tSh h) : tF h 111 46 = .int (tvI (tF h 111 46)) := k.2 (111, 46) (by decide +kernel)
theorem hw_111_46 {h : zH} {x : Int32} (hf : tFd h 111 46) (k : tSh h) : tSh (tSF h 111 46 (.int x)) := tSh_SF hf (by decide +kernel) k
theorem hi_111_47 {h : zH} (k : tSh h) : tF h 111 47 = .int (tvI (tF h 111 47)) := k.2 (111, 47) (by decide +kernel)
theorem hw_111_47 {h : zH} {x : Int32} (hf : tFd h 111 47) (k : tSh h) : tSh (tSF h 111 47 (.int x)) := tSh_SF hf (by decide +kernel) k
theorem hi_111_50 {h : zH} (k : tSh h) : tF h 111 50 = .int (tvI (tF h 111 50)) := k.2 (111, 50) (by decide +kernel)
theorem hw_111_50 {h : zH} {x : Int32} (hf : tFd h 111 50) (k : tSh h) : tSh (tSF h 111 50 (.int x)) := tSh_SF hf (by decide +kernel) k
theorem hi_111_51 {h : zH} (k : tSh h) : tF h 111 51 = .int (tvI (tF h 111 51)) := k.2 (111, 51) (by decide +kernel)
theorem hw_111_51 {h : zH} {x : Int32} (hf : tFd h 111 51) (k : tSh h) : tSh (tSF h 111 51 (.int x)) := tSh_SF hf (by decide +kernel) k
theorem hi_111_59 {h : zH} (k : tSh h) : tF h 111 59 = .int (tvI (tF h 111 59)) := k.2 (111, 59) (by decide +kernel)
theorem hw_111_59 {h : zH} {x : Int32} (hf : tFd h 111 59) (k : tSh h) : tSh (tSF h 111 59 (.int x)) := tSh_SF hf (by decide +kernel) k
theorem hi_111_71 {h : zH} (k : tSh h) : tF h 111 71 = .int (tvI (tF h 111 71)) := k.2 (111, 71) (by decide +kernel)
theorem hw_111_71 {h : zH} {x : Int32} (hf : tFd h 111 71) (k : tSh h) : tSh (tSF h 111 71 (.int x)) := tSh_SF hf (by decide +kernel) k
theorem hi_111_76 {h : zH} (k : tSh h) : tF h 111 76 = .int (tvI (tF h 111 76)) := k.2 (111, 76) (by decide +kernel)
theorem hw_111_76 {h : zH} {x : Int32} (hf : tFd h 111 76) (k : tSh h) : tSh (tSF h 111 76 (.int x)) := tSh_SF hf (by decide +kernel) k
theorem hi_111_83 {h : zH} (k : tSh h) : tF h 111 83 = .int (tvI (tF h 111 83)) := k.2 (111, 83) (by decide +kernel)
theorem hw_111_83 {h : zH} {x : Int32} (hf : tFd h 111 83) (k : tSh h) : tSh (tSF h 111 83 (.int x)) := tSh_SF hf (by decide +kernel) k
theorem hi_111_90 {h : zH} (k : tSh h) : tF h 111 90 = .int (tvI (tF h 111 90)) := k.2 (111, 90) (by decide +kernel)
theorem hw_111_90 {h : zH} {x : Int32} (hf : tFd h 111 90) (k : tSh h) : tSh (tSF h 111 90 (.int x)) := tSh_SF hf (by decide +kernel) k
theorem hi_111_91 {h : zH} (k : tSh h) : tF h 111 91 = .int (tvI (tF h 111 91)) := k.2 (111, 91) (by decide +kernel)
theorem hw_111_91 {h : zH} {x : Int32} (hf : tFd h 111 91) (k : tSh h) : tSh (tSF h 111 91 (.int x)) := tSh_SF hf (by decide +kernel) k
theorem hi_111_92 {h : zH} (k : tSh h) : tF h 111 92 = .int (tvI (tF h 111 92)) := k.2 (111, 92) (by decide +kernel)
theorem hw_111_92 {h : zH} {x : Int32} (hf : tFd h 111 92) (k : tSh h) : tSh (tSF h 111 92 (.int x)) := tSh_SF hf (by decide +kernel) k
section SB
variable {xs : Nat → Int32} {τ : List Nat} {h : zH}
theorem kb_0_14 (hB : zBs xs τ h) : 0 ≤ (tvI (tF h 0 14)).toInt ∧ (tvI (tF h 0 14)).toInt ≤ 599 := (tkd_i hB (p := 0) (t := 1) (b := 14) rfl rfl rfl).2
theorem kb_1_6 (hB : zBs xs τ h) : 0 ≤ (tvI (tF h 1 6)).toInt ∧ (tvI (tF h 1 6)).toInt ≤ 8 := (tkd_i hB (p := 1) (t := 2) (b := 6) rfl rfl rfl).2
theorem kb_1_7 (hB : zBs xs τ h) : 0 ≤ (tvI (tF h 1 7)).toInt ∧ (tvI (tF h 1 7)).toInt ≤ 12 := (tkd_i hB (p := 1) (t := 2) (b := 7) rfl rfl rfl).2
theorem kb_36_2 (hB : zBs xs τ h) : 0 ≤ (tvI (tF h 36 2)).toInt ∧ (tvI (tF h 36 2)).toInt ≤ 60 := (tkd_i hB (p := 36) (t := 12) (b := 2) rfl rfl rfl).2
theorem kb_36_4 (hB : zBs xs τ h) : 0 ≤ (tvI (tF h 36 4)).toInt ∧ (tvI (tF h 36 4)).toInt ≤ 300 := (tkd_i hB (p := 36) (t := 12) (b := 4) rfl rfl rfl).2
theorem kb_36_9 (hB : zBs xs τ h) : 0 ≤ (tvI (tF h 36 9)).toInt ∧ (tvI (tF h 36 9)).toInt ≤ 400 := (tkd_i hB (p := 36) (t := 12) (b := 9) rfl rfl rfl).2
theorem kb_44_1 (hB : zBs xs τ h) : 0 ≤ (tvI (tF h 44 1)).toInt ∧ (tvI (tF h 44 1)).toInt ≤ 400 := (tkd_i hB (p := 44) (t := 20) (b := 1) rfl rfl rfl).2
theorem kb_44_2 (hB : zBs xs τ h) : 0 ≤ (tvI (tF h 44 2)).toInt ∧ (tvI (tF h 44 2)).toInt ≤ 400 := (tkd_i hB (p := 44) (t := 20) (b := 2) rfl rfl rfl).2
theorem kb_44_3 (hB : zBs xs τ h) : 0 ≤ (tvI (tF h 44 3)).toInt ∧ (tvI (tF h 44 3)).toInt ≤ 400 := (tkd_i hB (p := 44) (t := 20) (b := 3) rfl rfl rfl).2
theorem kb_44_5 (hB : zBs xs τ h) : 0 ≤ (tvI (tF h 44 5)).toInt ∧ (tvI (tF h 44 5)).toInt ≤ 400 := (tkd_i hB (p := 44) (t := 20) (b := 5) rfl rfl rfl).2
theorem kb_44_7 (hB : zBs xs τ h) : 0 ≤ (tvI (tF h 44 7)).toInt ∧ (tvI (tF h 44 7)).toInt ≤ 12 := (tkd_i hB (p := 44) (t := 20) (b := 7) rfl rfl rfl).2
theorem kb_44_8 (hB : zBs xs τ h) : 0 ≤ (tvI (tF h 44 8)).toInt ∧ (tvI (tF h 44 8)).toInt ≤ 80 := (tkd_i hB (p := 44) (t := 20) (b := 8) rfl rfl rfl).2
theorem kb_44_9 (hB : zBs xs τ h) : (-2147483648) ≤ (tvI (tF h 44 9)).toInt ∧ (tvI (tF h 44 9)).toInt ≤ 2147483647 := (tkd_i hB (p := 44) (t := 20) (b := 9) rfl rfl rfl).2
theorem kb_48_3 (hB : zBs xs τ h) : 0 ≤ (tvI (tF h 48 3)).toInt ∧ (tvI (tF h 48 3)).toInt ≤ 10 := (tkd_i hB (p := 48) (t := 24) (b := 3) rfl rfl rfl).2
theorem kb_54_5 (hB : zBs xs τ h) : 0 ≤ (tvI (tF h 54 5)).toInt ∧ (tvI (tF h 54 5)).toInt ≤ 200 := (tkd_i hB (p := 54) (t := 30) (b := 5) rfl rfl rfl).2
theorem kb_54_9 (hB : zBs xs τ h) : 0 ≤ (tvI (tF h 54 9)).toInt ∧ (tvI (tF h 54 9)).toInt ≤ 600 := (tkd_i hB (p := 54) (t := 30) (b := 9) rfl rfl rfl).2
theorem kb_63_8 (hB : zBs xs τ h) : 0 ≤ (tvI (tF h 63 8)).toInt ∧ (tvI (tF h 63 8)).toInt ≤ 200 := (tkd_i hB (p := 63) (t := 39) (b := 8) rfl rfl rfl).2
theorem kb_76_0 (hB : zBs xs τ h) : 0 ≤ (tvI (tF h 76 0)).toInt ∧ (tvI (tF h 76 0)).toInt ≤ 20 := (tkd_i hB (p := 76) (t := 52) (b := 0) rfl rfl rfl).2
theorem kb_81_7 (hB : zBs xs τ h) : 0 ≤ (tvI (tF h 81 7)).toInt ∧ (tvI (tF h 81 7)).toInt ≤ 24 := (tkd_i hB (p := 81) (t := 57) (b := 7) rfl rfl rfl).2
theorem kb_89_4 (hB : zBs xs τ h) : 0 ≤ (tvI (tF h 89 4)).toInt ∧ (tvI (tF h 89 4)).toInt ≤ 20 := (tkd_i hB (p := 89) (t := 65) (b := 4) rfl rfl rfl).2
theorem kb_94_3 (hB : zBs xs τ h) : 0 ≤ (tvI (tF h 94 3)).toInt ∧ (tvI (tF h 94 3)).toInt ≤ 9 := (tkd_i hB (p := 94) (t := 70) (b := 3) rfl rfl rfl).2
theorem kb_94_4 (hB : zBs xs τ h) : (-1) ≤ (tvI (tF h 94 4)).toInt ∧ (tvI (tF h 94 4)).toInt ≤ 2147483647 := (tkd_i hB (p := 94) (t := 70) (b := 4) rfl rfl rfl).2
theorem kb_94_5 (hB : zBs xs τ h) : (-2147483648) ≤ (tvI (tF h 94 5)).toInt ∧ (tvI (tF h 94 5)).toInt ≤ 999999 := (tkd_i hB (p := 94) (t := 70) (b := 5) rfl rfl rfl).2
theorem kb_111_0 (hB : zBs xs τ h) : 0 ≤ (tvI (tF h 111 0)).toInt ∧ (tvI (tF h 111 0)).toInt ≤ 0 := (tkd_i hB (p := 111) (t := 79) (b := 0) rfl rfl rfl).2
theorem kb_111_1 (hB : zBs xs τ h) : 0 ≤ (tvI (tF h 111 1)).toInt ∧ (tvI (tF h 111 1)).toInt ≤ 599 := (tkd_i hB (p := 111) (t := 79) (b := 1) rfl rfl rfl).2
theorem kb_111_2 (hB : zBs xs τ h) : 0 ≤ (tvI (tF h 111 2)).toInt ∧ (tvI (tF h 111 2)).toInt ≤ 60 := (tkd_i hB (p := 111) (t := 79) (b := 2) rfl rfl rfl).2
theorem kb_111_3 (hB : zBs xs τ h) : 0 ≤ (tvI (tF h 111 3)).toInt ∧ (tvI (tF h 111 3)).toInt ≤ 8 := (tkd_i hB (p := 111) (t := 79) (b := 3) rfl rfl rfl).2
theorem kb_111_4 (hB : zBs xs τ h) : 0 ≤ (tvI (tF h 111 4)).toInt ∧ (tvI (tF h 111 4)).toInt ≤ 12 := (tkd_i hB (p := 111) (t := 79) (b := 4) rfl rfl rfl).2
theorem kb_111_5 (hB : zBs xs τ h) : 0 ≤ (tvI (tF h 111 5)).toInt ∧ (tvI (tF h 111 5)).toInt ≤ 300 := (tkd_i hB (p := 111) (t := 79) (b := 5) rfl rfl rfl).2
theorem kb_111_6 (hB : zBs xs τ h) : 0 ≤ (tvI (tF h 111 6)).toInt ∧ (tvI (tF h 111 6)).toInt ≤ 400 := (tkd_i hB (p := 111) (t := 79) (b := 6) rfl rfl rfl).2
theorem kb_111_27 (hB : zBs xs τ h) : 0 ≤ (tvI (tF h 111 27)).toInt ∧ (tvI (tF h 111 27)).toInt ≤ 400 := (tkd_i hB (p := 111) (t := 79) (b := 27) rfl rfl rfl).2
theorem kb_111_28 (hB : zBs xs τ h) : 0 ≤ (tvI (tF h 111 28)).toInt ∧ (tvI (tF h 111 28)).toInt ≤ 402 := (tkd_i hB (p := 111) (t := 79) (b := 28) rfl rfl rfl).2
theorem kb_111_29 (hB : zBs xs τ h) : 0 ≤ (tvI (tF h 111 29)).toInt ∧ (tvI (tF h 111 29)).toInt ≤ 4000 := (tkd_i hB (p := 111) (t := 79) (b := 29) rfl rfl rfl).2
theorem kb_111_30 (hB : zBs xs τ h) : 0 ≤ (tvI (tF h 111 30)).toInt ∧ (tvI (tF h 111 30)).toInt ≤ 10 := (tkd_i hB (p := 111) (t := 79) (b := 30) rfl rfl rfl).2
theorem kb_111_31 (hB : zBs xs τ h) : 0 ≤ (tvI (tF h 111 31)).toInt ∧ (tvI (tF h 111 31)).toInt ≤ 410 := (tkd_i hB (p := 111) (t := 79) (b := 31) rfl rfl rfl).2
theorem kb_111_32 (hB : zBs xs τ h) : (-2147483648) ≤ (tvI (tF h 111 32)).toInt ∧ (tvI (tF h 111 32)).toInt ≤ 2147483647 := (tkd_i hB (p := 111) (t := 79) (b := 32) rfl rfl rfl).2
theorem kb_111_33 (hB : zBs xs τ h) : (-2147483648) ≤ (tvI (tF h 111 33)).toInt ∧ (tvI (tF h 111 33)).toInt ≤ 2147483647 := (tkd_i hB (p := 111) (t := 79) (b := 33) rfl rfl rfl).2
theorem kb_111_34 (hB : zBs xs τ h) : 0 ≤ (tvI (tF h 111 34)).toInt ∧ (tvI (tF h 111 34)).toInt ≤ 400 := (tkd_i hB (p := 111) (t := 79) (b := 34) rfl rfl rfl).2
theorem kb_111_46 (hB : zBs xs τ h) : 0 ≤ (tvI (tF h 111 46)).toInt ∧ (tvI (tF h 111 46)).toInt ≤ 4 := (tkd_i hB (p := 111) (t := 79) (b := 46) rfl rfl rfl).2
theorem kb_111_47 (hB : zBs xs τ h) : 0 ≤ (tvI (tF h 111 47)).toInt ∧ (tvI (tF h 111 47)).toInt ≤ 1 := (tkd_i hB (p := 111) (t := 79) (b := 47) rfl rfl rfl).2
theorem kb_111_50 (hB : zBs xs τ h) : 0 ≤ (tvI (tF h 111 50)).toInt ∧ (tvI (tF h 111 50)).toInt ≤ 200 := (tkd_i hB (p := 111) (t := 79) (b := 50) rfl rfl rfl).2
theorem kb_111_51 (hB : zBs xs τ h) : 0 ≤ (tvI (tF h 111 51)).toInt ∧ (tvI (tF h 111 51)).toInt ≤ 600 := (tkd_i hB (p := 111) (t := 79) (b := 51) rfl rfl rfl).2
theorem kb_111_59 (hB : zBs xs τ h) : 0 ≤ (tvI (tF h 111 59)).toInt ∧ (tvI (tF h 111 59)).toInt ≤ 200 := (tkd_i hB (p := 111) (t := 79) (b := 59) rfl rfl rfl).2
theorem kb_111_71 (hB : zBs xs τ h) : 0 ≤ (tvI (tF h 111 71)).toInt ∧ (tvI (tF h 111 71)).toInt ≤ 20 := (tkd_i hB (p := 111) (t := 79) (b := 71) rfl rfl rfl).2
theorem kb_111_76 (hB : zBs xs τ h) : 0 ≤ (tvI (tF h 111 76)).toInt ∧ (tvI (tF h 111 76)).toInt ≤ 24 := (tkd_i hB (p := 111) (t := 79) (b := 76) rfl rfl rfl).2
theorem kb_111_83 (hB : zBs xs τ h) : 0 ≤ (tvI (tF h 111 83)).toInt ∧ (tvI (tF h 111 83)).toInt ≤ 20 := (tkd_i hB (p := 111) (t := 79) (b := 83) rfl rfl rfl).2
theorem kb_111_90 (hB : zBs xs τ h) : 0 ≤ (tvI (tF h 111 90)).toInt ∧ (tvI (tF h 111 90)).toInt ≤ 9 := (tkd_i hB (p := 111) (t := 79) (b := 90) rfl rfl rfl).2
theorem kb_111_91 (hB : zBs xs τ h) : (-1) ≤ (tvI (tF h 111 91)).toInt ∧ (tvI (tF h 111 91)).toInt ≤ 2147483647 := (tkd_i hB (p := 111) (t := 79) (b := 91) rfl rfl rfl).2
theorem kb_111_92 (hB : zBs xs τ h) : (-2147483648) ≤ (tvI (tF h 111 92)).toInt ∧ (tvI (tF h 111 92)).toInt ≤ 999999 := (tkd_i hB (p := 111) (t := 79) (b := 92) rfl rfl rfl).2
theorem ka_2 (hB : zBs xs τ h) : tN h 2 = 3 ∧ ∀ i, i < 3 → 1 ≤ (tA h 2 i).toInt ∧ (tA h 2 i).toInt ≤ 999 := by
  obtain ⟨a, b, c⟩ := tkd_a hB (p := 2) (t := 3) rfl rfl
  have e : tN h 2 = 3 := by omega
  rw [e] at c
  exact ⟨e, c⟩
theorem ka_3 (hB : zBs xs τ h) : tN h 3 = 8 ∧ ∀ i, i < 8 → 0 ≤ (tA h 3 i).toInt ∧ (tA h 3 i).toInt ≤ 3 := by
  obtain ⟨a, b, c⟩ := tkd_a hB (p := 3) (t := 4) rfl rfl
  have e : tN h 3 = 8 := by omega
  rw [e] at c
  exact ⟨e, c⟩
theorem ka_5 (hB : zBs xs τ h) : tN h 5 = 3 ∧ ∀ i, i < 3 → 0 ≤ (tA h 5 i).toInt ∧ (tA h 5 i).toInt ≤ 99999 := by
  obtain ⟨a, b, c⟩ := tkd_a hB (p := 5) (t := 6) rfl rfl
  have e : tN h 5 = 3 := by omega
  rw [e] at c
  exact ⟨e, c⟩
theorem ka_6 (hB : zBs xs τ h) : tN h 6 = 3 ∧ ∀ i, i < 3 → 0 ≤ (tA h 6 i).toInt ∧ (tA h 6 i).toInt ≤ 99999 := by
  obtain ⟨a, b, c⟩ := tkd_a hB (p := 6) (t := 6) rfl rfl
  have e : tN h 6 = 3 := by omega
  rw [e] at c
  exact ⟨e, c⟩
theorem ka_7 (hB : zBs xs τ h) : tN h 7 = 3 ∧ ∀ i, i < 3 → 0 ≤ (tA h 7 i).toInt ∧ (tA h 7 i).toInt ≤ 99999 := by
  obtain ⟨a, b, c⟩ := tkd_a hB (p := 7) (t := 6) rfl rfl
  have e : tN h 7 = 3 := by omega
  rw [e] at c
  exact ⟨e, c⟩
theorem ka_8 (hB : zBs xs τ h) : tN h 8 = 3 ∧ ∀ i, i < 3 → 0 ≤ (tA h 8 i).toInt ∧ (tA h 8 i).toInt ≤ 99999 := by
  obtain ⟨a, b, c⟩ := tkd_a hB (p := 8) (t := 6) rfl rfl
  have e : tN h 8 = 3 := by omega
  rw [e] at c
  exact ⟨e, c⟩
theorem ka_9 (hB : zBs xs τ h) : tN h 9 = 3 ∧ ∀ i, i < 3 → 0 ≤ (tA h 9 i).toInt ∧ (tA h 9 i).toInt ≤ 99999 := by
  obtain ⟨a, b, c⟩ := tkd_a hB (p := 9) (t := 6) rfl rfl
  have e : tN h 9 = 3 := by omega
  rw [e] at c
  exact ⟨e, c⟩
theorem ka_10 (hB : zBs xs τ h) : tN h 10 = 3 ∧ ∀ i, i < 3 → 0 ≤ (tA h 10 i).toInt ∧ (tA h 10 i).toInt ≤ 99999 := by
  obtain ⟨a, b, c⟩ := tkd_a hB (p := 10) (t := 6) rfl rfl
  have e : tN h 10 = 3 := by omega
  rw [e] at c
  exact ⟨e, c⟩
theorem ka_11 (hB : zBs xs τ h) : tN h 11 = 3 ∧ ∀ i, i < 3 → 0 ≤ (tA h 11 i).toInt ∧ (tA h 11 i).toInt ≤ 99999 := by
  obtain ⟨a, b, c⟩ := tkd_a hB (p := 11) (t := 6) rfl rfl
  have e : tN h 11 = 3 := by omega
  rw [e] at c
  exact ⟨e, c⟩
theorem ka_12 (hB : zBs xs τ h) : tN h 12 = 3 ∧ ∀ i, i < 3 → 0 ≤ (tA h 12 i).toInt ∧ (tA h 12 i).toInt ≤ 99999 := by
  obtain ⟨a, b, c⟩ := tkd_a hB (p := 12) (t := 6) rfl rfl
  have e : tN h 12 = 3 := by omega
  rw [e] at c
  exact ⟨e, c⟩
theorem ka_13 (hB : zBs xs τ h) : tN h 13 = 12 ∧ ∀ i, i < 12 → 0 ≤ (tA h 13 i).toInt ∧ (tA h 13 i).toInt ≤ 9999 := by
  obtain ⟨a, b, c⟩ := tkd_a hB (p := 13) (t := 7) rfl rfl
  have e : tN h 13 = 12 := by omega
  rw [e] at c
  exact ⟨e, c⟩
theorem ka_15 (hB : zBs xs τ h) : tN h 15 = 3 ∧ ∀ i, i < 3 → 0 ≤ (tA h 15 i).toInt ∧ (tA h 15 i).toInt ≤ 9999 := by
  obtain ⟨a, b, c⟩ := tkd_a hB (p := 15) (t := 9) rfl rfl
  have e : tN h 15 = 3 := by omega
  rw [e] at c
  exact ⟨e, c⟩
theorem ka_16 (hB : zBs xs τ h) : tN h 16 = 3 ∧ ∀ i, i < 3 → 0 ≤ (tA h 16 i).toInt ∧ (tA h 16 i).toInt ≤ 9999 := by
  obtain ⟨a, b, c⟩ := tkd_a hB (p := 16) (t := 9) rfl rfl
  have e : tN h 16 = 3 := by omega
  rw [e] at c
  exact ⟨e, c⟩
theorem ka_17 (hB : zBs xs τ h) : tN h 17 = 3 ∧ ∀ i, i < 3 → 0 ≤ (tA h 17 i).toInt ∧ (tA h 17 i).toInt ≤ 9999 := by
  obtain ⟨a, b, c⟩ := tkd_a hB (p := 17) (t := 9) rfl rfl
  have e : tN h 17 = 3 := by omega
  rw [e] at c
  exact ⟨e, c⟩
theorem ka_18 (hB : zBs xs τ h) : tN h 18 = 3 ∧ ∀ i, i < 3 → 0 ≤ (tA h 18 i).toInt ∧ (tA h 18 i).toInt ≤ 9999 := by
  obtain ⟨a, b, c⟩ := tkd_a hB (p := 18) (t := 9) rfl rfl
  have e : tN h 18 = 3 := by omega
  rw [e] at c
  exact ⟨e, c⟩
theorem ka_19 (hB : zBs xs τ h) : tN h 19 = 3 ∧ ∀ i, i < 3 → 0 ≤ (tA h 19 i).toInt ∧ (tA h 19 i).toInt ≤ 9999 := by
  obtain ⟨a, b, c⟩ := tkd_a hB (p := 19) (t := 9) rfl rfl
  have e : tN h 19 = 3 := by omega
  rw [e] at c
  exact ⟨e, c⟩
theorem ka_20 (hB : zBs xs τ h) : tN h 20 = 3 ∧ ∀ i, i < 3 → 0 ≤ (tA h 20 i).toInt ∧ (tA h 20 i).toInt ≤ 9999 := by
  obtain ⟨a, b, c⟩ := tkd_a hB (p := 20) (t := 9) rfl rfl
  have e : tN h 20 = 3 := by omega
  rw [e] at c
  exact ⟨e, c⟩
theorem ka_21 (hB : zBs xs τ h) : tN h 21 = 3 ∧ ∀ i, i < 3 → 0 ≤ (tA h 21 i).toInt ∧ (tA h 21 i).toInt ≤ 9999 := by
  obtain ⟨a, b, c⟩ := tkd_a hB (p := 21) (t := 9) rfl rfl
  have e : tN h 21 = 3 := by omega
  rw [e] at c
  exact ⟨e, c⟩
theorem ka_22 (hB : zBs xs τ h) : tN h 22 = 3 ∧ ∀ i, i < 3 → 0 ≤ (tA h 22 i).toInt ∧ (tA h 22 i).toInt ≤ 9999 := by
  obtain ⟨a, b, c⟩ := tkd_a hB (p := 22) (t := 9) rfl rfl
  have e : tN h 22 = 3 := by omega
  rw [e] at c
  exact ⟨e, c⟩
theorem ka_23 (hB : zBs xs τ h) : tN h 23 = 3 ∧ ∀ i, i < 3 → 0 ≤ (tA h 23 i).toInt ∧ (tA h 23 i).toInt ≤ 9999 := by
  obtain ⟨a, b, c⟩ := tkd_a hB (p := 23) (t := 9) rfl rfl
  have e : tN h 23 = 3 := by omega
  rw [e] at c
  exact ⟨e, c⟩
theorem ka_24 (hB : zBs xs τ h) : tN h 24 = 3 ∧ ∀ i, i < 3 → 0 ≤ (tA h 24 i).toInt ∧ (tA h 24 i).toInt ≤ 9999 := by
  obtain ⟨a, b, c⟩ := tkd_a hB (p := 24) (t := 9) rfl rfl
  have e : tN h 24 = 3 := by omega
  rw [e] at c
  exact ⟨e, c⟩
theorem ka_25 (hB : zBs xs τ h) : tN h 25 = 3 ∧ ∀ i, i < 3 → 0 ≤ (tA h 25 i).toInt ∧ (tA h 25 i).toInt ≤ 9999 := by
  obtain ⟨a, b, c⟩ := tkd_a hB (p := 25) (t := 9) rfl rfl
  have e : tN h 25 = 3 := by omega
  rw [e] at c
  exact ⟨e, c⟩
theorem ka_26 (hB : zBs xs τ h) : tN h 26 = 3 ∧ ∀ i, i < 3 → 0 ≤ (tA h 26 i).toInt ∧ (tA h 26 i).toInt ≤ 9999 := by
  obtain ⟨a, b, c⟩ := tkd_a hB (p := 26) (t := 9) rfl rfl
  have e : tN h 26 = 3 := by omega
  rw [e] at c
  exact ⟨e, c⟩
theorem ka_28 (hB : zBs xs τ h) : tN h 28 = 12 ∧ ∀ i, i < 12 → 0 ≤ (tA h 28 i).toInt ∧ (tA h 28 i).toInt ≤ 600 := by
  obtain ⟨a, b, c⟩ := tkd_a hB (p := 28) (t := 11) rfl rfl
  have e : tN h 28 = 12 := by omega
  rw [e] at c
  exact ⟨e, c⟩
theorem ka_29 (hB : zBs xs τ h) : tN h 29 = 12 ∧ ∀ i, i < 12 → 0 ≤ (tA h 29 i).toInt ∧ (tA h 29 i).toInt ≤ 600 := by
  obtain ⟨a, b, c⟩ := tkd_a hB (p := 29) (t := 11) rfl rfl
  have e : tN h 29 = 12 := by omega
  rw [e] at c
  exact ⟨e, c⟩
theorem ka_30 (hB : zBs xs τ h) : tN h 30 = 12 ∧ ∀ i, i < 12 → 0 ≤ (tA h 30 i).toInt ∧ (tA h 30 i).toInt ≤ 600 := by
  obtain ⟨a, b, c⟩ := tkd_a hB (p := 30) (t := 11) rfl rfl
  have e : tN h 30 = 12 := by omega
  rw [e] at c
  exact ⟨e, c⟩
theorem ka_31 (hB : zBs xs τ h) : tN h 31 = 12 ∧ ∀ i, i < 12 → 0 ≤ (tA h 31 i).toInt ∧ (tA h 31 i).toInt ≤ 600 := by
  obtain ⟨a, b, c⟩ := tkd_a hB (p := 31) (t := 11) rfl rfl
  have e : tN h 31 = 12 := by omega
  rw [e] at c
  exact ⟨e, c⟩
theorem ka_32 (hB : zBs xs τ h) : tN h 32 = 12 ∧ ∀ i, i < 12 → 0 ≤ (tA h 32 i).toInt ∧ (tA h 32 i).toInt ≤ 600 := by
  obtain ⟨a, b, c⟩ := tkd_a hB (p := 32) (t := 11) rfl rfl
  have e : tN h 32 = 12 := by omega
  rw [e] at c
  exact ⟨e, c⟩
theorem ka_33 (hB : zBs xs τ h) : tN h 33 = 12 ∧ ∀ i, i < 12 → 0 ≤ (tA h 33 i).toInt ∧ (tA h 33 i).toInt ≤ 600 := by
  obtain ⟨a, b, c⟩ := tkd_a hB (p := 33) (t := 11) rfl rfl
  have e : tN h 33 = 12 := by omega
  rw [e] at c
  exact ⟨e, c⟩
theorem ka_34 (hB : zBs xs τ h) : tN h 34 = 12 ∧ ∀ i, i < 12 → 0 ≤ (tA h 34 i).toInt ∧ (tA h 34 i).toInt ≤ 600 := by
  obtain ⟨a, b, c⟩ := tkd_a hB (p := 34) (t := 11) rfl rfl
  have e : tN h 34 = 12 := by omega
  rw [e] at c
  exact ⟨e, c⟩
theorem ka_35 (hB : zBs xs τ h) : tN h 35 = 12 ∧ ∀ i, i < 12 → 0 ≤ (tA h 35 i).toInt ∧ (tA h 35 i).toInt ≤ 600 := by
  obtain ⟨a, b, c⟩ := tkd_a hB (p := 35) (t := 11) rfl rfl
  have e : tN h 35 = 12 := by omega
  rw [e] at c
  exact ⟨e, c⟩
theorem ka_37 (hB : zBs xs τ h) : tN h 37 = 60 ∧ ∀ i, i < 60 → (-1) ≤ (tA h 37 i).toInt ∧ (tA h 37 i).toInt ≤ 3 := by
  obtain ⟨a, b, c⟩ := tkd_a hB (p := 37) (t := 13) rfl rfl
  have e : tN h 37 = 60 := by omega
  rw [e] at c
  exact ⟨e, c⟩
theorem ka_38 (hB : zBs xs τ h) : tN h 38 = 60 ∧ ∀ i, i < 60 → 0 ≤ (tA h 38 i).toInt ∧ (tA h 38 i).toInt ≤ 1 := by
  obtain ⟨a, b, c⟩ := tkd_a hB (p := 38) (t := 14) rfl rfl
  have e : tN h 38 = 60 := by omega
  rw [e] at c
  exact ⟨e, c⟩
theorem ka_40 (hB : zBs xs τ h) : tN h 40 = 400 ∧ ∀ i, i < 400 → 0 ≤ (tA h 40 i).toInt ∧ (tA h 40 i).toInt ≤ 299 := by
  obtain ⟨a, b, c⟩ := tkd_a hB (p := 40) (t := 16) rfl rfl
  have e : tN h 40 = 400 := by omega
  rw [e] at c
  exact ⟨e, c⟩
theorem ka_41 (hB : zBs xs τ h) : tN h 41 = 400 ∧ ∀ i, i < 400 → 0 ≤ (tA h 41 i).toInt ∧ (tA h 41 i).toInt ≤ 59 := by
  obtain ⟨a, b, c⟩ := tkd_a hB (p := 41) (t := 17) rfl rfl
  have e : tN h 41 = 400 := by omega
  rw [e] at c
  exact ⟨e, c⟩
theorem ka_42 (hB : zBs xs τ h) : tN h 42 = 400 ∧ ∀ i, i < 400 → 0 ≤ (tA h 42 i).toInt ∧ (tA h 42 i).toInt ≤ 599 := by
  obtain ⟨a, b, c⟩ := tkd_a hB (p := 42) (t := 18) rfl rfl
  have e : tN h 42 = 400 := by omega
  rw [e] at c
  exact ⟨e, c⟩
theorem ka_43 (hB : zBs xs τ h) : tN h 43 = 400 ∧ ∀ i, i < 400 → 0 ≤ (tA h 43 i).toInt ∧ (tA h 43 i).toInt ≤ 599 := by
  obtain ⟨a, b, c⟩ := tkd_a hB (p := 43) (t := 19) rfl rfl
  have e : tN h 43 = 400 := by omega
  rw [e] at c
  exact ⟨e, c⟩
theorem ka_45 (hB : zBs xs τ h) : tN h 45 = 400 ∧ ∀ i, i < 400 → (-128) ≤ (tA h 45 i).toInt ∧ (tA h 45 i).toInt ≤ 127 := by
  obtain ⟨a, b, c⟩ := tkd_a hB (p := 45) (t := 21) rfl rfl
  have e : tN h 45 = 400 := by omega
  rw [e] at c
  exact ⟨e, c⟩
theorem ka_46 (hB : zBs xs τ h) : tN h 46 = 400 ∧ ∀ i, i < 400 → 0 ≤ (tA h 46 i).toInt ∧ (tA h 46 i).toInt ≤ 100110 := by
  obtain ⟨a, b, c⟩ := tkd_a hB (p := 46) (t := 22) rfl rfl
  have e : tN h 46 = 400 := by omega
  rw [e] at c
  exact ⟨e, c⟩
theorem ka_47 (hB : zBs xs τ h) : tN h 47 = 48 ∧ ∀ i, i < 48 → 0 ≤ (tA h 47 i).toInt ∧ (tA h 47 i).toInt ≤ 400 := by
  obtain ⟨a, b, c⟩ := tkd_a hB (p := 47) (t := 23) rfl rfl
  have e : tN h 47 = 48 := by omega
  rw [e] at c
  exact ⟨e, c⟩
theorem ka_49 (hB : zBs xs τ h) : tN h 49 = 10 ∧ ∀ i, i < 10 → 0 ≤ (tA h 49 i).toInt ∧ (tA h 49 i).toInt ≤ 599 := by
  obtain ⟨a, b, c⟩ := tkd_a hB (p := 49) (t := 25) rfl rfl
  have e : tN h 49 = 10 := by omega
  rw [e] at c
  exact ⟨e, c⟩
theorem ka_55 (hB : zBs xs τ h) : tN h 55 = 200 ∧ ∀ i, i < 200 → 0 ≤ (tA h 55 i).toInt ∧ (tA h 55 i).toInt ≤ 7 := by
  obtain ⟨a, b, c⟩ := tkd_a hB (p := 55) (t := 31) rfl rfl
  have e : tN h 55 = 200 := by omega
  rw [e] at c
  exact ⟨e, c⟩
theorem ka_56 (hB : zBs xs τ h) : tN h 56 = 200 ∧ ∀ i, i < 200 → 0 ≤ (tA h 56 i).toInt ∧ (tA h 56 i).toInt ≤ 2 := by
  obtain ⟨a, b, c⟩ := tkd_a hB (p := 56) (t := 32) rfl rfl
  have e : tN h 56 = 200 := by omega
  rw [e] at c
  exact ⟨e, c⟩
theorem ka_57 (hB : zBs xs τ h) : tN h 57 = 200 ∧ ∀ i, i < 200 → 0 ≤ (tA h 57 i).toInt ∧ (tA h 57 i).toInt ≤ 200 := by
  obtain ⟨a, b, c⟩ := tkd_a hB (p := 57) (t := 33) rfl rfl
  have e : tN h 57 = 200 := by omega
  rw [e] at c
  exact ⟨e, c⟩
theorem ka_58 (hB : zBs xs τ h) : tN h 58 = 200 ∧ ∀ i, i < 200 → 0 ≤ (tA h 58 i).toInt ∧ (tA h 58 i).toInt ≤ 1 := by
  obtain ⟨a, b, c⟩ := tkd_a hB (p := 58) (t := 34) rfl rfl
  have e : tN h 58 = 200 := by omega
  rw [e] at c
  exact ⟨e, c⟩
theorem ka_60 (hB : zBs xs τ h) : tN h 60 = 600 ∧ ∀ i, i < 600 → 0 ≤ (tA h 60 i).toInt ∧ (tA h 60 i).toInt ≤ 199 := by
  obtain ⟨a, b, c⟩ := tkd_a hB (p := 60) (t := 36) rfl rfl
  have e : tN h 60 = 600 := by omega
  rw [e] at c
  exact ⟨e, c⟩
theorem ka_61 (hB : zBs xs τ h) : tN h 61 = 600 ∧ ∀ i, i < 600 → 0 ≤ (tA h 61 i).toInt ∧ (tA h 61 i).toInt ≤ 59 := by
  obtain ⟨a, b, c⟩ := tkd_a hB (p := 61) (t := 37) rfl rfl
  have e : tN h 61 = 600 := by omega
  rw [e] at c
  exact ⟨e, c⟩
theorem ka_62 (hB : zBs xs τ h) : tN h 62 = 600 ∧ ∀ i, i < 600 → 0 ≤ (tA h 62 i).toInt ∧ (tA h 62 i).toInt ≤ 599 := by
  obtain ⟨a, b, c⟩ := tkd_a hB (p := 62) (t := 38) rfl rfl
  have e : tN h 62 = 600 := by omega
  rw [e] at c
  exact ⟨e, c⟩
theorem ka_64 (hB : zBs xs τ h) : tN h 64 = 200 ∧ ∀ i, i < 200 → 0 ≤ (tA h 64 i).toInt ∧ (tA h 64 i).toInt ≤ 299 := by
  obtain ⟨a, b, c⟩ := tkd_a hB (p := 64) (t := 40) rfl rfl
  have e : tN h 64 = 200 := by omega
  rw [e] at c
  exact ⟨e, c⟩
theorem ka_65 (hB : zBs xs τ h) : tN h 65 = 200 ∧ ∀ i, i < 200 → 0 ≤ (tA h 65 i).toInt ∧ (tA h 65 i).toInt ≤ 7 := by
  obtain ⟨a, b, c⟩ := tkd_a hB (p := 65) (t := 41) rfl rfl
  have e : tN h 65 = 200 := by omega
  rw [e] at c
  exact ⟨e, c⟩
theorem ka_66 (hB : zBs xs τ h) : tN h 66 = 200 ∧ ∀ i, i < 200 → 0 ≤ (tA h 66 i).toInt ∧ (tA h 66 i).toInt ≤ 599 := by
  obtain ⟨a, b, c⟩ := tkd_a hB (p := 66) (t := 42) rfl rfl
  have e : tN h 66 = 200 := by omega
  rw [e] at c
  exact ⟨e, c⟩
theorem ka_67 (hB : zBs xs τ h) : tN h 67 = 200 ∧ ∀ i, i < 200 → 0 ≤ (tA h 67 i).toInt ∧ (tA h 67 i).toInt ≤ 599 := by
  obtain ⟨a, b, c⟩ := tkd_a hB (p := 67) (t := 43) rfl rfl
  have e : tN h 67 = 200 := by omega
  rw [e] at c
  exact ⟨e, c⟩
theorem ka_68 (hB : zBs xs τ h) : tN h 68 = 200 ∧ ∀ i, i < 200 → 0 ≤ (tA h 68 i).toInt ∧ (tA h 68 i).toInt ≤ 2 := by
  obtain ⟨a, b, c⟩ := tkd_a hB (p := 68) (t := 44) rfl rfl
  have e : tN h 68 = 200 := by omega
  rw [e] at c
  exact ⟨e, c⟩
theorem ka_69 (hB : zBs xs τ h) : tN h 69 = 200 ∧ ∀ i, i < 200 → 0 ≤ (tA h 69 i).toInt ∧ (tA h 69 i).toInt ≤ 200 := by
  obtain ⟨a, b, c⟩ := tkd_a hB (p := 69) (t := 45) rfl rfl
  have e : tN h 69 = 200 := by omega
  rw [e] at c
  exact ⟨e, c⟩
theorem ka_70 (hB : zBs xs τ h) : tN h 70 = 200 ∧ ∀ i, i < 200 → 0 ≤ (tA h 70 i).toInt ∧ (tA h 70 i).toInt ≤ 9 := by
  obtain ⟨a, b, c⟩ := tkd_a hB (p := 70) (t := 46) rfl rfl
  have e : tN h 70 = 200 := by omega
  rw [e] at c
  exact ⟨e, c⟩
theorem ka_71 (hB : zBs xs τ h) : tN h 71 = 200 ∧ ∀ i, i < 200 → 0 ≤ (tA h 71 i).toInt ∧ (tA h 71 i).toInt ≤ 1 := by
  obtain ⟨a, b, c⟩ := tkd_a hB (p := 71) (t := 47) rfl rfl
  have e : tN h 71 = 200 := by omega
  rw [e] at c
  exact ⟨e, c⟩
theorem ka_72 (hB : zBs xs τ h) : tN h 72 = 9 ∧ ∀ i, i < 9 → (-2147483648) ≤ (tA h 72 i).toInt ∧ (tA h 72 i).toInt ≤ 2147483647 := by
  obtain ⟨a, b, c⟩ := tkd_a hB (p := 72) (t := 48) rfl rfl
  have e : tN h 72 = 9 := by omega
  rw [e] at c
  exact ⟨e, c⟩
theorem ka_73 (hB : zBs xs τ h) : tN h 73 = 9 ∧ ∀ i, i < 9 → (-2147483648) ≤ (tA h 73 i).toInt ∧ (tA h 73 i).toInt ≤ 2147483647 := by
  obtain ⟨a, b, c⟩ := tkd_a hB (p := 73) (t := 49) rfl rfl
  have e : tN h 73 = 9 := by omega
  rw [e] at c
  exact ⟨e, c⟩
theorem ka_74 (hB : zBs xs τ h) : tN h 74 = 9 ∧ ∀ i, i < 9 → (-2147483648) ≤ (tA h 74 i).toInt ∧ (tA h 74 i).toInt ≤ 2147483647 := by
  obtain ⟨a, b, c⟩ := tkd_a hB (p := 74) (t := 50) rfl rfl
  have e : tN h 74 = 9 := by omega
  rw [e] at c
  exact ⟨e, c⟩
theorem ka_75 (hB : zBs xs τ h) : tN h 75 = 9 ∧ ∀ i, i < 9 → (-2147483648) ≤ (tA h 75 i).toInt ∧ (tA h 75 i).toInt ≤ 2147483647 := by
  obtain ⟨a, b, c⟩ := tkd_a hB (p := 75) (t := 51) rfl rfl
  have e : tN h 75 = 9 := by omega
  rw [e] at c
  exact ⟨e, c⟩
theorem ka_77 (hB : zBs xs τ h) : tN h 77 = 20 ∧ ∀ i, i < 20 → 0 ≤ (tA h 77 i).toInt ∧ (tA h 77 i).toInt ≤ 6 := by
  obtain ⟨a, b, c⟩ := tkd_a hB (p := 77) (t := 53) rfl rfl
  have e : tN h 77 = 20 := by omega
  rw [e] at c
  exact ⟨e, c⟩
theorem ka_78 (hB : zBs xs τ h) : tN h 78 = 120 ∧ ∀ i, i < 120 → 0 ≤ (tA h 78 i).toInt ∧ (tA h 78 i).toInt ≤ 1 := by
  obtain ⟨a, b, c⟩ := tkd_a hB (p := 78) (t := 54) rfl rfl
  have e : tN h 78 = 120 := by omega
  rw [e] at c
  exact ⟨e, c⟩
theorem ka_79 (hB : zBs xs τ h) : tN h 79 = 120 ∧ ∀ i, i < 120 → 0 ≤ (tA h 79 i).toInt ∧ (tA h 79 i).toInt ≤ 999999 := by
  obtain ⟨a, b, c⟩ := tkd_a hB (p := 79) (t := 55) rfl rfl
  have e : tN h 79 = 120 := by omega
  rw [e] at c
  exact ⟨e, c⟩
theorem ka_80 (hB : zBs xs τ h) : tN h 80 = 120 ∧ ∀ i, i < 120 → 0 ≤ (tA h 80 i).toInt ∧ (tA h 80 i).toInt ≤ 9999999 := by
  obtain ⟨a, b, c⟩ := tkd_a hB (p := 80) (t := 56) rfl rfl
  have e : tN h 80 = 120 := by omega
  rw [e] at c
  exact ⟨e, c⟩
theorem ka_82 (hB : zBs xs τ h) : tN h 82 = 24 ∧ ∀ i, i < 24 → 0 ≤ (tA h 82 i).toInt ∧ (tA h 82 i).toInt ≤ 99 := by
  obtain ⟨a, b, c⟩ := tkd_a hB (p := 82) (t := 58) rfl rfl
  have e : tN h 82 = 24 := by omega
  rw [e] at c
  exact ⟨e, c⟩
theorem ka_83 (hB : zBs xs τ h) : tN h 83 = 24 ∧ ∀ i, i < 24 → (-1) ≤ (tA h 83 i).toInt ∧ (tA h 83 i).toInt ≤ 3 := by
  obtain ⟨a, b, c⟩ := tkd_a hB (p := 83) (t := 59) rfl rfl
  have e : tN h 83 = 24 := by omega
  rw [e] at c
  exact ⟨e, c⟩
theorem ka_84 (hB : zBs xs τ h) : tN h 84 = 24 ∧ ∀ i, i < 24 → 0 ≤ (tA h 84 i).toInt ∧ (tA h 84 i).toInt ≤ 2147483647 := by
  obtain ⟨a, b, c⟩ := tkd_a hB (p := 84) (t := 60) rfl rfl
  have e : tN h 84 = 24 := by omega
  rw [e] at c
  exact ⟨e, c⟩
theorem ka_85 (hB : zBs xs τ h) : tN h 85 = 24 ∧ ∀ i, i < 24 → 0 ≤ (tA h 85 i).toInt ∧ (tA h 85 i).toInt ≤ 9999 := by
  obtain ⟨a, b, c⟩ := tkd_a hB (p := 85) (t := 61) rfl rfl
  have e : tN h 85 = 24 := by omega
  rw [e] at c
  exact ⟨e, c⟩
theorem ka_86 (hB : zBs xs τ h) : tN h 86 = 24 ∧ ∀ i, i < 24 → 0 ≤ (tA h 86 i).toInt ∧ (tA h 86 i).toInt ≤ 2147483647 := by
  obtain ⟨a, b, c⟩ := tkd_a hB (p := 86) (t := 62) rfl rfl
  have e : tN h 86 = 24 := by omega
  rw [e] at c
  exact ⟨e, c⟩
theorem ka_87 (hB : zBs xs τ h) : tN h 87 = 24 ∧ ∀ i, i < 24 → (-2147483648) ≤ (tA h 87 i).toInt ∧ (tA h 87 i).toInt ≤ 2147483647 := by
  obtain ⟨a, b, c⟩ := tkd_a hB (p := 87) (t := 63) rfl rfl
  have e : tN h 87 = 24 := by omega
  rw [e] at c
  exact ⟨e, c⟩
theorem ka_88 (hB : zBs xs τ h) : tN h 88 = 24 ∧ ∀ i, i < 24 → (-2147483648) ≤ (tA h 88 i).toInt ∧ (tA h 88 i).toInt ≤ 2147483647 := by
  obtain ⟨a, b, c⟩ := tkd_a hB (p := 88) (t := 63) rfl rfl
  have e : tN h 88 = 24 := by omega
  rw [e] at c
  exact ⟨e, c⟩
theorem ka_90 (hB : zBs xs τ h) : tN h 90 = 20 ∧ ∀ i, i < 20 → 0 ≤ (tA h 90 i).toInt ∧ (tA h 90 i).toInt ≤ 7 := by
  obtain ⟨a, b, c⟩ := tkd_a hB (p := 90) (t := 66) rfl rfl
  have e : tN h 90 = 20 := by omega
  rw [e] at c
  exact ⟨e, c⟩
theorem ka_91 (hB : zBs xs τ h) : tN h 91 = 20 ∧ ∀ i, i < 20 → 0 ≤ (tA h 91 i).toInt ∧ (tA h 91 i).toInt ≤ 599 := by
  obtain ⟨a, b, c⟩ := tkd_a hB (p := 91) (t := 67) rfl rfl
  have e : tN h 91 = 20 := by omega
  rw [e] at c
  exact ⟨e, c⟩
theorem ka_92 (hB : zBs xs τ h) : tN h 92 = 20 ∧ ∀ i, i < 20 → 0 ≤ (tA h 92 i).toInt ∧ (tA h 92 i).toInt ≤ 599 := by
  obtain ⟨a, b, c⟩ := tkd_a hB (p := 92) (t := 68) rfl rfl
  have e : tN h 92 = 20 := by omega
  rw [e] at c
  exact ⟨e, c⟩
theorem ka_93 (hB : zBs xs τ h) : tN h 93 = 20 ∧ ∀ i, i < 20 → 0 ≤ (tA h 93 i).toInt ∧ (tA h 93 i).toInt ≤ 11 := by
  obtain ⟨a, b, c⟩ := tkd_a hB (p := 93) (t := 69) rfl rfl
  have e : tN h 93 = 20 := by omega
  rw [e] at c
  exact ⟨e, c⟩
theorem ka_95 (hB : zBs xs τ h) : tN h 95 = 9 ∧ ∀ i, i < 9 → 0 ≤ (tA h 95 i).toInt ∧ (tA h 95 i).toInt ≤ 99999 := by
  obtain ⟨a, b, c⟩ := tkd_a hB (p := 95) (t := 71) rfl rfl
  have e : tN h 95 = 9 := by omega
  rw [e] at c
  exact ⟨e, c⟩
theorem ka_96 (hB : zBs xs τ h) : tN h 96 = 9 ∧ ∀ i, i < 9 → 0 ≤ (tA h 96 i).toInt ∧ (tA h 96 i).toInt ≤ 999 := by
  obtain ⟨a, b, c⟩ := tkd_a hB (p := 96) (t := 72) rfl rfl
  have e : tN h 96 = 9 := by omega
  rw [e] at c
  exact ⟨e, c⟩
theorem ka_98 (hB : zBs xs τ h) : tN h 98 = 9 ∧ ∀ i, i < 9 → 0 ≤ (tA h 98 i).toInt ∧ (tA h 98 i).toInt ≤ 999 := by
  obtain ⟨a, b, c⟩ := tkd_a hB (p := 98) (t := 74) rfl rfl
  have e : tN h 98 = 9 := by omega
  rw [e] at c
  exact ⟨e, c⟩
theorem ka_99 (hB : zBs xs τ h) : tN h 99 = 9 ∧ ∀ i, i < 9 → 0 ≤ (tA h 99 i).toInt ∧ (tA h 99 i).toInt ≤ 999 := by
  obtain ⟨a, b, c⟩ := tkd_a hB (p := 99) (t := 74) rfl rfl
  have e : tN h 99 = 9 := by omega
  rw [e] at c
  exact ⟨e, c⟩
theorem ka_100 (hB : zBs xs τ h) : tN h 100 = 9 ∧ ∀ i, i < 9 → 0 ≤ (tA h 100 i).toInt ∧ (tA h 100 i).toInt ≤ 999 := by
  obtain ⟨a, b, c⟩ := tkd_a hB (p := 100) (t := 74) rfl rfl
  have e : tN h 100 = 9 := by omega
  rw [e] at c
  exact ⟨e, c⟩
theorem ka_101 (hB : zBs xs τ h) : tN h 101 = 9 ∧ ∀ i, i < 9 → 0 ≤ (tA h 101 i).toInt ∧ (tA h 101 i).toInt ≤ 999 := by
  obtain ⟨a, b, c⟩ := tkd_a hB (p := 101) (t := 74) rfl rfl
  have e : tN h 101 = 9 := by omega
  rw [e] at c
  exact ⟨e, c⟩
theorem ka_102 (hB : zBs xs τ h) : tN h 102 = 9 ∧ ∀ i, i < 9 → 0 ≤ (tA h 102 i).toInt ∧ (tA h 102 i).toInt ≤ 999 := by
  obtain ⟨a, b, c⟩ := tkd_a hB (p := 102) (t := 74) rfl rfl
  have e : tN h 102 = 9 := by omega
  rw [e] at c
  exact ⟨e, c⟩
theorem ka_103 (hB : zBs xs τ h) : tN h 103 = 9 ∧ ∀ i, i < 9 → 0 ≤ (tA h 103 i).toInt ∧ (tA h 103 i).toInt ≤ 999 := by
  obtain ⟨a, b, c⟩ := tkd_a hB (p := 103) (t := 74) rfl rfl
  have e : tN h 103 = 9 := by omega
  rw [e] at c
  exact ⟨e, c⟩
theorem ka_104 (hB : zBs xs τ h) : tN h 104 = 9 ∧ ∀ i, i < 9 → 0 ≤ (tA h 104 i).toInt ∧ (tA h 104 i).toInt ≤ 999 := by
  obtain ⟨a, b, c⟩ := tkd_a hB (p := 104) (t := 74) rfl rfl
  have e : tN h 104 = 9 := by omega
  rw [e] at c
  exact ⟨e, c⟩
theorem ka_105 (hB : zBs xs τ h) : tN h 105 = 9 ∧ ∀ i, i < 9 → 0 ≤ (tA h 105 i).toInt ∧ (tA h 105 i).toInt ≤ 999 := by
  obtain ⟨a, b, c⟩ := tkd_a hB (p := 105) (t := 74) rfl rfl
  have e : tN h 105 = 9 := by omega
  rw [e] at c
  exact ⟨e, c⟩
theorem ka_106 (hB : zBs xs τ h) : tN h 106 = 9 ∧ ∀ i, i < 9 → 0 ≤ (tA h 106 i).toInt ∧ (tA h 106 i).toInt ≤ 999 := by
  obtain ⟨a, b, c⟩ := tkd_a hB (p := 106) (t := 74) rfl rfl
  have e : tN h 106 = 9 := by omega
  rw [e] at c
  exact ⟨e, c⟩
theorem ka_107 (hB : zBs xs τ h) : tN h 107 = 600 ∧ ∀ i, i < 600 → (-2147483648) ≤ (tA h 107 i).toInt ∧ (tA h 107 i).toInt ≤ 2147483647 := by
  obtain ⟨a, b, c⟩ := tkd_a hB (p := 107) (t := 75) rfl rfl
  have e : tN h 107 = 600 := by omega
  rw [e] at c
  exact ⟨e, c⟩
theorem ka_108 (hB : zBs xs τ h) : tN h 108 = 600 ∧ ∀ i, i < 600 → (-2147483648) ≤ (tA h 108 i).toInt ∧ (tA h 108 i).toInt ≤ 2147483647 := by
  obtain ⟨a, b, c⟩ := tkd_a hB (p := 108) (t := 75) rfl rfl
  have e : tN h 108 = 600 := by omega
  rw [e] at c
  exact ⟨e, c⟩
theorem ka_109 (hB : zBs xs τ h) : tN h 109 = 600 ∧ ∀ i, i < 600 → (-2147483648) ≤ (tA h 109 i).toInt ∧ (tA h 109 i).toInt ≤ 2147483647 := by
  obtain ⟨a, b, c⟩ := tkd_a hB (p := 109) (t := 75) rfl rfl
  have e : tN h 109 = 600 := by omega
  rw [e] at c
  exact ⟨e, c⟩
theorem ka_110 (hB : zBs xs τ h) : tN h 110 = 600 ∧ ∀ i, i < 600 → 0 ≤ (tA h 110 i).toInt ∧ (tA h 110 i).toInt ≤ 201 := by
  obtain ⟨a, b, c⟩ := tkd_a hB (p := 110) (t := 78) rfl rfl
  have e : tN h 110 = 600 := by omega
  rw [e] at c
  exact ⟨e, c⟩
theorem ka_112 (hB : zBs xs τ h) : tN h 112 = 60 ∧ ∀ i, i < 60 → (-1) ≤ (tA h 112 i).toInt ∧ (tA h 112 i).toInt ≤ 3 := by
  obtain ⟨a, b, c⟩ := tkd_a hB (p := 112) (t := 80) rfl rfl
  have e : tN h 112 = 60 := by omega
  rw [e] at c
  exact ⟨e, c⟩
theorem ka_113 (hB : zBs xs τ h) : tN h 113 = 3 ∧ ∀ i, i < 3 → 1 ≤ (tA h 113 i).toInt ∧ (tA h 113 i).toInt ≤ 999 := by
  obtain ⟨a, b, c⟩ := tkd_a hB (p := 113) (t := 81) rfl rfl
  have e : tN h 113 = 3 := by omega
  rw [e] at c
  exact ⟨e, c⟩
theorem ka_114 (hB : zBs xs τ h) : tN h 114 = 8 ∧ ∀ i, i < 8 → 0 ≤ (tA h 114 i).toInt ∧ (tA h 114 i).toInt ≤ 3 := by
  obtain ⟨a, b, c⟩ := tkd_a hB (p := 114) (t := 82) rfl rfl
  have e : tN h 114 = 8 := by omega
  rw [e] at c
  exact ⟨e, c⟩
theorem ka_115 (hB : zBs xs τ h) : tN h 115 = 24 ∧ ∀ i, i < 24 → 0 ≤ (tA h 115 i).toInt ∧ (tA h 115 i).toInt ≤ 99999 := by
  obtain ⟨a, b, c⟩ := tkd_a hB (p := 115) (t := 83) rfl rfl
  have e : tN h 115 = 24 := by omega
  rw [e] at c
  exact ⟨e, c⟩
theorem ka_116 (hB : zBs xs τ h) : tN h 116 = 12 ∧ ∀ i, i < 12 → 0 ≤ (tA h 116 i).toInt ∧ (tA h 116 i).toInt ≤ 9999 := by
  obtain ⟨a, b, c⟩ := tkd_a hB (p := 116) (t := 84) rfl rfl
  have e : tN h 116 = 12 := by omega
  rw [e] at c
  exact ⟨e, c⟩
theorem ka_117 (hB : zBs xs τ h) : tN h 117 = 36 ∧ ∀ i, i < 36 → 0 ≤ (tA h 117 i).toInt ∧ (tA h 117 i).toInt ≤ 9999 := by
  obtain ⟨a, b, c⟩ := tkd_a hB (p := 117) (t := 85) rfl rfl
  have e : tN h 117 = 36 := by omega
  rw [e] at c
  exact ⟨e, c⟩
theorem ka_118 (hB : zBs xs τ h) : tN h 118 = 96 ∧ ∀ i, i < 96 → 0 ≤ (tA h 118 i).toInt ∧ (tA h 118 i).toInt ≤ 1000000 := by
  obtain ⟨a, b, c⟩ := tkd_a hB (p := 118) (t := 86) rfl rfl
  have e : tN h 118 = 96 := by omega
  rw [e] at c
  exact ⟨e, c⟩
theorem ka_119 (hB : zBs xs τ h) : tN h 119 = 60 ∧ ∀ i, i < 60 → 0 ≤ (tA h 119 i).toInt ∧ (tA h 119 i).toInt ≤ 1 := by
  obtain ⟨a, b, c⟩ := tkd_a hB (p := 119) (t := 87) rfl rfl
  have e : tN h 119 = 60 := by omega
  rw [e] at c
  exact ⟨e, c⟩
theorem ka_120 (hB : zBs xs τ h) : tN h 120 = 300 ∧ ∀ i, i < 300 → 0 ≤ (tA h 120 i).toInt ∧ (tA h 120 i).toInt ≤ 1 := by
  obtain ⟨a, b, c⟩ := tkd_a hB (p := 120) (t := 88) rfl rfl
  have e : tN h 120 = 300 := by omega
  rw [e] at c
  exact ⟨e, c⟩
theorem ka_121 (hB : zBs xs τ h) : tN h 121 = 300 ∧ ∀ i, i < 300 → 0 ≤ (tA h 121 i).toInt ∧ (tA h 121 i).toInt ≤ 7 := by
  obtain ⟨a, b, c⟩ := tkd_a hB (p := 121) (t := 89) rfl rfl
  have e : tN h 121 = 300 := by omega
  rw [e] at c
  exact ⟨e, c⟩
theorem ka_122 (hB : zBs xs τ h) : tN h 122 = 300 ∧ ∀ i, i < 300 → 0 ≤ (tA h 122 i).toInt ∧ (tA h 122 i).toInt ≤ 599 := by
  obtain ⟨a, b, c⟩ := tkd_a hB (p := 122) (t := 90) rfl rfl
  have e : tN h 122 = 300 := by omega
  rw [e] at c
  exact ⟨e, c⟩
theorem ka_123 (hB : zBs xs τ h) : tN h 123 = 300 ∧ ∀ i, i < 300 → 0 ≤ (tA h 123 i).toInt ∧ (tA h 123 i).toInt ≤ 599 := by
  obtain ⟨a, b, c⟩ := tkd_a hB (p := 123) (t := 91) rfl rfl
  have e : tN h 123 = 300 := by omega
  rw [e] at c
  exact ⟨e, c⟩
theorem ka_124 (hB : zBs xs τ h) : tN h 124 = 300 ∧ ∀ i, i < 300 → 0 ≤ (tA h 124 i).toInt ∧ (tA h 124 i).toInt ≤ 59 := by
  obtain ⟨a, b, c⟩ := tkd_a hB (p := 124) (t := 92) rfl rfl
  have e : tN h 124 = 300 := by omega
  rw [e] at c
  exact ⟨e, c⟩
theorem ka_125 (hB : zBs xs τ h) : tN h 125 = 300 ∧ ∀ i, i < 300 → 0 ≤ (tA h 125 i).toInt ∧ (tA h 125 i).toInt ≤ 59 := by
  obtain ⟨a, b, c⟩ := tkd_a hB (p := 125) (t := 93) rfl rfl
  have e : tN h 125 = 300 := by omega
  rw [e] at c
  exact ⟨e, c⟩
theorem ka_126 (hB : zBs xs τ h) : tN h 126 = 300 ∧ ∀ i, i < 300 → 0 ≤ (tA h 126 i).toInt ∧ (tA h 126 i).toInt ≤ 599 := by
  obtain ⟨a, b, c⟩ := tkd_a hB (p := 126) (t := 94) rfl rfl
  have e : tN h 126 = 300 := by omega
  rw [e] at c
  exact ⟨e, c⟩
theorem ka_127 (hB : zBs xs τ h) : tN h 127 = 300 ∧ ∀ i, i < 300 → 0 ≤ (tA h 127 i).toInt ∧ (tA h 127 i).toInt ≤ 599 := by
  obtain ⟨a, b, c⟩ := tkd_a hB (p := 127) (t := 95) rfl rfl
  have e : tN h 127 = 300 := by omega
  rw [e] at c
  exact ⟨e, c⟩
theorem ka_128 (hB : zBs xs τ h) : tN h 128 = 400 ∧ ∀ i, i < 400 → 0 ≤ (tA h 128 i).toInt ∧ (tA h 128 i).toInt ≤ 299 := by
  obtain ⟨a, b, c⟩ := tkd_a hB (p := 128) (t := 96) rfl rfl
  have e : tN h 128 = 400 := by omega
  rw [e] at c
  exact ⟨e, c⟩
theorem ka_129 (hB : zBs xs τ h) : tN h 129 = 400 ∧ ∀ i, i < 400 → 0 ≤ (tA h 129 i).toInt ∧ (tA h 129 i).toInt ≤ 59 := by
  obtain ⟨a, b, c⟩ := tkd_a hB (p := 129) (t := 97) rfl rfl
  have e : tN h 129 = 400 := by omega
  rw [e] at c
  exact ⟨e, c⟩
theorem ka_130 (hB : zBs xs τ h) : tN h 130 = 400 ∧ ∀ i, i < 400 → 0 ≤ (tA h 130 i).toInt ∧ (tA h 130 i).toInt ≤ 599 := by
  obtain ⟨a, b, c⟩ := tkd_a hB (p := 130) (t := 98) rfl rfl
  have e : tN h 130 = 400 := by omega
  rw [e] at c
  exact ⟨e, c⟩
theorem ka_131 (hB : zBs xs τ h) : tN h 131 = 400 ∧ ∀ i, i < 400 → 0 ≤ (tA h 131 i).toInt ∧ (tA h 131 i).toInt ≤ 599 := by
  obtain ⟨a, b, c⟩ := tkd_a hB (p := 131) (t := 99) rfl rfl
  have e : tN h 131 = 400 := by omega
  rw [e] at c
  exact ⟨e, c⟩
theorem ka_132 (hB : zBs xs τ h) : tN h 132 = 400 ∧ ∀ i, i < 400 → (-128) ≤ (tA h 132 i).toInt ∧ (tA h 132 i).toInt ≤ 127 := by
  obtain ⟨a, b, c⟩ := tkd_a hB (p := 132) (t := 100) rfl rfl
  have e : tN h 132 = 400 := by omega
  rw [e] at c
  exact ⟨e, c⟩
theorem ka_133 (hB : zBs xs τ h) : tN h 133 = 5000 ∧ ∀ i, i < 5000 → 0 ≤ (tA h 133 i).toInt ∧ (tA h 133 i).toInt ≤ 14 := by
  obtain ⟨a, b, c⟩ := tkd_a hB (p := 133) (t := 101) rfl rfl
  have e : tN h 133 = 5000 := by omega
  rw [e] at c
  exact ⟨e, c⟩
theorem ka_134 (hB : zBs xs τ h) : tN h 134 = 5000 ∧ ∀ i, i < 5000 → 0 ≤ (tA h 134 i).toInt ∧ (tA h 134 i).toInt ≤ 99999 := by
  obtain ⟨a, b, c⟩ := tkd_a hB (p := 134) (t := 102) rfl rfl
  have e : tN h 134 = 5000 := by omega
  rw [e] at c
  exact ⟨e, c⟩
theorem ka_135 (hB : zBs xs τ h) : tN h 135 = 120 ∧ ∀ i, i < 120 → 0 ≤ (tA h 135 i).toInt ∧ (tA h 135 i).toInt ≤ 3 := by
  obtain ⟨a, b, c⟩ := tkd_a hB (p := 135) (t := 103) rfl rfl
  have e : tN h 135 = 120 := by omega
  rw [e] at c
  exact ⟨e, c⟩
theorem ka_136 (hB : zBs xs τ h) : tN h 136 = 120 ∧ ∀ i, i < 120 → 0 ≤ (tA h 136 i).toInt ∧ (tA h 136 i).toInt ≤ 99999 := by
  obtain ⟨a, b, c⟩ := tkd_a hB (p := 136) (t := 104) rfl rfl
  have e : tN h 136 = 120 := by omega
  rw [e] at c
  exact ⟨e, c⟩
theorem ka_137 (hB : zBs xs τ h) : tN h 137 = 120 ∧ ∀ i, i < 120 → 0 ≤ (tA h 137 i).toInt ∧ (tA h 137 i).toInt ≤ 410 := by
  obtain ⟨a, b, c⟩ := tkd_a hB (p := 137) (t := 105) rfl rfl
  have e : tN h 137 = 120 := by omega
  rw [e] at c
  exact ⟨e, c⟩
theorem ka_138 (hB : zBs xs τ h) : tN h 138 = 120 ∧ ∀ i, i < 120 → 0 ≤ (tA h 138 i).toInt ∧ (tA h 138 i).toInt ≤ 410 := by
  obtain ⟨a, b, c⟩ := tkd_a hB (p := 138) (t := 106) rfl rfl
  have e : tN h 138 = 120 := by omega
  rw [e] at c
  exact ⟨e, c⟩
theorem ka_139 (hB : zBs xs τ h) : tN h 139 = 120 ∧ ∀ i, i < 120 → 0 ≤ (tA h 139 i).toInt ∧ (tA h 139 i).toInt ≤ 410 := by
  obtain ⟨a, b, c⟩ := tkd_a hB (p := 139) (t := 107) rfl rfl
  have e : tN h 139 = 120 := by omega
  rw [e] at c
  exact ⟨e, c⟩
theorem ka_140 (hB : zBs xs τ h) : tN h 140 = 10 ∧ ∀ i, i < 10 → 0 ≤ (tA h 140 i).toInt ∧ (tA h 140 i).toInt ≤ 12 := by
  obtain ⟨a, b, c⟩ := tkd_a hB (p := 140) (t := 108) rfl rfl
  have e : tN h 140 = 10 := by omega
  rw [e] at c
  exact ⟨e, c⟩
theorem ka_141 (hB : zBs xs τ h) : tN h 141 = 10 ∧ ∀ i, i < 10 → 0 ≤ (tA h 141 i).toInt ∧ (tA h 141 i).toInt ≤ 599 := by
  obtain ⟨a, b, c⟩ := tkd_a hB (p := 141) (t := 109) rfl rfl
  have e : tN h 141 = 10 := by omega
  rw [e] at c
  exact ⟨e, c⟩
theorem ka_142 (hB : zBs xs τ h) : tN h 142 = 400 ∧ ∀ i, i < 400 → 0 ≤ (tA h 142 i).toInt ∧ (tA h 142 i).toInt ≤ 209 := by
  obtain ⟨a, b, c⟩ := tkd_a hB (p := 142) (t := 110) rfl rfl
  have e : tN h 142 = 400 := by omega
  rw [e] at c
  exact ⟨e, c⟩
theorem ka_145 (hB : zBs xs τ h) : tN h 145 = 200 ∧ ∀ i, i < 200 → 0 ≤ (tA h 145 i).toInt ∧ (tA h 145 i).toInt ≤ 7 := by
  obtain ⟨a, b, c⟩ := tkd_a hB (p := 145) (t := 113) rfl rfl
  have e : tN h 145 = 200 := by omega
  rw [e] at c
  exact ⟨e, c⟩
theorem ka_146 (hB : zBs xs τ h) : tN h 146 = 200 ∧ ∀ i, i < 200 → 0 ≤ (tA h 146 i).toInt ∧ (tA h 146 i).toInt ≤ 2 := by
  obtain ⟨a, b, c⟩ := tkd_a hB (p := 146) (t := 114) rfl rfl
  have e : tN h 146 = 200 := by omega
  rw [e] at c
  exact ⟨e, c⟩
theorem ka_147 (hB : zBs xs τ h) : tN h 147 = 200 ∧ ∀ i, i < 200 → 0 ≤ (tA h 147 i).toInt ∧ (tA h 147 i).toInt ≤ 200 := by
  obtain ⟨a, b, c⟩ := tkd_a hB (p := 147) (t := 115) rfl rfl
  have e : tN h 147 = 200 := by omega
  rw [e] at c
  exact ⟨e, c⟩
theorem ka_148 (hB : zBs xs τ h) : tN h 148 = 600 ∧ ∀ i, i < 600 → 0 ≤ (tA h 148 i).toInt ∧ (tA h 148 i).toInt ≤ 199 := by
  obtain ⟨a, b, c⟩ := tkd_a hB (p := 148) (t := 116) rfl rfl
  have e : tN h 148 = 600 := by omega
  rw [e] at c
  exact ⟨e, c⟩
theorem ka_149 (hB : zBs xs τ h) : tN h 149 = 600 ∧ ∀ i, i < 600 → 0 ≤ (tA h 149 i).toInt ∧ (tA h 149 i).toInt ≤ 59 := by
  obtain ⟨a, b, c⟩ := tkd_a hB (p := 149) (t := 117) rfl rfl
  have e : tN h 149 = 600 := by omega
  rw [e] at c
  exact ⟨e, c⟩
theorem ka_150 (hB : zBs xs τ h) : tN h 150 = 600 ∧ ∀ i, i < 600 → 0 ≤ (tA h 150 i).toInt ∧ (tA h 150 i).toInt ≤ 599 := by
  obtain ⟨a, b, c⟩ := tkd_a hB (p := 150) (t := 118) rfl rfl
  have e : tN h 150 = 600 := by omega
  rw [e] at c
  exact ⟨e, c⟩
theorem ka_151 (hB : zBs xs τ h) : tN h 151 = 200 ∧ ∀ i, i < 200 → 0 ≤ (tA h 151 i).toInt ∧ (tA h 151 i).toInt ≤ 1 := by
  obtain ⟨a, b, c⟩ := tkd_a hB (p := 151) (t := 119) rfl rfl
  have e : tN h 151 = 200 := by omega
  rw [e] at c
  exact ⟨e, c⟩
theorem ka_152 (hB : zBs xs τ h) : tN h 152 = 200 ∧ ∀ i, i < 200 → 0 ≤ (tA h 152 i).toInt ∧ (tA h 152 i).toInt ≤ 299 := by
  obtain ⟨a, b, c⟩ := tkd_a hB (p := 152) (t := 120) rfl rfl
  have e : tN h 152 = 200 := by omega
  rw [e] at c
  exact ⟨e, c⟩
theorem ka_153 (hB : zBs xs τ h) : tN h 153 = 200 ∧ ∀ i, i < 200 → 0 ≤ (tA h 153 i).toInt ∧ (tA h 153 i).toInt ≤ 599 := by
  obtain ⟨a, b, c⟩ := tkd_a hB (p := 153) (t := 121) rfl rfl
  have e : tN h 153 = 200 := by omega
  rw [e] at c
  exact ⟨e, c⟩
theorem ka_154 (hB : zBs xs τ h) : tN h 154 = 200 ∧ ∀ i, i < 200 → 0 ≤ (tA h 154 i).toInt ∧ (tA h 154 i).toInt ≤ 2 := by
  obtain ⟨a, b, c⟩ := tkd_a hB (p := 154) (t := 122) rfl rfl
  have e : tN h 154 = 200 := by omega
  rw [e] at c
  exact ⟨e, c⟩
theorem ka_155 (hB : zBs xs τ h) : tN h 155 = 200 ∧ ∀ i, i < 200 → 0 ≤ (tA h 155 i).toInt ∧ (tA h 155 i).toInt ≤ 200 := by
  obtain ⟨a, b, c⟩ := tkd_a hB (p := 155) (t := 123) rfl rfl
  have e : tN h 155 = 200 := by omega
  rw [e] at c
  exact ⟨e, c⟩
theorem ka_156 (hB : zBs xs τ h) : tN h 156 = 200 ∧ ∀ i, i < 200 → 0 ≤ (tA h 156 i).toInt ∧ (tA h 156 i).toInt ≤ 9 := by
  obtain ⟨a, b, c⟩ := tkd_a hB (p := 156) (t := 124) rfl rfl
  have e : tN h 156 = 200 := by omega
  rw [e] at c
  exact ⟨e, c⟩
theorem ka_157 (hB : zBs xs τ h) : tN h 157 = 200 ∧ ∀ i, i < 200 → 0 ≤ (tA h 157 i).toInt ∧ (tA h 157 i).toInt ≤ 599 := by
  obtain ⟨a, b, c⟩ := tkd_a hB (p := 157) (t := 125) rfl rfl
  have e : tN h 157 = 200 := by omega
  rw [e] at c
  exact ⟨e, c⟩
theorem ka_158 (hB : zBs xs τ h) : tN h 158 = 200 ∧ ∀ i, i < 200 → 0 ≤ (tA h 158 i).toInt ∧ (tA h 158 i).toInt ≤ 1 := by
  obtain ⟨a, b, c⟩ := tkd_a hB (p := 158) (t := 126) rfl rfl
  have e : tN h 158 = 200 := by omega
  rw [e] at c
  exact ⟨e, c⟩
theorem ka_159 (hB : zBs xs τ h) : tN h 159 = 9 ∧ ∀ i, i < 9 → 0 ≤ (tA h 159 i).toInt ∧ (tA h 159 i).toInt ≤ 200 := by
  obtain ⟨a, b, c⟩ := tkd_a hB (p := 159) (t := 127) rfl rfl
  have e : tN h 159 = 9 := by omega
  rw [e] at c
  exact ⟨e, c⟩
theorem ka_160 (hB : zBs xs τ h) : tN h 160 = 9 ∧ ∀ i, i < 9 → 0 ≤ (tA h 160 i).toInt ∧ (tA h 160 i).toInt ≤ 200 := by
  obtain ⟨a, b, c⟩ := tkd_a hB (p := 160) (t := 128) rfl rfl
  have e : tN h 160 = 9 := by omega
  rw [e] at c
  exact ⟨e, c⟩
theorem ka_161 (hB : zBs xs τ h) : tN h 161 = 9 ∧ ∀ i, i < 9 → 0 ≤ (tA h 161 i).toInt ∧ (tA h 161 i).toInt ≤ 200 := by
  obtain ⟨a, b, c⟩ := tkd_a hB (p := 161) (t := 129) rfl rfl
  have e : tN h 161 = 9 := by omega
  rw [e] at c
  exact ⟨e, c⟩
theorem ka_162 (hB : zBs xs τ h) : tN h 162 = 9 ∧ ∀ i, i < 9 → 0 ≤ (tA h 162 i).toInt ∧ (tA h 162 i).toInt ≤ 200 := by
  obtain ⟨a, b, c⟩ := tkd_a hB (p := 162) (t := 130) rfl rfl
  have e : tN h 162 = 9 := by omega
  rw [e] at c
  exact ⟨e, c⟩
theorem ka_163 (hB : zBs xs τ h) : tN h 163 = 20 ∧ ∀ i, i < 20 → 0 ≤ (tA h 163 i).toInt ∧ (tA h 163 i).toInt ≤ 6 := by
  obtain ⟨a, b, c⟩ := tkd_a hB (p := 163) (t := 131) rfl rfl
  have e : tN h 163 = 20 := by omega
  rw [e] at c
  exact ⟨e, c⟩
theorem ka_164 (hB : zBs xs τ h) : tN h 164 = 120 ∧ ∀ i, i < 120 → 0 ≤ (tA h 164 i).toInt ∧ (tA h 164 i).toInt ≤ 999999 := by
  obtain ⟨a, b, c⟩ := tkd_a hB (p := 164) (t := 132) rfl rfl
  have e : tN h 164 = 120 := by omega
  rw [e] at c
  exact ⟨e, c⟩
theorem ka_165 (hB : zBs xs τ h) : tN h 165 = 120 ∧ ∀ i, i < 120 → 0 ≤ (tA h 165 i).toInt ∧ (tA h 165 i).toInt ≤ 9999999 := by
  obtain ⟨a, b, c⟩ := tkd_a hB (p := 165) (t := 133) rfl rfl
  have e : tN h 165 = 120 := by omega
  rw [e] at c
  exact ⟨e, c⟩
theorem ka_166 (hB : zBs xs τ h) : tN h 166 = 120 ∧ ∀ i, i < 120 → 0 ≤ (tA h 166 i).toInt ∧ (tA h 166 i).toInt ≤ 1 := by
  obtain ⟨a, b, c⟩ := tkd_a hB (p := 166) (t := 134) rfl rfl
  have e : tN h 166 = 120 := by omega
  rw [e] at c
  exact ⟨e, c⟩
theorem ka_167 (hB : zBs xs τ h) : tN h 167 = 24 ∧ ∀ i, i < 24 → 0 ≤ (tA h 167 i).toInt ∧ (tA h 167 i).toInt ≤ 99 := by
  obtain ⟨a, b, c⟩ := tkd_a hB (p := 167) (t := 135) rfl rfl
  have e : tN h 167 = 24 := by omega
  rw [e] at c
  exact ⟨e, c⟩
theorem ka_168 (hB : zBs xs τ h) : tN h 168 = 24 ∧ ∀ i, i < 24 → (-1) ≤ (tA h 168 i).toInt ∧ (tA h 168 i).toInt ≤ 3 := by
  obtain ⟨a, b, c⟩ := tkd_a hB (p := 168) (t := 136) rfl rfl
  have e : tN h 168 = 24 := by omega
  rw [e] at c
  exact ⟨e, c⟩
theorem ka_169 (hB : zBs xs τ h) : tN h 169 = 24 ∧ ∀ i, i < 24 → (-2147483648) ≤ (tA h 169 i).toInt ∧ (tA h 169 i).toInt ≤ 2147483647 := by
  obtain ⟨a, b, c⟩ := tkd_a hB (p := 169) (t := 137) rfl rfl
  have e : tN h 169 = 24 := by omega
  rw [e] at c
  exact ⟨e, c⟩
theorem ka_170 (hB : zBs xs τ h) : tN h 170 = 24 ∧ ∀ i, i < 24 → 0 ≤ (tA h 170 i).toInt ∧ (tA h 170 i).toInt ≤ 9999 := by
  obtain ⟨a, b, c⟩ := tkd_a hB (p := 170) (t := 138) rfl rfl
  have e : tN h 170 = 24 := by omega
  rw [e] at c
  exact ⟨e, c⟩
theorem ka_171 (hB : zBs xs τ h) : tN h 171 = 24 ∧ ∀ i, i < 24 → 0 ≤ (tA h 171 i).toInt ∧ (tA h 171 i).toInt ≤ 2147483647 := by
  obtain ⟨a, b, c⟩ := tkd_a hB (p := 171) (t := 139) rfl rfl
  have e : tN h 171 = 24 := by omega
  rw [e] at c
  exact ⟨e, c⟩
theorem ka_172 (hB : zBs xs τ h) : tN h 172 = 24 ∧ ∀ i, i < 24 → (-2147483648) ≤ (tA h 172 i).toInt ∧ (tA h 172 i).toInt ≤ 2147483647 := by
  obtain ⟨a, b, c⟩ := tkd_a hB (p := 172) (t := 140) rfl rfl
  have e : tN h 172 = 24 := by omega
  rw [e] at c
  exact ⟨e, c⟩
theorem ka_173 (hB : zBs xs τ h) : tN h 173 = 20 ∧ ∀ i, i < 20 → 0 ≤ (tA h 173 i).toInt ∧ (tA h 173 i).toInt ≤ 7 := by
  obtain ⟨a, b, c⟩ := tkd_a hB (p := 173) (t := 141) rfl rfl
  have e : tN h 173 = 20 := by omega
  rw [e] at c
  exact ⟨e, c⟩
theorem ka_174 (hB : zBs xs τ h) : tN h 174 = 20 ∧ ∀ i, i < 20 → 0 ≤ (tA h 174 i).toInt ∧ (tA h 174 i).toInt ≤ 599 := by
  obtain ⟨a, b, c⟩ := tkd_a hB (p := 174) (t := 142) rfl rfl
  have e : tN h 174 = 20 := by omega
  rw [e] at c
  exact ⟨e, c⟩
theorem ka_175 (hB : zBs xs τ h) : tN h 175 = 20 ∧ ∀ i, i < 20 → 0 ≤ (tA h 175 i).toInt ∧ (tA h 175 i).toInt ≤ 599 := by
  obtain ⟨a, b, c⟩ := tkd_a hB (p := 175) (t := 143) rfl rfl
  have e : tN h 175 = 20 := by omega
  rw [e] at c
  exact ⟨e, c⟩
theorem ka_176 (hB : zBs xs τ h) : tN h 176 = 20 ∧ ∀ i, i < 20 → 0 ≤ (tA h 176 i).toInt ∧ (tA h 176 i).toInt ≤ 11 := by
  obtain ⟨a, b, c⟩ := tkd_a hB (p := 176) (t := 144) rfl rfl
  have e : tN h 176 = 20 := by omega
  rw [e] at c
  exact ⟨e, c⟩
theorem ka_177 (hB : zBs xs τ h) : tN h 177 = 6000 ∧ ∀ i, i < 6000 → 0 ≤ (tA h 177 i).toInt ∧ (tA h 177 i).toInt ≤ 600 := by
  obtain ⟨a, b, c⟩ := tkd_a hB (p := 177) (t := 145) rfl rfl
  have e : tN h 177 = 6000 := by omega
  rw [e] at c
  exact ⟨e, c⟩
theorem ka_178 (hB : zBs xs τ h) : tN h 178 = 6000 ∧ ∀ i, i < 6000 → 0 ≤ (tA h 178 i).toInt ∧ (tA h 178 i).toInt ≤ 1 := by
  obtain ⟨a, b, c⟩ := tkd_a hB (p := 178) (t := 146) rfl rfl
  have e : tN h 178 = 6000 := by omega
  rw [e] at c
  exact ⟨e, c⟩
theorem ka_179 (hB : zBs xs τ h) : tN h 179 = 9 ∧ ∀ i, i < 9 → 0 ≤ (tA h 179 i).toInt ∧ (tA h 179 i).toInt ≤ 99999 := by
  obtain ⟨a, b, c⟩ := tkd_a hB (p := 179) (t := 147) rfl rfl
  have e : tN h 179 = 9 := by omega
  rw [e] at c
  exact ⟨e, c⟩
theorem ka_180 (hB : zBs xs τ h) : tN h 180 = 9 ∧ ∀ i, i < 9 → 0 ≤ (tA h 180 i).toInt ∧ (tA h 180 i).toInt ≤ 999 := by
  obtain ⟨a, b, c⟩ := tkd_a hB (p := 180) (t := 148) rfl rfl
  have e : tN h 180 = 9 := by omega
  rw [e] at c
  exact ⟨e, c⟩
theorem ka_181 (hB : zBs xs τ h) : tN h 181 = 81 ∧ ∀ i, i < 81 → 0 ≤ (tA h 181 i).toInt ∧ (tA h 181 i).toInt ≤ 999 := by
  obtain ⟨a, b, c⟩ := tkd_a hB (p := 181) (t := 149) rfl rfl
  have e : tN h 181 = 81 := by omega
  rw [e] at c
  exact ⟨e, c⟩
end SB
end
