/-! the remembered relations stand under every store and load -/
noncomputable def zGxT (TG : List Nat) (TT : List yC) : Prop := TG[111]? = some 79 ∧ TG[142]? = some 110 ∧ TG[133]? = some 101 ∧ TG[134]? = some 102 ∧ TG[137]? = some 105 ∧ TG[138]? = some 106 ∧ TG[139]? = some 107 ∧ TG[140]? = some 108 ∧ ∀ t : Nat, t = 110 ∨ t = 101 ∨ t = 102 ∨ t = 105 ∨ t = 106 ∨ t = 107 ∨ t = 108 → ∃ q, TT[t]? = some (.inr q)
section GZ
variable {t : Nat → List Int32} {xs : Nat → Int32} {TG : List Nat} {TT : List yC} {I : zH → Prop} {τ : List Nat} {h h2 : zH}
theorem zfr_f {p k f : Nat} (hτ : τ[p]? = some k) (hh : yHo TT τ h) (hf : yFr (fun t f => !(zgx t f)) τ h h2) (hg : zgx k f = true) : zfi h2 p f = zfi h p f := by
  obtain ⟨ct, c, a1, a2, -⟩ := hh.2 _ _ hτ
  obtain ⟨c2, b1, b2⟩ := hf _ _ _ hτ a2
  unfold zfi
  rw [a2, b1]
  match c, c2, b2 with
  | .inr (x, fs), .inr (y, gs), b2 =>
    dsimp only
    rw [b2.2.2 f (by dsimp only; rw [hg]; rfl)]
  | .inl (k, N, x), .inl (k2, N2, y), b2 => rfl
theorem zfr_e {p k : Nat} (hτ : τ[p]? = some k) (hh : yHo TT τ h) (hf : yFr (fun t f => !(zgx t f)) τ h h2) (hg : zgx k 0 = true) : zei h2 p = zei h p := by
  obtain ⟨ct, c, a1, a2, -⟩ := hh.2 _ _ hτ
  obtain ⟨c2, b1, b2⟩ := hf _ _ _ hτ a2
  funext i
  unfold zei
  rw [a2, b1]
  match c, c2, b2 with
  | .inr (x, fs), .inr (y, gs), b2 => rfl
  | .inl (k, N, x), .inl (k2, N2, y), b2 =>
    dsimp only
    rw [b2.2.2 (by dsimp only; rw [hg]; rfl)]
theorem zgx_t {k b : Nat} (h : zgx k b = true) : (k = 79 ∧ (b = 34 ∨ b = 31 ∨ b = 30)) ∨ (b = 0 ∧ (k = 110 ∨ k = 101 ∨ k = 102 ∨ k = 105 ∨ k = 106 ∨ k = 107 ∨ k = 108)) := by
  unfold zgx at h
  cases hb : Nat.beq k 79 with
  | true =>
    rw [hb, cond_true] at h
    simp only [Bool.or_eq_true] at h
    exact Or.inl ⟨Nat.eq_of_beq_eq_true hb, h.imp Nat.eq_of_beq_eq_true (fun h => h.imp Nat.eq_of_beq_eq_true Nat.eq_of_beq_eq_true)⟩
  | false =>
    rw [hb, cond_false] at h
    simp only [Bool.or_eq_true, Bool.and_eq_true] at h
    refine Or.inr ⟨Nat.eq_of_beq_eq_true h.1, ?_⟩
    rcases h.2 with q | q | q | q | q | q | q <;> have e := Nat.eq_of_beq_eq_true q <;> subst e <;> decide
theorem zGdo_ok {gd : List (Nat × Nat × Nat)} (hX : zGxT TG TT) (hg : yGd0 TG I gd) : yGdo (t, zgp xs) TG TT I (gd, zgx, zgw, zgl) := by
  obtain ⟨t1, t2, t3, t4, t5, t6, t7, t8, t9⟩ := hX
  refine ⟨hg, ?_, ?_, ?_, ?_⟩
  · intro τ h h2 hp hh hf k x v
    refine zgp_eq (fun _ => ⟨zfr_f (hp _ _ t1) hh hf (by decide), zfr_e (hp _ _ t2) hh hf (by decide)⟩) (fun _ _ => zfr_f (hp _ _ t1) hh hf (by decide)) (fun _ _ => zfr_f (hp _ _ t1) hh hf (by decide)) (fun _ => ⟨zfr_e (hp _ _ t3) hh hf (by decide), zfr_e (hp _ _ t4) hh hf (by decide)⟩) (fun _ => ⟨zfr_e (hp _ _ t5) hh hf (by decide), zfr_e (hp _ _ t6) hh hf (by decide), zfr_e (hp _ _ t7) hh hf (by decide)⟩) (fun _ => zfr_e (hp _ _ t8) hh hf (by decide))
  · intro w ρ τ h hw hh hp hI k r i x hk hr hi hx a1 a2 kd N f a5 a3 a6 x0 hx0
    refine zgw_a hw a1 hx a5 a3 hx0 ?_
    cases hb : Nat.beq k 79 with
    | false => rfl
    | true =>
      have e := Nat.eq_of_beq_eq_true hb
      subst e
      cases hk
  · intro w ρ τ h hw hh hp hI k b r v hk hr a1 a2 cls fs u b2 hb hu q hq
    cases hv : Nat.beq v.1 0 with
    | false => rw [hv] at hq; cases hq
    | true =>
      rw [hv, cond_true] at hq
      rcases zgx_t hk with ⟨e, -⟩ | ⟨e, e2⟩
      · subst e
        exact zgw_f (tt := 79) (i := (0, [])) hw a1 b2 hb (Nat.eq_of_beq_eq_true hv) hu rfl q hq
      · obtain ⟨q9, e9⟩ := t9 k e2
        obtain ⟨ct, c, c1, c2, c3⟩ := hh.2 _ _ a2
        rw [e9] at c1
        cases c1
        rw [b2] at c2
        cases c2
        obtain ⟨kd, nlo, nhi, vt⟩ := q9
        obtain ⟨N, x, e, -⟩ := c3
        cases e
  · intro w ρ τ h hw hh hp hI k b
    exact zgl_ok hw k b
end GZ
