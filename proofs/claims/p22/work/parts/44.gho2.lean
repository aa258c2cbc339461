/-! what is remembered stays true over stores -/
theorem yln_kind {tx : yTx} {h : zH} {ρ : yR} {k g : Nat} {i l : yL} : yLn tx h ρ k ((100004 + g, i), l) ↔ ysp k i ∧ ysp k l ∧ tx.2 g h (yev ρ i) (yev ρ l) := by
  have e : (100004 + g : Nat) = (100000 + g) + 4 := by omega
  unfold yLn
  dsimp only
  rw [e]
  dsimp only
  have hb : Nat.ble 100000 (100000 + g) = true := Nat.ble_eq_true_of_le (Nat.le_add_right _ _)
  have e2 : Nat.sub (100000 + g) 100000 = g := by show 100000 + g - 100000 = g; omega
  unfold yL4
  rw [hb]
  dsimp only
  rw [e2]
theorem gkp_ok {tx : yTx} {h h2 : zH} {ρ : yR} {k : Nat} {gs : Nat → Bool} (hf : ∀ g x v, gs g = true → tx.2 g h x v → tx.2 g h2 x v) : ∀ {N : yN}, (∀ q ∈ N, yLn tx h ρ k q) → ∀ q ∈ gkp gs N, yLn tx h2 ρ k q
  | [], _, q, hq => by cases hq
  | (v, l) :: r, hN, q, hq => by
    unfold gkp at hq
    have ih := gkp_ok hf (N := r) (fun q hq => hN q (List.mem_cons_of_mem _ hq))
    cases hb : (ykg v.1 && gs (Nat.sub v.1 100004)) with
    | false => rw [hb, cond_false] at hq; exact ih q hq
    | true =>
      rw [hb, cond_true] at hq
      rcases List.mem_cons.mp hq with rfl | hq
      · rw [Bool.and_eq_true] at hb
        obtain ⟨p, e1, e2⟩ := ykg_at hb.1
        obtain ⟨v1, v2⟩ := v
        dsimp only at e1 hb
        have hp := Nat.le_of_ble_eq_true e2
        obtain ⟨g, rfl⟩ : ∃ g, v1 = 100004 + g := ⟨v1 - 100004, by omega⟩
        have e3 : Nat.sub (100004 + g) 100004 = g := by show 100004 + g - 100004 = g; omega
        rw [e3] at hb
        obtain ⟨a, b, c⟩ := yln_kind.mp (hN _ List.mem_cons_self)
        exact yln_kind.mpr ⟨a, b, hf _ _ _ hb.2 c⟩
      · exact ih q hq
section GG
variable {t : Nat → List Int32} {xs : Nat → Int32} {w : yW} {ρ : yR} {τ : List Nat} {h : zH}
theorem gA_ok {p : Nat} {i l : yL} (hp : Nat.ble 100000 p = false) (q : gA w p i = some l) (g : yWo (t, zgp xs) w ρ τ h) : zei h p (yev ρ i).toNat = yev ρ l ∧ ysp w.1 l := by
  obtain ⟨v, m1, m2, m3⟩ := ylnl_mem q
  obtain ⟨v1, v2⟩ := v
  dsimp only at m2 m3
  subst m2
  obtain ⟨g1, g2, g3⟩ := g.2.2.2 _ m1
  refine ⟨?_, g2⟩
  have g3' : yL4 (t, zgp xs) h p (yev ρ v2) (yev ρ l) := g3
  unfold yL4 at g3'
  rw [hp] at g3'
  obtain ⟨kd, N, x, e1, e2⟩ := g3'
  rw [m3] at e2
  unfold zei
  rw [e1]
  exact e2
theorem gF_ok {f : Nat} {l : yL} (q : gF w f = some l) (g : yWo (t, zgp xs) w ρ τ h) : zfi h 111 f = yev ρ l ∧ ysp w.1 l := by
  unfold gF at q
  split at q
  · rename_i l' hl
    cases q
    obtain ⟨cls, fs, u, d1, d2, d3, n, d4, d5⟩ := g.2.2.1 _ (yhg_mem hl)
    subst d4
    dsimp only at d1 d2 d3 d5
    refine ⟨?_, d3⟩
    unfold zfi
    rw [d1]
    dsimp only
    rw [d2]
    exact d5
  · cases q
theorem yfst_kind {k : Nat} {q : yV × yL} : ∀ {N : yN}, yfst k N = some q → q.1.1 = k
  | (v, l) :: r, h => by
    unfold yfst at h
    cases hb : Nat.beq v.1 k with
    | true =>
      rw [hb, cond_true] at h
      cases h
      exact Nat.eq_of_beq_eq_true hb
    | false =>
      rw [hb, cond_false] at h
      exact yfst_kind h
theorem gK_ok {g : Nat} {v : yV} {l : yL} (q : gK w g = some (v, l)) (hw : yWo (t, zgp xs) w ρ τ h) : zgp xs g h (yev ρ v.2) (yev ρ l) ∧ ysp w.1 v.2 ∧ ysp w.1 l := by
  have e := yfst_kind q
  have m := hw.2.2.2 _ (yfst_mem q)
  obtain ⟨v1, v2⟩ := v
  have e' : v1 = 100004 + g := e
  subst e'
  obtain ⟨a, b, c⟩ := yln_kind.mp m
  exact ⟨c, a, b⟩
theorem gG_ok {g : Nat} {i l : yL} (q : ylnl w.2.2.2.2 (100004 + g, i) = some l) (hw : yWo (t, zgp xs) w ρ τ h) : zgp xs g h (yev ρ i) (yev ρ l) ∧ ysp w.1 l := by
  obtain ⟨v, m1, m2, m3⟩ := ylnl_mem q
  obtain ⟨v1, v2⟩ := v
  dsimp only at m2 m3
  subst m2
  obtain ⟨a, b, c⟩ := yln_kind.mp (hw.2.2.2 _ m1)
  rw [m3] at c
  exact ⟨c, b⟩
theorem gL_ok {x : yL} (q : gL w x = true) (g : yWo (t, zgp xs) w ρ τ h) : yev ρ x ≤ 0 := g.le q
theorem gL_sub {x y : yL} (q : gL w (ysub x y) = true) (g : yWo (t, zgp xs) w ρ τ h) : yev ρ x ≤ yev ρ y := by
  have := g.le q
  rw [yev_sub] at this
  omega
theorem gL_neg {x : yL} (q : gL w (yneg x) = true) (g : yWo (t, zgp xs) w ρ τ h) : 0 ≤ yev ρ x := by
  have := g.le q
  rw [yev_neg] at this
  omega
theorem yz_sub {x y : yL} (q : yzero (ysub x y) = true) : yev ρ x = yev ρ y := by
  have := yzero_ev (ρ := ρ) q
  rw [yev_sub] at this
  omega
theorem yev_c (c : Int) : yev ρ (c, []) = c := yev_con ρ c
theorem gbin_ok {v : yL} (q : gbin w v = true) (g : yWo (t, zgp xs) w ρ τ h) : zbn (yev ρ v) := by
  unfold gbin at q
  cases h1 : gL w (ysub (100, []) v) with
  | true =>
    have := gL_sub h1 g
    rw [yev_c] at this
    exact Or.inr (Or.inr this)
  | false =>
    rw [h1, cond_false, Bool.and_eq_true] at q
    have a := gL_sub q.1 g
    have b := gL_sub q.2 g
    rw [yev_c] at a b
    unfold zbn
    omega
theorem gnob_ok {v : yL} (q : gnob w v = true) (g : yWo (t, zgp xs) w ρ τ h) : ¬ zbn (yev ρ v) := by
  unfold gnob at q
  unfold zbn
  cases h1 : gL w (ysub v (10, [])) with
  | true =>
    have := gL_sub h1 g
    rw [yev_c] at this
    omega
  | false =>
    rw [h1, cond_false, Bool.and_eq_true] at q
    have a := gL_sub q.1 g
    have b := gL_sub q.2 g
    rw [yev_c] at a b
    omega
/-- the heap behind: all is as before but what is said -/
theorem gkp_same {h2 : zH} {gs : Nat → Bool} (hw : yWo (t, zgp xs) w ρ τ h) (hf : ∀ g x v, gs g = true → zgp xs g h x v → zgp xs g h2 x v) : ∀ q ∈ gkp gs w.2.2.2.2, yLn (t, zgp xs) h2 ρ w.1 q := gkp_ok (tx := (t, zgp xs)) hf hw.2.2.2
end GG
