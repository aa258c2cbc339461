theorem zgp_eq {xs : Nat → Int32} {h h2 : zH} {g : Nat} {x v : Int} (h0 : g = 0 → zfi h2 111 34 = zfi h 111 34 ∧ zei h2 142 = zei h 142) (hen : 1 ≤ g → g ≤ 3 → zfi h2 111 31 = zfi h 111 31) (hru : 1 ≤ g → g ≤ 4 → zfi h2 111 30 = zfi h 111 30) (hS : 1 ≤ g → zei h2 133 = zei h 133 ∧ zei h2 134 = zei h 134) (hA : g = 2 ∨ g = 4 → zei h2 137 = zei h 137 ∧ zei h2 138 = zei h 138 ∧ zei h2 139 = zei h 139) (hC : g = 4 → zei h2 140 = zei h 140) (q : zgp xs g h x v) : zgp xs g h2 x v := by
  match g, h0, hen, hru, hS, hA, hC, q with
  | 0, h0, _, _, _, _, _, q => unfold zgp at q ⊢; rw [(h0 rfl).1, (h0 rfl).2]; exact q
  | 1, _, hen, hru, hS, _, _, q => unfold zgp at q ⊢; rw [hen (by omega) (by omega), hru (by omega) (by omega), (hS (by omega)).1, (hS (by omega)).2]; exact q
  | 2, _, hen, hru, hS, hA, _, q => unfold zgp at q ⊢; rw [hen (by omega) (by omega), hru (by omega) (by omega), (hS (by omega)).1, (hS (by omega)).2, (hA (Or.inl rfl)).1, (hA (Or.inl rfl)).2.1, (hA (Or.inl rfl)).2.2]; exact q
  | 3, _, hen, hru, hS, _, _, q => unfold zgp at q ⊢; rw [hen (by omega) (by omega), hru (by omega) (by omega), (hS (by omega)).1, (hS (by omega)).2]; exact q
  | 4, _, _, hru, hS, hA, hC, q => unfold zgp at q ⊢; rw [hru (by omega) (by omega), (hS (by omega)).1, (hS (by omega)).2, (hA (Or.inr rfl)).1, (hA (Or.inr rfl)).2.1, (hA (Or.inr rfl)).2.2, hC rfl]; exact q
  | 5, _, _, _, hS, _, _, q => unfold zgp at q ⊢; rw [(hS (by omega)).1, (hS (by omega)).2]; exact q
  | 6, _, _, _, _, _, _, q => exact q
  | g + 7, _, _, _, _, _, _, q => exact q.elim
theorem zR1_congr {en ru x v : Int} {S V S' V' : Nat → Int} (h : ∀ i : Nat, (i : Int) < 500 * ru + en → S i = S' i ∧ V i = V' i) (q : zR1 en ru S V x v) : zR1 en ru S' V' x v := by
  obtain ⟨a, b, c, d, e⟩ := q
  refine ⟨a, b, c, d, ?_⟩
  rw [← e]
  exact (zfw_congr (fun i h1 h2 => h i (by omega))).symm
theorem zR2_congr {en ru v : Int} {S V A B D S' V' A' B' D' : Nat → Int} (h : ∀ i : Nat, (i : Int) < 500 * ru + en → S i = S' i ∧ V i = V' i) (ha : ∀ k : Nat, (k : Int) < 12 * ru + v → A k = A' k ∧ B k = B' k ∧ D k = D' k) (q : zR2 en ru S V A B D v) : zR2 en ru S' V' A' B' D' v := by
  obtain ⟨a, b, c⟩ := q
  refine ⟨a, b, fun k hk => ?_⟩
  have e := ha (12 * ru.toNat + k) (by omega)
  exact zok_congr (fun i h1 h2 => h i (by omega)) e.1 e.2.1 e.2.2 (c k hk)
theorem zR3_congr {en ru x v : Int} {S V S' V' : Nat → Int} (h : ∀ i : Nat, (i : Int) < 500 * ru + en → S i = S' i ∧ V i = V' i) (q : zR3 en ru S V x v) : zR3 en ru S' V' x v := by
  obtain ⟨a, b, c⟩ := q
  exact ⟨zva_congr (fun i h1 h2 => h i (by omega)) b a, b, c⟩
theorem zR4_congr {ru : Int} {S V A B D C S' V' A' B' D' C' : Nat → Int} (h : ∀ i : Nat, (i : Int) < 500 * ru → S i = S' i ∧ V i = V' i) (ha : ∀ k : Nat, (k : Int) < 12 * ru → A k = A' k ∧ B k = B' k ∧ D k = D' k) (hc : ∀ k : Nat, (k : Int) < ru → C k = C' k) (q : zR4 ru S V A B D C) : zR4 ru S' V' A' B' D' C' := by
  intro r hr
  obtain ⟨a, b⟩ := q r hr
  rw [hc r hr] at a b
  refine ⟨a, fun c hcc => ?_⟩
  have e := ha (12 * r + c) (by omega)
  exact zok_congr (fun i h1 h2 => h i (by omega)) e.1 e.2.1 e.2.2 (b c hcc)
section GH
variable {t : Nat → List Int32} {xs : Nat → Int32} {w : yW} {ρ : yR} {τ : List Nat} {h h2 : zH}
theorem gwO_ok {i : yL} (hw : yWo (t, zgp xs) w ρ τ h) (hf : ∀ f, zfi h2 111 f = zfi h 111 f) (hz : ∀ p, p ≠ 142 → zei h2 p = zei h p) (hO : ∀ k : Nat, k ≠ (yev ρ i).toNat → zei h2 142 k = zei h 142 k) (hi : 0 ≤ yev ρ i) : ∀ q ∈ gwO w i, yLn (t, zgp xs) h2 ρ w.1 q := by
  intro q hq
  unfold gwO at hq
  rcases List.mem_append.mp hq with hq | hq
  · refine gkp_same hw (fun g x v hg => ?_) q hq
    have := Nat.le_of_ble_eq_true hg
    exact zgp_eq (fun e => by omega) (fun _ _ => hf _) (fun _ _ => hf _) (fun _ => ⟨hz _ (by decide), hz _ (by decide)⟩) (fun _ => ⟨hz _ (by decide), hz _ (by decide), hz _ (by decide)⟩) (fun _ => hz _ (by decide))
  · split at hq
    · rename_i op hop
      cases hb : gL w (ysub op i) with
      | false => rw [hb] at hq; cases hq
      | true =>
        rw [hb, cond_true] at hq
        have h1 := gL_sub hb hw
        have h2' := (gF_ok hop hw).1
        refine gkp_same hw (fun g x v hg => ?_) q hq
        have e := Nat.eq_of_beq_eq_true hg
        subst e
        intro z
        unfold zgp zR0 at z ⊢
        rw [hf, z]
        exact zbc_congr (fun k hk => (hO k (by omega)).symm)
    · cases hq
theorem gwS_ok {i : yL} (hw : yWo (t, zgp xs) w ρ τ h) (hf : ∀ f, zfi h2 111 f = zfi h 111 f) (hz : ∀ p, p ≠ 133 → p ≠ 134 → zei h2 p = zei h p) (hS : ∀ k : Nat, k ≠ (yev ρ i).toNat → zei h2 133 k = zei h 133 k ∧ zei h2 134 k = zei h 134 k) (hi : 0 ≤ yev ρ i) : ∀ q ∈ gwS w i, yLn (t, zgp xs) h2 ρ w.1 q := by
  intro q hq
  unfold gwS at hq
  rcases List.mem_append.mp hq with hq | hq
  · refine gkp_same hw (fun g x v hg => ?_) q hq
    have e := Nat.eq_of_beq_eq_true hg
    subst e
    exact zgp_eq (fun _ => ⟨hf _, hz _ (by decide) (by decide)⟩) (fun e => by omega) (fun e => by omega) (fun e => by omega) (fun e => by omega) (fun e => by omega)
  · split at hq
    · rename_i ru en hru hen
      have r1 := (gF_ok hru hw).1
      have e1 := (gF_ok hen hw).1
      rcases List.mem_append.mp hq with hq | hq
      · cases hb : gL w (ysub (yadd (yscl 500 ru) en) i) with
        | false => rw [hb] at hq; cases hq
        | true =>
          rw [hb, cond_true] at hq
          have l1 := gL_sub hb hw
          rw [yev_add, yev_scl] at l1
          have hS' : ∀ k : Nat, (k : Int) < 500 * zfi h 111 30 + zfi h 111 31 → zei h 133 k = zei h2 133 k ∧ zei h 134 k = zei h2 134 k := fun k hk => by
            have := hS k (by omega)
            exact ⟨this.1.symm, this.2.symm⟩
          refine gkp_same hw (fun g x v hg z => ?_) q hq
          rw [Bool.and_eq_true] at hg
          have g1 := Nat.le_of_ble_eq_true hg.1
          have g2 := Nat.le_of_ble_eq_true hg.2
          have : g = 1 ∨ g = 2 ∨ g = 3 := by omega
          rcases this with rfl | rfl | rfl
          · unfold zgp at z ⊢
            rw [hf 31, hf 30]
            exact zR1_congr hS' z
          · unfold zgp at z ⊢
            rw [hf 31, hf 30, hz 137 (by decide) (by decide), hz 138 (by decide) (by decide), hz 139 (by decide) (by decide)]
            exact zR2_congr hS' (fun _ _ => ⟨rfl, rfl, rfl⟩) z
          · unfold zgp at z ⊢
            rw [hf 31, hf 30]
            exact zR3_congr hS' z
      · cases hb : gL w (ysub (yscl 500 ru) i) with
        | false => rw [hb] at hq; cases hq
        | true =>
          rw [hb, cond_true] at hq
          have l1 := gL_sub hb hw
          rw [yev_scl] at l1
          refine gkp_same hw (fun g x v hg z => ?_) q hq
          have e := Nat.eq_of_beq_eq_true hg
          subst e
          unfold zgp at z ⊢
          rw [hf 30, hz 137 (by decide) (by decide), hz 138 (by decide) (by decide), hz 139 (by decide) (by decide), hz 140 (by decide) (by decide)]
          exact zR4_congr (fun k hk => by have := hS k (by omega); exact ⟨this.1.symm, this.2.symm⟩) (fun _ _ => ⟨rfl, rfl, rfl⟩) (fun _ _ => rfl) z
    · cases hq
theorem gwC_ok {i : yL} (hw : yWo (t, zgp xs) w ρ τ h) (hf : ∀ f, zfi h2 111 f = zfi h 111 f) (hz : ∀ p, p ≠ 140 → zei h2 p = zei h p) (hC : ∀ k : Nat, k ≠ (yev ρ i).toNat → zei h2 140 k = zei h 140 k) (hi : 0 ≤ yev ρ i) : ∀ q ∈ gwC w i, yLn (t, zgp xs) h2 ρ w.1 q := by
  intro q hq
  unfold gwC at hq
  rcases List.mem_append.mp hq with hq | hq
  · refine gkp_same hw (fun g x v hg => ?_) q hq
    have hne : g ≠ 4 := fun e => by subst e; cases hg
    exact zgp_eq (fun _ => ⟨hf _, hz _ (by decide)⟩) (fun _ _ => hf _) (fun _ _ => hf _) (fun _ => ⟨hz _ (by decide), hz _ (by decide)⟩) (fun _ => ⟨hz _ (by decide), hz _ (by decide), hz _ (by decide)⟩) (fun e => absurd e hne)
  · split at hq
    · rename_i ru hru
      have r1 := (gF_ok hru hw).1
      cases hb : gL w (ysub ru i) with
      | false => rw [hb] at hq; cases hq
      | true =>
        rw [hb, cond_true] at hq
        have l1 := gL_sub hb hw
        refine gkp_same hw (fun g x v hg z => ?_) q hq
        have e := Nat.eq_of_beq_eq_true hg
        subst e
        unfold zgp at z ⊢
        rw [hf 30, hz 133 (by decide), hz 134 (by decide), hz 137 (by decide), hz 138 (by decide), hz 139 (by decide)]
        exact zR4_congr (fun _ _ => ⟨rfl, rfl⟩) (fun _ _ => ⟨rfl, rfl, rfl⟩) (fun k hk => (hC k (by omega)).symm) z
    · cases hq
theorem gb4_ok {ru i : yL} (hru : gF w 30 = some ru) (hw : yWo (t, zgp xs) w ρ τ h) (hf : ∀ f, zfi h2 111 f = zfi h 111 f) (hz : ∀ p, p ≠ 137 → p ≠ 138 → p ≠ 139 → zei h2 p = zei h p) (hA : ∀ k : Nat, k ≠ (yev ρ i).toNat → zei h2 137 k = zei h 137 k ∧ zei h2 138 k = zei h 138 k ∧ zei h2 139 k = zei h 139 k) (hi : 0 ≤ yev ρ i) : ∀ q ∈ gb4 w ru i, yLn (t, zgp xs) h2 ρ w.1 q := by
  intro q hq
  have r1 := (gF_ok hru hw).1
  unfold gb4 at hq
  rcases List.mem_append.mp hq with hq | hq
  · refine gkp_same hw (fun g x v hg => ?_) q hq
    have e := Nat.eq_of_beq_eq_true hg
    subst e
    exact zgp_eq (fun _ => ⟨hf _, hz _ (by decide) (by decide) (by decide)⟩) (fun e => by omega) (fun e => by omega) (fun e => by omega) (fun e => by omega) (fun e => by omega)
  · cases hb : gL w (ysub (yscl 12 ru) i) with
    | false => rw [hb] at hq; cases hq
    | true =>
      rw [hb, cond_true] at hq
      have l1 := gL_sub hb hw
      rw [yev_scl] at l1
      refine gkp_same hw (fun g x v hg z => ?_) q hq
      have e := Nat.eq_of_beq_eq_true hg
      subst e
      unfold zgp at z ⊢
      rw [hf 30, hz 133 (by decide) (by decide) (by decide), hz 134 (by decide) (by decide) (by decide), hz 140 (by decide) (by decide) (by decide)]
      exact zR4_congr (fun _ _ => ⟨rfl, rfl⟩) (fun k hk => by have := hA k (by omega); exact ⟨this.1.symm, this.2.1.symm, this.2.2.symm⟩) (fun _ _ => rfl) z
theorem gc2_ok {ru i : yL} (hru : gF w 30 = some ru) (hw : yWo (t, zgp xs) w ρ τ h) (hf : ∀ f, zfi h2 111 f = zfi h 111 f) (hz : ∀ p, p ≠ 137 → p ≠ 138 → p ≠ 139 → zei h2 p = zei h p) (hA : ∀ k : Nat, k ≠ (yev ρ i).toNat → zei h2 137 k = zei h 137 k ∧ zei h2 138 k = zei h 138 k ∧ zei h2 139 k = zei h 139 k) (hi : 0 ≤ yev ρ i) : ∀ q ∈ gc2 w ru i, yLn (t, zgp xs) h2 ρ w.1 q := by
  intro q hq
  have r1 := (gF_ok hru hw).1
  unfold gc2 at hq
  split at hq
  · rename_i v c hc
    obtain ⟨z, z1, z2⟩ := gK_ok hc hw
    cases hb : gL w (ysub (yadd (yscl 12 ru) c) i) with
    | false => rw [hb] at hq; cases hq
    | true =>
      rw [hb, cond_true] at hq
      have l1 := gL_sub hb hw
      rw [yev_add, yev_scl] at l1
      rcases List.mem_singleton.mp hq with rfl
      refine (yln_kind (g := 2)).mpr ⟨ysp_con _ _, z2, ?_⟩
      show zgp xs 2 h2 (yev ρ (0, [])) (yev ρ c)
      unfold zgp at z ⊢
      rw [hf 31, hf 30, hz 133 (by decide) (by decide) (by decide), hz 134 (by decide) (by decide) (by decide)]
      exact zR2_congr (fun _ _ => ⟨rfl, rfl⟩) (fun k hk => by have := hA k (by omega); exact ⟨this.1.symm, this.2.1.symm, this.2.2.symm⟩) z
  · cases hq
end GH
