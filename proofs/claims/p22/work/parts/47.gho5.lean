section GJ
variable {t : Nat → List Int32} {xs : Nat → Int32} {w : yW} {ρ : yR} {τ : List Nat} {h h2 : zH}
theorem zR2_en {en en' ru v : Int} {S V A B D : Nat → Int} (q : zR2 en ru S V A B D v) (he : en ≤ en') : zR2 en' ru S V A B D v := ⟨q.1, q.2.1, fun c hc => zok_mono (q.2.2 c hc) he⟩
theorem gwFe_ok {x : yL} (hw : yWo (t, zgp xs) w ρ τ h) (hop : zfi h2 111 31 = yev ρ x) (hf : ∀ f, f ≠ 31 → zfi h2 111 f = zfi h 111 f) (hz : ∀ p, zei h2 p = zei h p) : ∀ q ∈ gwFe w x, yLn (t, zgp xs) h2 ρ w.1 q := by
  intro q hq
  have hkeep : ∀ q ∈ gkp (fun g => Nat.beq g 0 || Nat.ble 4 g) w.2.2.2.2, yLn (t, zgp xs) h2 ρ w.1 q := by
    refine gkp_same hw (fun g x v hg => ?_)
    rw [Bool.or_eq_true] at hg
    have : g = 0 ∨ 4 ≤ g := hg.imp Nat.eq_of_beq_eq_true Nat.le_of_ble_eq_true
    exact zgp_eq (fun _ => ⟨hf _ (by decide), hz _⟩) (fun e e' => by omega) (fun _ _ => hf _ (by decide)) (fun _ => ⟨hz _, hz _⟩) (fun _ => ⟨hz _, hz _, hz _⟩) (fun _ => hz _)
  unfold gwFe at hq
  split at hq
  · rename_i ru hru
    have r1 := (gF_ok hru hw).1
    cases hb : yzero x with
    | true =>
      rw [hb, cond_true] at hq
      rcases List.mem_append.mp hq with hq | hq
      · exact hkeep q hq
      · cases hb2 : gL w (yneg ru) with
        | false => rw [hb2] at hq; cases hq
        | true =>
          rw [hb2, cond_true] at hq
          have r2 := gL_neg hb2 hw
          rcases List.mem_singleton.mp hq with rfl
          refine (yln_kind (g := 2)).mpr ⟨ysp_con _ _, ysp_con _ _, ?_⟩
          show zR2 _ _ _ _ _ _ _ (yev ρ (0, []))
          rw [hf 30 (by decide), r1, yev_c]
          exact ⟨Int.le_refl _, r2, fun c hc => by omega⟩
    | false =>
      rw [hb, cond_false] at hq
      split at hq
      · rename_i en hen
        have e1 := (gF_ok hen hw).1
        cases hb2 : yzero (ysub x (yadd (1, []) en)) with
        | false => rw [hb2, cond_false] at hq; exact hkeep q hq
        | true =>
          rw [hb2, cond_true] at hq
          have x1 := yz_sub (ρ := ρ) hb2
          rw [yev_add, yev_c] at x1
          rcases List.mem_append.mp hq with hq | hq
          · refine gkp_same hw (fun g x' v hg z => ?_) q hq
            have hne : g ≠ 1 := fun e => by subst e; cases hg
            by_cases h2' : g = 2
            · subst h2'
              unfold zgp at z ⊢
              rw [hop, hf 30 (by decide), hz 133, hz 134, hz 137, hz 138, hz 139, x1]
              rw [e1] at z
              exact zR2_en z (by omega)
            · by_cases h3 : g = 3
              · subst h3
                unfold zgp at z ⊢
                rw [hop, hf 30 (by decide), hz 133, hz 134, x1]
                rw [e1] at z
                exact ⟨z.1, by have := z.2.1; omega, z.2.2⟩
              · exact zgp_eq (fun _ => ⟨hf _ (by decide), hz _⟩) (fun e e' => by omega) (fun _ _ => hf _ (by decide)) (fun _ => ⟨hz _, hz _⟩) (fun _ => ⟨hz _, hz _, hz _⟩) (fun _ => hz _) z
          · split at hq
            · rename_i s d v hk hv
              split at hq
              · rename_i d2 hd2
                rcases List.mem_singleton.mp hq with rfl
                obtain ⟨z, zs, zd⟩ := gK_ok hk hw
                have z : zR1 (zfi h 111 31) (zfi h 111 30) (zei h 133) (zei h 134) (yev ρ s.2) (yev ρ d) := z
                rw [e1, r1] at z
                obtain ⟨m1, m2, m3, m4, m5⟩ := z
                have hv' := (gA_ok (by decide) hv hw).1
                have eat : (yev ρ (yadd (yscl 500 ru) en)).toNat = 500 * (yev ρ ru).toNat + (yev ρ s.2).toNat + (yev ρ en - yev ρ s.2).toNat := by
                  rw [yev_add, yev_scl]
                  omega
                rw [eat] at hv'
                have hst := gstp_ok hw zd m4 hd2 (zei h 134 (500 * (yev ρ ru).toNat + (yev ρ s.2).toNat + (yev ρ en - yev ρ s.2).toNat)) (fun y' hy => by
                  have := (gA_ok (by decide) hy hw).1
                  rw [eat] at this
                  exact this)
                obtain ⟨k1, k2, k3⟩ := hst
                refine (yln_kind (g := 1)).mpr ⟨zs, k3, ?_⟩
                show zR1 _ _ _ _ (yev ρ s.2) (yev ρ d2)
                rw [hop, hf 30 (by decide), hz 133, hz 134, r1, x1]
                refine ⟨m1, by omega, m3, k2, ?_⟩
                rw [show (1 + yev ρ en - yev ρ s.2).toNat = (yev ρ en - yev ρ s.2).toNat + 1 by omega, zfw_app m5, hv']
                exact k1
              · cases hq
            · cases hq
      · exact hkeep q hq
  · exact hkeep q hq
theorem gwFr_ok {x : yL} (hw : yWo (t, zgp xs) w ρ τ h) (hop : zfi h2 111 30 = yev ρ x) (hf : ∀ f, f ≠ 30 → zfi h2 111 f = zfi h 111 f) (hz : ∀ p, zei h2 p = zei h p) : ∀ q ∈ gwFr w x, yLn (t, zgp xs) h2 ρ w.1 q := by
  intro q hq
  unfold gwFr at hq
  rcases List.mem_append.mp hq with hq | hq
  · refine gkp_same hw (fun g x v hg => ?_) q hq
    have e := Nat.eq_of_beq_eq_true hg
    subst e
    exact zgp_eq (fun _ => ⟨hf _ (by decide), hz _⟩) (fun e => by omega) (fun e => by omega) (fun e => by omega) (fun e => by omega) (fun e => by omega)
  · split at hq
    · rename_i ru en v c v4 hru hen hk2 hk4
      have r1 := (gF_ok hru hw).1
      have e1 := (gF_ok hen hw).1
      cases hb : (yzero (ysub x (yadd (1, []) ru)) && (gL w (ysub en (500, [])) && gL w (yneg ru))) with
      | false => rw [hb] at hq; cases hq
      | true =>
        rw [hb, cond_true] at hq
        simp only [Bool.and_eq_true] at hb
        obtain ⟨b1, b2, b3⟩ := hb
        have x1 := yz_sub (ρ := ρ) b1
        rw [yev_add, yev_c] at x1
        have x2 := gL_sub b2 hw
        rw [yev_c] at x2
        have x3 := gL_neg b3 hw
        split at hq
        · rename_i k hk
          have k1 := (gA_ok (by decide) hk hw).1
          cases hb4 : (yzero (ysub k c) && gL w (ysub c (12, []))) with
          | false => rw [hb4] at hq; cases hq
          | true =>
            rw [hb4, cond_true] at hq
            rw [Bool.and_eq_true] at hb4
            have y1 := yz_sub (ρ := ρ) hb4.1
            have y2 := gL_sub hb4.2 hw
            rw [yev_c] at y2
            rcases List.mem_singleton.mp hq with rfl
            obtain ⟨z2, -, -⟩ := gK_ok hk2 hw
            obtain ⟨v4a, v4b⟩ := v4
            obtain ⟨z4, -, -⟩ := gK_ok hk4 hw
            have z2 : zR2 (zfi h 111 31) (zfi h 111 30) (zei h 133) (zei h 134) (zei h 137) (zei h 138) (zei h 139) (yev ρ c) := z2
            have z4 : zR4 (zfi h 111 30) (zei h 133) (zei h 134) (zei h 137) (zei h 138) (zei h 139) (zei h 140) := z4
            rw [e1, r1] at z2
            rw [r1] at z4
            refine (yln_kind (g := 4)).mpr ⟨ysp_con _ _, ysp_con _ _, ?_⟩
            show zR4 _ _ _ _ _ _ _
            rw [hop, hz 133, hz 134, hz 137, hz 138, hz 139, hz 140, x1]
            intro r hr
            by_cases hlt : (r : Int) < yev ρ ru
            · exact z4 r hlt
            · have er : r = (yev ρ ru).toNat := by omega
              rw [er, k1]
              exact ⟨by omega, fun c' hc' => zok_mono (z2.2.2 c' (by omega)) x2⟩
        · cases hq
    · cases hq
/-- behind a store into an array -/
theorem zgw_a {tt : Nat} {r i x : yL} (hw : yWo (t, zgp xs) w ρ τ h) (hr : 0 ≤ yev ρ r) (hx : ysp w.1 x) {kd N : Nat} {f : Nat → Int32} (hh : h[(yev ρ r).toNat]? = some (.inl (kd, N, .inl f))) (hi : 0 ≤ yev ρ i) {x0 : Int32} (hx0 : x0.toInt = yev ρ x) (hne : Nat.beq tt 79 = false) : ∀ q ∈ zgw w tt 0 r i x, yLn (t, zgp xs) (h.set (yev ρ r).toNat (.inl (kd, N, .inl (upd f (yev ρ i).toNat x0)))) ρ w.1 q := by
  intro q hq
  unfold zgw at hq
  rw [hne, cond_false] at hq
  have key : ∀ p : Nat, yzero (ysub r ((p : Int), [])) = true → (yev ρ r).toNat = p := fun p e => by
    have := yz_sub (ρ := ρ) e
    rw [yev_c] at this
    omega
  obtain ⟨s1, s2, s3⟩ := zset_a hh (yev ρ i).toNat x0
  generalize hH : h.set (yev ρ r).toNat (.inl (kd, N, .inl (upd f (yev ρ i).toNat x0))) = H at *
  clear hH hh
  cases h1 : Nat.beq tt 110 with
  | true =>
    rw [h1, cond_true] at hq
    cases hb : yzero (ysub r (142, [])) with
    | false => rw [hb] at hq; cases hq
    | true =>
      rw [hb, cond_true] at hq
      have e := key 142 hb
      rw [e] at s1 s2
      exact gwO_ok hw (fun f => s3 _ _) s1 (fun k hk => (s2 k).trans (if_neg hk)) hi q hq
  | false =>
  rw [h1, cond_false] at hq
  cases h1 : Nat.beq tt 101 with
  | true =>
    rw [h1, cond_true] at hq
    cases hb : yzero (ysub r (133, [])) with
    | false => rw [hb] at hq; cases hq
    | true =>
      rw [hb, cond_true] at hq
      have e := key 133 hb
      rw [e] at s1 s2
      exact gwS_ok hw (fun f => s3 _ _) (fun p a _ => s1 p a) (fun k hk => ⟨(s2 k).trans (if_neg hk), congrFun (s1 134 (by decide)) k⟩) hi q hq
  | false =>
  rw [h1, cond_false] at hq
  cases h1 : Nat.beq tt 102 with
  | true =>
    rw [h1, cond_true] at hq
    cases hb : yzero (ysub r (134, [])) with
    | false => rw [hb] at hq; cases hq
    | true =>
      rw [hb, cond_true] at hq
      have e := key 134 hb
      rw [e] at s1 s2
      exact gwS_ok hw (fun f => s3 _ _) (fun p _ a => s1 p a) (fun k hk => ⟨congrFun (s1 133 (by decide)) k, (s2 k).trans (if_neg hk)⟩) hi q hq
  | false =>
  rw [h1, cond_false] at hq
  cases h1 : Nat.beq tt 105 with
  | true =>
    rw [h1, cond_true] at hq
    cases hb : yzero (ysub r (137, [])) with
    | false => rw [hb] at hq; cases hq
    | true =>
      rw [hb, cond_true] at hq
      have e := key 137 hb
      rw [e] at s1 s2
      exact gwA_ok hw hx (fun f => s3 _ _) s1 (fun k hk => (s2 k).trans (if_neg hk)) hi q hq
  | false =>
  rw [h1, cond_false] at hq
  cases h1 : Nat.beq tt 106 with
  | true =>
    rw [h1, cond_true] at hq
    cases hb : yzero (ysub r (138, [])) with
    | false => rw [hb] at hq; cases hq
    | true =>
      rw [hb, cond_true] at hq
      have e := key 138 hb
      rw [e] at s1 s2
      exact gwB_ok hw hx (fun f => s3 _ _) s1 (fun k hk => (s2 k).trans (if_neg hk)) hi q hq
  | false =>
  rw [h1, cond_false] at hq
  cases h1 : Nat.beq tt 107 with
  | true =>
    rw [h1, cond_true] at hq
    cases hb : yzero (ysub r (139, [])) with
    | false => rw [hb] at hq; cases hq
    | true =>
      rw [hb, cond_true] at hq
      have e := key 139 hb
      rw [e] at s1 s2
      rw [hx0] at s2
      exact gwD_ok hw hx (fun f => s3 _ _) s1 s2 hi q hq
  | false =>
  rw [h1, cond_false] at hq
  cases h1 : Nat.beq tt 108 with
  | true =>
    rw [h1, cond_true] at hq
    cases hb : yzero (ysub r (140, [])) with
    | false => rw [hb] at hq; cases hq
    | true =>
      rw [hb, cond_true] at hq
      have e := key 140 hb
      rw [e] at s1 s2
      exact gwC_ok hw (fun f => s3 _ _) s1 (fun k hk => (s2 k).trans (if_neg hk)) hi q hq
  | false => rw [h1] at hq; cases hq
theorem zgw_f {tt b : Nat} {r i : yL} {v : yV} (hw : yWo (t, zgp xs) w ρ τ h) (hr : 0 ≤ yev ρ r) {cls : Nat} {fs : List Value} {u : Value} (hh : h[(yev ρ r).toNat]? = some (.inr (cls, fs))) (hb : b < fs.length) (hv : v.1 = 0) (hu : yVo ρ w.1 v u) (ht : Nat.beq tt 79 = true) : ∀ q ∈ zgw w tt b r i v.2, yLn (t, zgp xs) (h.set (yev ρ r).toNat (.inr (cls, fs.set b u))) ρ w.1 q := by
  intro q hq
  obtain ⟨v1, x⟩ := v
  dsimp only at hv hq
  subst hv
  obtain ⟨u1, x0, rfl, u3⟩ := hu
  dsimp only at u1 u3
  unfold zgw at hq
  rw [ht, cond_true] at hq
  cases hbr : yzero (ysub r (111, [])) with
  | false => rw [hbr] at hq; cases hq
  | true =>
    rw [hbr, cond_true] at hq
    have e : (yev ρ r).toNat = 111 := by
      have := yz_sub (ρ := ρ) hbr
      rw [yev_c] at this
      omega
    obtain ⟨s1, s2, s3⟩ := zset_f (u := .int x0) hh hb
    have s3 := s3 x0 rfl
    rw [u3] at s3
    generalize hH : h.set (yev ρ r).toNat (.inr (cls, fs.set b (.int x0))) = H at *
    rw [e] at s2 s3
    clear hH hh
    cases h1 : Nat.beq b 34 with
    | true =>
      rw [h1, cond_true] at hq
      have eb := Nat.eq_of_beq_eq_true h1
      subst eb
      rcases List.mem_append.mp hq with hq | hq
      · refine gkp_same hw (fun g x v hg => ?_) q hq
        have := Nat.le_of_ble_eq_true hg
        exact zgp_eq (fun e => by omega) (fun _ _ => s2 _ _ (Or.inr (by decide))) (fun _ _ => s2 _ _ (Or.inr (by decide))) (fun _ => ⟨s1 _, s1 _⟩) (fun _ => ⟨s1 _, s1 _, s1 _⟩) (fun _ => s1 _)
      · exact gwFo_ok hw s3 s1 q hq
    | false =>
      rw [h1, cond_false] at hq
      cases h1 : Nat.beq b 31 with
      | true =>
        rw [h1, cond_true] at hq
        have eb := Nat.eq_of_beq_eq_true h1
        subst eb
        exact gwFe_ok hw s3 (fun f hf => s2 _ _ (Or.inr hf)) s1 q hq
      | false =>
        rw [h1, cond_false] at hq
        cases h1 : Nat.beq b 30 with
        | true =>
          rw [h1, cond_true] at hq
          have eb := Nat.eq_of_beq_eq_true h1
          subst eb
          exact gwFr_ok hw s3 (fun f hf => s2 _ _ (Or.inr hf)) s1 q hq
        | false => rw [h1] at hq; cases hq
end GJ
