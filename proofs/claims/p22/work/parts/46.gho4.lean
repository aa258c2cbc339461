section GI
variable {t : Nat → List Int32} {xs : Nat → Int32} {w : yW} {ρ : yR} {τ : List Nat} {h h2 : zH}
theorem gwA_ok {i x : yL} (hw : yWo (t, zgp xs) w ρ τ h) (hx : ysp w.1 x) (hf : ∀ f, zfi h2 111 f = zfi h 111 f) (hz : ∀ p, p ≠ 137 → zei h2 p = zei h p) (hA : ∀ k : Nat, k ≠ (yev ρ i).toNat → zei h2 137 k = zei h 137 k) (hi : 0 ≤ yev ρ i) : ∀ q ∈ gwA w i x, yLn (t, zgp xs) h2 ρ w.1 q := by
  intro q hq
  unfold gwA at hq
  split at hq
  · rename_i ru en hru hen
    have r1 := (gF_ok hru hw).1
    have e1 := (gF_ok hen hw).1
    rcases List.mem_append.mp hq with hq | hq
    · exact gb4_ok hru hw hf (fun p a _ _ => hz p a) (fun k hk => ⟨hA k hk, congrFun (hz 138 (by decide)) k, congrFun (hz 139 (by decide)) k⟩) hi q hq
    rcases List.mem_append.mp hq with hq | hq
    · exact gc2_ok hru hw hf (fun p a _ _ => hz p a) (fun k hk => ⟨hA k hk, congrFun (hz 138 (by decide)) k, congrFun (hz 139 (by decide)) k⟩) hi q hq
    cases hb : (yzero (ysub x en) && (gL w (yneg en) && gL w (yneg ru))) with
    | false => rw [hb] at hq; cases hq
    | true =>
      rw [hb, cond_true] at hq
      simp only [Bool.and_eq_true] at hb
      obtain ⟨b1, b2, b3⟩ := hb
      have c1 := yz_sub (ρ := ρ) b1
      have c2 := gL_neg b2 hw
      have c3 := gL_neg b3 hw
      rcases List.mem_cons.mp hq with rfl | hq
      · refine (yln_kind (g := 1)).mpr ⟨hx, ysp_con _ _, ?_⟩
        show zR1 _ _ _ _ (yev ρ x) (yev ρ (0, []))
        rw [hf 31, hf 30, e1, r1, yev_c]
        refine ⟨by omega, by omega, by omega, by omega, ?_⟩
        rw [show (yev ρ en - yev ρ x).toNat = 0 by omega]
        rfl
      · rcases List.mem_singleton.mp hq with rfl
        refine (yln_kind (g := 3)).mpr ⟨hx, hx, ?_⟩
        show zR3 _ _ _ _ (yev ρ x) (yev ρ x)
        rw [hf 31, hf 30, e1, r1]
        refine ⟨⟨by omega, by omega, 0, ?_⟩, by omega, by omega⟩
        rw [show (yev ρ x - yev ρ x).toNat = 0 by omega]
        rfl
  · cases hq
theorem gwB_ok {i x : yL} (hw : yWo (t, zgp xs) w ρ τ h) (hx : ysp w.1 x) (hf : ∀ f, zfi h2 111 f = zfi h 111 f) (hz : ∀ p, p ≠ 138 → zei h2 p = zei h p) (hA : ∀ k : Nat, k ≠ (yev ρ i).toNat → zei h2 138 k = zei h 138 k) (hi : 0 ≤ yev ρ i) : ∀ q ∈ gwB w i x, yLn (t, zgp xs) h2 ρ w.1 q := by
  intro q hq
  unfold gwB at hq
  split at hq
  · rename_i ru en hru hen
    have r1 := (gF_ok hru hw).1
    have e1 := (gF_ok hen hw).1
    rcases List.mem_append.mp hq with hq | hq
    · exact gb4_ok hru hw hf (fun p _ a _ => hz p a) (fun k hk => ⟨congrFun (hz 137 (by decide)) k, hA k hk, congrFun (hz 139 (by decide)) k⟩) hi q hq
    rcases List.mem_append.mp hq with hq | hq
    · exact gc2_ok hru hw hf (fun p _ a _ => hz p a) (fun k hk => ⟨congrFun (hz 137 (by decide)) k, hA k hk, congrFun (hz 139 (by decide)) k⟩) hi q hq
    cases hb : yzero (ysub x en) with
    | false => rw [hb] at hq; cases hq
    | true =>
      rw [hb, cond_true] at hq
      have c1 := yz_sub (ρ := ρ) hb
      split at hq
      · rename_i a ha
        split at hq
        · rename_i d hd
          obtain ⟨k1, k2⟩ := gG_ok (g := 1) hd hw
          obtain ⟨k3, k4⟩ := gA_ok (by decide) ha hw
          unfold zgp zR1 at k1
          rw [e1, r1] at k1
          obtain ⟨m1, m2, m3, m4, m5⟩ := k1
          rcases List.mem_cons.mp hq with rfl | hq
          · refine (yln_kind (g := 1)).mpr ⟨hx, ysp_con _ _, ?_⟩
            show zR1 _ _ _ _ (yev ρ x) (yev ρ (0, []))
            rw [hf 31, hf 30, e1, r1, yev_c]
            refine ⟨by omega, by omega, by omega, by omega, ?_⟩
            rw [show (yev ρ en - yev ρ x).toNat = 0 by omega]
            rfl
          · rcases List.mem_singleton.mp hq with rfl
            refine (yln_kind (g := 3)).mpr ⟨k4, hx, ?_⟩
            show zR3 _ _ _ _ (yev ρ a) (yev ρ x)
            rw [hf 31, hf 30, e1, r1, hz 133 (by decide), hz 134 (by decide)]
            refine ⟨⟨by omega, by omega, (yev ρ d).toNat, ?_⟩, by omega, by omega⟩
            rw [c1]
            exact m5
        · cases hq
      · cases hq
  · cases hq
theorem gwDt_ok {ru en i x c' : yL} (q : gwDt w ru en i x = some c') : ∃ (v : yV) (c a b l d : yL), gK w 2 = some (v, c) ∧ yzero (ysub x en) = true ∧ yzero (ysub i (yadd (yscl 12 ru) c)) = true ∧ gA w 137 i = some a ∧ gA w 138 i = some b ∧ ylnl w.2.2.2.2 (100007, a) = some l ∧ yzero (ysub l b) = true ∧ ylnl w.2.2.2.2 (100005, b) = some d ∧ c' = yadd (1, []) c := by
  unfold gwDt at q
  split at q
  · rename_i v c hc
    cases hb : (yzero (ysub x en) && yzero (ysub i (yadd (yscl 12 ru) c))) with
    | false => rw [hb] at q; cases q
    | true =>
      rw [hb, cond_true] at q
      rw [Bool.and_eq_true] at hb
      split at q
      · rename_i a b ha hb2
        split at q
        · rename_i l hl
          cases hb3 : yzero (ysub l b) with
          | false => rw [hb3] at q; cases q
          | true =>
            rw [hb3, cond_true] at q
            split at q
            · rename_i d hd
              cases q
              exact ⟨v, c, a, b, l, d, hc, hb.1, hb.2, ha, hb2, hl, hb3, hd, rfl⟩
            · cases q
        · cases q
      · cases q
  · cases q
theorem gwD_ok {i x : yL} (hw : yWo (t, zgp xs) w ρ τ h) (hx : ysp w.1 x) (hf : ∀ f, zfi h2 111 f = zfi h 111 f) (hz : ∀ p, p ≠ 139 → zei h2 p = zei h p) (hA : ∀ k : Nat, zei h2 139 k = if k = (yev ρ i).toNat then yev ρ x else zei h 139 k) (hi : 0 ≤ yev ρ i) : ∀ q ∈ gwD w i x, yLn (t, zgp xs) h2 ρ w.1 q := by
  intro q hq
  have hA' : ∀ k : Nat, k ≠ (yev ρ i).toNat → zei h2 139 k = zei h 139 k := fun k hk => (hA k).trans (if_neg hk)
  unfold gwD at hq
  split at hq
  · rename_i ru en hru hen
    have r1 := (gF_ok hru hw).1
    have e1 := (gF_ok hen hw).1
    rcases List.mem_append.mp hq with hq | hq
    · exact gb4_ok hru hw hf (fun p _ _ a => hz p a) (fun k hk => ⟨congrFun (hz 137 (by decide)) k, congrFun (hz 138 (by decide)) k, hA' k hk⟩) hi q hq
    split at hq
    · rename_i c' hc'
      obtain ⟨v, c, a, b, l, d, hc, hb1, hb2, ha, hb, hl, hb3, hd, rfl⟩ := gwDt_ok hc'
      rcases List.mem_singleton.mp hq with rfl
      obtain ⟨z2, -, z2s⟩ := gK_ok hc hw
      obtain ⟨z3, -⟩ := gG_ok (g := 3) hl hw
      obtain ⟨z1, -⟩ := gG_ok (g := 1) hd hw
      have x1 := yz_sub (ρ := ρ) hb1
      have x2 := yz_sub (ρ := ρ) hb2
      rw [yev_add, yev_scl] at x2
      have x3 := yz_sub (ρ := ρ) hb3
      have aa := (gA_ok (by decide) ha hw).1
      have bb := (gA_ok (by decide) hb hw).1
      refine (yln_kind (g := 2)).mpr ⟨ysp_con _ _, ysp_add (ysp_con _ _) z2s, ?_⟩
      show zR2 _ _ _ _ _ _ _ (yev ρ (yadd (1, []) c))
      unfold zgp zR2 at z2
      unfold zgp zR3 at z3
      unfold zgp zR1 at z1
      rw [e1, r1] at z1 z2 z3
      obtain ⟨n1, n2, n3⟩ := z2
      rw [hf 31, hf 30, e1, r1, hz 133 (by decide), hz 134 (by decide), hz 137 (by decide), hz 138 (by decide), yev_add, yev_c]
      refine ⟨by omega, n2, fun k hk => ?_⟩
      by_cases hkc : (k : Int) < yev ρ c
      · exact zok_congr (fun _ _ _ => ⟨rfl, rfl⟩) rfl rfl (hA' _ (by omega)).symm (n3 k hkc)
      · have hat : 12 * (yev ρ ru).toNat + k = (yev ρ i).toNat := by omega
        have hD : zei h2 139 (12 * (yev ρ ru).toNat + k) = yev ρ en := by rw [hat, hA, if_pos rfl, x1]
        unfold zok
        rw [hD, hat, aa, bb]
        refine ⟨?_, ⟨z1.1, z1.2.1, _, z1.2.2.2.2⟩, Int.le_refl _⟩
        rw [← x3]
        exact z3.1
    · exact gc2_ok hru hw hf (fun p _ _ a => hz p a) (fun k hk => ⟨congrFun (hz 137 (by decide)) k, congrFun (hz 138 (by decide)) k, hA' k hk⟩) hi q hq
  · cases hq
theorem g0t_ok {l : yL} (hl : ysp w.1 l) (z : zR0 (zfi h2 111 34) (zei h2 142) (yev ρ l)) : ∀ q ∈ g0t l, yLn (t, zgp xs) h2 ρ w.1 q := by
  intro q hq
  rcases List.mem_singleton.mp hq with rfl
  exact (yln_kind (g := 0)).mpr ⟨ysp_con _ _, hl, z⟩
theorem gwFo_ok {x : yL} (hw : yWo (t, zgp xs) w ρ τ h) (hop : zfi h2 111 34 = yev ρ x) (hz : ∀ p, zei h2 p = zei h p) : ∀ q ∈ gwFo w x, yLn (t, zgp xs) h2 ρ w.1 q := by
  intro q hq
  unfold gwFo at hq
  cases hb : yzero x with
  | true =>
    rw [hb, cond_true] at hq
    refine g0t_ok (l := (0, [])) (ysp_con _ _) ?_ q hq
    rw [hop, yzero_ev hb, yev_c]
    rfl
  | false =>
    rw [hb, cond_false] at hq
    split at hq
    · rename_i op v b ho hbk
      obtain ⟨z, -, zs⟩ := gK_ok hbk hw
      have o1 := (gF_ok ho hw).1
      replace z : yev ρ b = zbc (zei h 142) (zfi h 111 34).toNat := z
      rw [o1] at z
      cases h1 : (yzero (ysub x (yadd (1, []) op)) && gL w (yneg op)) with
      | true =>
        rw [h1, cond_true] at hq
        rw [Bool.and_eq_true] at h1
        have a1 := yz_sub (ρ := ρ) h1.1
        rw [yev_add, yev_c] at a1
        have a2 := gL_neg h1.2 hw
        have e9 : (yev ρ x).toNat = (yev ρ op).toNat + 1 := by omega
        split at hq
        · rename_i v9 hv9
          have a3 := (gA_ok (by decide) hv9 hw).1
          cases h2' : gbin w v9 with
          | true =>
            rw [h2', cond_true] at hq
            have a4 := gbin_ok h2' hw
            refine g0t_ok (l := yadd (1, []) b) (ysp_add (ysp_con _ _) zs) ?_ q hq
            unfold zR0
            rw [hop, hz, e9, yev_add, yev_c]
            unfold zbc
            rw [a3, zbb_1 a4]
            omega
          | false =>
            rw [h2', cond_false] at hq
            cases h3' : gnob w v9 with
            | false => rw [h3'] at hq; cases hq
            | true =>
              rw [h3', cond_true] at hq
              have a4 := gnob_ok h3' hw
              refine g0t_ok zs ?_ q hq
              unfold zR0
              rw [hop, hz, e9]
              unfold zbc
              rw [a3, zbb_0 a4]
              omega
        · cases hq
      | false =>
        rw [h1, cond_false] at hq
        cases h4 : (yzero (ysub x (yadd (-1, []) op)) && gL w (ysub (1, []) op)) with
        | false => rw [h4] at hq; cases hq
        | true =>
          rw [h4, cond_true] at hq
          rw [Bool.and_eq_true] at h4
          have a1 := yz_sub (ρ := ρ) h4.1
          rw [yev_add, yev_c] at a1
          have a2 := gL_sub h4.2 hw
          rw [yev_c] at a2
          have e9 : (yev ρ op).toNat = (yev ρ x).toNat + 1 := by omega
          rw [e9] at z
          unfold zbc at z
          split at hq
          · rename_i v9 hv9
            have a3 := (gA_ok (by decide) hv9 hw).1
            rw [yev_add, yev_c, ← a1] at a3
            cases h2' : gbin w v9 with
            | true =>
              rw [h2', cond_true] at hq
              have a4 := gbin_ok h2' hw
              rw [a3, zbb_1 a4] at z
              refine g0t_ok (l := yadd (-1, []) b) (ysp_add (ysp_con _ _) zs) ?_ q hq
              unfold zR0
              rw [hop, hz, yev_add, yev_c]
              omega
            | false =>
              rw [h2', cond_false] at hq
              cases h3' : gnob w v9 with
              | false => rw [h3'] at hq; cases hq
              | true =>
                rw [h3', cond_true] at hq
                have a4 := gnob_ok h3' hw
                rw [a3, zbb_0 a4] at z
                refine g0t_ok zs ?_ q hq
                unfold zR0
                rw [hop, hz]
                omega
          · cases hq
    · cases hq
theorem gstp_ok {v d d2 : yL} {y : Option yL} (hw : yWo (t, zgp xs) w ρ τ h) (hd : ysp w.1 d) (h0 : 0 ≤ yev ρ d) (q : gstp w v d y = some d2) (Y : Int) (hY : ∀ y', y = some y' → Y = yev ρ y') : zfs (yev ρ v) Y (yev ρ d).toNat = some (yev ρ d2).toNat ∧ 0 ≤ yev ρ d2 ∧ ysp w.1 d2 := by
  unfold gstp at q
  unfold zfs
  cases h1 : yzero v with
  | true =>
    rw [h1, cond_true] at q
    cases q
    rw [yzero_ev h1, if_pos rfl, yev_add, yev_c]
    exact ⟨congrArg some (by omega), by omega, ysp_add (ysp_con _ _) hd⟩
  | false =>
    rw [h1, cond_false] at q
    cases h2' : yzero (ysub v (1, [])) with
    | true =>
      have e := yz_sub (ρ := ρ) h2'
      rw [yev_c] at e
      rw [h2', cond_true] at q
      split at q
      · rename_i y'
        cases h3 : (gL w (yneg y') && gL w (ysub y' (11, []))) with
        | false => rw [h3] at q; cases q
        | true =>
          rw [h3, cond_true] at q
          cases q
          rw [Bool.and_eq_true] at h3
          have b1 := gL_neg h3.1 hw
          have b2 := gL_sub h3.2 hw
          rw [yev_c] at b2
          have b3 := hY y' rfl
          rw [e, if_neg (by decide), if_pos rfl, if_pos ⟨by omega, by omega⟩, yev_add, yev_c]
          exact ⟨congrArg some (by omega), by omega, ysp_add (ysp_con _ _) hd⟩
      · cases q
    | false =>
      rw [h2', cond_false] at q
      cases h3 : yzero (ysub v (10, [])) with
      | true =>
        have e := yz_sub (ρ := ρ) h3
        rw [yev_c] at e
        rw [h3, cond_true] at q
        cases h4 : gL w (ysub (1, []) d) with
        | false => rw [h4] at q; cases q
        | true =>
          rw [h4, cond_true] at q
          cases q
          have b1 := gL_sub h4 hw
          rw [yev_c] at b1
          rw [e, if_neg (by decide), if_neg (by decide), if_pos rfl, if_pos (by omega)]
          exact ⟨rfl, h0, hd⟩
      | false =>
        rw [h3, cond_false] at q
        cases h4 : (gL w (ysub (2, []) v) && (gL w (ysub (2, []) d) && (bif gL w (ysub v (9, [])) then true else gL w (ysub (11, []) v)))) with
        | false => rw [h4] at q; cases q
        | true =>
          rw [h4, cond_true] at q
          cases q
          simp only [Bool.and_eq_true] at h4
          obtain ⟨b1, b2, b3⟩ := h4
          have b1 := gL_sub b1 hw
          have b2 := gL_sub b2 hw
          rw [yev_c] at b1 b2
          have b4 : yev ρ v ≠ 10 := by
            cases h5 : gL w (ysub v (9, [])) with
            | true =>
              have := gL_sub h5 hw
              rw [yev_c] at this
              omega
            | false =>
              rw [h5, cond_false] at b3
              have := gL_sub b3 hw
              rw [yev_c] at this
              omega
          rw [if_neg (by omega), if_neg (by omega), if_neg b4, if_pos (by omega), yev_add, yev_c]
          exact ⟨congrArg some (by omega), by omega, ysp_add (ysp_con _ _) hd⟩
end GI
