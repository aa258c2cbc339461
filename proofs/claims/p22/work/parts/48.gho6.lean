/-! what follows at a load -/
noncomputable def gaf (l : List yL) (n : yN) (w : yW) : yW := match w with
  | (k, E, F, H, N) => (k, E, l ++ F, H, n ++ N)
theorem gaf_ok {tx : yTx} {w : yW} {ρ : yR} {τ : List Nat} {h : zH} {l : List yL} {n : yN} (hw : yWo tx w ρ τ h) (hl : ∀ f ∈ l, ysp w.1 f ∧ yev ρ f ≤ 0) (hn : ∀ q ∈ n, yLn tx h ρ w.1 q) : (gaf l n w).1 = w.1 ∧ yWo tx (gaf l n w) ρ τ h := by
  obtain ⟨k, E, F, H, N⟩ := w
  obtain ⟨g1, g2, g3, g4⟩ := hw
  refine ⟨rfl, g1, fun f hf => ?_, g3, fun q hq => ?_⟩
  · rcases List.mem_append.mp hf with hf | hf
    · exact hl f hf
    · exact g2 f hf
  · rcases List.mem_append.mp hq with hq | hq
    · exact hn q hq
    · exact g4 q hq
noncomputable def gl0 (w : yW) : yW := match gK w 0, gF w 34 with
  | some (_, b), some op => bif gL w (yneg op) && !(gL w (ysub b op)) then gaf [ysub b op] [] w else w
  | _, _ => w
noncomputable def gl1 (w : yW) : yW := match gK w 0, gF w 34 with
  | some (_, b), some op => (match gA w 142 (yadd (-1, []) op) with
    | some v => bif gL w (ysub (1, []) op) && (gbin w v && !(gL w (ysub (1, []) b))) then gaf [ysub (1, []) b] [] w else w
    | none => w)
  | _, _ => w
noncomputable def glS (w : yW) (X T i s : yL) : List yL × yN := fL (ysub X (yscl 1000 i)) fun n => bif gL w (yneg n) && (gL w (ysub n (999, [])) && gL w (ysub (yadd (1, []) i) T)) then
    (bif gL w s && gL w (yneg s) then ([ysub n (499, [])], [((100009, yadd (1001, []) X), T)])
    else bif gL w (ysub s (1, [])) && gL w (ysub (1, []) s) then (ysub n (499, []) :: (match gA w 134 i with
      | some y => [yneg y, ysub y (11, [])]
      | none => []), [((100009, yadd (1001, []) X), T)])
    else bif gL w (ysub s (10, [])) && gL w (ysub (10, []) s) then ([ysub (1, []) n], [((100009, yadd (1000, []) X), T)])
    else bif gL w (ysub (2, []) s) && (bif gL w (ysub s (9, [])) then true else gL w (ysub (11, []) s)) then ([ysub (2, []) n], [((100009, yadd (999, []) X), T)])
    else ([], [])) else ([], [])
noncomputable def gap (a b : List yL × yN) : List yL × yN := match a, b with
  | (f1, n1), (f2, n2) => (f1 ++ f2, n1 ++ n2)
noncomputable def glS1 (w : yW) (X T : yL) : yN → List yL × yN
  | [] => ([], [])
  | (v, s) :: r => bif Nat.beq v.1 137 then gap (glS w X T v.2 s) (glS1 w X T r) else glS1 w X T r
noncomputable def glS2 (w : yW) : yN → List yL × yN
  | [] => ([], [])
  | (v, T) :: r => bif Nat.beq v.1 100009 then gap (glS1 w v.2 T w.2.2.2.2) (glS2 w r) else glS2 w r
noncomputable def glB3 (w : yW) (ru i a b : yL) : yN → yN
  | [] => []
  | (u, k) :: r => bif Nat.beq u.1 144 && (gL w (yneg (ysub i (yscl 12 u.2))) && (gL w (yadd (1, []) (ysub (ysub i (yscl 12 u.2)) k)) && (gL w (yneg u.2) && gL w (yadd (1, []) (ysub u.2 ru))))) then ((100009, yscl 1000 (yadd (yscl 500 u.2) a)), yadd (yscl 500 u.2) b) :: glB3 w ru i a b r else glB3 w ru i a b r
noncomputable def glB2 (w : yW) (p1 p2 : Nat) (ru : yL) : yN → yN
  | [] => []
  | (v, a) :: r => bif Nat.beq v.1 (Nat.add p1 4) then (match gA w p2 v.2 with
    | some b => glB3 w ru v.2 a b w.2.2.2.2 ++ glB2 w p1 p2 ru r
    | none => glB2 w p1 p2 ru r) else glB2 w p1 p2 ru r
noncomputable def gnf (w : yW) : List yL → List yL
  | [] => []
  | f :: r => bif gL w f then gnf w r else f :: gnf w r
noncomputable def gnn (w : yW) : yN → yN
  | [] => []
  | (v, l) :: r => match ylnl w.2.2.2.2 v with
    | some _ => gnn w r
    | none => (v, l) :: gnn w r
noncomputable def glB (w : yW) : yW := match gK w 4, gF w 30 with
  | some _, some ru => gaf [] (gnn w (glB2 w 138 139 ru w.2.2.2.2 ++ glB2 w 137 138 ru w.2.2.2.2)) w
  | _, _ => w
noncomputable def glN (w : yW) : yW := match glS2 w w.2.2.2.2 with
  | (f, n) => gaf (gnf w f) (gnn w n) w
noncomputable def glR (w : yW) : yW := match gK w 4, gK w 5 with
  | none, none => w
  | _, _ => glN (glB w)
noncomputable def zgl (t b : Nat) (w : yW) : yW := bif Nat.beq t 79 then (bif Nat.beq b 34 then gl0 w else bif Nat.beq b 29 then gl1 w else bif Nat.beq b 49 || Nat.beq b 48 then glR w else w)
  else bif Nat.beq b 0 && (Nat.beq t 101 || (Nat.beq t 102 || (Nat.beq t 105 || (Nat.beq t 106 || (Nat.beq t 107 || Nat.beq t 108))))) then glR w else w
section GM
variable {t : Nat → List Int32} {xs : Nat → Int32} {w : yW} {ρ : yR} {τ : List Nat} {h : zH}
theorem gl0_ok (hw : yWo (t, zgp xs) w ρ τ h) : (gl0 w).1 = w.1 ∧ yWo (t, zgp xs) (gl0 w) ρ τ h := by
  unfold gl0
  split
  · rename_i v b op hb ho
    cases h1 : (gL w (yneg op) && !(gL w (ysub b op))) with
    | false => exact ⟨rfl, hw⟩
    | true =>
      rw [Bool.and_eq_true] at h1
      have o1 := gF_ok ho hw
      obtain ⟨z, -, zs⟩ := gK_ok hb hw
      replace z : yev ρ b = zbc (zei h 142) (zfi h 111 34).toNat := z
      have a1 := gL_neg h1.1 hw
      have a2 := (zbc_r (zei h 142) (zfi h 111 34).toNat).2
      refine gaf_ok hw (fun f hf => ?_) (fun q hq => by cases hq)
      rcases List.mem_singleton.mp hf with rfl
      refine ⟨ysp_sub zs o1.2, ?_⟩
      rw [yev_sub, ← o1.1]
      rw [← o1.1] at a1
      omega
  · exact ⟨rfl, hw⟩
theorem gl1_ok (hw : yWo (t, zgp xs) w ρ τ h) : (gl1 w).1 = w.1 ∧ yWo (t, zgp xs) (gl1 w) ρ τ h := by
  unfold gl1
  split
  · rename_i v b op hb ho
    split
    · rename_i v9 hv9
      cases h1 : (gL w (ysub (1, []) op) && (gbin w v9 && !(gL w (ysub (1, []) b)))) with
      | false => exact ⟨rfl, hw⟩
      | true =>
        simp only [Bool.and_eq_true] at h1
        have o1 := gF_ok ho hw
        obtain ⟨z, -, zs⟩ := gK_ok hb hw
        replace z : yev ρ b = zbc (zei h 142) (zfi h 111 34).toNat := z
        have a1 := gL_sub h1.1 hw
        rw [yev_c] at a1
        have a3 := (gA_ok (by decide) hv9 hw).1
        rw [yev_add, yev_c] at a3
        have a4 := gbin_ok h1.2.1 hw
        rw [o1.1, show (yev ρ op).toNat = (-1 + yev ρ op).toNat + 1 by omega] at z
        unfold zbc at z
        rw [a3, zbb_1 a4] at z
        have a2 := (zbc_r (zei h 142) (-1 + yev ρ op).toNat).1
        refine gaf_ok hw (fun f hf => ?_) (fun q hq => by cases hq)
        rcases List.mem_singleton.mp hf with rfl
        refine ⟨ysp_sub (ysp_con _ _) zs, ?_⟩
        rw [yev_sub, yev_c]
        omega
    · exact ⟨rfl, hw⟩
  · exact ⟨rfl, hw⟩
/-- facts and relations that hold -/
noncomputable def gPP (t : Nat → List Int32) (xs : Nat → Int32) (w : yW) (ρ : yR) (h : zH) (p : List yL × yN) : Prop := (∀ f ∈ p.1, ysp w.1 f ∧ yev ρ f ≤ 0) ∧ ∀ q ∈ p.2, yLn (t, zgp xs) h ρ w.1 q
theorem gPP_nil : gPP t xs w ρ h ([], []) := ⟨(fun _ z => by cases z), (fun _ z => by cases z)⟩
theorem gap_ok {a b : List yL × yN} (ha : gPP t xs w ρ h a) (hb : gPP t xs w ρ h b) : gPP t xs w ρ h (gap a b) := by
  obtain ⟨f1, n1⟩ := a
  obtain ⟨f2, n2⟩ := b
  exact ⟨fun f hf => (List.mem_append.mp hf).elim (ha.1 f) (hb.1 f), fun q hq => (List.mem_append.mp hq).elim (ha.2 q) (hb.2 q)⟩
theorem gPP_one {f : List yL} {X T : yL} (hf : ∀ g ∈ f, ysp w.1 g ∧ yev ρ g ≤ 0) (hX : ysp w.1 X) (hT : ysp w.1 T) (hz : zgp xs 5 h (yev ρ X) (yev ρ T)) : gPP t xs w ρ h (f, [((100009, X), T)]) := ⟨hf, fun q hq => by
  rcases List.mem_singleton.mp hq with rfl
  exact (yln_kind (g := 5)).mpr ⟨hX, hT, hz⟩⟩
theorem glS_ok {X T i s : yL} (hw : yWo (t, zgp xs) w ρ τ h) (hX : ysp w.1 X) (hT : ysp w.1 T) (hi : ysp w.1 i) (hs : zei h 133 (yev ρ i).toNat = yev ρ s) (hz : zgp xs 5 h (yev ρ X) (yev ρ T)) : gPP t xs w ρ h (glS w X T i s) := by
  unfold glS
  rw [fL_eq]
  have hn : ysp w.1 (ysub X (yscl 1000 i)) := ysp_sub hX (ysp_scl hi)
  have en : yev ρ (ysub X (yscl 1000 i)) = yev ρ X - 1000 * yev ρ i := by rw [yev_sub, yev_scl]
  generalize ysub X (yscl 1000 i) = n at hn en ⊢
  cases h1 : (gL w (yneg n) && (gL w (ysub n (999, [])) && gL w (ysub (yadd (1, []) i) T))) with
  | false => exact gPP_nil
  | true =>
    rw [cond_true]
    simp only [Bool.and_eq_true] at h1
    obtain ⟨b1, b2, b3⟩ := h1
    have b1 := gL_neg b1 hw
    have b2 := gL_sub b2 hw
    have b3 := gL_sub b3 hw
    rw [yev_add, yev_c] at b3
    rw [yev_c] at b2
    obtain ⟨e, m, T', x1, x2, x3, x4, x5, d, x6⟩ := hz
    have ei : yev ρ i = e := by omega
    have em : yev ρ n = m := by omega
    obtain ⟨kk, hk⟩ : ∃ kk, T' - e = kk + 1 := ⟨T' - e - 1, by omega⟩
    rw [hk] at x6
    unfold zfw at x6
    rw [ei, show ((e : Int)).toNat = e by omega] at hs
    rw [hs] at x6
    have hnew : ∀ m' : Nat, zfs (yev ρ s) (zei h 134 e) m = some m' → m' ≤ m + 1 → m' < 1000 → ∀ Y : yL, yev ρ Y = yev ρ X + 1000 + (m' - m) → zgp xs 5 h (yev ρ Y) (yev ρ T) := by
      intro m' hm hle hlt Y hY
      rw [hm] at x6
      exact ⟨e + 1, m', T', by omega, x2, hlt, by omega, by omega, d, by rw [show T' - (e + 1) = kk by omega]; exact x6⟩
    cases h2 : (gL w s && gL w (yneg s)) with
    | true =>
      rw [cond_true]
      rw [Bool.and_eq_true] at h2
      have c1 := gL_ok h2.1 hw
      have c2 := gL_neg h2.2 hw
      have c3 : yev ρ s = 0 := by omega
      have hst : zfs (yev ρ s) (zei h 134 e) m = some (m + 1) := by unfold zfs; rw [c3, if_pos rfl]
      refine gPP_one (fun g hg => ?_) (ysp_add (ysp_con _ _) hX) hT (hnew _ hst (Nat.le_refl _) (by omega) _ (by rw [yev_add, yev_c]; omega))
      rcases List.mem_singleton.mp hg with rfl
      refine ⟨ysp_sub hn (ysp_con _ _), ?_⟩
      rw [yev_sub, yev_c]
      omega
    | false =>
      rw [cond_false]
      cases h3 : (gL w (ysub s (1, [])) && gL w (ysub (1, []) s)) with
      | true =>
        rw [cond_true]
        rw [Bool.and_eq_true] at h3
        have c1 := gL_sub h3.1 hw
        have c2 := gL_sub h3.2 hw
        rw [yev_c] at c1 c2
        have c3 : yev ρ s = 1 := by omega
        have hst : (0 ≤ zei h 134 e ∧ zei h 134 e ≤ 11) ∧ zfs (yev ρ s) (zei h 134 e) m = some (m + 1) := by
          unfold zfs at x6 ⊢
          rw [c3, if_neg (by decide), if_pos rfl] at x6 ⊢
          by_cases hc : 0 ≤ zei h 134 e ∧ zei h 134 e ≤ 11
          · exact ⟨hc, if_pos hc⟩
          · rw [if_neg hc] at x6; cases x6
        refine gPP_one (fun g hg => ?_) (ysp_add (ysp_con _ _) hX) hT (hnew _ hst.2 (Nat.le_refl _) (by omega) _ (by rw [yev_add, yev_c]; omega))
        rcases List.mem_cons.mp hg with rfl | hg
        · refine ⟨ysp_sub hn (ysp_con _ _), ?_⟩
          rw [yev_sub, yev_c]
          omega
        · split at hg
          · rename_i y hy
            obtain ⟨y1, y2⟩ := gA_ok (by decide) hy hw
            rw [ei, show ((e : Int)).toNat = e by omega] at y1
            rw [y1] at hst
            rcases List.mem_cons.mp hg with rfl | hg
            · refine ⟨ysp_neg y2, ?_⟩
              rw [yev_neg]
              omega
            · rcases List.mem_singleton.mp hg with rfl
              refine ⟨ysp_sub y2 (ysp_con _ _), ?_⟩
              rw [yev_sub, yev_c]
              omega
          · cases hg
      | false =>
        rw [cond_false]
        cases h4 : (gL w (ysub s (10, [])) && gL w (ysub (10, []) s)) with
        | true =>
          rw [cond_true]
          rw [Bool.and_eq_true] at h4
          have c1 := gL_sub h4.1 hw
          have c2 := gL_sub h4.2 hw
          rw [yev_c] at c1 c2
          have c3 : yev ρ s = 10 := by omega
          have hst : 1 ≤ m ∧ zfs (yev ρ s) (zei h 134 e) m = some m := by
            unfold zfs at x6 ⊢
            rw [c3, if_neg (by decide), if_neg (by decide), if_pos rfl] at x6 ⊢
            by_cases hc : 1 ≤ m
            · exact ⟨hc, if_pos hc⟩
            · rw [if_neg hc] at x6; cases x6
          refine gPP_one (fun g hg => ?_) (ysp_add (ysp_con _ _) hX) hT (hnew _ hst.2 (by omega) (by omega) _ (by rw [yev_add, yev_c]; omega))
          rcases List.mem_singleton.mp hg with rfl
          refine ⟨ysp_sub (ysp_con _ _) hn, ?_⟩
          rw [yev_sub, yev_c]
          omega
        | false =>
          rw [cond_false]
          cases h5 : (gL w (ysub (2, []) s) && (bif gL w (ysub s (9, [])) then true else gL w (ysub (11, []) s))) with
          | false => exact gPP_nil
          | true =>
            rw [cond_true]
            rw [Bool.and_eq_true] at h5
            have c1 := gL_sub h5.1 hw
            rw [yev_c] at c1
            have c4 : yev ρ s ≠ 10 := by
              have b3 := h5.2
              cases h6 : gL w (ysub s (9, [])) with
              | true =>
                have := gL_sub h6 hw
                rw [yev_c] at this
                omega
              | false =>
                rw [h6, cond_false] at b3
                have := gL_sub b3 hw
                rw [yev_c] at this
                omega
            have hst : 2 ≤ m ∧ zfs (yev ρ s) (zei h 134 e) m = some (m - 1) := by
              unfold zfs at x6 ⊢
              rw [if_neg (by omega), if_neg (by omega), if_neg c4] at x6 ⊢
              by_cases hc : 2 ≤ m
              · exact ⟨hc, if_pos hc⟩
              · rw [if_neg hc] at x6; cases x6
            refine gPP_one (fun g hg => ?_) (ysp_add (ysp_con _ _) hX) hT (hnew _ hst.2 (by omega) (by omega) _ (by rw [yev_add, yev_c]; omega))
            rcases List.mem_singleton.mp hg with rfl
            refine ⟨ysp_sub (ysp_con _ _) hn, ?_⟩
            rw [yev_sub, yev_c]
            omega
theorem zel_mem {p : Nat} {v : yV} {l : yL} (hp : Nat.ble 100000 p = false) (hv : v.1 = p + 4) (hm : (v, l) ∈ w.2.2.2.2) (hw : yWo (t, zgp xs) w ρ τ h) : zei h p (yev ρ v.2).toNat = yev ρ l ∧ ysp w.1 v.2 ∧ ysp w.1 l := by
  obtain ⟨v1, v2⟩ := v
  dsimp only at hv
  subst hv
  obtain ⟨g1, g2, g3⟩ := hw.2.2.2 _ hm
  refine ⟨?_, g1, g2⟩
  have g3' : yL4 (t, zgp xs) h p (yev ρ v2) (yev ρ l) := g3
  unfold yL4 at g3'
  rw [hp] at g3'
  obtain ⟨kd, N, x, e1, e2⟩ := g3'
  unfold zei
  rw [e1]
  exact e2
theorem glS1_ok {X T : yL} (hw : yWo (t, zgp xs) w ρ τ h) (hX : ysp w.1 X) (hT : ysp w.1 T) (hz : zgp xs 5 h (yev ρ X) (yev ρ T)) : ∀ {N : yN}, (∀ q ∈ N, q ∈ w.2.2.2.2) → gPP t xs w ρ h (glS1 w X T N)
  | [], _ => gPP_nil
  | (v, s) :: r, hN => by
    have ih := glS1_ok hw hX hT hz (N := r) (fun q hq => hN q (List.mem_cons_of_mem _ hq))
    unfold glS1
    cases hb : Nat.beq v.1 137 with
    | false => exact ih
    | true =>
      obtain ⟨a, b, c⟩ := zel_mem (p := 133) (by decide) (Nat.eq_of_beq_eq_true hb) (hN _ List.mem_cons_self) hw
      exact gap_ok (glS_ok hw hX hT b a hz) ih
theorem glS2_ok (hw : yWo (t, zgp xs) w ρ τ h) : ∀ {N : yN}, (∀ q ∈ N, q ∈ w.2.2.2.2) → gPP t xs w ρ h (glS2 w N)
  | [], _ => gPP_nil
  | (v, T) :: r, hN => by
    have ih := glS2_ok hw (N := r) (fun q hq => hN q (List.mem_cons_of_mem _ hq))
    unfold glS2
    cases hb : Nat.beq v.1 100009 with
    | false => exact ih
    | true =>
      have e := Nat.eq_of_beq_eq_true hb
      have m := hw.2.2.2 _ (hN _ List.mem_cons_self)
      obtain ⟨v1, v2⟩ := v
      dsimp only at e
      subst e
      obtain ⟨a, b, c⟩ := (yln_kind (g := 5)).mp m
      exact gap_ok (glS1_ok hw a b c (fun _ hq => hq)) ih
theorem glB3_ok {ru i a b : yL} {P : Bool} (hw : yWo (t, zgp xs) w ρ τ h) (hru : gF w 30 = some ru) (h4 : zR4 (zfi h 111 30) (zei h 133) (zei h 134) (zei h 137) (zei h 138) (zei h 139) (zei h 140)) (ha : ysp w.1 a) (hb : ysp w.1 b) (hab : bif P then zei h 138 (yev ρ i).toNat = yev ρ a ∧ zei h 139 (yev ρ i).toNat = yev ρ b else zei h 137 (yev ρ i).toNat = yev ρ a ∧ zei h 138 (yev ρ i).toNat = yev ρ b) : ∀ {N : yN}, (∀ q ∈ N, q ∈ w.2.2.2.2) → ∀ q ∈ glB3 w ru i a b N, yLn (t, zgp xs) h ρ w.1 q
  | [], _, q, hq => by cases hq
  | (u, k) :: r, hN, q, hq => by
    have ih := glB3_ok hw hru h4 ha hb hab (N := r) (fun q hq => hN q (List.mem_cons_of_mem _ hq))
    unfold glB3 at hq
    cases hc : (Nat.beq u.1 144 && (gL w (yneg (ysub i (yscl 12 u.2))) && (gL w (yadd (1, []) (ysub (ysub i (yscl 12 u.2)) k)) && (gL w (yneg u.2) && gL w (yadd (1, []) (ysub u.2 ru)))))) with
    | false => rw [hc, cond_false] at hq; exact ih q hq
    | true =>
      rw [hc, cond_true] at hq
      rcases List.mem_cons.mp hq with rfl | hq
      · simp only [Bool.and_eq_true] at hc
        obtain ⟨c1, c2, c3, c4, c5⟩ := hc
        obtain ⟨k1, k2, k3⟩ := zel_mem (p := 140) (by decide) (Nat.eq_of_beq_eq_true c1) (hN _ List.mem_cons_self) hw
        have d2 := gL_neg c2 hw
        have d3 := gL_ok c3 hw
        have d4 := gL_neg c4 hw
        have d5 := gL_ok c5 hw
        have r1 := (gF_ok hru hw).1
        rw [yev_sub, yev_scl] at d2
        rw [yev_add, yev_sub, yev_sub, yev_scl, yev_c] at d3
        rw [yev_add, yev_sub, yev_c] at d5
        obtain ⟨f1, f2⟩ := h4 (yev ρ u.2).toNat (by omega)
        rw [k1] at f1 f2
        have f3 := f2 (yev ρ i - 12 * yev ρ u.2).toNat (by omega)
        rw [show 12 * (yev ρ u.2).toNat + (yev ρ i - 12 * yev ρ u.2).toNat = (yev ρ i).toNat by omega] at f3
        have f4 : zva (zei h 133) (zei h 134) (yev ρ u.2).toNat (yev ρ a) (yev ρ b) ∧ yev ρ b ≤ 500 := by
          obtain ⟨p1, p2, p3⟩ := f3
          cases P with
          | true =>
            rw [cond_true] at hab
            rw [hab.1, hab.2] at p2
            rw [hab.2] at p3
            exact ⟨p2, p3⟩
          | false =>
            rw [cond_false] at hab
            rw [hab.1, hab.2] at p1
            rw [hab.2] at p2
            exact ⟨p1, by have := p2.2.1; omega⟩
        obtain ⟨⟨p1, p2, m, p3⟩, p4⟩ := f4
        refine (yln_kind (g := 5)).mpr ⟨ysp_scl (ysp_add (ysp_scl k2) ha), ysp_add (ysp_scl k2) hb, ?_⟩
        refine ⟨500 * (yev ρ u.2).toNat + (yev ρ a).toNat, 0, 500 * (yev ρ u.2).toNat + (yev ρ b).toNat, ?_, ?_, by omega, by omega, by omega, m, ?_⟩
        · rw [yev_scl, yev_add, yev_scl]
          omega
        · rw [yev_add, yev_scl]
          omega
        · rw [show 500 * (yev ρ u.2).toNat + (yev ρ b).toNat - (500 * (yev ρ u.2).toNat + (yev ρ a).toNat) = (yev ρ b - yev ρ a).toNat by omega]
          exact p3
      · exact ih q hq
theorem glB2_ok {p1 p2 : Nat} {ru : yL} (P : Bool) (hp : bif P then p1 = 138 ∧ p2 = 139 else p1 = 137 ∧ p2 = 138) (hw : yWo (t, zgp xs) w ρ τ h) (hru : gF w 30 = some ru) (h4 : zR4 (zfi h 111 30) (zei h 133) (zei h 134) (zei h 137) (zei h 138) (zei h 139) (zei h 140)) : ∀ {N : yN}, (∀ q ∈ N, q ∈ w.2.2.2.2) → ∀ q ∈ glB2 w p1 p2 ru N, yLn (t, zgp xs) h ρ w.1 q
  | [], _, q, hq => by cases hq
  | (v, a) :: r, hN, q, hq => by
    have ih := glB2_ok P hp hw hru h4 (N := r) (fun q hq => hN q (List.mem_cons_of_mem _ hq))
    unfold glB2 at hq
    cases hc : Nat.beq v.1 (Nat.add p1 4) with
    | false => rw [hc, cond_false] at hq; exact ih q hq
    | true =>
      rw [hc, cond_true] at hq
      split at hq
      · rename_i b hb
        rcases List.mem_append.mp hq with hq1 | hq1
        · cases P with
          | true =>
            rw [cond_true] at hp
            obtain ⟨rfl, rfl⟩ := hp
            obtain ⟨e1, e2, e3⟩ := zel_mem (p := 138) (by decide) (Nat.eq_of_beq_eq_true hc) (hN _ List.mem_cons_self) hw
            obtain ⟨e4, e5⟩ := gA_ok (by decide) hb hw
            exact glB3_ok (P := true) hw hru h4 e3 e5 ⟨e1, e4⟩ (fun _ hq => hq) q hq1
          | false =>
            rw [cond_false] at hp
            obtain ⟨rfl, rfl⟩ := hp
            obtain ⟨e1, e2, e3⟩ := zel_mem (p := 137) (by decide) (Nat.eq_of_beq_eq_true hc) (hN _ List.mem_cons_self) hw
            obtain ⟨e4, e5⟩ := gA_ok (by decide) hb hw
            exact glB3_ok (P := false) hw hru h4 e3 e5 ⟨e1, e4⟩ (fun _ hq => hq) q hq1
        · exact ih q hq1
      · exact ih q hq
theorem gnf_mem {f : yL} : ∀ {l : List yL}, f ∈ gnf w l → f ∈ l
  | [], hf => hf
  | g :: r, hf => by
    unfold gnf at hf
    cases hb : gL w g with
    | true => rw [hb, cond_true] at hf; exact List.mem_cons_of_mem _ (gnf_mem hf)
    | false =>
      rw [hb, cond_false] at hf
      rcases List.mem_cons.mp hf with rfl | hf
      · exact List.mem_cons_self
      · exact List.mem_cons_of_mem _ (gnf_mem hf)
theorem gnn_mem {q : yV × yL} : ∀ {l : yN}, q ∈ gnn w l → q ∈ l
  | [], hf => hf
  | (v, l) :: r, hf => by
    unfold gnn at hf
    split at hf
    · exact List.mem_cons_of_mem _ (gnn_mem hf)
    · rcases List.mem_cons.mp hf with rfl | hf
      · exact List.mem_cons_self
      · exact List.mem_cons_of_mem _ (gnn_mem hf)
theorem glB_ok (hw : yWo (t, zgp xs) w ρ τ h) : (glB w).1 = w.1 ∧ yWo (t, zgp xs) (glB w) ρ τ h := by
  unfold glB
  split
  · rename_i v ru hv hru
    obtain ⟨va, vb⟩ := v
    obtain ⟨z, -, -⟩ := gK_ok hv hw
    refine gaf_ok hw (fun _ hf => by cases hf) (fun q hq => ?_)
    rcases List.mem_append.mp (gnn_mem hq) with hq | hq
    · exact glB2_ok true ⟨rfl, rfl⟩ hw hru z (fun _ hq => hq) q hq
    · exact glB2_ok false ⟨rfl, rfl⟩ hw hru z (fun _ hq => hq) q hq
  · exact ⟨rfl, hw⟩
theorem glN_ok (hw : yWo (t, zgp xs) w ρ τ h) : (glN w).1 = w.1 ∧ yWo (t, zgp xs) (glN w) ρ τ h := by
  unfold glN
  split
  rename_i f n he
  have hp := glS2_ok hw (N := w.2.2.2.2) (fun _ hq => hq)
  rw [he] at hp
  exact gaf_ok hw (fun g hg => hp.1 g (gnf_mem hg)) (fun q hq => hp.2 q (gnn_mem hq))
theorem glR_ok (hw : yWo (t, zgp xs) w ρ τ h) : (glR w).1 = w.1 ∧ yWo (t, zgp xs) (glR w) ρ τ h := by
  unfold glR
  split
  · exact ⟨rfl, hw⟩
  · obtain ⟨a, b⟩ := glB_ok hw
    obtain ⟨c, d⟩ := glN_ok b
    exact ⟨c.trans a, d⟩
theorem zgl_ok (hw : yWo (t, zgp xs) w ρ τ h) (tt b : Nat) : (zgl tt b w).1 = w.1 ∧ yWo (t, zgp xs) (zgl tt b w) ρ τ h := by
  unfold zgl
  cases Nat.beq tt 79 with
  | true =>
    rw [cond_true]
    cases Nat.beq b 34 with
    | true => exact gl0_ok hw
    | false =>
      rw [cond_false]
      cases Nat.beq b 29 with
      | true => exact gl1_ok hw
      | false =>
        rw [cond_false]
        cases (Nat.beq b 49 || Nat.beq b 48) with
        | true => exact glR_ok hw
        | false => exact ⟨rfl, hw⟩
  | false =>
    rw [cond_false]
    cases (Nat.beq b 0 && (Nat.beq tt 101 || (Nat.beq tt 102 || (Nat.beq tt 105 || (Nat.beq tt 106 || (Nat.beq tt 107 || Nat.beq tt 108)))))) with
    | true => exact glR_ok hw
    | false => exact ⟨rfl, hw⟩
end GM
