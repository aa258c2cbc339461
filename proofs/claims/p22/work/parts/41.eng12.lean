theorem zcond_lcmp (o : Jvm.ClassFile.Cond) (x y : Int64) : zcond o (lg_cmp x y) 0 ↔ ycmp o (x.toInt - y.toInt) := by
  cases o <;> dsimp only [zcond, ycmp]
  · rw [lg_cmp_eq, ← Int64.toInt_inj]; omega
  · rw [lg_cmp_eq, ← Int64.toInt_inj]; omega
  · rw [lg_cmp_lt, Int64.lt_iff_toInt_lt]; omega
  · rw [lg_cmp_ge, Int64.le_iff_toInt_le]; omega
  · rw [lg_cmp_gt, Int64.lt_iff_toInt_lt]; omega
  · rw [lg_cmp_le, Int64.le_iff_toInt_le]; omega
section YY
variable {tt : zT} {G : zG} {tx : yTx} {P : List zI} {TG : List Nat} {TT : List yC} {TX : List Nat} {Gd : yGS} {I : zH → Prop} {Wr Xf : Nat → Nat → Bool} {CT : List (List yCt)} {lev : yL} {posts : List yM} {cuts : List yCu} {m : Nat} {rk : Option yL} {τ0 : List Nat} {h0 : zH} {k0 : Nat} {ρ0 : yR} {dt : Nat} {info0 : zI}
theorem yret_ok {go : yFm → List yFm → yW → Bool} (hgo : yIH tt G tx TG TT I Wr τ0 h0 k0 ρ0 (yPo tx TG TT I Wr m posts ρ0 τ0 h0) dt info0 go) {info : zI} {sv : List yV} {rs : List yFm} {w : yW} (q : yret TG TT posts m go sv rs w = true) {ρ : yR} {τ : List Nat} {h : zH} {v : Option Value} {rsc : List zFm} {d : Nat} (hm : m ≤ k0) (hs : ySt k0 ρ0 w.1 ρ) (g : yWo tx w ρ τ h) (hh : yHp TG TT I Wr τ0 h0 τ h) (hv : ySo ρ w.1 sv v.toList) (hrs : yRo ρ w.1 rs rsc) (hd : d + rs.length = dt) (hls : ylst info rs = info0) : yKt tt G (yPo tx TG TT I Wr m posts ρ0 τ0 h0) d rsc v h := by
  unfold yret at q
  match rs, rsc, hrs, q, hd, hls with
  | [], [], _, q, hd, hls =>
    exact yend_ok (L := []) (Lc := []) g hh trivial hv (Nat.le_trans hm hs.1) (fun i hi => hs.2 i (Nat.lt_of_lt_of_le hi hm)) q
  | (i2, pc2, L2, st2, c2, n2) :: rs2, (i3, pc3, L3, st3, c3, n3) :: rs3, hrs, q, hd, hls =>
    obtain ⟨⟨rfl, rfl, e1, e2, e3, e4⟩, e5⟩ := hrs
    exact hgo i2 pc2 L2 (sv ++ st2) c2 n2 rs2 w q ρ τ h L3 (v.toList ++ st3) c3 n3 rs3 (d + 1) hs g hh e1 (hv.app e2) e3 e4 e5 (by rw [List.length_cons] at hd; omega) hls
  | [], _ :: _, hrs, _, _, _ => exact hrs.elim
  | _ :: _, [], hrs, _, _, _ => exact hrs.elim
theorem yrt_i {rt : Option FieldType} {w : yW} {x : yL} {ρ : yR} {τ : List Nat} {h : zH} (g : yWo tx w ρ τ h) (q : yrt rt w (0, x) = true) {n : Int32} (hn : n.toInt = yev ρ x) : ∃ t : FieldType, rt = some t ∧ narrow t (.int n) = .int n := by
  unfold yrt at q
  dsimp only at q
  split at q
  · exact ⟨_, rfl, rfl⟩
  · have b := yin_ok g q
    exact ⟨_, rfl, (ynar_b (x := n) (by omega) (by omega)).1⟩
  · omega
  · omega
  · omega
  · cases q
theorem yrt_l {rt : Option FieldType} {w : yW} {x : yL} (q : yrt rt w (1, x) = true) : rt = some .long := by
  unfold yrt at q
  dsimp only at q
  split at q
  · omega
  · omega
  · rfl
  · omega
  · omega
  · cases q
theorem yrt_a {rt : Option FieldType} {w : yW} {x : yL} (q : yrt rt w (2, x) = true ∨ yrt rt w (3, x) = true) : ∃ t : FieldType, rt = some t ∧ fits t .null = true := by
  rcases q with q | q <;> unfold yrt at q <;> dsimp only at q <;> split at q
  all_goals first
    | omega
    | exact ⟨_, rfl, q⟩
    | cases q
set_option maxHeartbeats 4000000 in
theorem yX_ok (hGP : G.1 = P) (hI : yIs TG TT Xf I) (hTX : ∀ k l, TX[k]? = some l → 1 ≤ k → (tx.1 k).length = l ∧ 1 ≤ l ∧ l ≤ 200) (hGd : yGdo tx TG TT I Gd) (hB : ∀ k x, 1 ≤ k → x ∈ tx.1 k → 0 ≤ x.toInt ∧ x.toInt ≤ 255) (hG1 : (tx.1 0).length = G.2.2.1) (hG2 : ∀ k, 1 ≤ k → tx.1 k = G.2.1 k) (hN : G.2.2.1 < 2 ^ 31 ∧ ∀ (h : zH) (x v : Int), tx.2 6 h x v ↔ v = (G.2.2.2 x.toNat).toInt) (hlev : ysp k0 lev) (hdt : yev ρ0 lev ≤ dt + 1) (hCT : ∀ j cts ct, CT[j]? = some cts → ct ∈ cts → yVl tt G tx TG TT I j ct (yev ρ0 lev)) (hm : m ≤ k0) (hr : ∀ r0, rk = some r0 → ysp k0 r0) (hC : ∀ q ∈ cuts, yCo2 tt G tx TG TT I Wr τ0 h0 m ρ0 (yPo tx TG TT I Wr m posts ρ0 τ0 h0) dt info0 q (fun z => ∀ r0, rk = some r0 → z < yev ρ0 r0)) : ∀ (f : Nat) (sk : Bool), yIH tt G tx TG TT I Wr τ0 h0 k0 ρ0 (yPo tx TG TT I Wr m posts ρ0 τ0 h0) dt info0 (fun fr rs w => yX tt P TG TT TX Gd Wr Xf CT lev posts cuts m rk f fr rs w sk)
  | 0, sk => fun _ _ _ _ _ _ _ _ q => by cases q
  | f + 1, sk => by
    have ih := yX_ok hGP hI hTX hGd hB hG1 hG2 hN hlev hdt hCT hm hr hC f false
    intro info pc L st c n rs w q ρ τ h Lc sc cN nN rsc d hs g hh hL hS hc hn hrs hd hls
    dsimp only at q
    unfold yX at q
    cases hcut : yhd sk rs pc cuts with
    | true =>
      rw [hcut, cond_true] at q
      match rs, rsc, hrs, hcut, hd, hls with
      | [], [], _, hcut, hd, hls =>
        have e1 : info = info0 := hls
        subst e1
        have e2 : d = dt := by simpa using hd
        subst e2
        exact ycut_ok g hh hL hS hc hn hm hs hr q hC
      | a :: r, _, _, hcut, _, _ =>
        have e : yhd sk (a :: r) pc cuts = false := by cases sk <;> rfl
        rw [e] at hcut
        cases hcut
      | [], _ :: _, hrs, _, _, _ => exact hrs.elim
    | false =>
      rw [hcut, cond_false] at q
      split at q
      · rename_i ins nx a b d9 v hpc
        rw [yix_eq] at hpc
        refine zR.step (zW_mono tt G d) ?_
        unfold zstep
        rw [hpc]
        dsimp only
        unfold zex
        have key : ∀ {as : List Value} {rest : List Value} {asv rst : List yV}, ycl P TG TT Gd Wr CT lev (fun fr rs w => yX tt P TG TT TX Gd Wr Xf CT lev posts cuts m rk f fr rs w false) info L c n rs w a asv rst nx = true → ySo ρ w.1 asv as → ySo ρ w.1 rst rest → _ := fun q hA hR => ycl_ok q ih hGd hGP hlev hdt hCT hs g hh hL hA hR hc hn hrs hd hls
        split at q
        · -- invokevirtual
          split at q
          · rename_i as r rest htk
            obtain ⟨x1, x2, x3⟩ := ytkr_ok htk hS (ac := []) trivial
            obtain ⟨t, y1, y2, y3⟩ := x2.ref
            split at q
            · rename_i tg htg
              split at q
              · rename_i cls vts hT
                cases hb : Nat.beq cls d9 with
                | false => rw [hb] at q; cases q
                | true =>
                  rw [hb, cond_true] at q
                  have e0 := Nat.eq_of_beq_eq_true hb
                  subst e0
                  obtain ⟨a1, a2⟩ := yrf_ok htg g hh.2.1
                  obtain ⟨ct, c9, b1, b2, b3⟩ := hh.1.2 _ _ a2
                  rw [yix_eq, b1] at hT
                  cases hT
                  obtain ⟨fs, rfl, -, -⟩ := b3
                  rw [yget_ref a1] at y1
                  obtain ⟨z1, z2, z3, z4⟩ := key (as := .ref (yev ρ r).toNat :: ((sc.take b).reverse)) q ⟨⟨y2, (yget_ref a1).symm⟩, by simpa using x1⟩ y3
                  refine Or.inr ?_
                  unfold zex2
                  dsimp only
                  rw [y1]
                  exact ⟨x3, ⟨fs, b2⟩, z1, z2, z3, z4⟩
              · cases q
            · cases q
          · cases q
        · -- invokespecial
          split at q
          · rename_i as r rest htk
            obtain ⟨x1, x2, x3⟩ := ytkr_ok htk hS (ac := []) trivial
            obtain ⟨t, y1, y2, y3⟩ := x2.ref
            cases hb : yle w.2.1 w.2.2.1 (yneg r) with
            | false => rw [hb] at q; cases q
            | true =>
              rw [hb, cond_true] at q
              have a1 := g.le hb
              rw [yev_neg] at a1
              have a1 : 0 ≤ yev ρ r := by omega
              rw [yget_ref a1] at y1
              obtain ⟨z1, z2, z3, z4⟩ := key (as := .ref (yev ρ r).toNat :: ((sc.take b).reverse)) q ⟨⟨y2, (yget_ref a1).symm⟩, by simpa using x1⟩ y3
              refine Or.inr ?_
              unfold zex2
              dsimp only
              rw [y1]
              exact ⟨x3, z1, z2, z3, z4⟩
          · cases q
        · -- invokestatic
          split at q
          · rename_i as rest htk
            obtain ⟨x1, x2, x3⟩ := ytkr_ok htk hS (ac := []) trivial
            obtain ⟨z1, z2, z3, z4⟩ := key (as := (sc.take b).reverse) q (by simpa using x1) x2
            exact Or.inr ⟨x3, z1, z2, z3, z4⟩
          · cases q
        · -- lcmp
          split at q
          · rename_i y x s o off nx2 a2 b2 d2 v2 hnx
            rw [yix_eq] at hnx
            obtain ⟨m9, t0, rfl, h1, h2, h3⟩ := hS.long
            obtain ⟨m2, t, rfl, h4, h5, h6⟩ := h3.long
            obtain ⟨c1, c2⟩ := ycnd_ok q g (ysp_sub h4 h1)
            rw [yev_sub, ← h2, ← h5] at c1 c2
            refine Or.inl ?_
            unfold zex1
            dsimp only
            refine zR.step (zW_mono tt G d) ?_
            unfold zstep
            rw [hnx]
            dsimp only
            unfold zex
            refine Or.inl ⟨fun z => ?_, fun z => ?_⟩
            · obtain ⟨w1, q1, k1, g1⟩ := c1 ((zcond_lcmp _ _ _).mp z)
              exact ih info _ _ _ c n rs _ q1 ρ τ _ _ _ cN nN rsc d (by rw [k1]; exact hs) g1 hh (by rw [k1]; exact hL) (by rw [k1]; exact h6) (by rw [k1]; exact hc) (by rw [k1]; exact hn) (by rw [k1]; exact hrs) hd hls
            · obtain ⟨w1, q1, k1, g1⟩ := c2 (fun y => z ((zcond_lcmp _ _ _).mpr y))
              exact ih info _ _ _ c n rs _ q1 ρ τ _ _ _ cN nN rsc d (by rw [k1]; exact hs) g1 hh (by rw [k1]; exact hL) (by rw [k1]; exact h6) (by rw [k1]; exact hc) (by rw [k1]; exact hn) (by rw [k1]; exact hrs) hd hls
          · cases q
        · -- ireturn
          split at q
          · rename_i x
            rw [Bool.and_eq_true] at q
            obtain ⟨nv, t, rfl, y1, y2, y3⟩ := hS.int
            have e := y3.nil
            subst e
            exact Or.inr ⟨yrt_i g q.1 y2, yret_ok (v := some (.int nv)) ih q.2 hm hs g hh ⟨⟨y1, nv, rfl, y2⟩, trivial⟩ hrs hd hls⟩
          · cases q
        · -- lreturn
          split at q
          · rename_i x
            rw [Bool.and_eq_true] at q
            obtain ⟨nv, t, rfl, y1, y2, y3⟩ := hS.long
            have e := y3.nil
            subst e
            exact Or.inr ⟨yrt_l q.1, yret_ok (v := some (.long nv)) ih q.2 hm hs g hh ⟨⟨y1, nv, rfl, y2⟩, trivial⟩ hrs hd hls⟩
          · cases q
        · -- areturn
          split at q
          · rename_i x
            rw [Bool.and_eq_true] at q
            obtain ⟨t, rfl, y1, y3⟩ := hS.ref
            have e := y3.nil
            subst e
            have r9 := yret_ok (v := some (zrn (yev ρ x))) ih q.2 hm hs g hh ⟨⟨y1, rfl⟩, trivial⟩ hrs hd hls
            have r8 := yrt_a (Or.inl q.1)
            refine Or.inr ?_
            unfold zex2
            dsimp only
            rcases zrn_cases (yev ρ x) with ⟨-, e⟩ | ⟨-, e⟩ <;> rw [e] at r9 ⊢ <;> exact ⟨r8, r9⟩
          · rename_i x
            rw [Bool.and_eq_true] at q
            obtain ⟨t, rfl, y1, y3⟩ := hS.txt
            have e := y3.nil
            subst e
            have r9 := yret_ok (v := some (.retAddr (yev ρ x).toNat)) ih q.2 hm hs g hh ⟨⟨y1, rfl⟩, trivial⟩ hrs hd hls
            exact Or.inr ⟨yrt_a (Or.inr q.1), r9⟩
          · cases q
        · -- return
          split at q
          · split at q
            · rename_i hrt
              have e := hS.nil
              subst e
              exact Or.inr ⟨hrt, yret_ok (v := none) ih q hm hs g hh trivial hrs hd hls⟩
            · cases q
          · cases q
        · -- others
          have hK : ∀ {pc : Nat} {L' : yLs} {st' : List yV} {w' : yW} {ρ' : yR} {Lc' : zL} {sc' : List Value} {h' : zH}, yX tt P TG TT TX Gd Wr Xf CT lev posts cuts m rk f (info, pc, L', st', c, n) rs w' false = true → ySt w.1 ρ w'.1 ρ' → yWo tx w' ρ' τ h' → yHp TG TT I Wr τ0 h0 τ h' → yLo ρ' w'.1 L' Lc' → ySo ρ' w'.1 st' sc' → zR tt G info.1 info.2.2.2.1 info.2.2.2.2 info.2.2.1 (zW tt G d) (yKt tt G (yPo tx TG TT I Wr m posts ρ0 τ0 h0) d rsc) pc Lc' sc' h' cN nN := fun q s1 g1 hh1 hL1 hS1 => ih info _ _ _ c n rs _ q _ τ _ _ _ cN nN rsc d (hs.tr s1) g1 hh1 hL1 hS1 (s1.no hc) (s1.no hn) (s1.ro hrs) hd hls
          cases hb : yI1 (ins, nx, a, b, d9, v) L st w (fun pc L st w => yX tt P TG TT TX Gd Wr Xf CT lev posts cuts m rk f (info, pc, L, st, c, n) rs w false) with
          | true =>
            exact Or.inl (yI1_ok hb g hL hS (fun pc L' st' w' ρ' Lc' sc' q s1 g1 hL1 hS1 => hK q s1 g1 hh hL1 hS1))
          | false =>
            rw [hb, cond_false] at q
            exact Or.inr (yI2_ok q g hh hI hTX hGd hB hG1 hG2 hN hL hS (fun pc L' st' w' ρ' Lc' sc' h' q s1 g1 hh1 hL1 hS1 => hK q s1 g1 hh1 hL1 hS1))
      · cases q
end YY
