theorem f_comparisonHere {G : zG} (hG : G.1 = zProg) (hX : G.2.1 = ztx) {h : zH} {T : Nat → Int32} {n : Nat} (hs : tSh h) (hp : cP h) (hT : tA h 45 = T) (hN : cn h = n)  : tC zTt G 82 [.ref 44] h (fun w h2 => cFr h h2 ∧ ((∃ q, rCm T n (rB T n (cs h).1) = some q ∧ (cs h).2.1 ≠ 80 ∧ w = some (.int (Int32.ofNat q.1)) ∧ cs h2 = (q.2, (cs h).2.1 + 1, (cs h).2.2) ∧ cP h2) ∨ (w = some (.int (-1)) ∧ ∃ e, cFt h2 e ∧ ((rCm T n (rB T n (cs h).1) = none ∧ e = 1 + 8 * (rB T n (cs h).1) + 0) ∨ (∃ q, rCm T n (rB T n (cs h).1) = some q ∧ (cs h).2.1 = 80 ∧ e = 1 + 8 * (rB T n (cs h).1) + 3))))) := by
  refine tC_in (by rw [hG]; rfl) (fun dp => ?_)
  have g0 := cFr_r hs
  have hpn : (cs h).1 ≤ n := by rw [← hN]; exact cP_le hp
  refine tw_aload rfl rfl ?_
  refine tw_virt0 rfl (f_signHere hG hX (g0).1 hp ((cFr_T g0).trans hT) ((cFr_n g0).trans hN)) (fun wp249 hp249 p249 => ?_)
  obtain ⟨gp249, ppp249, ssp249, t3p249, cp249, rfl, kp249⟩ := p249
  have ggp249 := cFr_t g0 gp249
  refine tw_istore rfl ?_
  refine tw_iload rfl rfl ?_
  refine tw_push rfl ?_
  refine tw_ic_eq rfl (fun q250 => ?_) (fun q250 => ?_)
  · try dsimp only [tvI_i, tvJ_j, tvR_r] at q250
    have q250i := zeqi (Y := 60) (by decide) q250
    refine tw_aload rfl rfl ?_
    refine tw_virt0 rfl (f_countOne hG hX (ggp249).1 ppp249 ((cFr_T ggp249).trans hT) ((cFr_n ggp249).trans hN)) (fun w9 hp251 p251 => ?_)
    obtain ⟨gp251, ⟨rfl, p251, ppp251, t3p251⟩ | ⟨rfl, xp251, p251, up251⟩⟩ := p251
    · have ggp251 := cFr_t ggp249 gp251
      refine tw_if_ne rfl (fun _ => ?_) (fun z => absurd z (by decide))
      refine tw_aload rfl rfl ?_
      refine tw_dup rfl ?_
      refine tw_getS rfl (hi_44_2 ggp251.1) ?_
      refine tw_push rfl ?_
      refine tw_iadd rfl ?_
      refine tw_put rfl (fun f252 => ?_)
      refine tG_set f252 (hw_44_2 f252 (ggp251).1) (fun hf252 ef252 => ?_)
      try dsimp only [tvI_i] at ef252
      have gf252 := cFr_s ggp251 ef252 (by decide)
      have hbn := ((sgn_k kp249 60 (by decide)).mp q250).1
      obtain ⟨hcnf252, hcef252⟩ := rC_y p251
      have hlf252 : (cs hp251).1 < n := by rw [hcef252]; show (cs hp249).1 < n; rw [ssp249]; exact hbn
      obtain ⟨pf252, sf252⟩ := cInc ppp251 hlf252 ((cFr_n ggp251).trans hN) ef252
      rw [hcef252] at sf252
      refine tw_iload rfl rfl ?_
      refine tw_push rfl ?_
      refine tw_ic_ne rfl (fun q253 => ?_) (fun q253 => ?_)
      · try dsimp only [tvI_i, tvJ_j, tvR_r] at q253
        have q253i := zneq (Y := 61) (by decide) q253
        refine tw_aload rfl rfl ?_
        refine tw_getS rfl (hi_44_2 (gf252).1) ?_
        refine tw_aload rfl rfl ?_
        refine tw_getS rfl (hi_44_1 (gf252).1) ?_
        refine tw_ic_ge rfl (fun q254 => ?_) (fun q254 => ?_)
        · try dsimp only [tvI_i, tvJ_j, tvR_r] at q254
          refine tw_iload rfl rfl ?_
          refine tw_push rfl ?_
          refine tw_ic_ne rfl (fun q255 => ?_) (fun q255 => ?_)
          · try dsimp only [tvI_i, tvJ_j, tvR_r] at q255
            have q255i := zneq (Y := 60) (by decide) q255
            exact absurd q250 q255
          · try dsimp only [tvI_i, tvJ_j, tvR_r] at q255
            have q255i := zeqi (Y := 60) (by decide) q255
            refine tw_push rfl ?_
            refine tw_goto rfl ?_
            have hbb : (cs hp249).1 = (rB T n (cs h).1) := by rw [ssp249]; rfl
            rw [ssp249] at hcnf252
            have hb1 : (cs hf252).1 = (rB T n (cs h).1) + 1 := by rw [sf252, ssp249]; rfl
            have hy : ¬ ((rB T n (cs h).1) + 1 < n ∧ T ((rB T n (cs h).1) + 1) = 61) := by
              rw [← hb1, ← ((cFr_T gf252).trans hT)]
              rintro ⟨y1, y2⟩
              exact cGe pf252 ((cFr_n gf252).trans hN) q254 y1
            exact tw_iret rfl ⟨gf252, Or.inl ⟨_, (cm60 ((sgn_k kp249 60 (by decide)).mp q250)).trans (if_neg hy), hcnf252, rfl, (by rw [sf252, ssp249]; rfl), pf252⟩⟩
        · try dsimp only [tvI_i, tvJ_j, tvR_r] at q254
          refine tw_aload rfl rfl ?_
          refine tw_getS rfl (hs_44_0 (gf252).1) ?_
          refine tw_aload rfl rfl ?_
          refine tw_getS rfl (hi_44_2 (gf252).1) ?_
          refine tw_bald rfl (fun f256 => ?_)
          refine tw_push rfl ?_
          refine tw_ic_ne rfl (fun q257 => ?_) (fun q257 => ?_)
          · try dsimp only [tvI_i, tvJ_j, tvR_r] at q257
            have q257i := zneq (Y := 61) (by decide) q257
            refine tw_iload rfl rfl ?_
            refine tw_push rfl ?_
            refine tw_ic_ne rfl (fun q258 => ?_) (fun q258 => ?_)
            · try dsimp only [tvI_i, tvJ_j, tvR_r] at q258
              have q258i := zneq (Y := 60) (by decide) q258
              exact absurd q250 q258
            · try dsimp only [tvI_i, tvJ_j, tvR_r] at q258
              have q258i := zeqi (Y := 60) (by decide) q258
              refine tw_push rfl ?_
              refine tw_goto rfl ?_
              have hbb : (cs hp249).1 = (rB T n (cs h).1) := by rw [ssp249]; rfl
              rw [ssp249] at hcnf252
              have hb1 : (cs hf252).1 = (rB T n (cs h).1) + 1 := by rw [sf252, ssp249]; rfl
              have hy : ¬ ((rB T n (cs h).1) + 1 < n ∧ T ((rB T n (cs h).1) + 1) = 61) := by
                rw [← hb1, ← ((cFr_T gf252).trans hT)]
                rintro ⟨y1, y2⟩
                exact q257 y2
              exact tw_iret rfl ⟨gf252, Or.inl ⟨_, (cm60 ((sgn_k kp249 60 (by decide)).mp q250)).trans (if_neg hy), hcnf252, rfl, (by rw [sf252, ssp249]; rfl), pf252⟩⟩
          · try dsimp only [tvI_i, tvJ_j, tvR_r] at q257
            have q257i := zeqi (Y := 61) (by decide) q257
            refine tw_aload rfl rfl ?_
            refine tw_dup rfl ?_
            refine tw_getS rfl (hi_44_2 (gf252).1) ?_
            refine tw_push rfl ?_
            refine tw_iadd rfl ?_
            refine tw_put rfl (fun f259 => ?_)
            refine tG_set f259 (hw_44_2 f259 (gf252).1) (fun hf259 ef259 => ?_)
            try dsimp only [tvI_i] at ef259
            have gf259 := cFr_s gf252 ef259 (by decide)
            have hlf259 := cLt pf252 ((cFr_n gf252).trans hN) q254
            obtain ⟨pf259, sf259⟩ := cInc pf252 hlf259 ((cFr_n gf252).trans hN) ef259
            refine tw_iload rfl rfl ?_
            refine tw_push rfl ?_
            refine tw_ic_ne rfl (fun q260 => ?_) (fun q260 => ?_)
            · try dsimp only [tvI_i, tvJ_j, tvR_r] at q260
              have q260i := zneq (Y := 60) (by decide) q260
              exact absurd q250 q260
            · try dsimp only [tvI_i, tvJ_j, tvR_r] at q260
              have q260i := zeqi (Y := 60) (by decide) q260
              refine tw_push rfl ?_
              refine tw_goto rfl ?_
              have hbb : (cs hp249).1 = (rB T n (cs h).1) := by rw [ssp249]; rfl
              rw [ssp249] at hcnf252
              have hb1 : (cs hf252).1 = (rB T n (cs h).1) + 1 := by rw [sf252, ssp249]; rfl
              have hy : (rB T n (cs h).1) + 1 < n ∧ T ((rB T n (cs h).1) + 1) = 61 := by rw [← hb1]; exact ⟨hlf259, by rw [← ((cFr_T gf252).trans hT)]; exact q257⟩
              exact tw_iret rfl ⟨gf259, Or.inl ⟨_, (cm60 ((sgn_k kp249 60 (by decide)).mp q250)).trans (if_pos hy), hcnf252, rfl, (by rw [sf259, sf252, ssp249]; rfl), pf259⟩⟩
      · try dsimp only [tvI_i, tvJ_j, tvR_r] at q253
        have q253i := zeqi (Y := 61) (by decide) q253
        exact absurd (q250.symm.trans q253) (by decide)
    · have ggp251 := cFr_t ggp249 gp251
      refine tw_if_ne rfl (fun z => absurd z (by decide)) (fun _ => ?_)
      refine tw_push rfl ?_
      have hbb : (cs hp249).1 = (rB T n (cs h).1) := by rw [ssp249]; rfl
      obtain ⟨o1, o2⟩ := rC_n p251
      rw [hbb] at o2
      rw [ssp249] at o1
      obtain ⟨q9, hq9⟩ := cm_s (Or.inr (Or.inl ((sgn_k kp249 60 (by decide)).mp q250)))
      exact tw_iret rfl ⟨ggp251, Or.inr ⟨rfl, _, up251, Or.inr ⟨q9, hq9, o1, o2⟩⟩⟩
  · try dsimp only [tvI_i, tvJ_j, tvR_r] at q250
    have q250i := zneq (Y := 60) (by decide) q250
    refine tw_iload rfl rfl ?_
    refine tw_push rfl ?_
    refine tw_ic_eq rfl (fun q261 => ?_) (fun q261 => ?_)
    · try dsimp only [tvI_i, tvJ_j, tvR_r] at q261
      have q261i := zeqi (Y := 61) (by decide) q261
      refine tw_aload rfl rfl ?_
      refine tw_virt0 rfl (f_countOne hG hX (ggp249).1 ppp249 ((cFr_T ggp249).trans hT) ((cFr_n ggp249).trans hN)) (fun w9 hp262 p262 => ?_)
      obtain ⟨gp262, ⟨rfl, p262, ppp262, t3p262⟩ | ⟨rfl, xp262, p262, up262⟩⟩ := p262
      · have ggp262 := cFr_t ggp249 gp262
        refine tw_if_ne rfl (fun _ => ?_) (fun z => absurd z (by decide))
        refine tw_aload rfl rfl ?_
        refine tw_dup rfl ?_
        refine tw_getS rfl (hi_44_2 ggp262.1) ?_
        refine tw_push rfl ?_
        refine tw_iadd rfl ?_
        refine tw_put rfl (fun f263 => ?_)
        refine tG_set f263 (hw_44_2 f263 (ggp262).1) (fun hf263 ef263 => ?_)
        try dsimp only [tvI_i] at ef263
        have gf263 := cFr_s ggp262 ef263 (by decide)
        have hbn := ((sgn_k kp249 61 (by decide)).mp q261).1
        obtain ⟨hcnf263, hcef263⟩ := rC_y p262
        have hlf263 : (cs hp262).1 < n := by rw [hcef263]; show (cs hp249).1 < n; rw [ssp249]; exact hbn
        obtain ⟨pf263, sf263⟩ := cInc ppp262 hlf263 ((cFr_n ggp262).trans hN) ef263
        rw [hcef263] at sf263
        refine tw_iload rfl rfl ?_
        refine tw_push rfl ?_
        refine tw_ic_ne rfl (fun q264 => ?_) (fun q264 => ?_)
        · try dsimp only [tvI_i, tvJ_j, tvR_r] at q264
          have q264i := zneq (Y := 61) (by decide) q264
          exact absurd q261 q264
        · try dsimp only [tvI_i, tvJ_j, tvR_r] at q264
          have q264i := zeqi (Y := 61) (by decide) q264
          refine tw_push rfl ?_
          have hbb : (cs hp249).1 = (rB T n (cs h).1) := by rw [ssp249]; rfl
          rw [ssp249] at hcnf263
          exact tw_iret rfl ⟨gf263, Or.inl ⟨_, cm61 ((sgn_k kp249 61 (by decide)).mp q261), hcnf263, rfl, (by rw [sf263, ssp249]; rfl), pf263⟩⟩
      · have ggp262 := cFr_t ggp249 gp262
        refine tw_if_ne rfl (fun z => absurd z (by decide)) (fun _ => ?_)
        refine tw_push rfl ?_
        have hbb : (cs hp249).1 = (rB T n (cs h).1) := by rw [ssp249]; rfl
        obtain ⟨o1, o2⟩ := rC_n p262
        rw [hbb] at o2
        rw [ssp249] at o1
        obtain ⟨q9, hq9⟩ := cm_s (Or.inl ((sgn_k kp249 61 (by decide)).mp q261))
        exact tw_iret rfl ⟨ggp262, Or.inr ⟨rfl, _, up262, Or.inr ⟨q9, hq9, o1, o2⟩⟩⟩
    · try dsimp only [tvI_i, tvJ_j, tvR_r] at q261
      have q261i := zneq (Y := 61) (by decide) q261
      refine tw_iload rfl rfl ?_
      refine tw_push rfl ?_
      refine tw_ic_eq rfl (fun q265 => ?_) (fun q265 => ?_)
      · try dsimp only [tvI_i, tvJ_j, tvR_r] at q265
        have q265i := zeqi (Y := 62) (by decide) q265
        refine tw_aload rfl rfl ?_
        refine tw_virt0 rfl (f_countOne hG hX (ggp249).1 ppp249 ((cFr_T ggp249).trans hT) ((cFr_n ggp249).trans hN)) (fun w9 hp266 p266 => ?_)
        obtain ⟨gp266, ⟨rfl, p266, ppp266, t3p266⟩ | ⟨rfl, xp266, p266, up266⟩⟩ := p266
        · have ggp266 := cFr_t ggp249 gp266
          refine tw_if_ne rfl (fun _ => ?_) (fun z => absurd z (by decide))
          refine tw_aload rfl rfl ?_
          refine tw_dup rfl ?_
          refine tw_getS rfl (hi_44_2 ggp266.1) ?_
          refine tw_push rfl ?_
          refine tw_iadd rfl ?_
          refine tw_put rfl (fun f267 => ?_)
          refine tG_set f267 (hw_44_2 f267 (ggp266).1) (fun hf267 ef267 => ?_)
          try dsimp only [tvI_i] at ef267
          have gf267 := cFr_s ggp266 ef267 (by decide)
          have hbn := ((sgn_k kp249 62 (by decide)).mp q265).1
          obtain ⟨hcnf267, hcef267⟩ := rC_y p266
          have hlf267 : (cs hp266).1 < n := by rw [hcef267]; show (cs hp249).1 < n; rw [ssp249]; exact hbn
          obtain ⟨pf267, sf267⟩ := cInc ppp266 hlf267 ((cFr_n ggp266).trans hN) ef267
          rw [hcef267] at sf267
          refine tw_iload rfl rfl ?_
          refine tw_push rfl ?_
          refine tw_ic_ne rfl (fun q268 => ?_) (fun q268 => ?_)
          · try dsimp only [tvI_i, tvJ_j, tvR_r] at q268
            have q268i := zneq (Y := 61) (by decide) q268
            refine tw_aload rfl rfl ?_
            refine tw_getS rfl (hi_44_2 (gf267).1) ?_
            refine tw_aload rfl rfl ?_
            refine tw_getS rfl (hi_44_1 (gf267).1) ?_
            refine tw_ic_ge rfl (fun q269 => ?_) (fun q269 => ?_)
            · try dsimp only [tvI_i, tvJ_j, tvR_r] at q269
              refine tw_iload rfl rfl ?_
              refine tw_push rfl ?_
              refine tw_ic_ne rfl (fun q270 => ?_) (fun q270 => ?_)
              · try dsimp only [tvI_i, tvJ_j, tvR_r] at q270
                have q270i := zneq (Y := 60) (by decide) q270
                refine tw_push rfl ?_
                have hbb : (cs hp249).1 = (rB T n (cs h).1) := by rw [ssp249]; rfl
                rw [ssp249] at hcnf267
                have hb1 : (cs hf267).1 = (rB T n (cs h).1) + 1 := by rw [sf267, ssp249]; rfl
                have hy : ¬ ((rB T n (cs h).1) + 1 < n ∧ T ((rB T n (cs h).1) + 1) = 61) := by
                  rw [← hb1, ← ((cFr_T gf267).trans hT)]
                  rintro ⟨y1, y2⟩
                  exact cGe pf267 ((cFr_n gf267).trans hN) q269 y1
                exact tw_iret rfl ⟨gf267, Or.inl ⟨_, (cm62 ((sgn_k kp249 62 (by decide)).mp q265)).trans (if_neg hy), hcnf267, rfl, (by rw [sf267, ssp249]; rfl), pf267⟩⟩
              · try dsimp only [tvI_i, tvJ_j, tvR_r] at q270
                have q270i := zeqi (Y := 60) (by decide) q270
                exact absurd (q265.symm.trans q270) (by decide)
            · try dsimp only [tvI_i, tvJ_j, tvR_r] at q269
              refine tw_aload rfl rfl ?_
              refine tw_getS rfl (hs_44_0 (gf267).1) ?_
              refine tw_aload rfl rfl ?_
              refine tw_getS rfl (hi_44_2 (gf267).1) ?_
              refine tw_bald rfl (fun f271 => ?_)
              refine tw_push rfl ?_
              refine tw_ic_ne rfl (fun q272 => ?_) (fun q272 => ?_)
              · try dsimp only [tvI_i, tvJ_j, tvR_r] at q272
                have q272i := zneq (Y := 61) (by decide) q272
                refine tw_iload rfl rfl ?_
                refine tw_push rfl ?_
                refine tw_ic_ne rfl (fun q273 => ?_) (fun q273 => ?_)
                · try dsimp only [tvI_i, tvJ_j, tvR_r] at q273
                  have q273i := zneq (Y := 60) (by decide) q273
                  refine tw_push rfl ?_
                  have hbb : (cs hp249).1 = (rB T n (cs h).1) := by rw [ssp249]; rfl
                  rw [ssp249] at hcnf267
                  have hb1 : (cs hf267).1 = (rB T n (cs h).1) + 1 := by rw [sf267, ssp249]; rfl
                  have hy : ¬ ((rB T n (cs h).1) + 1 < n ∧ T ((rB T n (cs h).1) + 1) = 61) := by
                    rw [← hb1, ← ((cFr_T gf267).trans hT)]
                    rintro ⟨y1, y2⟩
                    exact q272 y2
                  exact tw_iret rfl ⟨gf267, Or.inl ⟨_, (cm62 ((sgn_k kp249 62 (by decide)).mp q265)).trans (if_neg hy), hcnf267, rfl, (by rw [sf267, ssp249]; rfl), pf267⟩⟩
                · try dsimp only [tvI_i, tvJ_j, tvR_r] at q273
                  have q273i := zeqi (Y := 60) (by decide) q273
                  exact absurd (q265.symm.trans q273) (by decide)
              · try dsimp only [tvI_i, tvJ_j, tvR_r] at q272
                have q272i := zeqi (Y := 61) (by decide) q272
                refine tw_aload rfl rfl ?_
                refine tw_dup rfl ?_
                refine tw_getS rfl (hi_44_2 (gf267).1) ?_
                refine tw_push rfl ?_
                refine tw_iadd rfl ?_
                refine tw_put rfl (fun f274 => ?_)
                refine tG_set f274 (hw_44_2 f274 (gf267).1) (fun hf274 ef274 => ?_)
                try dsimp only [tvI_i] at ef274
                have gf274 := cFr_s gf267 ef274 (by decide)
                have hlf274 := cLt pf267 ((cFr_n gf267).trans hN) q269
                obtain ⟨pf274, sf274⟩ := cInc pf267 hlf274 ((cFr_n gf267).trans hN) ef274
                refine tw_iload rfl rfl ?_
                refine tw_push rfl ?_
                refine tw_ic_ne rfl (fun q275 => ?_) (fun q275 => ?_)
                · try dsimp only [tvI_i, tvJ_j, tvR_r] at q275
                  have q275i := zneq (Y := 60) (by decide) q275
                  refine tw_push rfl ?_
                  have hbb : (cs hp249).1 = (rB T n (cs h).1) := by rw [ssp249]; rfl
                  rw [ssp249] at hcnf267
                  have hb1 : (cs hf267).1 = (rB T n (cs h).1) + 1 := by rw [sf267, ssp249]; rfl
                  have hy : (rB T n (cs h).1) + 1 < n ∧ T ((rB T n (cs h).1) + 1) = 61 := by rw [← hb1]; exact ⟨hlf274, by rw [← ((cFr_T gf267).trans hT)]; exact q272⟩
                  exact tw_iret rfl ⟨gf274, Or.inl ⟨_, (cm62 ((sgn_k kp249 62 (by decide)).mp q265)).trans (if_pos hy), hcnf267, rfl, (by rw [sf274, sf267, ssp249]; rfl), pf274⟩⟩
                · try dsimp only [tvI_i, tvJ_j, tvR_r] at q275
                  have q275i := zeqi (Y := 60) (by decide) q275
                  exact absurd (q265.symm.trans q275) (by decide)
          · try dsimp only [tvI_i, tvJ_j, tvR_r] at q268
            have q268i := zeqi (Y := 61) (by decide) q268
            exact absurd (q265.symm.trans q268) (by decide)
        · have ggp266 := cFr_t ggp249 gp266
          refine tw_if_ne rfl (fun z => absurd z (by decide)) (fun _ => ?_)
          refine tw_push rfl ?_
          have hbb : (cs hp249).1 = (rB T n (cs h).1) := by rw [ssp249]; rfl
          obtain ⟨o1, o2⟩ := rC_n p266
          rw [hbb] at o2
          rw [ssp249] at o1
          obtain ⟨q9, hq9⟩ := cm_s (Or.inr (Or.inr ((sgn_k kp249 62 (by decide)).mp q265)))
          exact tw_iret rfl ⟨ggp266, Or.inr ⟨rfl, _, up266, Or.inr ⟨q9, hq9, o1, o2⟩⟩⟩
      · try dsimp only [tvI_i, tvJ_j, tvR_r] at q265
        have q265i := zneq (Y := 62) (by decide) q265
        refine tw_aload rfl rfl ?_
        refine tw_aload rfl rfl ?_
        refine tw_getS rfl (hi_44_2 ggp249.1) ?_
        refine tw_push rfl ?_
        refine tw_virt2 rfl (f_refuse hG hX (ggp249).1 ppp249 ((cFr_T ggp249).trans hT) ((cFr_n ggp249).trans hN)) (fun wp276 hp276 p276 => ?_)
        obtain ⟨gp276, rfl, up276⟩ := p276
        have ggp276 := cFr_t ggp249 gp276
        refine tw_pop rfl ?_
        refine tw_push rfl ?_
        have hbb : (cs hp249).1 = (rB T n (cs h).1) := by rw [ssp249]; rfl
        have hft := cFt_of ppp249 up276 (w := 0) rfl (by decide)
        rw [hbb] at hft
        exact tw_iret rfl ⟨ggp276, Or.inr ⟨rfl, _, hft, Or.inl ⟨cm_n (fun z => q261 ((sgn_k kp249 61 (by decide)).mpr z)) (fun z => q250 ((sgn_k kp249 60 (by decide)).mpr z)) (fun z => q265 ((sgn_k kp249 62 (by decide)).mpr z)), rfl⟩⟩⟩
theorem zd1 {x : Int32} {d : Nat} (hx : x.toInt = d) (hd : d ≤ 10) : (x + 1).toInt = ((d + 1 : Nat) : Int) := zincN hx (by omega)
theorem wrd_k {T : Nat → Int32} {n b k : Nat} {i : Int32} (w : wrd T n b i) (hk : k < 20) {K : Int32} (hK : K.toInt = k) : i = K ↔ rW T n b (rWd k) = true := (by
  rw [← w.2 k hk, ← hK]
  exact Int32.toInt_inj.symm)
theorem cTw_of {h : zH} {k : Nat} {i : Int32} (hi : i.toInt = k) (hk : k < 20) : (100000 + i).toNatClampNeg = 100000 + k := by
  have e : (100000 + i).toInt = 100000 + k := by
    rw [Int32.toInt_add, hi]
    exact Int.bmod_eq_of_le (by show (-2147483648 : Int) ≤ 100000 + (k : Int); omega) (by show 100000 + (k : Int) < (2147483648 : Int); omega)
  rw [zclE, e]
  omega
theorem cPe {T : Nat → Int32} {n m d : Nat} {h h2 : zH} (p : cP h) (hn : cn h = n) (k : pE T n m d (cs h) (.inr (cs h2))) : rPg n (cs h) (cs h2) := pE_pg k (by rw [← hn]; exact cP_le p)
theorem cHc {h : zH} (p : cP h) (q : (cs h).2.2.length < (cs h).1) : (tvI (tF h 44 5)).toInt < (tvI (tF h 44 2)).toInt := by
  have q : (cCo h).length < (tvI (tF h 44 2)).toNatClampNeg := q
  rw [cCo_len, zclE, zclE] at q
  have := p.1
  have := p.2.2.1
  omega
theorem c400 {T : Nat → Int32} {n x : Nat} (h : 400 ≤ x) (h2 : x ≤ n) (hn : n ≤ 400) {c : Prop} : ¬ (rB T n x < n ∧ c) := by
  have := rB_ge (T := T) (n := n) (p := x)
  intro z
  omega
theorem rB_400 {T : Nat → Int32} {n x : Nat} (h : n ≤ x) : rB T n x = x := rB_n (by omega)
theorem w400 {T : Nat → Int32} {n x i : Nat} (hi : i < 20) (h : n ≤ x) : ¬ rW T n x (rWd i) = true := fun z => by
  have := (rW_l hi z).1
  omega
theorem f_takeWord {G : zG} (hG : G.1 = zProg) (hX : G.2.1 = ztx) {h : zH} {T : Nat → Int32} {n : Nat} (hs : tSh h) (hp : cP h) (hT : tA h 45 = T) (hN : cn h = n) {i : Int32} {k E : Nat} (hi : i.toInt = k) (hk : k < 12) (hE : (tvI (tF h 44 3)).toInt = E) (hE1 : (cs h).1 < E) (hE2 : E ≤ n) : tC zTt G 86 [.ref 44, .int i] h (fun w h2 => cFr h h2 ∧ w = some (.int 1) ∧ cs h2 = rU (100000 + k) (rA E (cs h)) ∧ cP h2) := by
  refine tC_in (by rw [hG]; rfl) (fun dp => ?_)
  have g0 := cFr_r hs
  have hpn : (cs h).1 ≤ n := by rw [← hN]; exact cP_le hp
  refine tw_aload rfl rfl ?_
  refine tw_aload rfl rfl ?_
  refine tw_getS rfl (hi_44_3 hs) ?_
  refine tw_put rfl (fun f277 => ?_)
  refine tG_set f277 (hw_44_2 f277 (g0).1) (fun hf277 ef277 => ?_)
  try dsimp only [tvI_i] at ef277
  have gf277 := cFr_s g0 ef277 (by decide)
  obtain ⟨pf277, sf277⟩ := cTo hp ((cFr_n g0).trans hN) ef277 hE (by omega) hE2
  refine tw_aload rfl rfl ?_
  refine tw_push rfl ?_
  refine tw_iload rfl rfl ?_
  refine tw_iadd rfl ?_
  refine tw_virt1 rfl (f_putCode hG hX (gf277).1 pf277 ((cFr_T gf277).trans hT) ((cFr_n gf277).trans hN) (cHc pf277 (by rw [sf277]; show (cs h).2.2.length < E; have := cP_len hp; omega))) (fun wp278 hp278 p278 => ?_)
  obtain ⟨gp278, rfl, ssp278, ppp278⟩ := p278
  have ggp278 := cFr_t gf277 gp278
  refine tw_push rfl ?_
  refine tw_iret rfl ⟨ggp278, rfl, ?_, ppp278⟩
  rw [ssp278, sf277]
  show rU (100000 + i).toNatClampNeg _ = _
  rw [cTw_of (h := h) hi (by omega)]
theorem zoN {v : Nat} (h : v ≤ 200000) : (Int32.ofNat v).toNatClampNeg = v := zof_cl (zofI (by omega))
theorem zoN9 {v : Nat} (h : v ≤ 200000) : ¬ Int32.ofNat v = -1 := fun z => by
  have e := zofI (e := v) (by omega)
  rw [z] at e
  have : ((-1 : Int32)).toInt = -1 := by decide
  omega
theorem f_readValue {G : zG} (hG : G.1 = zProg) (hX : G.2.1 = ztx) {dp : Nat} (IH : cIH G dp) {h : zH} {T : Nat → Int32} {n : Nat} (hs : tSh h) (hp : cP h) (hT : tA h 45 = T) (hN : cn h = n) {x : Int32} {d : Nat} (hx : x.toInt = d) (hd : d ≤ 10) : tCp zTt G (dp + 1) 85 [.ref 44, .int x] h (cR T n 0 d h) := by
  refine tCp_in (by rw [hG]; rfl) ?_
  have g0 := cFr_r hs
  have hpn : (cs h).1 ≤ n := by rw [← hN]; exact cP_le hp
  have c129 : (12 : Int32).toInt = 12 := rfl
  have c4009 : (400 : Int32).toInt = 400 := rfl
  have c109 : (10 : Int32).toInt = 10 := rfl
  refine tw_aload rfl rfl ?_
  refine tw_virt0 rfl (f_signHere hG hX (g0).1 hp ((cFr_T g0).trans hT) ((cFr_n g0).trans hN)) (fun wp279 hp279 p279 => ?_)
  obtain ⟨gp279, ppp279, ssp279, t3p279, cp279, rfl, kp279⟩ := p279
  have ggp279 := cFr_t g0 gp279
  refine tw_push rfl ?_
  refine tw_ic_ne rfl (fun q280 => ?_) (fun q280 => ?_)
  · try dsimp only [tvI_i, tvJ_j, tvR_r] at q280
    have q280i := zneq (Y := 40) (by decide) q280
    refine tw_aload rfl rfl ?_
    refine tw_virt0 rfl (f_wordHere hG hX (ggp279).1 ppp279 ((cFr_T ggp279).trans hT) ((cFr_n ggp279).trans hN)) (fun wp281 hp281 p281 => ?_)
    obtain ⟨gp281, ppp281, ssp281, eep281, ip281, rfl, kwp281⟩ := p281
    have ggp281 := cFr_t ggp279 gp281
    have hbS : rB T n (cs hp279).1 = (rB T n (cs h).1) := by rw [ssp279]; exact rB_2
    rw [hbS] at ssp281 eep281 kwp281
    rw [ssp279] at ssp281
    refine tw_istore rfl ?_
    refine tw_iload rfl rfl ?_
    refine tw_push rfl ?_
    refine tw_ic_eq rfl (fun q282 => ?_) (fun q282 => ?_)
    · try dsimp only [tvI_i, tvJ_j, tvR_r] at q282
      have q282i := zeqi (Y := (-1)) (by decide) q282
      refine tw_aload rfl rfl ?_
      refine tw_getS rfl (hi_44_2 ggp281.1) ?_
      refine tw_istore rfl ?_
      refine tw_aload rfl rfl ?_
      refine tw_push rfl ?_
      refine tw_virt1 rfl (f_numberHere hG hX (ggp281).1 ppp281 ((cFr_T ggp281).trans hT) ((cFr_n ggp281).trans hN) (m := 99999) (M := 99999) rfl (by decide)) (fun w9 hp283 p283 => ?_)
      obtain ⟨gp283, ⟨vp283, p283, rfl, ssp283, ppp283⟩ | ⟨xp283, p283, rfl, up283⟩⟩ := p283
      · have ggp283 := cFr_t ggp281 gp283
        have hrm := p283
        rw [ssp281] at hrm
        refine tw_istore rfl ?_
        refine tw_iload rfl rfl ?_
        refine tw_push rfl ?_
        refine tw_ic_ne rfl (fun q284 => ?_) (fun q284 => ?_)
        · try dsimp only [tvI_i, tvJ_j, tvR_r] at q284
          have q284i := zneq (Y := (-1)) (by decide) q284
          refine tw_aload rfl rfl ?_
          refine tw_getS rfl (hi_44_8 ggp283.1) ?_
          refine tw_push rfl ?_
          refine tw_ic_ne rfl (fun q285 => ?_) (fun q285 => ?_)
          · try dsimp only [tvI_i, tvJ_j, tvR_r] at q285
            have q285i := zneq (Y := 80) (by decide) q285
            refine tw_aload rfl rfl ?_
            refine tw_dup rfl ?_
            refine tw_getS rfl (hi_44_8 ggp283.1) ?_
            refine tw_push rfl ?_
            refine tw_iadd rfl ?_
            refine tw_put rfl (fun f286 => ?_)
            refine tG_set f286 (hw_44_8 f286 (ggp283).1) (fun hf286 ef286 => ?_)
            try dsimp only [tvI_i] at ef286
            have gf286 := cFr_s ggp283 ef286 (by decide)
            obtain ⟨pf286, sf286⟩ := cCnt ppp283 q285 ef286
            refine tw_aload rfl rfl ?_
            refine tw_iload rfl rfl ?_
            refine tw_virt1 rfl (f_putCode hG hX (gf286).1 pf286 ((cFr_T gf286).trans hT) ((cFr_n gf286).trans hN) (cHc pf286 (by rw [sf286]; show (cs hp283).2.2.length < (cs hp283).1; rw [ssp283, ssp281]; show (cs h).2.2.length < vp283.1; have z := (rM_r (rB_le (T := T) hpn) hrm).1; rw [rB_2] at z; have := rB_ge (T := T) (n := n) (p := (cs h).1); have := cP_len hp; omega))) (fun wp287 hp287 p287 => ?_)
            obtain ⟨gp287, rfl, ssp287, ppp287⟩ := p287
            have ggp287 := cFr_t gf286 gp287
            refine tw_push rfl ?_
            have hi9 : ip281.toInt = -1 := congrArg Int32.toInt q282
            have hnw : ∀ k, k < 12 → ¬ rW T n (rB T n (cs h).1) (rWd k) = true := fun k hk z => by have y := (kwp281.2 k (by omega)).mpr z; omega
            have h80 := cn80 ppp283 q285
            rw [ssp283, ssp281] at h80
            refine tw_iret rfl ⟨ggp287, Or.inl ⟨rfl, ?_, ppp287⟩⟩
            rw [ssp287, sf286, ssp283, ssp281]
            have e9 := zoN (v := vp283.2) (by have := (rM_r (rB_le (T := T) hpn) hrm).2.2; omega)
            show pE T n 0 d (cs h) (.inr (vp283.1, (cs h).2.1 + 1, (cs h).2.2 ++ [(Int32.ofNat vp283.2).toNatClampNeg]))
            rw [e9]
            exact pE_0z (fun z => q280 ((sgn_k kp279 40 (by decide)).mpr z)) hnw hrm h80
          · try dsimp only [tvI_i, tvJ_j, tvR_r] at q285
            have q285i := zeqi (Y := 80) (by decide) q285
            refine tw_aload rfl rfl ?_
            refine tw_iload rfl rfl ?_
            refine tw_push rfl ?_
            refine tw_virt2 rfl (f_refuse hG hX (ggp283).1 ppp283 ((cFr_T ggp283).trans hT) ((cFr_n ggp283).trans hN)) (fun wp288 hp288 p288 => ?_)
            obtain ⟨gp288, rfl, up288⟩ := p288
            have ggp288 := cFr_t ggp283 gp288
            have hi9 : ip281.toInt = -1 := congrArg Int32.toInt q282
            have hnw : ∀ k, k < 12 → ¬ rW T n (rB T n (cs h).1) (rWd k) = true := fun k hk z => by have y := (kwp281.2 k (by omega)).mpr z; omega
            have hft := cFt_of ppp281 up288 (w := 3) rfl (by decide)
            rw [ssp281] at hft
            have h80 := c80 q285
            rw [ssp283, ssp281] at h80
            exact tw_iret rfl ⟨ggp288, Or.inr ⟨rfl, _, pE_0y (fun z => q280 ((sgn_k kp279 40 (by decide)).mpr z)) hnw hrm h80, hft⟩⟩
        · try dsimp only [tvI_i, tvJ_j, tvR_r] at q284
          have q284i := zeqi (Y := (-1)) (by decide) q284
          exact absurd q284 (zoN9 (by have := (rM_r (rB_le (T := T) hpn) hrm).2.2; omega))
      · have ggp283 := cFr_t ggp281 gp283
        have hrm := p283
        rw [ssp281] at hrm
        refine tw_istore rfl ?_
        refine tw_iload rfl rfl ?_
        refine tw_push rfl ?_
        refine tw_ic_ne rfl (fun z => absurd z (by decide)) (fun _ => ?_)
        refine tw_push rfl ?_
        have hi9 : ip281.toInt = -1 := congrArg Int32.toInt q282
        have hnw : ∀ k, k < 12 → ¬ rW T n (rB T n (cs h).1) (rWd k) = true := fun k hk z => by have y := (kwp281.2 k (by omega)).mpr z; omega
        exact tw_iret rfl ⟨ggp283, Or.inr ⟨rfl, _, pE_0m (fun z => q280 ((sgn_k kp279 40 (by decide)).mpr z)) hnw hrm, up283⟩⟩
    · try dsimp only [tvI_i, tvJ_j, tvR_r] at q282
      have q282i := zneq (Y := (-1)) (by decide) q282
      refine tw_iload rfl rfl ?_
      refine tw_push rfl ?_
      refine tw_ic_ge rfl (fun q289 => ?_) (fun q289 => ?_)
      · try dsimp only [tvI_i, tvJ_j, tvR_r] at q289
        refine tw_aload rfl rfl ?_
        refine tw_getS rfl (hi_44_2 ggp281.1) ?_
        refine tw_istore rfl ?_
        refine tw_aload rfl rfl ?_
        refine tw_push rfl ?_
        refine tw_virt1 rfl (f_numberHere hG hX (ggp281).1 ppp281 ((cFr_T ggp281).trans hT) ((cFr_n ggp281).trans hN) (m := 99999) (M := 99999) rfl (by decide)) (fun w9 hp290 p290 => ?_)
        obtain ⟨gp290, ⟨vp290, p290, rfl, ssp290, ppp290⟩ | ⟨xp290, p290, rfl, up290⟩⟩ := p290
        · have ggp290 := cFr_t ggp281 gp290
          have hrm := p290
          rw [ssp281] at hrm
          refine tw_istore rfl ?_
          refine tw_iload rfl rfl ?_
          refine tw_push rfl ?_
          refine tw_ic_ne rfl (fun q291 => ?_) (fun q291 => ?_)
          · try dsimp only [tvI_i, tvJ_j, tvR_r] at q291
            have q291i := zneq (Y := (-1)) (by decide) q291
            refine tw_aload rfl rfl ?_
            refine tw_getS rfl (hi_44_8 ggp290.1) ?_
            refine tw_push rfl ?_
            refine tw_ic_ne rfl (fun q292 => ?_) (fun q292 => ?_)
            · try dsimp only [tvI_i, tvJ_j, tvR_r] at q292
              have q292i := zneq (Y := 80) (by decide) q292
              refine tw_aload rfl rfl ?_
              refine tw_dup rfl ?_
              refine tw_getS rfl (hi_44_8 ggp290.1) ?_
              refine tw_push rfl ?_
              refine tw_iadd rfl ?_
              refine tw_put rfl (fun f293 => ?_)
              refine tG_set f293 (hw_44_8 f293 (ggp290).1) (fun hf293 ef293 => ?_)
              try dsimp only [tvI_i] at ef293
              have gf293 := cFr_s ggp290 ef293 (by decide)
              obtain ⟨pf293, sf293⟩ := cCnt ppp290 q292 ef293
              refine tw_aload rfl rfl ?_
              refine tw_iload rfl rfl ?_
              refine tw_virt1 rfl (f_putCode hG hX (gf293).1 pf293 ((cFr_T gf293).trans hT) ((cFr_n gf293).trans hN) (cHc pf293 (by rw [sf293]; show (cs hp290).2.2.length < (cs hp290).1; rw [ssp290, ssp281]; show (cs h).2.2.length < vp290.1; have z := (rM_r (rB_le (T := T) hpn) hrm).1; rw [rB_2] at z; have := rB_ge (T := T) (n := n) (p := (cs h).1); have := cP_len hp; omega))) (fun wp294 hp294 p294 => ?_)
              obtain ⟨gp294, rfl, ssp294, ppp294⟩ := p294
              have ggp294 := cFr_t gf293 gp294
              refine tw_push rfl ?_
              have hi9 : 12 ≤ ip281.toInt := by have z := q289; exact z
              have hnw : ∀ k, k < 12 → ¬ rW T n (rB T n (cs h).1) (rWd k) = true := fun k hk z => by have y := (kwp281.2 k (by omega)).mpr z; omega
              have h80 := cn80 ppp290 q292
              rw [ssp290, ssp281] at h80
              refine tw_iret rfl ⟨ggp294, Or.inl ⟨rfl, ?_, ppp294⟩⟩
              rw [ssp294, sf293, ssp290, ssp281]
              have e9 := zoN (v := vp290.2) (by have := (rM_r (rB_le (T := T) hpn) hrm).2.2; omega)
              show pE T n 0 d (cs h) (.inr (vp290.1, (cs h).2.1 + 1, (cs h).2.2 ++ [(Int32.ofNat vp290.2).toNatClampNeg]))
              rw [e9]
              exact pE_0z (fun z => q280 ((sgn_k kp279 40 (by decide)).mpr z)) hnw hrm h80
            · try dsimp only [tvI_i, tvJ_j, tvR_r] at q292
              have q292i := zeqi (Y := 80) (by decide) q292
              refine tw_aload rfl rfl ?_
              refine tw_iload rfl rfl ?_
              refine tw_push rfl ?_
              refine tw_virt2 rfl (f_refuse hG hX (ggp290).1 ppp290 ((cFr_T ggp290).trans hT) ((cFr_n ggp290).trans hN)) (fun wp295 hp295 p295 => ?_)
              obtain ⟨gp295, rfl, up295⟩ := p295
              have ggp295 := cFr_t ggp290 gp295
              have hi9 : 12 ≤ ip281.toInt := by have z := q289; exact z
              have hnw : ∀ k, k < 12 → ¬ rW T n (rB T n (cs h).1) (rWd k) = true := fun k hk z => by have y := (kwp281.2 k (by omega)).mpr z; omega
              have hft := cFt_of ppp281 up295 (w := 3) rfl (by decide)
              rw [ssp281] at hft
              have h80 := c80 q292
              rw [ssp290, ssp281] at h80
              exact tw_iret rfl ⟨ggp295, Or.inr ⟨rfl, _, pE_0y (fun z => q280 ((sgn_k kp279 40 (by decide)).mpr z)) hnw hrm h80, hft⟩⟩
          · try dsimp only [tvI_i, tvJ_j, tvR_r] at q291
            have q291i := zeqi (Y := (-1)) (by decide) q291
            exact absurd q291 (zoN9 (by have := (rM_r (rB_le (T := T) hpn) hrm).2.2; omega))
        · have ggp290 := cFr_t ggp281 gp290
          have hrm := p290
          rw [ssp281] at hrm
          refine tw_istore rfl ?_
          refine tw_iload rfl rfl ?_
          refine tw_push rfl ?_
          refine tw_ic_ne rfl (fun z => absurd z (by decide)) (fun _ => ?_)
          refine tw_push rfl ?_
          have hi9 : 12 ≤ ip281.toInt := by have z := q289; exact z
          have hnw : ∀ k, k < 12 → ¬ rW T n (rB T n (cs h).1) (rWd k) = true := fun k hk z => by have y := (kwp281.2 k (by omega)).mpr z; omega
          exact tw_iret rfl ⟨ggp290, Or.inr ⟨rfl, _, pE_0m (fun z => q280 ((sgn_k kp279 40 (by decide)).mpr z)) hnw hrm, up290⟩⟩
      · try dsimp only [tvI_i, tvJ_j, tvR_r] at q289
        refine tw_aload rfl rfl ?_
        refine tw_virt0 rfl (f_countOne hG hX (ggp281).1 ppp281 ((cFr_T ggp281).trans hT) ((cFr_n ggp281).trans hN)) (fun w9 hp296 p296 => ?_)
        obtain ⟨gp296, ⟨rfl, p296, ppp296, t3p296⟩ | ⟨rfl, xp296, p296, up296⟩⟩ := p296
        · have ggp296 := cFr_t ggp281 gp296
          have kwb := kwp281.1
          have hk12 : rW T n (rB T n (cs h).1) (rWd ip281.toInt.toNat) = true := (kwp281.2 ip281.toInt.toNat (by omega)).mp (by omega)
          have hEb : (rB T n (cs h).1) < rE T n (rB T n (cs h).1) := by have z := rE_ge (T := T) (n := n) (p := (rB T n (cs h).1) + 1); rw [← rE_y (rW_l (by omega) hk12)] at z; omega
          refine tw_if_eq rfl (fun z => absurd z (by decide)) (fun _ => ?_)
          refine tw_aload rfl rfl ?_
          refine tw_iload rfl rfl ?_
          refine tw_virt1 rfl (f_takeWord hG hX (ggp296).1 ppp296 ((cFr_T ggp296).trans hT) ((cFr_n ggp296).trans hN) (i := ip281) (k := ip281.toInt.toNat) (E := rE T n (rB T n (cs h).1)) (by have := kwp281.1; omega) (by omega) (by rw [t3p296]; exact eep281) (by rw [(rC_y p296).2]; show (cs hp281).1 < _; rw [ssp281]; exact hEb) (rE_le (rB_le hpn))) (fun wp297 hp297 p297 => ?_)
          obtain ⟨gp297, rfl, ssp297, ppp297⟩ := p297
          have ggp297 := cFr_t ggp296 gp297
          refine tw_if_eq rfl (fun z => absurd z (by decide)) (fun _ => ?_)
          refine tw_push rfl ?_
          refine tw_goto rfl ?_
          obtain ⟨hcn, hce⟩ := rC_y p296
          rw [ssp281] at hcn
          refine tw_iret rfl ⟨ggp297, Or.inl ⟨rfl, ?_, ppp297⟩⟩
          rw [ssp297, hce, ssp281]
          exact pE_0w (by omega) hk12 hcn
        · have ggp296 := cFr_t ggp281 gp296
          have kwb := kwp281.1
          have hk12 : rW T n (rB T n (cs h).1) (rWd ip281.toInt.toNat) = true := (kwp281.2 ip281.toInt.toNat (by omega)).mp (by omega)
          have hEb : (rB T n (cs h).1) < rE T n (rB T n (cs h).1) := by have z := rE_ge (T := T) (n := n) (p := (rB T n (cs h).1) + 1); rw [← rE_y (rW_l (by omega) hk12)] at z; omega
          refine tw_if_eq rfl (fun _ => ?_) (fun z => absurd z (by decide))
          refine tw_push rfl ?_
          obtain ⟨o1, o2⟩ := rC_n p296
          rw [ssp281] at o1 o2
          subst o2
          exact tw_iret rfl ⟨ggp296, Or.inr ⟨rfl, _, pE_0x (k := ip281.toInt.toNat) (by omega) hk12 o1, up296⟩⟩
  · try dsimp only [tvI_i, tvJ_j, tvR_r] at q280
    have q280i := zeqi (Y := 40) (by decide) q280
    refine tw_iload rfl rfl ?_
    refine tw_push rfl ?_
    refine tw_ic_ne rfl (fun q298 => ?_) (fun q298 => ?_)
    · try dsimp only [tvI_i, tvJ_j, tvR_r] at q298
      have q298i := zneq (Y := 10) (by decide) q298
      refine tw_aload rfl rfl ?_
      refine tw_virt0 rfl (f_countOne hG hX (ggp279).1 ppp279 ((cFr_T ggp279).trans hT) ((cFr_n ggp279).trans hN)) (fun w9 hp299 p299 => ?_)
      obtain ⟨gp299, ⟨rfl, p299, ppp299, t3p299⟩ | ⟨rfl, xp299, p299, up299⟩⟩ := p299
      · have ggp299 := cFr_t ggp279 gp299
        refine tw_if_ne rfl (fun _ => ?_) (fun z => absurd z (by decide))
        refine tw_aload rfl rfl ?_
        refine tw_dup rfl ?_
        refine tw_getS rfl (hi_44_2 ggp299.1) ?_
        refine tw_push rfl ?_
        refine tw_iadd rfl ?_
        refine tw_put rfl (fun f300 => ?_)
        refine tG_set f300 (hw_44_2 f300 (ggp299).1) (fun hf300 ef300 => ?_)
        try dsimp only [tvI_i] at ef300
        have gf300 := cFr_s ggp299 ef300 (by decide)
        obtain ⟨hcn, hce⟩ := rC_y p299
        have hw := (sgn_k kp279 40 (by decide)).mp q280
        have hlf300 : (cs hp299).1 < n := by rw [hce]; show (cs hp279).1 < n; rw [ssp279]; exact hw.1
        obtain ⟨pf300, sf300⟩ := cInc ppp299 hlf300 ((cFr_n ggp299).trans hN) ef300
        rw [hce, ssp279] at sf300
        refine tw_aload rfl rfl ?_
        refine tw_iload rfl rfl ?_
        refine tw_push rfl ?_
        refine tw_iadd rfl ?_
        refine tw_virt1p rfl (IH 3 83 (by decide) _ _ _ (d + 1) _ (gf300).1 pf300 ((cFr_T gf300).trans hT) ((cFr_n gf300).trans hN) (zd1 hx hd) (by omega)) (fun w9 hp301 p301 => ?_)
        obtain ⟨gp301, ⟨rfl, p301, ppp301⟩ | ⟨rfl, xp301, p301, up301⟩⟩ := p301
        · have ggp301 := cFr_t gf300 gp301
          refine tw_if_eq rfl (fun z => absurd z (by decide)) (fun _ => ?_)
          refine tw_aload rfl rfl ?_
          refine tw_push rfl ?_
          refine tw_virt1 rfl (f_takeSign hG hX (ggp301).1 ppp301 ((cFr_T ggp301).trans hT) ((cFr_n ggp301).trans hN) (y := 41) (by decide)) (fun w9 hp302 p302 => ?_)
          obtain ⟨gp302, ⟨rfl, p302, ppp302⟩ | ⟨rfl, xp302, p302, up302⟩⟩ := p302
          · have ggp302 := cFr_t ggp301 gp302
            refine tw_if_eq rfl (fun z => absurd z (by decide)) (fun _ => ?_)
            refine tw_push rfl ?_
            refine tw_goto rfl ?_
            have hw9 := ((sgn_k kp279 40 (by decide)).mp q280)
            have hd10 : d ≠ 10 := fun z => q298 (Int32.toInt_inj.mp (by rw [hx, z]; rfl))
            rw [ssp279] at hcn
            rw [sf300] at p301
            exact tw_iret rfl ⟨ggp302, Or.inl ⟨rfl, pE_0d hw9 hd10 hcn p301 p302, ppp302⟩⟩
          · have ggp302 := cFr_t ggp301 gp302
            refine tw_if_eq rfl (fun _ => ?_) (fun z => absurd z (by decide))
            refine tw_push rfl ?_
            have hw9 := ((sgn_k kp279 40 (by decide)).mp q280)
            have hd10 : d ≠ 10 := fun z => q298 (Int32.toInt_inj.mp (by rw [hx, z]; rfl))
            rw [ssp279] at hcn
            rw [sf300] at p301
            exact tw_iret rfl ⟨ggp302, Or.inr ⟨rfl, _, pE_0d hw9 hd10 hcn p301 p302, up302⟩⟩
        · have ggp301 := cFr_t gf300 gp301
          refine tw_if_eq rfl (fun _ => ?_) (fun z => absurd z (by decide))
          refine tw_push rfl ?_
          have hw9 := ((sgn_k kp279 40 (by decide)).mp q280)
          have hd10 : d ≠ 10 := fun z => q298 (Int32.toInt_inj.mp (by rw [hx, z]; rfl))
          rw [ssp279] at hcn
          rw [sf300] at p301
          exact tw_iret rfl ⟨ggp301, Or.inr ⟨rfl, _, pE_0c hw9 hd10 hcn p301, up301⟩⟩
      · have ggp299 := cFr_t ggp279 gp299
        refine tw_if_ne rfl (fun z => absurd z (by decide)) (fun _ => ?_)
        refine tw_push rfl ?_
        have hw9 := ((sgn_k kp279 40 (by decide)).mp q280)
        have hd10 : d ≠ 10 := fun z => q298 (Int32.toInt_inj.mp (by rw [hx, z]; rfl))
        obtain ⟨o1, o2⟩ := rC_n p299
        rw [ssp279] at o1 o2
        subst o2
        exact tw_iret rfl ⟨ggp299, Or.inr ⟨rfl, _, pE_0b hw9 hd10 o1, up299⟩⟩
    · try dsimp only [tvI_i, tvJ_j, tvR_r] at q298
      have q298i := zeqi (Y := 10) (by decide) q298
      refine tw_aload rfl rfl ?_
      refine tw_aload rfl rfl ?_
      refine tw_getS rfl (hi_44_2 ggp279.1) ?_
      refine tw_push rfl ?_
      refine tw_virt2 rfl (f_refuse hG hX (ggp279).1 ppp279 ((cFr_T ggp279).trans hT) ((cFr_n ggp279).trans hN)) (fun wp303 hp303 p303 => ?_)
      obtain ⟨gp303, rfl, up303⟩ := p303
      have ggp303 := cFr_t ggp279 gp303
      have hw9 := ((sgn_k kp279 40 (by decide)).mp q280)
      have hd10 : d = 10 := by have z : x.toInt = 10 := congrArg Int32.toInt q298; omega
      have hft := cFt_of ppp279 up303 (w := 2) rfl (by decide)
      rw [ssp279] at hft
      exact tw_iret rfl ⟨ggp303, Or.inr ⟨rfl, _, pE_0a hw9 hd10, hft⟩⟩
theorem wlen_k : (rWd 18).length = 3 ∧ (rWd 17).length = 2 ∧ (rWd 19).length = 3 ∧ (rWd 16).length = 2 := by decide +kernel
theorem f_readTerm {G : zG} (hG : G.1 = zProg) (hX : G.2.1 = ztx) {dp : Nat} (IH : cIH G dp) {h : zH} {T : Nat → Int32} {n : Nat} (hs : tSh h) (hp : cP h) (hT : tA h 45 = T) (hN : cn h = n) {x : Int32} {d : Nat} (hx : x.toInt = d) (hd : d ≤ 10) : tCp zTt G (dp + 1) 84 [.ref 44, .int x] h (cR T n 1 d h) := by
  refine tCp_in (by rw [hG]; rfl) ?_
  have g0 := cFr_r hs
  have hpn : (cs h).1 ≤ n := by rw [← hN]; exact cP_le hp
  have c129 : (12 : Int32).toInt = 12 := rfl
  have c4009 : (400 : Int32).toInt = 400 := rfl
  have c109 : (10 : Int32).toInt = 10 := rfl
  refine tw_aload rfl rfl ?_
  refine tw_iload rfl rfl ?_
  refine tw_virt1p rfl (IH 0 85 (by decide) _ _ _ d _ (g0).1 hp ((cFr_T g0).trans hT) ((cFr_n g0).trans hN) hx hd) (fun w9 hp304 p304 => ?_)
  obtain ⟨gp304, ⟨rfl, p304, ppp304⟩ | ⟨rfl, xp304, p304, up304⟩⟩ := p304
  · have ggp304 := cFr_t g0 gp304
    refine tw_if_ne rfl (fun _ => ?_) (fun z => absurd z (by decide))
    refine tw_push rfl ?_
    refine tw_istore rfl ?_
    refine tG_loop (zW_mono zTt G dp) (zW_conj zTt G dp) (V := fun pc L st h9 _ _ => pc = 12 ∧ st = [] ∧ ∃ (h1 : zH) (k : Nat) (y : Int32), h1 = h9 ∧ y.toInt = k ∧ k ≤ (cs h1).1 ∧ cFr h h1 ∧ cP h1 ∧ (∀ r, pE T n 2 d (cs h1) r → pE T n 1 d (cs h) r) ∧ L = [some (.ref 44), some (.int x), some (.int y)]) ?_ (⟨rfl, rfl, _, 0, _, rfl, rfl, Nat.zero_le _, ggp304, ppp304, fun r z => pE_q (by decide) p304 z, rfl⟩)
    rintro _ _ _ _ _ _ ⟨rfl, rfl, h1, k, y, rfl, hy, hk, g1, p1, hR, rfl⟩
    refine tw_iload rfl rfl ?_
    refine tw_push rfl ?_
    refine tw_ic_ge rfl (fun q305 => ?_) (fun q305 => ?_)
    · try dsimp only [tvI_i, tvJ_j, tvR_r] at q305
      refine tw_push rfl ?_
      have h4 : 400 ≤ (cs h1).1 := by omega
      have h5 := cP_400 p1
      rw [((cFr_n g1).trans hN)] at h5
      have h6 := rB_400 (T := T) (show n ≤ (cs h1).1 by omega)
      have h7 := pE_2n (T := T) (n := n) (d := d) (s := cs h1) (c400 (T := T) h4 (by have := cP_le p1; rw [((cFr_n g1).trans hN)] at this; exact this) h5)
      rw [h6] at h7
      exact tw_iret rfl ⟨g1, Or.inl ⟨rfl, hR _ h7, p1⟩⟩
    · try dsimp only [tvI_i, tvJ_j, tvR_r] at q305
      refine tw_aload rfl rfl ?_
      refine tw_virt0 rfl (f_signHere hG hX (g1).1 p1 ((cFr_T g1).trans hT) ((cFr_n g1).trans hN)) (fun wp306 hp306 p306 => ?_)
      obtain ⟨gp306, ppp306, ssp306, t3p306, cp306, rfl, kp306⟩ := p306
      have ggp306 := cFr_t g1 gp306
      refine tw_push rfl ?_
      refine tw_ic_ne rfl (fun q307 => ?_) (fun q307 => ?_)
      · try dsimp only [tvI_i, tvJ_j, tvR_r] at q307
        have q307i := zneq (Y := 42) (by decide) q307
        refine tw_push rfl ?_
        have h7 := pE_2n (T := T) (n := n) (d := d) (s := cs h1) (fun z => q307 ((sgn_k kp306 42 (by decide)).mpr z))
        rw [← ssp306] at h7
        exact tw_iret rfl ⟨ggp306, Or.inl ⟨rfl, hR _ h7, ppp306⟩⟩
      · try dsimp only [tvI_i, tvJ_j, tvR_r] at q307
        have q307i := zeqi (Y := 42) (by decide) q307
        refine tw_aload rfl rfl ?_
        refine tw_dup rfl ?_
        refine tw_getS rfl (hi_44_2 ggp306.1) ?_
        refine tw_push rfl ?_
        refine tw_iadd rfl ?_
        refine tw_put rfl (fun f308 => ?_)
        refine tG_set f308 (hw_44_2 f308 (ggp306).1) (fun hf308 ef308 => ?_)
        try dsimp only [tvI_i] at ef308
        have gf308 := cFr_s ggp306 ef308 (by decide)
        have hwf308 := ((sgn_k kp306 42 (by decide)).mp q307)
        have hlf308 : (cs hp306).1 < n := by rw [ssp306]; exact hwf308.1
        obtain ⟨pf308, sf308⟩ := cInc ppp306 hlf308 ((cFr_n ggp306).trans hN) ef308
        rw [ssp306] at sf308
        refine tw_aload rfl rfl ?_
        refine tw_iload rfl rfl ?_
        refine tw_virt1p rfl (IH 0 85 (by decide) _ _ _ d _ (gf308).1 pf308 ((cFr_T gf308).trans hT) ((cFr_n gf308).trans hN) hx hd) (fun w9 hp309 p309 => ?_)
        obtain ⟨gp309, ⟨rfl, p309, ppp309⟩ | ⟨rfl, xp309, p309, up309⟩⟩ := p309
        · have ggp309 := cFr_t gf308 gp309
          refine tw_if_ne rfl (fun _ => ?_) (fun z => absurd z (by decide))
          refine tw_aload rfl rfl ?_
          refine tw_push rfl ?_
          refine tw_virt1 rfl (f_putCode hG hX (ggp309).1 ppp309 ((cFr_T ggp309).trans hT) ((cFr_n ggp309).trans hN) (cHc ppp309 (by have z := cPe pf308 ((cFr_n gf308).trans hN) p309; have z2 := cP_len p1; have z3 := rB_ge (T := T) (n := n) (p := (cs h1).1); obtain ⟨z4, z5, z6⟩ := z; rw [sf308] at z4 z6; have z4 : (rB T n (cs h1).1) + 1 ≤ (cs hp309).1 := z4; have z6 : (rB T n (cs h1).1) + 1 + (cs hp309).2.2.length ≤ (cs hp309).1 + (cs h1).2.2.length := z6; omega))) (fun wp310 hp310 p310 => ?_)
          obtain ⟨gp310, rfl, ssp310, ppp310⟩ := p310
          have ggp310 := cFr_t ggp309 gp310
          refine tw_iinc rfl rfl ?_
          refine tw_goto rfl ?_
          have z := cPe pf308 ((cFr_n gf308).trans hN) p309
          have z3 := rB_ge (T := T) (n := n) (p := (cs h1).1)
          obtain ⟨z4, z5, z6⟩ := z
          have hon := p309
          rw [sf308] at z4 hon
          have z4 : (rB T n (cs h1).1) + 1 ≤ (cs hp309).1 := z4
          exact tG_cut (zW_mono zTt G dp) (Or.inr ⟨rfl, rfl, _, k + 1, _, rfl, zincL hy q305, (by rw [ssp310]; show k + 1 ≤ (cs hp309).1; omega), ggp310, ppp310, fun r w => hR r (pE_2y hwf308 hon (by rw [ssp310] at w; exact w)), rfl⟩)
        · have ggp309 := cFr_t gf308 gp309
          refine tw_if_ne rfl (fun z => absurd z (by decide)) (fun _ => ?_)
          refine tw_push rfl ?_
          have hoff := p309
          rw [sf308] at hoff
          exact tw_iret rfl ⟨ggp309, Or.inr ⟨rfl, _, hR _ (pE_2f hwf308 hoff), up309⟩⟩
  · have ggp304 := cFr_t g0 gp304
    refine tw_if_ne rfl (fun z => absurd z (by decide)) (fun _ => ?_)
    refine tw_push rfl ?_
    exact tw_iret rfl ⟨ggp304, Or.inr ⟨rfl, _, pE_qf (c := 2) (by decide) p304, up304⟩⟩
theorem f_readSum {G : zG} (hG : G.1 = zProg) (hX : G.2.1 = ztx) {dp : Nat} (IH : cIH G dp) {h : zH} {T : Nat → Int32} {n : Nat} (hs : tSh h) (hp : cP h) (hT : tA h 45 = T) (hN : cn h = n) {x : Int32} {d : Nat} (hx : x.toInt = d) (hd : d ≤ 10) : tCp zTt G (dp + 1) 83 [.ref 44, .int x] h (cR T n 3 d h) := by
  refine tCp_in (by rw [hG]; rfl) ?_
  have g0 := cFr_r hs
  have hpn : (cs h).1 ≤ n := by rw [← hN]; exact cP_le hp
  have c129 : (12 : Int32).toInt = 12 := rfl
  have c4009 : (400 : Int32).toInt = 400 := rfl
  have c109 : (10 : Int32).toInt = 10 := rfl
  refine tw_aload rfl rfl ?_
  refine tw_iload rfl rfl ?_
  refine tw_virt1p rfl (IH 1 84 (by decide) _ _ _ d _ (g0).1 hp ((cFr_T g0).trans hT) ((cFr_n g0).trans hN) hx hd) (fun w9 hp311 p311 => ?_)
  obtain ⟨gp311, ⟨rfl, p311, ppp311⟩ | ⟨rfl, xp311, p311, up311⟩⟩ := p311
  · have ggp311 := cFr_t g0 gp311
    refine tw_if_ne rfl (fun _ => ?_) (fun z => absurd z (by decide))
    refine tw_push rfl ?_
    refine tw_istore rfl ?_
    refine tG_loop (zW_mono zTt G dp) (zW_conj zTt G dp) (V := fun pc L st h9 _ _ => pc = 12 ∧ st = [] ∧ ∃ (h1 : zH) (k : Nat) (y : Int32) (v3 : Option Value), h1 = h9 ∧ y.toInt = k ∧ k ≤ (cs h1).1 ∧ cFr h h1 ∧ cP h1 ∧ (∀ r, pE T n 4 d (cs h1) r → pE T n 3 d (cs h) r) ∧ L = [some (.ref 44), some (.int x), some (.int y), v3]) ?_ (⟨rfl, rfl, _, 0, _, _, rfl, rfl, Nat.zero_le _, ggp311, ppp311, fun r z => pE_q (by decide) p311 z, rfl⟩)
    rintro _ _ _ _ _ _ ⟨rfl, rfl, h1, k, y, v3, rfl, hy, hk, g1, p1, hR, rfl⟩
    refine tw_iload rfl rfl ?_
    refine tw_push rfl ?_
    refine tw_ic_ge rfl (fun q312 => ?_) (fun q312 => ?_)
    · try dsimp only [tvI_i, tvJ_j, tvR_r] at q312
      refine tw_push rfl ?_
      have h4 : 400 ≤ (cs h1).1 := by omega
      have h5 := cP_400 p1
      rw [((cFr_n g1).trans hN)] at h5
      have h6 := rB_400 (T := T) (show n ≤ (cs h1).1 by omega)
      have h7 := pE_4n (T := T) (n := n) (d := d) (s := cs h1) (c400 (T := T) h4 (by have := cP_le p1; rw [((cFr_n g1).trans hN)] at this; exact this) h5) (c400 (T := T) h4 (by have := cP_le p1; rw [((cFr_n g1).trans hN)] at this; exact this) h5)
      rw [h6] at h7
      exact tw_iret rfl ⟨g1, Or.inl ⟨rfl, hR _ h7, p1⟩⟩
    · try dsimp only [tvI_i, tvJ_j, tvR_r] at q312
      refine tw_aload rfl rfl ?_
      refine tw_virt0 rfl (f_signHere hG hX (g1).1 p1 ((cFr_T g1).trans hT) ((cFr_n g1).trans hN)) (fun wp313 hp313 p313 => ?_)
      obtain ⟨gp313, ppp313, ssp313, t3p313, cp313, rfl, kp313⟩ := p313
      have ggp313 := cFr_t g1 gp313
      refine tw_istore rfl ?_
      refine tw_iload rfl rfl ?_
      refine tw_push rfl ?_
      refine tw_ic_eq rfl (fun q314 => ?_) (fun q314 => ?_)
      · try dsimp only [tvI_i, tvJ_j, tvR_r] at q314
        have q314i := zeqi (Y := 43) (by decide) q314
        refine tw_aload rfl rfl ?_
        refine tw_dup rfl ?_
        refine tw_getS rfl (hi_44_2 ggp313.1) ?_
        refine tw_push rfl ?_
        refine tw_iadd rfl ?_
        refine tw_put rfl (fun f315 => ?_)
        refine tG_set f315 (hw_44_2 f315 (ggp313).1) (fun hf315 ef315 => ?_)
        try dsimp only [tvI_i] at ef315
        have gf315 := cFr_s ggp313 ef315 (by decide)
        have hwf315 := ((sgn_k kp313 43 (by decide)).mp q314)
        have hlf315 : (cs hp313).1 < n := by rw [ssp313]; exact hwf315.1
        obtain ⟨pf315, sf315⟩ := cInc ppp313 hlf315 ((cFr_n ggp313).trans hN) ef315
        rw [ssp313] at sf315
        refine tw_aload rfl rfl ?_
        refine tw_iload rfl rfl ?_
        refine tw_virt1p rfl (IH 1 84 (by decide) _ _ _ d _ (gf315).1 pf315 ((cFr_T gf315).trans hT) ((cFr_n gf315).trans hN) hx hd) (fun w9 hp316 p316 => ?_)
        obtain ⟨gp316, ⟨rfl, p316, ppp316⟩ | ⟨rfl, xp316, p316, up316⟩⟩ := p316
        · have ggp316 := cFr_t gf315 gp316
          refine tw_if_ne rfl (fun _ => ?_) (fun z => absurd z (by decide))
          refine tw_aload rfl rfl ?_
          refine tw_iload rfl rfl ?_
          refine tw_push rfl ?_
          refine tw_ic_ne rfl (fun q317 => ?_) (fun q317 => ?_)
          · try dsimp only [tvI_i, tvJ_j, tvR_r] at q317
            have q317i := zneq (Y := 43) (by decide) q317
            exact absurd q314 q317
          · try dsimp only [tvI_i, tvJ_j, tvR_r] at q317
            have q317i := zeqi (Y := 43) (by decide) q317
            refine tw_push rfl ?_
            refine tw_goto rfl ?_
            refine tw_virt1 rfl (f_putCode hG hX (ggp316).1 ppp316 ((cFr_T ggp316).trans hT) ((cFr_n ggp316).trans hN) (cHc ppp316 (by have z := cPe pf315 ((cFr_n gf315).trans hN) p316; have z2 := cP_len p1; have z3 := rB_ge (T := T) (n := n) (p := (cs h1).1); obtain ⟨z4, z5, z6⟩ := z; rw [sf315] at z4 z6; have z4 : (rB T n (cs h1).1) + 1 ≤ (cs hp316).1 := z4; have z6 : (rB T n (cs h1).1) + 1 + (cs hp316).2.2.length ≤ (cs hp316).1 + (cs h1).2.2.length := z6; omega))) (fun wp318 hp318 p318 => ?_)
            obtain ⟨gp318, rfl, ssp318, ppp318⟩ := p318
            have ggp318 := cFr_t ggp316 gp318
            refine tw_iinc rfl rfl ?_
            refine tw_goto rfl ?_
            have z := cPe pf315 ((cFr_n gf315).trans hN) p316
            have z3 := rB_ge (T := T) (n := n) (p := (cs h1).1)
            obtain ⟨z4, z5, z6⟩ := z
            have hon := p316
            rw [sf315] at z4 hon
            have z4 : (rB T n (cs h1).1) + 1 ≤ (cs hp316).1 := z4
            exact tG_cut (zW_mono zTt G dp) (Or.inr ⟨rfl, rfl, _, k + 1, _, _, rfl, zincL hy q312, (by rw [ssp318]; show k + 1 ≤ (cs hp316).1; omega), ggp318, ppp318, fun r w => hR r (pE_4p hwf315 hon (by rw [ssp318] at w; exact w)), rfl⟩)
        · have ggp316 := cFr_t gf315 gp316
          refine tw_if_ne rfl (fun z => absurd z (by decide)) (fun _ => ?_)
          refine tw_push rfl ?_
          have hoff := p316
          rw [sf315] at hoff
          exact tw_iret rfl ⟨ggp316, Or.inr ⟨rfl, _, hR _ (pE_4pf hwf315 hoff), up316⟩⟩
      · try dsimp only [tvI_i, tvJ_j, tvR_r] at q314
        have q314i := zneq (Y := 43) (by decide) q314
        refine tw_iload rfl rfl ?_
        refine tw_push rfl ?_
        refine tw_ic_eq rfl (fun q319 => ?_) (fun q319 => ?_)
        · try dsimp only [tvI_i, tvJ_j, tvR_r] at q319
          have q319i := zeqi (Y := 45) (by decide) q319
          refine tw_aload rfl rfl ?_
          refine tw_dup rfl ?_
          refine tw_getS rfl (hi_44_2 ggp313.1) ?_
          refine tw_push rfl ?_
          refine tw_iadd rfl ?_
          refine tw_put rfl (fun f320 => ?_)
          refine tG_set f320 (hw_44_2 f320 (ggp313).1) (fun hf320 ef320 => ?_)
          try dsimp only [tvI_i] at ef320
          have gf320 := cFr_s ggp313 ef320 (by decide)
          have hwf320 := ((sgn_k kp313 45 (by decide)).mp q319)
          have hlf320 : (cs hp313).1 < n := by rw [ssp313]; exact hwf320.1
          obtain ⟨pf320, sf320⟩ := cInc ppp313 hlf320 ((cFr_n ggp313).trans hN) ef320
          rw [ssp313] at sf320
          refine tw_aload rfl rfl ?_
          refine tw_iload rfl rfl ?_
          refine tw_virt1p rfl (IH 1 84 (by decide) _ _ _ d _ (gf320).1 pf320 ((cFr_T gf320).trans hT) ((cFr_n gf320).trans hN) hx hd) (fun w9 hp321 p321 => ?_)
          obtain ⟨gp321, ⟨rfl, p321, ppp321⟩ | ⟨rfl, xp321, p321, up321⟩⟩ := p321
          · have ggp321 := cFr_t gf320 gp321
            refine tw_if_ne rfl (fun _ => ?_) (fun z => absurd z (by decide))
            refine tw_aload rfl rfl ?_
            refine tw_iload rfl rfl ?_
            refine tw_push rfl ?_
            refine tw_ic_ne rfl (fun q322 => ?_) (fun q322 => ?_)
            · try dsimp only [tvI_i, tvJ_j, tvR_r] at q322
              have q322i := zneq (Y := 43) (by decide) q322
              refine tw_push rfl ?_
              refine tw_virt1 rfl (f_putCode hG hX (ggp321).1 ppp321 ((cFr_T ggp321).trans hT) ((cFr_n ggp321).trans hN) (cHc ppp321 (by have z := cPe pf320 ((cFr_n gf320).trans hN) p321; have z2 := cP_len p1; have z3 := rB_ge (T := T) (n := n) (p := (cs h1).1); obtain ⟨z4, z5, z6⟩ := z; rw [sf320] at z4 z6; have z4 : (rB T n (cs h1).1) + 1 ≤ (cs hp321).1 := z4; have z6 : (rB T n (cs h1).1) + 1 + (cs hp321).2.2.length ≤ (cs hp321).1 + (cs h1).2.2.length := z6; omega))) (fun wp323 hp323 p323 => ?_)
              obtain ⟨gp323, rfl, ssp323, ppp323⟩ := p323
              have ggp323 := cFr_t ggp321 gp323
              refine tw_iinc rfl rfl ?_
              refine tw_goto rfl ?_
              have z := cPe pf320 ((cFr_n gf320).trans hN) p321
              have z3 := rB_ge (T := T) (n := n) (p := (cs h1).1)
              obtain ⟨z4, z5, z6⟩ := z
              have hon := p321
              rw [sf320] at z4 hon
              have z4 : (rB T n (cs h1).1) + 1 ≤ (cs hp321).1 := z4
              exact tG_cut (zW_mono zTt G dp) (Or.inr ⟨rfl, rfl, _, k + 1, _, _, rfl, zincL hy q312, (by rw [ssp323]; show k + 1 ≤ (cs hp321).1; omega), ggp323, ppp323, fun r w => hR r (pE_4m hwf320 hon (by rw [ssp323] at w; exact w)), rfl⟩)
            · try dsimp only [tvI_i, tvJ_j, tvR_r] at q322
              have q322i := zeqi (Y := 43) (by decide) q322
              exact absurd q322 q314
          · have ggp321 := cFr_t gf320 gp321
            refine tw_if_ne rfl (fun z => absurd z (by decide)) (fun _ => ?_)
            refine tw_push rfl ?_
            have hoff := p321
            rw [sf320] at hoff
            exact tw_iret rfl ⟨ggp321, Or.inr ⟨rfl, _, hR _ (pE_4mf hwf320 hoff), up321⟩⟩
        · try dsimp only [tvI_i, tvJ_j, tvR_r] at q319
          have q319i := zneq (Y := 45) (by decide) q319
          refine tw_goto rfl ?_
          refine tw_push rfl ?_
          have h7 := pE_4n (T := T) (n := n) (d := d) (s := cs h1) (fun z => q314 ((sgn_k kp313 43 (by decide)).mpr z)) (fun z => q319 ((sgn_k kp313 45 (by decide)).mpr z))
          rw [← ssp313] at h7
          exact tw_iret rfl ⟨ggp313, Or.inl ⟨rfl, hR _ h7, ppp313⟩⟩
  · have ggp311 := cFr_t g0 gp311
    refine tw_if_ne rfl (fun z => absurd z (by decide)) (fun _ => ?_)
    refine tw_push rfl ?_
    exact tw_iret rfl ⟨ggp311, Or.inr ⟨rfl, _, pE_qf (c := 4) (by decide) p311, up311⟩⟩
theorem f_readPart {G : zG} (hG : G.1 = zProg) (hX : G.2.1 = ztx) {dp : Nat} (IH : cIH G dp) {h : zH} {T : Nat → Int32} {n : Nat} (hs : tSh h) (hp : cP h) (hT : tA h 45 = T) (hN : cn h = n) {x : Int32} {d : Nat} (hx : x.toInt = d) (hd : d ≤ 10) : tCp zTt G (dp + 1) 79 [.ref 44, .int x] h (cR T n 7 d h) := by
  refine tCp_in (by rw [hG]; rfl) ?_
  have g0 := cFr_r hs
  have hpn : (cs h).1 ≤ n := by rw [← hN]; exact cP_le hp
  have c129 : (12 : Int32).toInt = 12 := rfl
  have c4009 : (400 : Int32).toInt = 400 := rfl
  have c109 : (10 : Int32).toInt = 10 := rfl
  refine tw_aload rfl rfl ?_
  refine tw_iload rfl rfl ?_
  refine tw_virt1p rfl (IH 6 80 (by decide) _ _ _ d _ (g0).1 hp ((cFr_T g0).trans hT) ((cFr_n g0).trans hN) hx hd) (fun w9 hp324 p324 => ?_)
  obtain ⟨gp324, ⟨rfl, p324, ppp324⟩ | ⟨rfl, xp324, p324, up324⟩⟩ := p324
  · have ggp324 := cFr_t g0 gp324
    refine tw_if_ne rfl (fun _ => ?_) (fun z => absurd z (by decide))
    refine tw_push rfl ?_
    refine tw_istore rfl ?_
    refine tG_loop (zW_mono zTt G dp) (zW_conj zTt G dp) (V := fun pc L st h9 _ _ => pc = 12 ∧ st = [] ∧ ∃ (h1 : zH) (k : Nat) (y : Int32), h1 = h9 ∧ y.toInt = k ∧ k ≤ (cs h1).1 ∧ cFr h h1 ∧ cP h1 ∧ (∀ r, pE T n 8 d (cs h1) r → pE T n 7 d (cs h) r) ∧ L = [some (.ref 44), some (.int x), some (.int y)]) ?_ (⟨rfl, rfl, _, 0, _, rfl, rfl, Nat.zero_le _, ggp324, ppp324, fun r z => pE_q (by decide) p324 z, rfl⟩)
    rintro _ _ _ _ _ _ ⟨rfl, rfl, h1, k, y, rfl, hy, hk, g1, p1, hR, rfl⟩
    refine tw_iload rfl rfl ?_
    refine tw_push rfl ?_
    refine tw_ic_ge rfl (fun q325 => ?_) (fun q325 => ?_)
    · try dsimp only [tvI_i, tvJ_j, tvR_r] at q325
      refine tw_push rfl ?_
      have h4 : 400 ≤ (cs h1).1 := by omega
      have h5 := cP_400 p1
      rw [((cFr_n g1).trans hN)] at h5
      have h6 := rB_400 (T := T) (show n ≤ (cs h1).1 by omega)
      have h7 := pE_8n (T := T) (n := n) (d := d) (s := cs h1) (w400 (by decide) (by rw [h6]; omega))
      rw [h6] at h7
      exact tw_iret rfl ⟨g1, Or.inl ⟨rfl, hR _ h7, p1⟩⟩
    · try dsimp only [tvI_i, tvJ_j, tvR_r] at q325
      refine tw_aload rfl rfl ?_
      refine tw_virt0 rfl (f_wordHere hG hX (g1).1 p1 ((cFr_T g1).trans hT) ((cFr_n g1).trans hN)) (fun wp326 hp326 p326 => ?_)
      obtain ⟨gp326, ppp326, ssp326, eep326, ip326, rfl, kwp326⟩ := p326
      have ggp326 := cFr_t g1 gp326
      refine tw_push rfl ?_
      refine tw_ic_ne rfl (fun q327 => ?_) (fun q327 => ?_)
      · try dsimp only [tvI_i, tvJ_j, tvR_r] at q327
        have q327i := zneq (Y := 18) (by decide) q327
        refine tw_push rfl ?_
        have h7 := pE_8n (T := T) (n := n) (d := d) (s := cs h1) (fun z => q327 ((wrd_k (k := 18) kwp326 (by decide) (K := 18) rfl).mpr z))
        rw [← ssp326] at h7
        exact tw_iret rfl ⟨ggp326, Or.inl ⟨rfl, hR _ h7, ppp326⟩⟩
      · try dsimp only [tvI_i, tvJ_j, tvR_r] at q327
        have q327i := zeqi (Y := 18) (by decide) q327
        refine tw_aload rfl rfl ?_
        refine tw_aload rfl rfl ?_
        refine tw_getS rfl (hi_44_3 ggp326.1) ?_
        refine tw_put rfl (fun f328 => ?_)
        refine tG_set f328 (hw_44_2 f328 (ggp326).1) (fun hf328 ef328 => ?_)
        try dsimp only [tvI_i] at ef328
        have gf328 := cFr_s ggp326 ef328 (by decide)
        have hwf328 := ((wrd_k (k := 18) kwp326 (by decide) (K := 18) rfl).mp q327)
        have h9wf328 : rE T n (rB T n (cs h1).1) = (rB T n (cs h1).1) + 3 := by rw [rW_e hwf328, wlen_k.1]
        rw [h9wf328] at eep326
        have hp1n : (cs h1).1 ≤ n := by rw [← ((cFr_n g1).trans hN)]; exact cP_le p1
        have hr9f328 := rE_le (T := T) (rB_le (T := T) hp1n)
        rw [h9wf328] at hr9f328
        obtain ⟨pf328, sf328⟩ := cTo ppp326 ((cFr_n ggp326).trans hN) ef328 eep326 (by rw [ssp326]; exact Nat.le_add_right _ _) hr9f328
        rw [ssp326] at sf328
        refine tw_aload rfl rfl ?_
        refine tw_iload rfl rfl ?_
        refine tw_virt1p rfl (IH 6 80 (by decide) _ _ _ d _ (gf328).1 pf328 ((cFr_T gf328).trans hT) ((cFr_n gf328).trans hN) hx hd) (fun w9 hp329 p329 => ?_)
        obtain ⟨gp329, ⟨rfl, p329, ppp329⟩ | ⟨rfl, xp329, p329, up329⟩⟩ := p329
        · have ggp329 := cFr_t gf328 gp329
          refine tw_if_ne rfl (fun _ => ?_) (fun z => absurd z (by decide))
          refine tw_aload rfl rfl ?_
          refine tw_push rfl ?_
          refine tw_virt1 rfl (f_putCode hG hX (ggp329).1 ppp329 ((cFr_T ggp329).trans hT) ((cFr_n ggp329).trans hN) (cHc ppp329 (by have z := cPe pf328 ((cFr_n gf328).trans hN) p329; have z2 := cP_len p1; have z3 := rB_ge (T := T) (n := n) (p := (cs h1).1); obtain ⟨z4, z5, z6⟩ := z; rw [sf328] at z4 z6; have z4 : (rB T n (cs h1).1) + 3 ≤ (cs hp329).1 := z4; have z6 : (rB T n (cs h1).1) + 3 + (cs hp329).2.2.length ≤ (cs hp329).1 + (cs h1).2.2.length := z6; omega))) (fun wp330 hp330 p330 => ?_)
          obtain ⟨gp330, rfl, ssp330, ppp330⟩ := p330
          have ggp330 := cFr_t ggp329 gp330
          refine tw_iinc rfl rfl ?_
          refine tw_goto rfl ?_
          have z := cPe pf328 ((cFr_n gf328).trans hN) p329
          have z3 := rB_ge (T := T) (n := n) (p := (cs h1).1)
          obtain ⟨z4, z5, z6⟩ := z
          have hon := p329
          rw [sf328] at z4 hon
          have z4 : (rB T n (cs h1).1) + 3 ≤ (cs hp329).1 := z4
          exact tG_cut (zW_mono zTt G dp) (Or.inr ⟨rfl, rfl, _, k + 1, _, rfl, zincL hy q325, (by rw [ssp330]; show k + 1 ≤ (cs hp329).1; omega), ggp330, ppp330, fun r w => hR r (pE_8y hwf328 hon (by rw [ssp330] at w; exact w)), rfl⟩)
        · have ggp329 := cFr_t gf328 gp329
          refine tw_if_ne rfl (fun z => absurd z (by decide)) (fun _ => ?_)
          refine tw_push rfl ?_
          have hoff := p329
          rw [sf328] at hoff
          exact tw_iret rfl ⟨ggp329, Or.inr ⟨rfl, _, hR _ (pE_8f hwf328 hoff), up329⟩⟩
  · have ggp324 := cFr_t g0 gp324
    refine tw_if_ne rfl (fun z => absurd z (by decide)) (fun _ => ?_)
    refine tw_push rfl ?_
    exact tw_iret rfl ⟨ggp324, Or.inr ⟨rfl, _, pE_qf (c := 8) (by decide) p324, up324⟩⟩
theorem f_readTest {G : zG} (hG : G.1 = zProg) (hX : G.2.1 = ztx) {dp : Nat} (IH : cIH G dp) {h : zH} {T : Nat → Int32} {n : Nat} (hs : tSh h) (hp : cP h) (hT : tA h 45 = T) (hN : cn h = n) {x : Int32} {d : Nat} (hx : x.toInt = d) (hd : d ≤ 10) : tCp zTt G (dp + 1) 78 [.ref 44, .int x] h (cR T n 9 d h) := by
  refine tCp_in (by rw [hG]; rfl) ?_
  have g0 := cFr_r hs
  have hpn : (cs h).1 ≤ n := by rw [← hN]; exact cP_le hp
  have c129 : (12 : Int32).toInt = 12 := rfl
  have c4009 : (400 : Int32).toInt = 400 := rfl
  have c109 : (10 : Int32).toInt = 10 := rfl
  refine tw_aload rfl rfl ?_
  refine tw_iload rfl rfl ?_
  refine tw_virt1p rfl (IH 7 79 (by decide) _ _ _ d _ (g0).1 hp ((cFr_T g0).trans hT) ((cFr_n g0).trans hN) hx hd) (fun w9 hp331 p331 => ?_)
  obtain ⟨gp331, ⟨rfl, p331, ppp331⟩ | ⟨rfl, xp331, p331, up331⟩⟩ := p331
  · have ggp331 := cFr_t g0 gp331
    refine tw_if_ne rfl (fun _ => ?_) (fun z => absurd z (by decide))
    refine tw_push rfl ?_
    refine tw_istore rfl ?_
    refine tG_loop (zW_mono zTt G dp) (zW_conj zTt G dp) (V := fun pc L st h9 _ _ => pc = 12 ∧ st = [] ∧ ∃ (h1 : zH) (k : Nat) (y : Int32), h1 = h9 ∧ y.toInt = k ∧ k ≤ (cs h1).1 ∧ cFr h h1 ∧ cP h1 ∧ (∀ r, pE T n 10 d (cs h1) r → pE T n 9 d (cs h) r) ∧ L = [some (.ref 44), some (.int x), some (.int y)]) ?_ (⟨rfl, rfl, _, 0, _, rfl, rfl, Nat.zero_le _, ggp331, ppp331, fun r z => pE_q (by decide) p331 z, rfl⟩)
    rintro _ _ _ _ _ _ ⟨rfl, rfl, h1, k, y, rfl, hy, hk, g1, p1, hR, rfl⟩
    refine tw_iload rfl rfl ?_
    refine tw_push rfl ?_
    refine tw_ic_ge rfl (fun q332 => ?_) (fun q332 => ?_)
    · try dsimp only [tvI_i, tvJ_j, tvR_r] at q332
      refine tw_push rfl ?_
      have h4 : 400 ≤ (cs h1).1 := by omega
      have h5 := cP_400 p1
      rw [((cFr_n g1).trans hN)] at h5
      have h6 := rB_400 (T := T) (show n ≤ (cs h1).1 by omega)
      have h7 := pE_10n (T := T) (n := n) (d := d) (s := cs h1) (w400 (by decide) (by rw [h6]; omega))
      rw [h6] at h7
      exact tw_iret rfl ⟨g1, Or.inl ⟨rfl, hR _ h7, p1⟩⟩
    · try dsimp only [tvI_i, tvJ_j, tvR_r] at q332
      refine tw_aload rfl rfl ?_
      refine tw_virt0 rfl (f_wordHere hG hX (g1).1 p1 ((cFr_T g1).trans hT) ((cFr_n g1).trans hN)) (fun wp333 hp333 p333 => ?_)
      obtain ⟨gp333, ppp333, ssp333, eep333, ip333, rfl, kwp333⟩ := p333
      have ggp333 := cFr_t g1 gp333
      refine tw_push rfl ?_
      refine tw_ic_ne rfl (fun q334 => ?_) (fun q334 => ?_)
      · try dsimp only [tvI_i, tvJ_j, tvR_r] at q334
        have q334i := zneq (Y := 17) (by decide) q334
        refine tw_push rfl ?_
        have h7 := pE_10n (T := T) (n := n) (d := d) (s := cs h1) (fun z => q334 ((wrd_k (k := 17) kwp333 (by decide) (K := 17) rfl).mpr z))
        rw [← ssp333] at h7
        exact tw_iret rfl ⟨ggp333, Or.inl ⟨rfl, hR _ h7, ppp333⟩⟩
      · try dsimp only [tvI_i, tvJ_j, tvR_r] at q334
        have q334i := zeqi (Y := 17) (by decide) q334
        refine tw_aload rfl rfl ?_
        refine tw_aload rfl rfl ?_
        refine tw_getS rfl (hi_44_3 ggp333.1) ?_
        refine tw_put rfl (fun f335 => ?_)
        refine tG_set f335 (hw_44_2 f335 (ggp333).1) (fun hf335 ef335 => ?_)
        try dsimp only [tvI_i] at ef335
        have gf335 := cFr_s ggp333 ef335 (by decide)
        have hwf335 := ((wrd_k (k := 17) kwp333 (by decide) (K := 17) rfl).mp q334)
        have h9wf335 : rE T n (rB T n (cs h1).1) = (rB T n (cs h1).1) + 2 := by rw [rW_e hwf335, wlen_k.2.1]
        rw [h9wf335] at eep333
        have hp1n : (cs h1).1 ≤ n := by rw [← ((cFr_n g1).trans hN)]; exact cP_le p1
        have hr9f335 := rE_le (T := T) (rB_le (T := T) hp1n)
        rw [h9wf335] at hr9f335
        obtain ⟨pf335, sf335⟩ := cTo ppp333 ((cFr_n ggp333).trans hN) ef335 eep333 (by rw [ssp333]; exact Nat.le_add_right _ _) hr9f335
        rw [ssp333] at sf335
        refine tw_aload rfl rfl ?_
        refine tw_iload rfl rfl ?_
        refine tw_virt1p rfl (IH 7 79 (by decide) _ _ _ d _ (gf335).1 pf335 ((cFr_T gf335).trans hT) ((cFr_n gf335).trans hN) hx hd) (fun w9 hp336 p336 => ?_)
        obtain ⟨gp336, ⟨rfl, p336, ppp336⟩ | ⟨rfl, xp336, p336, up336⟩⟩ := p336
        · have ggp336 := cFr_t gf335 gp336
          refine tw_if_ne rfl (fun _ => ?_) (fun z => absurd z (by decide))
          refine tw_aload rfl rfl ?_
          refine tw_push rfl ?_
          refine tw_virt1 rfl (f_putCode hG hX (ggp336).1 ppp336 ((cFr_T ggp336).trans hT) ((cFr_n ggp336).trans hN) (cHc ppp336 (by have z := cPe pf335 ((cFr_n gf335).trans hN) p336; have z2 := cP_len p1; have z3 := rB_ge (T := T) (n := n) (p := (cs h1).1); obtain ⟨z4, z5, z6⟩ := z; rw [sf335] at z4 z6; have z4 : (rB T n (cs h1).1) + 2 ≤ (cs hp336).1 := z4; have z6 : (rB T n (cs h1).1) + 2 + (cs hp336).2.2.length ≤ (cs hp336).1 + (cs h1).2.2.length := z6; omega))) (fun wp337 hp337 p337 => ?_)
          obtain ⟨gp337, rfl, ssp337, ppp337⟩ := p337
          have ggp337 := cFr_t ggp336 gp337
          refine tw_iinc rfl rfl ?_
          refine tw_goto rfl ?_
          have z := cPe pf335 ((cFr_n gf335).trans hN) p336
          have z3 := rB_ge (T := T) (n := n) (p := (cs h1).1)
          obtain ⟨z4, z5, z6⟩ := z
          have hon := p336
          rw [sf335] at z4 hon
          have z4 : (rB T n (cs h1).1) + 2 ≤ (cs hp336).1 := z4
          exact tG_cut (zW_mono zTt G dp) (Or.inr ⟨rfl, rfl, _, k + 1, _, rfl, zincL hy q332, (by rw [ssp337]; show k + 1 ≤ (cs hp336).1; omega), ggp337, ppp337, fun r w => hR r (pE_10y hwf335 hon (by rw [ssp337] at w; exact w)), rfl⟩)
        · have ggp336 := cFr_t gf335 gp336
          refine tw_if_ne rfl (fun z => absurd z (by decide)) (fun _ => ?_)
          refine tw_push rfl ?_
          have hoff := p336
          rw [sf335] at hoff
          exact tw_iret rfl ⟨ggp336, Or.inr ⟨rfl, _, hR _ (pE_10f hwf335 hoff), up336⟩⟩
  · have ggp331 := cFr_t g0 gp331
    refine tw_if_ne rfl (fun z => absurd z (by decide)) (fun _ => ?_)
    refine tw_push rfl ?_
    exact tw_iret rfl ⟨ggp331, Or.inr ⟨rfl, _, pE_qf (c := 10) (by decide) p331, up331⟩⟩
theorem f_readComparison {G : zG} (hG : G.1 = zProg) (hX : G.2.1 = ztx) {dp : Nat} (IH : cIH G dp) {h : zH} {T : Nat → Int32} {n : Nat} (hs : tSh h) (hp : cP h) (hT : tA h 45 = T) (hN : cn h = n) {x : Int32} {d : Nat} (hx : x.toInt = d) (hd : d ≤ 10) : tCp zTt G (dp + 1) 81 [.ref 44, .int x] h (cR T n 5 d h) := by
  refine tCp_in (by rw [hG]; rfl) ?_
  have g0 := cFr_r hs
  have hpn : (cs h).1 ≤ n := by rw [← hN]; exact cP_le hp
  have c129 : (12 : Int32).toInt = 12 := rfl
  have c4009 : (400 : Int32).toInt = 400 := rfl
  have c109 : (10 : Int32).toInt = 10 := rfl
  refine tw_aload rfl rfl ?_
  refine tw_iload rfl rfl ?_
  refine tw_virt1p rfl (IH 3 83 (by decide) _ _ _ d _ (g0).1 hp ((cFr_T g0).trans hT) ((cFr_n g0).trans hN) hx hd) (fun w9 hp338 p338 => ?_)
  obtain ⟨gp338, ⟨rfl, p338, ppp338⟩ | ⟨rfl, xp338, p338, up338⟩⟩ := p338
  · have ggp338 := cFr_t g0 gp338
    refine tw_if_ne rfl (fun _ => ?_) (fun z => absurd z (by decide))
    refine tw_aload rfl rfl ?_
    refine tw_virt0 rfl (f_comparisonHere hG hX (ggp338).1 ppp338 ((cFr_T ggp338).trans hT) ((cFr_n ggp338).trans hN)) (fun w9 hp339 p339 => ?_)
    obtain ⟨gp339, ⟨vp339, p339, c8p339, rfl, ssp339, ppp339⟩ | ⟨rfl, xp339, up339, p339⟩⟩ := p339
    · have ggp339 := cFr_t ggp338 gp339
      refine tw_istore rfl ?_
      refine tw_iload rfl rfl ?_
      refine tw_push rfl ?_
      refine tw_ic_eq rfl (fun q340 => ?_) (fun q340 => ?_)
      · try dsimp only [tvI_i, tvJ_j, tvR_r] at q340
        have q340i := zeqi (Y := (-1)) (by decide) q340
        exact absurd q340 (zoN9 (by have := (rCm_r p339).2.1; omega))
      · try dsimp only [tvI_i, tvJ_j, tvR_r] at q340
        have q340i := zneq (Y := (-1)) (by decide) q340
        refine tw_aload rfl rfl ?_
        refine tw_iload rfl rfl ?_
        refine tw_virt1p rfl (IH 3 83 (by decide) _ _ _ d _ (ggp339).1 ppp339 ((cFr_T ggp339).trans hT) ((cFr_n ggp339).trans hN) hx hd) (fun w9 hp341 p341 => ?_)
        obtain ⟨gp341, ⟨rfl, p341, ppp341⟩ | ⟨rfl, xp341, p341, up341⟩⟩ := p341
        · have ggp341 := cFr_t ggp339 gp341
          refine tw_if_ne rfl (fun _ => ?_) (fun z => absurd z (by decide))
          refine tw_aload rfl rfl ?_
          refine tw_iload rfl rfl ?_
          refine tw_virt1 rfl (f_putCode hG hX (ggp341).1 ppp341 ((cFr_T ggp341).trans hT) ((cFr_n ggp341).trans hN) (cHc ppp341 (by have z := cPe ppp339 ((cFr_n ggp339).trans hN) p341; have z1 := cP_len ppp338; have z3 := rB_ge (T := T) (n := n) (p := (cs hp338).1); have z7 := (rCm_r p339).2.2; obtain ⟨z4, z5, z6⟩ := z; rw [ssp339] at z4 z6; have z4 : vp339.2 ≤ (cs hp341).1 := z4; have z6 : vp339.2 + (cs hp341).2.2.length ≤ (cs hp341).1 + (cs hp338).2.2.length := z6; omega))) (fun wp342 hp342 p342 => ?_)
          obtain ⟨gp342, rfl, ssp342, ppp342⟩ := p342
          have ggp342 := cFr_t ggp341 gp342
          refine tw_push rfl ?_
          have ho := p341
          rw [ssp339] at ho
          refine tw_iret rfl ⟨ggp342, Or.inl ⟨rfl, ?_, ppp342⟩⟩
          rw [ssp342]
          show pE T n 5 d (cs h) (.inr (rU (Int32.ofNat vp339.1).toNatClampNeg _))
          rw [zoN (v := vp339.1) (by have := (rCm_r p339).2.1; omega)]
          exact pE_5e p338 p339 c8p339 ho
        · have ggp341 := cFr_t ggp339 gp341
          refine tw_if_ne rfl (fun z => absurd z (by decide)) (fun _ => ?_)
          refine tw_push rfl ?_
          have ho := p341
          rw [ssp339] at ho
          exact tw_iret rfl ⟨ggp341, Or.inr ⟨rfl, _, pE_5d p338 p339 c8p339 ho, up341⟩⟩
    · have ggp339 := cFr_t ggp338 gp339
      refine tw_istore rfl ?_
      refine tw_iload rfl rfl ?_
      refine tw_push rfl ?_
      refine tw_ic_eq rfl (fun _ => ?_) (fun z => absurd z (by decide))
      refine tw_push rfl ?_
      rcases p339 with ⟨a1, rfl⟩ | ⟨q9, a1, a2, rfl⟩
      · exact tw_iret rfl ⟨ggp339, Or.inr ⟨rfl, _, pE_5b p338 a1, up339⟩⟩
      · exact tw_iret rfl ⟨ggp339, Or.inr ⟨rfl, _, pE_5c p338 a1 a2, up339⟩⟩
  · have ggp338 := cFr_t g0 gp338
    refine tw_if_ne rfl (fun z => absurd z (by decide)) (fun _ => ?_)
    refine tw_push rfl ?_
    exact tw_iret rfl ⟨ggp338, Or.inr ⟨rfl, _, pE_5a p338, up338⟩⟩
theorem f_readFact {G : zG} (hG : G.1 = zProg) (hX : G.2.1 = ztx) {dp : Nat} (IH : cIH G dp) {h : zH} {T : Nat → Int32} {n : Nat} (hs : tSh h) (hp : cP h) (hT : tA h 45 = T) (hN : cn h = n) {x : Int32} {d : Nat} (hx : x.toInt = d) (hd : d ≤ 10) : tCp zTt G (dp + 1) 80 [.ref 44, .int x] h (cR T n 6 d h) := by
  refine tCp_in (by rw [hG]; rfl) ?_
  have g0 := cFr_r hs
  have hpn : (cs h).1 ≤ n := by rw [← hN]; exact cP_le hp
  have c129 : (12 : Int32).toInt = 12 := rfl
  have c4009 : (400 : Int32).toInt = 400 := rfl
  have c109 : (10 : Int32).toInt = 10 := rfl
  refine tw_aload rfl rfl ?_
  refine tw_virt0 rfl (f_wordHere hG hX (g0).1 hp ((cFr_T g0).trans hT) ((cFr_n g0).trans hN)) (fun wp343 hp343 p343 => ?_)
  obtain ⟨gp343, ppp343, ssp343, eep343, ip343, rfl, kwp343⟩ := p343
  have ggp343 := cFr_t g0 gp343
  refine tw_push rfl ?_
  refine tw_ic_ne rfl (fun q344 => ?_) (fun q344 => ?_)
  · try dsimp only [tvI_i, tvJ_j, tvR_r] at q344
    have q344i := zneq (Y := 19) (by decide) q344
    refine tw_push rfl ?_
    refine tw_istore rfl ?_
    refine tw_aload rfl rfl ?_
    refine tw_virt0 rfl (f_signHere hG hX (ggp343).1 ppp343 ((cFr_T ggp343).trans hT) ((cFr_n ggp343).trans hN)) (fun wp345 hp345 p345 => ?_)
    obtain ⟨gp345, ppp345, ssp345, t3p345, cp345, rfl, kp345⟩ := p345
    have ggp345 := cFr_t ggp343 gp345
    refine tw_push rfl ?_
    refine tw_ic_ne rfl (fun q346 => ?_) (fun q346 => ?_)
    · try dsimp only [tvI_i, tvJ_j, tvR_r] at q346
      have q346i := zneq (Y := 91) (by decide) q346
      refine tw_push rfl ?_
      refine tw_istore rfl ?_
      refine tw_iload rfl rfl ?_
      refine tw_if_ne rfl (fun z => absurd z (by decide)) (fun _ => ?_)
      refine tw_iload rfl rfl ?_
      refine tw_if_ne rfl (fun z => absurd z (by decide)) (fun _ => ?_)
      refine tw_aload rfl rfl ?_
      refine tw_iload rfl rfl ?_
      refine tw_virt1p rfl (IH 5 81 (by decide) _ _ _ d _ (ggp345).1 ppp345 ((cFr_T ggp345).trans hT) ((cFr_n ggp345).trans hN) hx hd) (fun w9 hp347 p347 => ?_)
      obtain ⟨gp347, ⟨rfl, p347, ppp347⟩ | ⟨rfl, xp347, p347, up347⟩⟩ := p347
      · have ggp347 := cFr_t ggp345 gp347
        have hK := (sgn_k kp345 91 (by decide))
        rw [ssp343, show (rA (rB T n (cs h).1) (cs h)).1 = (rB T n (cs h).1) from rfl, rB_2] at hK
        have hss : cs hp345 = rA (rB T n (cs h).1) (cs h) := by rw [ssp345, ssp343]; show rA (rB T n (rB T n (cs h).1)) _ = _; rw [rB_2]; rfl
        have ho := p347
        rw [hss] at ho
        exact tw_iret rfl ⟨ggp347, Or.inl ⟨rfl, (pE_6h (fun z => q344 ((wrd_k (k := 19) kwp343 (by decide) (K := 19) rfl).mpr z)) (fun z => q346 (hK.mpr z)) ho), ppp347⟩⟩
      · have ggp347 := cFr_t ggp345 gp347
        have hK := (sgn_k kp345 91 (by decide))
        rw [ssp343, show (rA (rB T n (cs h).1) (cs h)).1 = (rB T n (cs h).1) from rfl, rB_2] at hK
        have hss : cs hp345 = rA (rB T n (cs h).1) (cs h) := by rw [ssp345, ssp343]; show rA (rB T n (rB T n (cs h).1)) _ = _; rw [rB_2]; rfl
        have ho := p347
        rw [hss] at ho
        exact tw_iret rfl ⟨ggp347, Or.inr ⟨rfl, _, (pE_6h (fun z => q344 ((wrd_k (k := 19) kwp343 (by decide) (K := 19) rfl).mpr z)) (fun z => q346 (hK.mpr z)) ho), up347⟩⟩
    · try dsimp only [tvI_i, tvJ_j, tvR_r] at q346
      have q346i := zeqi (Y := 91) (by decide) q346
      refine tw_push rfl ?_
      refine tw_goto rfl ?_
      refine tw_istore rfl ?_
      refine tw_iload rfl rfl ?_
      refine tw_if_ne rfl (fun z => absurd z (by decide)) (fun _ => ?_)
      refine tw_iload rfl rfl ?_
      refine tw_if_ne rfl (fun _ => ?_) (fun z => absurd z (by decide))
      refine tw_iload rfl rfl ?_
      refine tw_push rfl ?_
      refine tw_ic_ne rfl (fun q348 => ?_) (fun q348 => ?_)
      · try dsimp only [tvI_i, tvJ_j, tvR_r] at q348
        have q348i := zneq (Y := 10) (by decide) q348
        refine tw_iload rfl rfl ?_
        refine tw_if_eq rfl (fun z => absurd z (by decide)) (fun _ => ?_)
        refine tw_aload rfl rfl ?_
        refine tw_dup rfl ?_
        refine tw_getS rfl (hi_44_2 ggp345.1) ?_
        refine tw_push rfl ?_
        refine tw_iadd rfl ?_
        refine tw_put rfl (fun f349 => ?_)
        refine tG_set f349 (hw_44_2 f349 (ggp345).1) (fun hf349 ef349 => ?_)
        try dsimp only [tvI_i] at ef349
        have gf349 := cFr_s ggp345 ef349 (by decide)
        have hw9 : (rB T n (cs h).1) < n ∧ T (rB T n (cs h).1) = 91 := by have z := (sgn_k kp345 91 (by decide)).mp q346; rw [ssp343] at z; rw [show (rA (rB T n (cs h).1) (cs h)).1 = (rB T n (cs h).1) from rfl, rB_2] at z; exact z
        have hlf349 : (cs hp345).1 < n := by rw [ssp345, ssp343]; show rB T n (rB T n (cs h).1) < n; rw [rB_2]; exact hw9.1
        obtain ⟨pf349, sf349⟩ := cInc ppp345 hlf349 ((cFr_n ggp345).trans hN) ef349
        rw [ssp345, ssp343] at sf349
        have sf349 : cs hf349 = rA ((rB T n (cs h).1) + 1) (cs h) := by rw [sf349]; show rA (rB T n (rB T n (cs h).1) + 1) _ = _; rw [rB_2]; rfl
        refine tw_aload rfl rfl ?_
        refine tw_iload rfl rfl ?_
        refine tw_push rfl ?_
        refine tw_iadd rfl ?_
        refine tw_virt1p rfl (IH 9 78 (by decide) _ _ _ (d + 1) _ (gf349).1 pf349 ((cFr_T gf349).trans hT) ((cFr_n gf349).trans hN) (zd1 hx hd) (by omega)) (fun w9 hp350 p350 => ?_)
        obtain ⟨gp350, ⟨rfl, p350, ppp350⟩ | ⟨rfl, xp350, p350, up350⟩⟩ := p350
        · have ggp350 := cFr_t gf349 gp350
          refine tw_if_eq rfl (fun z => absurd z (by decide)) (fun _ => ?_)
          refine tw_aload rfl rfl ?_
          refine tw_push rfl ?_
          refine tw_virt1 rfl (f_takeSign hG hX (ggp350).1 ppp350 ((cFr_T ggp350).trans hT) ((cFr_n ggp350).trans hN) (y := 93) (by decide)) (fun w9 hp351 p351 => ?_)
          obtain ⟨gp351, ⟨rfl, p351, ppp351⟩ | ⟨rfl, xp351, p351, up351⟩⟩ := p351
          · have ggp351 := cFr_t ggp350 gp351
            refine tw_if_eq rfl (fun z => absurd z (by decide)) (fun _ => ?_)
            refine tw_push rfl ?_
            refine tw_goto rfl ?_
            have hd10 : d ≠ 10 := fun z => q348 (Int32.toInt_inj.mp (by rw [hx, z]; rfl))
            have ho := p350
            rw [sf349] at ho
            exact tw_iret rfl ⟨ggp351, Or.inl ⟨rfl, pE_6g hw9 hd10 ho p351, ppp351⟩⟩
          · have ggp351 := cFr_t ggp350 gp351
            refine tw_if_eq rfl (fun _ => ?_) (fun z => absurd z (by decide))
            refine tw_push rfl ?_
            have hd10 : d ≠ 10 := fun z => q348 (Int32.toInt_inj.mp (by rw [hx, z]; rfl))
            have ho := p350
            rw [sf349] at ho
            exact tw_iret rfl ⟨ggp351, Or.inr ⟨rfl, _, pE_6g hw9 hd10 ho p351, up351⟩⟩
        · have ggp350 := cFr_t gf349 gp350
          refine tw_if_eq rfl (fun _ => ?_) (fun z => absurd z (by decide))
          refine tw_push rfl ?_
          have hd10 : d ≠ 10 := fun z => q348 (Int32.toInt_inj.mp (by rw [hx, z]; rfl))
          have ho := p350
          rw [sf349] at ho
          exact tw_iret rfl ⟨ggp350, Or.inr ⟨rfl, _, pE_6e hw9 hd10 ho, up350⟩⟩
      · try dsimp only [tvI_i, tvJ_j, tvR_r] at q348
        have q348i := zeqi (Y := 10) (by decide) q348
        refine tw_aload rfl rfl ?_
        refine tw_aload rfl rfl ?_
        refine tw_getS rfl (hi_44_2 ggp345.1) ?_
        refine tw_push rfl ?_
        refine tw_virt2 rfl (f_refuse hG hX (ggp345).1 ppp345 ((cFr_T ggp345).trans hT) ((cFr_n ggp345).trans hN)) (fun wp352 hp352 p352 => ?_)
        obtain ⟨gp352, rfl, up352⟩ := p352
        have ggp352 := cFr_t ggp345 gp352
        have hd10 : d = 10 := by have z : x.toInt = 10 := congrArg Int32.toInt q348; omega
        have hss : cs hp345 = rA (rB T n (cs h).1) (cs h) := by rw [ssp345, ssp343]; show rA (rB T n (rB T n (cs h).1)) _ = _; rw [rB_2]; rfl
        have hft := cFt_of ppp345 up352 (w := 2) rfl (by decide)
        rw [hss] at hft
        have hK := (sgn_k kp345 91 (by decide))
        rw [ssp343, show (rA (rB T n (cs h).1) (cs h)).1 = (rB T n (cs h).1) from rfl, rB_2] at hK
        exact tw_iret rfl ⟨ggp352, Or.inr ⟨rfl, _, pE_6d (hK.mp q346) hd10, hft⟩⟩
  · try dsimp only [tvI_i, tvJ_j, tvR_r] at q344
    have q344i := zeqi (Y := 19) (by decide) q344
    refine tw_push rfl ?_
    refine tw_goto rfl ?_
    refine tw_istore rfl ?_
    refine tw_aload rfl rfl ?_
    refine tw_virt0 rfl (f_signHere hG hX (ggp343).1 ppp343 ((cFr_T ggp343).trans hT) ((cFr_n ggp343).trans hN)) (fun wp353 hp353 p353 => ?_)
    obtain ⟨gp353, ppp353, ssp353, t3p353, cp353, rfl, kp353⟩ := p353
    have ggp353 := cFr_t ggp343 gp353
    refine tw_push rfl ?_
    refine tw_ic_ne rfl (fun q354 => ?_) (fun q354 => ?_)
    · try dsimp only [tvI_i, tvJ_j, tvR_r] at q354
      have q354i := zneq (Y := 91) (by decide) q354
      refine tw_push rfl ?_
      refine tw_istore rfl ?_
      refine tw_iload rfl rfl ?_
      refine tw_if_ne rfl (fun _ => ?_) (fun z => absurd z (by decide))
      refine tw_iload rfl rfl ?_
      refine tw_push rfl ?_
      refine tw_ic_ne rfl (fun q355 => ?_) (fun q355 => ?_)
      · try dsimp only [tvI_i, tvJ_j, tvR_r] at q355
        have q355i := zneq (Y := 10) (by decide) q355
        refine tw_iload rfl rfl ?_
        refine tw_if_eq rfl (fun _ => ?_) (fun z => absurd z (by decide))
        refine tw_aload rfl rfl ?_
        refine tw_aload rfl rfl ?_
        refine tw_getS rfl (hi_44_3 ggp353.1) ?_
        refine tw_put rfl (fun f356 => ?_)
        refine tG_set f356 (hw_44_2 f356 (ggp353).1) (fun hf356 ef356 => ?_)
        try dsimp only [tvI_i] at ef356
        have gf356 := cFr_s ggp353 ef356 (by decide)
        have hw9 := (wrd_k (k := 19) kwp343 (by decide) (K := 19) rfl).mp q344
        have h9w : rE T n (rB T n (cs h).1) = (rB T n (cs h).1) + 3 := by rw [rW_e hw9, wlen_k.2.2.1]
        have hr9 := rE_le (T := T) (rB_le (T := T) hpn)
        rw [h9w] at hr9 eep343
        obtain ⟨pf356, sf356⟩ := cTo ppp353 ((cFr_n ggp353).trans hN) ef356 (by rw [t3p353]; exact eep343) (by rw [ssp353, ssp343]; show rB T n (rB T n (cs h).1) ≤ _; rw [rB_2]; exact Nat.le_add_right _ _) hr9
        rw [ssp353, ssp343] at sf356
        have sf356 : cs hf356 = rA ((rB T n (cs h).1) + 3) (cs h) := sf356
        refine tw_aload rfl rfl ?_
        refine tw_iload rfl rfl ?_
        refine tw_push rfl ?_
        refine tw_iadd rfl ?_
        refine tw_virt1p rfl (IH 6 80 (by decide) _ _ _ (d + 1) _ (gf356).1 pf356 ((cFr_T gf356).trans hT) ((cFr_n gf356).trans hN) (zd1 hx hd) (by omega)) (fun w9 hp357 p357 => ?_)
        obtain ⟨gp357, ⟨rfl, p357, ppp357⟩ | ⟨rfl, xp357, p357, up357⟩⟩ := p357
        · have ggp357 := cFr_t gf356 gp357
          refine tw_if_ne rfl (fun _ => ?_) (fun z => absurd z (by decide))
          refine tw_aload rfl rfl ?_
          refine tw_push rfl ?_
          refine tw_virt1 rfl (f_putCode hG hX (ggp357).1 ppp357 ((cFr_T ggp357).trans hT) ((cFr_n ggp357).trans hN) (cHc ppp357 (by have z := cPe pf356 ((cFr_n gf356).trans hN) p357; have z2 := cP_len hp; have z3 := rB_ge (T := T) (n := n) (p := (cs h).1); obtain ⟨z4, z5, z6⟩ := z; rw [sf356] at z4 z6; have z4 : (rB T n (cs h).1) + 3 ≤ (cs hp357).1 := z4; have z6 : (rB T n (cs h).1) + 3 + (cs hp357).2.2.length ≤ (cs hp357).1 + (cs h).2.2.length := z6; omega))) (fun wp358 hp358 p358 => ?_)
          obtain ⟨gp358, rfl, ssp358, ppp358⟩ := p358
          have ggp358 := cFr_t ggp357 gp358
          refine tw_push rfl ?_
          have hd10 : d ≠ 10 := fun z => q355 (Int32.toInt_inj.mp (by rw [hx, z]; rfl))
          have ho := p357
          rw [sf356] at ho
          refine tw_iret rfl ⟨ggp358, Or.inl ⟨rfl, ?_, ppp358⟩⟩
          rw [ssp358]
          exact pE_6c hw9 hd10 ho
        · have ggp357 := cFr_t gf356 gp357
          refine tw_if_ne rfl (fun z => absurd z (by decide)) (fun _ => ?_)
          refine tw_push rfl ?_
          have hd10 : d ≠ 10 := fun z => q355 (Int32.toInt_inj.mp (by rw [hx, z]; rfl))
          have ho := p357
          rw [sf356] at ho
          exact tw_iret rfl ⟨ggp357, Or.inr ⟨rfl, _, pE_6b hw9 hd10 ho, up357⟩⟩
      · try dsimp only [tvI_i, tvJ_j, tvR_r] at q355
        have q355i := zeqi (Y := 10) (by decide) q355
        refine tw_aload rfl rfl ?_
        refine tw_aload rfl rfl ?_
        refine tw_getS rfl (hi_44_2 ggp353.1) ?_
        refine tw_push rfl ?_
        refine tw_virt2 rfl (f_refuse hG hX (ggp353).1 ppp353 ((cFr_T ggp353).trans hT) ((cFr_n ggp353).trans hN)) (fun wp359 hp359 p359 => ?_)
        obtain ⟨gp359, rfl, up359⟩ := p359
        have ggp359 := cFr_t ggp353 gp359
        have hd10 : d = 10 := by have z : x.toInt = 10 := congrArg Int32.toInt q355; omega
        have hss : cs hp353 = rA (rB T n (cs h).1) (cs h) := by rw [ssp353, ssp343]; show rA (rB T n (rB T n (cs h).1)) _ = _; rw [rB_2]; rfl
        have hft := cFt_of ppp353 up359 (w := 2) rfl (by decide)
        rw [hss] at hft
        have hw9 := (wrd_k (k := 19) kwp343 (by decide) (K := 19) rfl).mp q344
        exact tw_iret rfl ⟨ggp359, Or.inr ⟨rfl, _, pE_6a hw9 hd10, hft⟩⟩
    · try dsimp only [tvI_i, tvJ_j, tvR_r] at q354
      have q354i := zeqi (Y := 91) (by decide) q354
      have hw9 := (wrd_k (k := 19) kwp343 (by decide) (K := 19) rfl).mp q344
      have z := (sgn_k kp353 91 (by decide)).mp q354
      rw [ssp343, show (rA (rB T n (cs h).1) (cs h)).1 = (rB T n (cs h).1) from rfl, rB_2] at z
      exact absurd hw9 (no_91 z (by decide))
theorem f_rec {G : zG} (hG : G.1 = zProg) (hX : G.2.1 = ztx) : ∀ dp, cIH G dp
  | 0 => fun m j hm h T n d x hs hp hT hN hx hd z => z.elim
  | dp + 1 => by
    have IH := f_rec hG hX dp
    intro m j hm h T n d x hs hp hT hN hx hd
    have hm : (m, j) = (0, 85) ∨ (m, j) = (1, 84) ∨ (m, j) = (3, 83) ∨ (m, j) = (5, 81) ∨ (m, j) = (6, 80) ∨ (m, j) = (7, 79) ∨ (m, j) = (9, 78) := by
      unfold cML at hm
      simpa using hm
    rcases hm with e | e | e | e | e | e | e <;> cases e
    · exact f_readValue hG hX IH hs hp hT hN hx hd
    · exact f_readTerm hG hX IH hs hp hT hN hx hd
    · exact f_readSum hG hX IH hs hp hT hN hx hd
    · exact f_readComparison hG hX IH hs hp hT hN hx hd
    · exact f_readFact hG hX IH hs hp hT hN hx hd
    · exact f_readPart hG hX IH hs hp hT hN hx hd
    · exact f_readTest hG hX IH hs hp hT hN hx hd
theorem tC_rec {G : zG} (hG : G.1 = zProg) (hX : G.2.1 = ztx) {m j : Nat} (hm : (m, j) ∈ cML) {h : zH} {T : Nat → Int32} {n d : Nat} {x : Int32} (hs : tSh h) (hp : cP h) (hT : tA h 45 = T) (hN : cn h = n) (hx : x.toInt = d) (hd : d ≤ 10) : tC zTt G j [.ref 44, .int x] h (cR T n m d h) := fun dp => f_rec hG hX dp m j hm h T n d x hs hp hT hN hx hd
/-! clauses, and a whole rule -/
noncomputable abbrev rCt : Type := Nat × Nat × Nat × Nat
noncomputable def rCl3 (T : Nat → Int32) (n k th f0 : Nat) (s2 : rS) (r : Nat ⊕ (rS × rCt)) : Prop :=
  (rW T n (rB T n s2.1) (rWd 16) = true ∧ ((∃ e, pE T n 9 0 (rA (rB T n s2.1 + 2) s2) (.inl e) ∧ r = .inl e) ∨ ∃ s3, pE T n 9 0 (rA (rB T n s2.1 + 2) s2) (.inr s3) ∧ r = .inr (s3, th, f0, s2.2.2.length, s3.2.2.length)))
  ∨ (¬ rW T n (rB T n s2.1) (rWd 16) = true ∧ k = 15 ∧ r = .inl (1 + 8 * rB T n s2.1 + 0))
  ∨ (¬ rW T n (rB T n s2.1) (rWd 16) = true ∧ k ≠ 15 ∧ r = .inr (rA (rB T n s2.1) s2, th, f0, s2.2.2.length, s2.2.2.length))
noncomputable def rCl2 (T : Nat → Int32) (n k th : Nat) (s1 : rS) (r : Nat ⊕ (rS × rCt)) : Prop :=
  (k = 15 ∧ rCl3 T n k th s1.2.2.length s1 r) ∨ (k ≠ 15 ∧ ((∃ e, pE T n 3 0 s1 (.inl e) ∧ r = .inl e) ∨ ∃ s2, pE T n 3 0 s1 (.inr s2) ∧ rCl3 T n k th s1.2.2.length s2 r))
noncomputable def rCl1 (T : Nat → Int32) (n k : Nat) (s0 : rS) (r : Nat ⊕ (rS × rCt)) : Prop :=
  (k = 12 ∧ ((∃ e, rM T n 2 s0.1 = .inl e ∧ r = .inl e) ∨ ∃ q, rM T n 2 s0.1 = .inr q ∧ rCl2 T n k q.2 (rA q.1 s0) r)) ∨ (k ≠ 12 ∧ rCl2 T n k k s0 r)
noncomputable def rCl (T : Nat → Int32) (n c : Nat) (s : rS) (r : Nat ⊕ (rS × rCt)) : Prop :=
  ((∀ k, 12 ≤ k → k ≤ 15 → ¬ rW T n (rB T n s.1) (rWd k) = true) ∧ r = .inl (1 + 8 * rB T n s.1 + 0))
  ∨ (∃ k, 12 ≤ k ∧ k ≤ 15 ∧ rW T n (rB T n s.1) (rWd k) = true ∧ ((c = 12 ∧ r = .inl (1 + 8 * rB T n s.1 + 4)) ∨ (c ≠ 12 ∧ rCl1 T n k (rA (rE T n (rB T n s.1)) s) r)))
noncomputable def rRu (T : Nat → Int32) (n : Nat) : Nat → rS → List rCt → Nat ⊕ (rS × List rCt) → Prop
  | 0, _, _, _ => False
  | f + 1, s, cl, r => (∃ e, rCl T n cl.length s (.inl e) ∧ r = .inl e) ∨ ∃ s1 c, rCl T n cl.length s (.inr (s1, c)) ∧ ((¬ rB T n s1.1 < n ∧ r = .inr (rA (rB T n s1.1) s1, cl ++ [c])) ∨ ((rB T n s1.1 < n ∧ T (rB T n s1.1) = 59) ∧ rRu T n f (rA (rB T n s1.1 + 1) s1) (cl ++ [c]) r) ∨ ((rB T n s1.1 < n ∧ ¬ T (rB T n s1.1) = 59) ∧ r = .inl (1 + 8 * rB T n s1.1 + 0)))
noncomputable def cCl (h : zH) : List rCt := (List.range (tvI (tF h 44 7)).toNatClampNeg).map (fun i => ((tA h 47 (4 * i)).toNatClampNeg, (tA h 47 (4 * i + 1)).toNatClampNeg, (tA h 47 (4 * i + 2)).toNatClampNeg, (tA h 47 (4 * i + 3)).toNatClampNeg))
noncomputable def cFq (h h2 : zH) : Prop := tSh h2 ∧ (∀ p b, ¬ (p = 44 ∧ (b = 2 ∨ b = 3 ∨ b = 5 ∨ b = 7 ∨ b = 8 ∨ b = 9)) → tF h2 p b = tF h p b) ∧ (∀ p, p ≠ 46 → p ≠ 47 → tA h2 p = tA h p) ∧ tN h2 = tN h
noncomputable def cQ (h : zH) : Prop := 0 ≤ (tvI (tF h 44 7)).toInt ∧ (tvI (tF h 44 7)).toInt ≤ 12 ∧ tN h 47 = 48
section RQ
variable {h h1 h2 : zH}
theorem cFq_f (k : cFr h h2) : cFq h h2 := ⟨k.1, fun p b z => k.2.1 p b (fun w => z ⟨w.1, by omega⟩), fun p z _ => k.2.2.1 p z, k.2.2.2⟩
theorem cFq_t (a : cFq h h1) (k : cFq h1 h2) : cFq h h2 := ⟨k.1, fun p q z => (k.2.1 p q z).trans (a.2.1 p q z), fun p z w => (k.2.2.1 p z w).trans (a.2.2.1 p z w), k.2.2.2.trans a.2.2.2⟩
theorem cFr_7 (k : cFr h h2) : tF h2 44 7 = tF h 44 7 := k.2.1 44 7 (by decide)
theorem cCl_f (k : cFr h h2) : cCl h2 = cCl h := by
  unfold cCl
  rw [cFr_7 k, k.2.2.1 47 (by decide)]
theorem cQ_f (k : cFr h h2) (q : cQ h) : cQ h2 := by
  unfold cQ
  rw [cFr_7 k, k.2.2.2]
  exact q
theorem cCl_len : (cCl h).length = (tvI (tF h 44 7)).toNatClampNeg := by unfold cCl; rw [List.length_map, List.length_range]
theorem cFq_T (a : cFq h h1) : tA h1 45 = tA h 45 := a.2.2.1 45 (by decide) (by decide)
theorem cFq_n (a : cFq h h1) : cn h1 = cn h := by
  unfold cn
  rw [a.2.1 44 1 (by decide)]
/-- a clause is kept -/
theorem cKp_of {a b c : Int32} {k1 k2 k3 k4 : Nat} (hs : tSh h) (q : cQ h) (h12 : (tvI (tF h 44 7)).toInt < 12) {i0 i1 i2 i3 : Int32} (e0 : i0.toInt = 4 * (tvI (tF h 44 7)).toInt) (e1 : i1.toInt = 4 * (tvI (tF h 44 7)).toInt + 1) (e2 : i2.toInt = 4 * (tvI (tF h 44 7)).toInt + 2) (e3 : i3.toInt = 4 * (tvI (tF h 44 7)).toInt + 3)
  {g1 g2 g3 g4 : zH} (d1 : g1 = tSA h 47 i0.toNatClampNeg a) (f1 : tIn h 47 k1 i0) (d2 : g2 = tSA g1 47 i1.toNatClampNeg b) (f2 : tIn g1 47 k2 i1) (d3 : g3 = tSA g2 47 i2.toNatClampNeg c) (f3 : tIn g2 47 k3 i2) {x5 : Int32} (h5 : x5 = tvI (tF h 44 5)) (d4 : g4 = tSA g3 47 i3.toNatClampNeg x5) (f4 : tIn g3 47 k4 i3) {x7 : Int32} (h7 : x7 = tvI (tF h 44 7) + 1) (f5 : tFd g4 44 7) :
  cFq h (tSF g4 44 7 (.int x7)) ∧ cCl (tSF g4 44 7 (.int x7)) = cCl h ++ [(a.toNatClampNeg, b.toNatClampNeg, c.toNatClampNeg, (tvI (tF h 44 5)).toNatClampNeg)] ∧ cQ (tSF g4 44 7 (.int x7)) ∧ cs (tSF g4 44 7 (.int x7)) = cs h ∧ (∀ b, b ≠ 7 → tF (tSF g4 44 7 (.int x7)) 44 b = tF h 44 b) ∧ tA (tSF g4 44 7 (.int x7)) 45 = tA h 45 := by
  subst h5 h7
  have F4 : tF g4 = tF h := by rw [d4, tF_tSA, d3, tF_tSA, d2, tF_tSA, d1, tF_tSA]
  have N4 : tN g4 = tN h := by rw [d4, tN_tSA, d3, tN_tSA, d2, tN_tSA, d1, tN_tSA]
  have A4 : ∀ p, p ≠ 47 → tA g4 p = tA h p := fun p hp => by rw [d4, tA_nz hp, d3, tA_nz hp, d2, tA_nz hp, d1, tA_nz hp]
  have hs4 := tSh_F F4 hs
  have e := cSet_of f5 (hw_44_7 (x := tvI (tF h 44 7) + 1) f5 hs4)
  have n0 : i0.toNatClampNeg = 4 * (tvI (tF h 44 7)).toNatClampNeg := by rw [zclE, zclE]; have := q.1; omega
  have n1 : i1.toNatClampNeg = 4 * (tvI (tF h 44 7)).toNatClampNeg + 1 := by rw [zclE, zclE]; have := q.1; omega
  have n2 : i2.toNatClampNeg = 4 * (tvI (tF h 44 7)).toNatClampNeg + 2 := by rw [zclE, zclE]; have := q.1; omega
  have n3 : i3.toNatClampNeg = 4 * (tvI (tF h 44 7)).toNatClampNeg + 3 := by rw [zclE, zclE]; have := q.1; omega
  have A47 : ∀ i, tA g4 47 i = if i = i3.toNatClampNeg then tvI (tF h 44 5) else if i = i2.toNatClampNeg then c else if i = i1.toNatClampNeg then b else if i = i0.toNatClampNeg then a else tA h 47 i := by
    intro i
    rw [d4, tA_tSA f4.cell, d3, tA_tSA f3.cell, d2, tA_tSA f2.cell, d1, tA_tSA f1.cell]
    simp only [true_and]
  generalize tSF g4 44 7 (.int (tvI (tF h 44 7) + 1)) = h3 at e
  have hF : ∀ b, b ≠ 7 → tF h3 44 b = tF h 44 b := fun b hb => (e.2.2.1 44 b (fun z => hb z.2)).trans (by rw [F4])
  have i7 : (tvI (tF h 44 7) + 1).toInt = (tvI (tF h 44 7)).toInt + 1 := zj1 (y := 12) q.1 h12
  have i7n : (tvI (tF h 44 7) + 1).toNatClampNeg = (tvI (tF h 44 7)).toNatClampNeg + 1 := zj1n (y := 12) q.1 h12
  refine ⟨⟨e.1, fun p b z => (e.2.2.1 p b (fun w => z ⟨w.1, by omega⟩)).trans (by rw [F4]), fun p _ z => (congrFun e.2.2.2.1 p).trans (A4 p z), e.2.2.2.2.trans N4⟩, ?_, ⟨?_, ?_, ?_⟩, ?_, hF, (congrFun e.2.2.2.1 45).trans (A4 45 (by decide))⟩
  · unfold cCl
    rw [cI_x e, i7n, List.range_succ, List.map_append, e.2.2.2.1]
    refine congr (congrArg HAppend.hAppend (List.map_congr_left (fun i hi => ?_))) ?_
    · have hi := List.mem_range.mp hi
      rw [A47, A47, A47, A47, n0, n1, n2, n3]
      rw [if_neg (by omega), if_neg (by omega), if_neg (by omega), if_neg (by omega), if_neg (by omega), if_neg (by omega), if_neg (by omega), if_neg (by omega), if_neg (by omega), if_neg (by omega), if_neg (by omega), if_neg (by omega), if_neg (by omega), if_neg (by omega), if_neg (by omega), if_neg (by omega)]
    · show [((tA g4 47 (4 * (tvI (tF h 44 7)).toNatClampNeg)).toNatClampNeg, (tA g4 47 (4 * (tvI (tF h 44 7)).toNatClampNeg + 1)).toNatClampNeg, (tA g4 47 (4 * (tvI (tF h 44 7)).toNatClampNeg + 2)).toNatClampNeg, (tA g4 47 (4 * (tvI (tF h 44 7)).toNatClampNeg + 3)).toNatClampNeg)] = _
      rw [A47, A47, A47, A47, n0, n1, n2, n3]
      rw [if_neg (by omega), if_neg (by omega), if_neg (by omega), if_pos rfl, if_neg (by omega), if_neg (by omega), if_pos rfl, if_neg (by omega), if_pos rfl, if_pos rfl]
  · rw [cI_x e, i7]; have := q.1; omega
  · rw [cI_x e, i7]; omega
  · rw [e.2.2.2.2, N4]; exact q.2.2
  · unfold cs cCo
    rw [hF 2 (by decide), hF 8 (by decide), hF 5 (by decide), e.2.2.2.1, A4 46 (by decide)]
theorem cP_q (p : cP h) (hF : ∀ b, b ≠ 7 → tF h2 44 b = tF h 44 b) (hT : tA h2 45 = tA h 45) (hN : tN h2 = tN h) : cP h2 := by
  unfold cP
  rw [hF 2 (by decide), hF 1 (by decide), hF 8 (by decide), hF 5 (by decide), hF 9 (by decide), hT, hN]
  exact p
theorem zm4 {x : Int32} (h0 : 0 ≤ x.toInt) (h1 : x.toInt ≤ 12) : (x * 4).toInt = 4 * x.toInt := by
  rw [Int32.toInt_mul, show (4 : Int32).toInt = 4 from rfl]
  exact (Int.bmod_eq_of_le (by show (-2147483648 : Int) ≤ x.toInt * 4; omega) (by show x.toInt * 4 < (2147483648 : Int); omega)).trans (by omega)
theorem zm4a {x y : Int32} {Y : Int} (h0 : 0 ≤ x.toInt) (h1 : x.toInt ≤ 12) (hy : y.toInt = Y) (hY : 0 ≤ Y ∧ Y ≤ 10) : (x * 4 + y).toInt = 4 * x.toInt + Y := by
  rw [Int32.toInt_add, zm4 h0 h1, hy]
  exact Int.bmod_eq_of_le (by show (-2147483648 : Int) ≤ 4 * x.toInt + Y; omega) (by show 4 * x.toInt + Y < (2147483648 : Int); omega)
theorem c12 (q : cQ h) : (cCl h).length = 12 ↔ tvI (tF h 44 7) = 12 := by
  rw [cCl_len, zclE]
  have := q.1
  constructor
  · intro z
    refine Int32.toInt_inj.mp ?_
    show _ = (12 : Int)
    omega
  · intro z
    rw [z]; rfl
end RQ
theorem f_keepClause {G : zG} (hG : G.1 = zProg) (hX : G.2.1 = ztx) {h : zH} {T : Nat → Int32} {n : Nat} (hs : tSh h) (hp : cP h) (hT : tA h 45 = T) (hN : cn h = n) {a b c : Int32} (hq : cQ h) (h12 : (tvI (tF h 44 7)).toInt < 12) : tC zTt G 77 [.ref 44, .int a, .int b, .int c] h (fun w h2 => w = none ∧ cFq h h2 ∧ cCl h2 = cCl h ++ [(a.toNatClampNeg, b.toNatClampNeg, c.toNatClampNeg, (tvI (tF h 44 5)).toNatClampNeg)] ∧ cQ h2 ∧ cs h2 = cs h ∧ cP h2) := by
  refine tC_in (by rw [hG]; rfl) (fun dp => ?_)
  have g0 := cFr_r hs
  have hpn : (cs h).1 ≤ n := by rw [← hN]; exact cP_le hp
  refine tw_aload rfl rfl ?_
  refine tw_getS rfl (hi_44_7 hs) ?_
  refine tw_push rfl ?_
  refine tw_imul rfl ?_
  refine tw_istore rfl ?_
  refine tw_iload rfl rfl ?_
  refine tw_push rfl ?_
  refine tw_iadd rfl ?_
  refine tw_aload rfl rfl ?_
  refine tw_getS rfl (hs_44_6 hs) ?_
  refine tw_alen rfl ?_
  refine tw_ic_le rfl (fun q360 => ?_) (fun q360 => ?_)
  · try dsimp only [tvI_i, tvJ_j, tvR_r] at q360
    refine tw_aload rfl rfl ?_
    refine tw_getS rfl (hs_44_6 hs) ?_
    refine tw_iload rfl rfl ?_
    refine tw_iload rfl rfl ?_
    refine tw_iast rfl (fun f361 => ?_)
    refine tw_aload rfl rfl ?_
    refine tw_getS rfl (hs_44_6 (tSh_SA hs)) ?_
    refine tw_iload rfl rfl ?_
    refine tw_push rfl ?_
    refine tw_iadd rfl ?_
    refine tw_iload rfl rfl ?_
    refine tw_iast rfl (fun f362 => ?_)
    refine tw_aload rfl rfl ?_
    refine tw_getS rfl (hs_44_6 (tSh_SA (tSh_SA hs))) ?_
    refine tw_iload rfl rfl ?_
    refine tw_push rfl ?_
    refine tw_iadd rfl ?_
    refine tw_iload rfl rfl ?_
    refine tw_iast rfl (fun f363 => ?_)
    refine tw_aload rfl rfl ?_
    refine tw_getS rfl (hs_44_6 (tSh_SA (tSh_SA (tSh_SA hs)))) ?_
    refine tw_iload rfl rfl ?_
    refine tw_push rfl ?_
    refine tw_iadd rfl ?_
    refine tw_aload rfl rfl ?_
    refine tw_getS rfl (tF_a (tF_a (tF_a (hi_44_5 hs)))) ?_
    refine tw_iast rfl (fun f364 => ?_)
    refine tw_aload rfl rfl ?_
    refine tw_dup rfl ?_
    refine tw_getS rfl (tF_a (tF_a (tF_a (tF_a (hi_44_7 hs))))) ?_
    refine tw_push rfl ?_
    refine tw_iadd rfl ?_
    refine tw_put rfl (fun f365 => ?_)
    refine tw_vret rfl ?_
    refine (fun K => ⟨rfl, K.1, K.2.1, K.2.2.1, K.2.2.2.1, cP_q hp K.2.2.2.2.1 K.2.2.2.2.2 K.1.2.2.2⟩ : _ → _) (cKp_of hs hq h12 (zm4 hq.1 hq.2.1) (zm4a hq.1 hq.2.1 rfl (by decide)) (zm4a hq.1 hq.2.1 rfl (by decide)) (zm4a hq.1 hq.2.1 rfl (by decide)) rfl f361 rfl f362 rfl f363 rfl rfl f364 rfl f365)
  · try dsimp only [tvI_i, tvJ_j, tvR_r] at q360
    have e9 : (Int32.ofNat (tN h 47)).toInt = 48 := by rw [hq.2.2]; rfl
    have e8 := zm4a (y := 4) (Y := 4) hq.1 hq.2.1 rfl (by decide)
    have z := q360
    exfalso
    have e7 : (tvI (tF h 44 7) * 4 + 4).toInt ≤ 48 := by omega
    first | omega | exact absurd z (by omega) | (rw [e9] at z; omega)
theorem f_readClause {G : zG} (hG : G.1 = zProg) (hX : G.2.1 = ztx) {h : zH} {T : Nat → Int32} {n : Nat} (hs : tSh h) (hp : cP h) (hT : tA h 45 = T) (hN : cn h = n) (hq : cQ h) : tC zTt G 76 [.ref 44] h (fun w h2 => cFq h h2 ∧ cQ h2 ∧ ((w = some (.int 1) ∧ ∃ c, rCl T n (cCl h).length (cs h) (.inr (cs h2, c)) ∧ cCl h2 = cCl h ++ [c] ∧ cP h2) ∨ (w = some (.int 0) ∧ ∃ e, rCl T n (cCl h).length (cs h) (.inl e) ∧ cFt h2 e))) := by
  refine tC_in (by rw [hG]; rfl) (fun dp => ?_)
  have g0 := cFr_r hs
  have hpn : (cs h).1 ≤ n := by rw [← hN]; exact cP_le hp
  have c129 : (12 : Int32).toInt = 12 := rfl
  have c159 : (15 : Int32).toInt = 15 := rfl
  refine tw_aload rfl rfl ?_
  refine tw_virt0 rfl (f_wordHere hG hX (g0).1 hp ((cFr_T g0).trans hT) ((cFr_n g0).trans hN)) (fun wp366 hp366 p366 => ?_)
  obtain ⟨gp366, ppp366, ssp366, eep366, ip366, rfl, kwp366⟩ := p366
  have ggp366 := cFr_t g0 gp366
  refine tw_istore rfl ?_
  refine tw_iload rfl rfl ?_
  refine tw_push rfl ?_
  refine tw_ic_lt rfl (fun q367 => ?_) (fun q367 => ?_)
  · try dsimp only [tvI_i, tvJ_j, tvR_r] at q367
    refine tw_aload rfl rfl ?_
    refine tw_aload rfl rfl ?_
    refine tw_getS rfl (hi_44_2 ggp366.1) ?_
    refine tw_push rfl ?_
    refine tw_virt2 rfl (f_refuse hG hX (ggp366).1 ppp366 ((cFr_T ggp366).trans hT) ((cFr_n ggp366).trans hN)) (fun wp368 hp368 p368 => ?_)
    obtain ⟨gp368, rfl, up368⟩ := p368
    have ggp368 := cFr_t ggp366 gp368
    have kwb := kwp366.1
    have hft := cFt_of ppp366 up368 (w := 0) rfl (by decide)
    rw [ssp366] at hft
    have z0 := q367
    exact tw_iret rfl ⟨cFq_f ggp368, cQ_f ggp368 hq, Or.inr ⟨rfl, _, Or.inl ⟨fun k h1 h2 z => by have y := (kwp366.2 k (by omega)).mpr z; omega, rfl⟩, hft⟩⟩
  · try dsimp only [tvI_i, tvJ_j, tvR_r] at q367
    refine tw_iload rfl rfl ?_
    refine tw_push rfl ?_
    refine tw_ic_le rfl (fun q369 => ?_) (fun q369 => ?_)
    · try dsimp only [tvI_i, tvJ_j, tvR_r] at q369
      refine tw_aload rfl rfl ?_
      refine tw_getS rfl (hi_44_7 ggp366.1) ?_
      refine tw_push rfl ?_
      refine tw_ic_ne rfl (fun q370 => ?_) (fun q370 => ?_)
      · try dsimp only [tvI_i, tvJ_j, tvR_r] at q370
        have q370i := zneq (Y := 12) (by decide) q370
        refine tw_aload rfl rfl ?_
        refine tw_aload rfl rfl ?_
        refine tw_getS rfl (hi_44_3 ggp366.1) ?_
        refine tw_put rfl (fun f371 => ?_)
        refine tG_set f371 (hw_44_2 f371 (ggp366).1) (fun hf371 ef371 => ?_)
        try dsimp only [tvI_i] at ef371
        have gf371 := cFr_s ggp366 ef371 (by decide)
        have kwb := kwp366.1
        have hk1 : 12 ≤ ip366.toInt := by have z := q367; omega
        have hk2 : ip366.toInt ≤ 15 := by have z := q369; omega
        have hkw : rW T n (rB T n (cs h).1) (rWd ip366.toInt.toNat) = true := (kwp366.2 ip366.toInt.toNat (by omega)).mp (by omega)
        have hc12 : (cCl h).length ≠ 12 := fun z => q370 ((congrArg tvI (cFr_7 ggp366)).trans ((c12 hq).mp z))
        have hlt12 : (tvI (tF h 44 7)).toInt < 12 := by have a := hq.2.1; have b : (tvI (tF h 44 7)).toInt ≠ 12 := fun z => q370 ((congrArg tvI (cFr_7 ggp366)).trans (Int32.toInt_inj.mp z)); omega
        obtain ⟨pf371, sf371⟩ := cTo ppp366 ((cFr_n ggp366).trans hN) ef371 eep366 (by rw [ssp366]; exact rE_ge) (rE_le (rB_le hpn))
        have sf371 : cs hf371 = rA (rE T n (rB T n (cs h).1)) (cs h) := by rw [sf371, ssp366]; rfl
        refine tw_iload rfl rfl ?_
        refine tw_push rfl ?_
        refine tw_ic_ne rfl (fun q372 => ?_) (fun q372 => ?_)
        · try dsimp only [tvI_i, tvJ_j, tvR_r] at q372
          have q372i := zneq (Y := 15) (by decide) q372
          refine tw_push rfl ?_
          refine tw_istore rfl ?_
          refine tw_iload rfl rfl ?_
          refine tw_push rfl ?_
          refine tw_ic_ne rfl (fun q373 => ?_) (fun q373 => ?_)
          · try dsimp only [tvI_i, tvJ_j, tvR_r] at q373
            have q373i := zneq (Y := 12) (by decide) q373
            refine tw_aload rfl rfl ?_
            refine tw_getS rfl (hi_44_5 (gf371).1) ?_
            refine tw_istore rfl ?_
            refine tw_iload rfl rfl ?_
            refine tw_if_ne rfl (fun z => absurd z (by decide)) (fun _ => ?_)
            refine tw_aload rfl rfl ?_
            refine tw_push rfl ?_
            refine tw_virt1 rfl (tC_rec hG hX (m := 3) (d := 0) (by decide) (gf371).1 pf371 ((cFr_T gf371).trans hT) ((cFr_n gf371).trans hN) rfl (by decide)) (fun w9 hp374 p374 => ?_)
            obtain ⟨gp374, ⟨rfl, p374, ppp374⟩ | ⟨rfl, xp374, p374, up374⟩⟩ := p374
            · have ggp374 := cFr_t gf371 gp374
              refine tw_if_ne rfl (fun _ => ?_) (fun z => absurd z (by decide))
              refine tw_aload rfl rfl ?_
              refine tw_getS rfl (hi_44_5 ggp374.1) ?_
              refine tw_istore rfl ?_
              refine tw_aload rfl rfl ?_
              refine tw_virt0 rfl (f_wordHere hG hX (ggp374).1 ppp374 ((cFr_T ggp374).trans hT) ((cFr_n ggp374).trans hN)) (fun wp375 hp375 p375 => ?_)
              obtain ⟨gp375, ppp375, ssp375, eep375, ip375, rfl, kwp375⟩ := p375
              have ggp375 := cFr_t ggp374 gp375
              refine tw_push rfl ?_
              refine tw_ic_ne rfl (fun q376 => ?_) (fun q376 => ?_)
              · try dsimp only [tvI_i, tvJ_j, tvR_r] at q376
                have q376i := zneq (Y := 16) (by decide) q376
                refine tw_iload rfl rfl ?_
                refine tw_if_eq rfl (fun _ => ?_) (fun z => absurd z (by decide))
                refine tw_aload rfl rfl ?_
                refine tw_iload rfl rfl ?_
                refine tw_iload rfl rfl ?_
                refine tw_iload rfl rfl ?_
                refine tw_virt3 rfl (f_keepClause hG hX (ggp375).1 ppp375 ((cFr_T ggp375).trans hT) ((cFr_n ggp375).trans hN) (cQ_f ggp375 hq) (by have := cFr_7 ggp375; rw [this]; exact hlt12)) (fun wp377 hp377 p377 => ?_)
                obtain ⟨rfl, gqp377, clp377, qqp377, ssp377, ppp377⟩ := p377
                refine tw_push rfl ?_
                have hk15 : ip366.toInt.toNat ≠ 15 := by have z := q372i; omega
                have hk12 : ip366.toInt.toNat ≠ 12 := by have z := q373i; omega
                have hx1 := sf371
                have ho := p374
                rw [hx1] at ho
                have hnw : ¬ rW T n (rB T n (cs hp374).1) (rWd 16) = true := fun z => q376 ((wrd_k (k := 16) kwp375 (by decide) (K := 16) rfl).mpr z)
                have hc3 : rCl3 T n ip366.toInt.toNat (ip366.toInt.toNat) (rA (rE T n (rB T n (cs h).1)) (cs h)).2.2.length (cs hp374) (.inr (cs hp375, ip366.toInt.toNat, (rA (rE T n (rB T n (cs h).1)) (cs h)).2.2.length, (cs hp374).2.2.length, (cs hp375).2.2.length)) := Or.inr (Or.inr ⟨hnw, hk15, by rw [ssp375]; rfl⟩)
                have hthv : (ip366).toNatClampNeg = ip366.toInt.toNat := rfl
                have hclk : cCl hp377 = cCl h ++ [(ip366.toInt.toNat, (rA (rE T n (rB T n (cs h).1)) (cs h)).2.2.length, (cs hp374).2.2.length, (cs hp375).2.2.length)] := by
                  rw [clp377, cCl_f ggp375, ← hx1, show (cs hf371).2.2.length = _ from cCo_len, show (cs hp375).2.2.length = _ from cCo_len, show (cs hp374).2.2.length = _ from cCo_len]
                  exact congrArg (fun z => cCl h ++ [(z, _, _, _)]) hthv
                have hcz : rCl T n (cCl h).length (cs h) (.inr (cs hp377, ip366.toInt.toNat, (rA (rE T n (rB T n (cs h).1)) (cs h)).2.2.length, (cs hp374).2.2.length, (cs hp375).2.2.length)) := by rw [ssp377]; exact Or.inr ⟨ip366.toInt.toNat, by omega, by omega, hkw, Or.inr ⟨hc12, Or.inr ⟨hk12, Or.inr ⟨hk15, Or.inr ⟨_, ho, hc3⟩⟩⟩⟩⟩
                exact tw_iret rfl ⟨cFq_t (cFq_f ggp375) gqp377, qqp377, Or.inl ⟨rfl, _, hcz, hclk, ppp377⟩⟩
              · try dsimp only [tvI_i, tvJ_j, tvR_r] at q376
                have q376i := zeqi (Y := 16) (by decide) q376
                refine tw_aload rfl rfl ?_
                refine tw_aload rfl rfl ?_
                refine tw_getS rfl (hi_44_3 ggp375.1) ?_
                refine tw_put rfl (fun f378 => ?_)
                refine tG_set f378 (hw_44_2 f378 (ggp375).1) (fun hf378 ef378 => ?_)
                try dsimp only [tvI_i] at ef378
                have gf378 := cFr_s ggp375 ef378 (by decide)
                have hw16 := (wrd_k (k := 16) kwp375 (by decide) (K := 16) rfl).mp q376
                have h9w : rE T n (rB T n (cs hp374).1) = rB T n (cs hp374).1 + 2 := by rw [rW_e hw16, wlen_k.2.2.2]
                have hyn : (cs hp374).1 ≤ n := by rw [← ((cFr_n ggp374).trans hN)]; exact cP_le ppp374
                have hr9 := rE_le (T := T) (rB_le (T := T) hyn)
                rw [h9w] at hr9 eep375
                obtain ⟨pf378, sf378⟩ := cTo ppp375 ((cFr_n ggp375).trans hN) ef378 eep375 (by rw [ssp375]; exact Nat.le_add_right _ _) hr9
                have sf378 : cs hf378 = rA (rB T n (cs hp374).1 + 2) (cs hp374) := by rw [sf378, ssp375]; rfl
                refine tw_aload rfl rfl ?_
                refine tw_push rfl ?_
                refine tw_virt1 rfl (tC_rec hG hX (m := 9) (d := 0) (by decide) (gf378).1 pf378 ((cFr_T gf378).trans hT) ((cFr_n gf378).trans hN) rfl (by decide)) (fun w9 hp379 p379 => ?_)
                obtain ⟨gp379, ⟨rfl, p379, ppp379⟩ | ⟨rfl, xp379, p379, up379⟩⟩ := p379
                · have ggp379 := cFr_t gf378 gp379
                  refine tw_if_ne rfl (fun _ => ?_) (fun z => absurd z (by decide))
                  refine tw_aload rfl rfl ?_
                  refine tw_iload rfl rfl ?_
                  refine tw_iload rfl rfl ?_
                  refine tw_iload rfl rfl ?_
                  refine tw_virt3 rfl (f_keepClause hG hX (ggp379).1 ppp379 ((cFr_T ggp379).trans hT) ((cFr_n ggp379).trans hN) (cQ_f ggp379 hq) (by have := cFr_7 ggp379; rw [this]; exact hlt12)) (fun wp380 hp380 p380 => ?_)
                  obtain ⟨rfl, gqp380, clp380, qqp380, ssp380, ppp380⟩ := p380
                  refine tw_push rfl ?_
                  have hk15 : ip366.toInt.toNat ≠ 15 := by have z := q372i; omega
                  have hk12 : ip366.toInt.toNat ≠ 12 := by have z := q373i; omega
                  have hx1 := sf371
                  have ho := p374
                  rw [hx1] at ho
                  have ht := p379
                  rw [sf378] at ht
                  have hc3 : rCl3 T n ip366.toInt.toNat (ip366.toInt.toNat) (rA (rE T n (rB T n (cs h).1)) (cs h)).2.2.length (cs hp374) (.inr (cs hp379, ip366.toInt.toNat, (rA (rE T n (rB T n (cs h).1)) (cs h)).2.2.length, (cs hp374).2.2.length, (cs hp379).2.2.length)) := Or.inl ⟨hw16, Or.inr ⟨_, ht, rfl⟩⟩
                  have hthv : (ip366).toNatClampNeg = ip366.toInt.toNat := rfl
                  have hclk : cCl hp380 = cCl h ++ [(ip366.toInt.toNat, (rA (rE T n (rB T n (cs h).1)) (cs h)).2.2.length, (cs hp374).2.2.length, (cs hp379).2.2.length)] := by
                    rw [clp380, cCl_f ggp379, ← hx1, show (cs hf371).2.2.length = _ from cCo_len, show (cs hp379).2.2.length = _ from cCo_len, show (cs hp374).2.2.length = _ from cCo_len]
                    exact congrArg (fun z => cCl h ++ [(z, _, _, _)]) hthv
                  have hcz : rCl T n (cCl h).length (cs h) (.inr (cs hp380, ip366.toInt.toNat, (rA (rE T n (rB T n (cs h).1)) (cs h)).2.2.length, (cs hp374).2.2.length, (cs hp379).2.2.length)) := by rw [ssp380]; exact Or.inr ⟨ip366.toInt.toNat, by omega, by omega, hkw, Or.inr ⟨hc12, Or.inr ⟨hk12, Or.inr ⟨hk15, Or.inr ⟨_, ho, hc3⟩⟩⟩⟩⟩
                  exact tw_iret rfl ⟨cFq_t (cFq_f ggp379) gqp380, qqp380, Or.inl ⟨rfl, _, hcz, hclk, ppp380⟩⟩
                · have ggp379 := cFr_t gf378 gp379
                  refine tw_if_ne rfl (fun z => absurd z (by decide)) (fun _ => ?_)
                  refine tw_push rfl ?_
                  have hk15 : ip366.toInt.toNat ≠ 15 := by have z := q372i; omega
                  have hk12 : ip366.toInt.toNat ≠ 12 := by have z := q373i; omega
                  have hx1 := sf371
                  have ho := p374
                  rw [hx1] at ho
                  have ht := p379
                  rw [sf378] at ht
                  have hc3 : rCl3 T n ip366.toInt.toNat (ip366.toInt.toNat) (rA (rE T n (rB T n (cs h).1)) (cs h)).2.2.length (cs hp374) (.inl _) := Or.inl ⟨hw16, Or.inl ⟨_, ht, rfl⟩⟩
                  exact tw_iret rfl ⟨cFq_f ggp379, cQ_f ggp379 hq, Or.inr ⟨rfl, _, Or.inr ⟨ip366.toInt.toNat, by omega, by omega, hkw, Or.inr ⟨hc12, Or.inr ⟨hk12, Or.inr ⟨hk15, Or.inr ⟨_, ho, hc3⟩⟩⟩⟩⟩, up379⟩⟩
            · have ggp374 := cFr_t gf371 gp374
              refine tw_if_ne rfl (fun z => absurd z (by decide)) (fun _ => ?_)
              refine tw_push rfl ?_
              have hk15 : ip366.toInt.toNat ≠ 15 := by have z := q372i; omega
              have hk12 : ip366.toInt.toNat ≠ 12 := by have z := q373i; omega
              have hx1 := sf371
              have ho := p374
              rw [hx1] at ho
              exact tw_iret rfl ⟨cFq_f ggp374, cQ_f ggp374 hq, Or.inr ⟨rfl, _, Or.inr ⟨ip366.toInt.toNat, by omega, by omega, hkw, Or.inr ⟨hc12, Or.inr ⟨hk12, Or.inr ⟨hk15, Or.inl ⟨_, ho, rfl⟩⟩⟩⟩⟩, up374⟩⟩
          · try dsimp only [tvI_i, tvJ_j, tvR_r] at q373
            have q373i := zeqi (Y := 12) (by decide) q373
            refine tw_aload rfl rfl ?_
            refine tw_push rfl ?_
            refine tw_virt1 rfl (f_numberHere hG hX (gf371).1 pf371 ((cFr_T gf371).trans hT) ((cFr_n gf371).trans hN) (m := 2) (M := 2) rfl (by decide)) (fun w9 hp381 p381 => ?_)
            obtain ⟨gp381, ⟨vp381, p381, rfl, ssp381, ppp381⟩ | ⟨xp381, p381, rfl, up381⟩⟩ := p381
            · have ggp381 := cFr_t gf371 gp381
              refine tw_istore rfl ?_
              refine tw_iload rfl rfl ?_
              refine tw_push rfl ?_
              refine tw_ic_ne rfl (fun q382 => ?_) (fun q382 => ?_)
              · try dsimp only [tvI_i, tvJ_j, tvR_r] at q382
                have q382i := zneq (Y := (-1)) (by decide) q382
                refine tw_aload rfl rfl ?_
                refine tw_getS rfl (hi_44_5 ggp381.1) ?_
                refine tw_istore rfl ?_
                refine tw_iload rfl rfl ?_
                refine tw_if_ne rfl (fun z => absurd z (by decide)) (fun _ => ?_)
                refine tw_aload rfl rfl ?_
                refine tw_push rfl ?_
                refine tw_virt1 rfl (tC_rec hG hX (m := 3) (d := 0) (by decide) (ggp381).1 ppp381 ((cFr_T ggp381).trans hT) ((cFr_n ggp381).trans hN) rfl (by decide)) (fun w9 hp383 p383 => ?_)
                obtain ⟨gp383, ⟨rfl, p383, ppp383⟩ | ⟨rfl, xp383, p383, up383⟩⟩ := p383
                · have ggp383 := cFr_t ggp381 gp383
                  refine tw_if_ne rfl (fun _ => ?_) (fun z => absurd z (by decide))
                  refine tw_aload rfl rfl ?_
                  refine tw_getS rfl (hi_44_5 ggp383.1) ?_
                  refine tw_istore rfl ?_
                  refine tw_aload rfl rfl ?_
                  refine tw_virt0 rfl (f_wordHere hG hX (ggp383).1 ppp383 ((cFr_T ggp383).trans hT) ((cFr_n ggp383).trans hN)) (fun wp384 hp384 p384 => ?_)
                  obtain ⟨gp384, ppp384, ssp384, eep384, ip384, rfl, kwp384⟩ := p384
                  have ggp384 := cFr_t ggp383 gp384
                  refine tw_push rfl ?_
                  refine tw_ic_ne rfl (fun q385 => ?_) (fun q385 => ?_)
                  · try dsimp only [tvI_i, tvJ_j, tvR_r] at q385
                    have q385i := zneq (Y := 16) (by decide) q385
                    refine tw_iload rfl rfl ?_
                    refine tw_if_eq rfl (fun _ => ?_) (fun z => absurd z (by decide))
                    refine tw_aload rfl rfl ?_
                    refine tw_iload rfl rfl ?_
                    refine tw_iload rfl rfl ?_
                    refine tw_iload rfl rfl ?_
                    refine tw_virt3 rfl (f_keepClause hG hX (ggp384).1 ppp384 ((cFr_T ggp384).trans hT) ((cFr_n ggp384).trans hN) (cQ_f ggp384 hq) (by have := cFr_7 ggp384; rw [this]; exact hlt12)) (fun wp386 hp386 p386 => ?_)
                    obtain ⟨rfl, gqp386, clp386, qqp386, ssp386, ppp386⟩ := p386
                    refine tw_push rfl ?_
                    have hk15 : ip366.toInt.toNat ≠ 15 := by have z := q372i; omega
                    have hk12 : ip366.toInt.toNat = 12 := by have z := q373i; omega
                    have hrm := p381
                    rw [sf371] at hrm
                    have hx1 : cs hp381 = rA vp381.1 (rA (rE T n (rB T n (cs h).1)) (cs h)) := by rw [ssp381, sf371]
                    have ho := p383
                    rw [hx1] at ho
                    have hnw : ¬ rW T n (rB T n (cs hp383).1) (rWd 16) = true := fun z => q385 ((wrd_k (k := 16) kwp384 (by decide) (K := 16) rfl).mpr z)
                    have hc3 : rCl3 T n ip366.toInt.toNat (vp381.2) (rA vp381.1 (rA (rE T n (rB T n (cs h).1)) (cs h))).2.2.length (cs hp383) (.inr (cs hp384, vp381.2, (rA vp381.1 (rA (rE T n (rB T n (cs h).1)) (cs h))).2.2.length, (cs hp383).2.2.length, (cs hp384).2.2.length)) := Or.inr (Or.inr ⟨hnw, hk15, by rw [ssp384]; rfl⟩)
                    have hthv : (Int32.ofNat vp381.2).toNatClampNeg = vp381.2 := zoN (by have := (rM_r (rE_le (rB_le hpn)) hrm).2.2; omega)
                    have hclk : cCl hp386 = cCl h ++ [(vp381.2, (rA vp381.1 (rA (rE T n (rB T n (cs h).1)) (cs h))).2.2.length, (cs hp383).2.2.length, (cs hp384).2.2.length)] := by
                      rw [clp386, cCl_f ggp384, ← hx1, show (cs hp381).2.2.length = _ from cCo_len, show (cs hp384).2.2.length = _ from cCo_len, show (cs hp383).2.2.length = _ from cCo_len]
                      exact congrArg (fun z => cCl h ++ [(z, _, _, _)]) hthv
                    have hcz : rCl T n (cCl h).length (cs h) (.inr (cs hp386, vp381.2, (rA vp381.1 (rA (rE T n (rB T n (cs h).1)) (cs h))).2.2.length, (cs hp383).2.2.length, (cs hp384).2.2.length)) := by rw [ssp386]; exact Or.inr ⟨ip366.toInt.toNat, by omega, by omega, hkw, Or.inr ⟨hc12, Or.inl ⟨hk12, Or.inr ⟨vp381, hrm, Or.inr ⟨hk15, Or.inr ⟨_, ho, hc3⟩⟩⟩⟩⟩⟩
                    exact tw_iret rfl ⟨cFq_t (cFq_f ggp384) gqp386, qqp386, Or.inl ⟨rfl, _, hcz, hclk, ppp386⟩⟩
                  · try dsimp only [tvI_i, tvJ_j, tvR_r] at q385
                    have q385i := zeqi (Y := 16) (by decide) q385
                    refine tw_aload rfl rfl ?_
                    refine tw_aload rfl rfl ?_
                    refine tw_getS rfl (hi_44_3 ggp384.1) ?_
                    refine tw_put rfl (fun f387 => ?_)
                    refine tG_set f387 (hw_44_2 f387 (ggp384).1) (fun hf387 ef387 => ?_)
                    try dsimp only [tvI_i] at ef387
                    have gf387 := cFr_s ggp384 ef387 (by decide)
                    have hw16 := (wrd_k (k := 16) kwp384 (by decide) (K := 16) rfl).mp q385
                    have h9w : rE T n (rB T n (cs hp383).1) = rB T n (cs hp383).1 + 2 := by rw [rW_e hw16, wlen_k.2.2.2]
                    have hyn : (cs hp383).1 ≤ n := by rw [← ((cFr_n ggp383).trans hN)]; exact cP_le ppp383
                    have hr9 := rE_le (T := T) (rB_le (T := T) hyn)
                    rw [h9w] at hr9 eep384
                    obtain ⟨pf387, sf387⟩ := cTo ppp384 ((cFr_n ggp384).trans hN) ef387 eep384 (by rw [ssp384]; exact Nat.le_add_right _ _) hr9
                    have sf387 : cs hf387 = rA (rB T n (cs hp383).1 + 2) (cs hp383) := by rw [sf387, ssp384]; rfl
                    refine tw_aload rfl rfl ?_
                    refine tw_push rfl ?_
                    refine tw_virt1 rfl (tC_rec hG hX (m := 9) (d := 0) (by decide) (gf387).1 pf387 ((cFr_T gf387).trans hT) ((cFr_n gf387).trans hN) rfl (by decide)) (fun w9 hp388 p388 => ?_)
                    obtain ⟨gp388, ⟨rfl, p388, ppp388⟩ | ⟨rfl, xp388, p388, up388⟩⟩ := p388
                    · have ggp388 := cFr_t gf387 gp388
                      refine tw_if_ne rfl (fun _ => ?_) (fun z => absurd z (by decide))
                      refine tw_aload rfl rfl ?_
                      refine tw_iload rfl rfl ?_
                      refine tw_iload rfl rfl ?_
                      refine tw_iload rfl rfl ?_
                      refine tw_virt3 rfl (f_keepClause hG hX (ggp388).1 ppp388 ((cFr_T ggp388).trans hT) ((cFr_n ggp388).trans hN) (cQ_f ggp388 hq) (by have := cFr_7 ggp388; rw [this]; exact hlt12)) (fun wp389 hp389 p389 => ?_)
                      obtain ⟨rfl, gqp389, clp389, qqp389, ssp389, ppp389⟩ := p389
                      refine tw_push rfl ?_
                      have hk15 : ip366.toInt.toNat ≠ 15 := by have z := q372i; omega
                      have hk12 : ip366.toInt.toNat = 12 := by have z := q373i; omega
                      have hrm := p381
                      rw [sf371] at hrm
                      have hx1 : cs hp381 = rA vp381.1 (rA (rE T n (rB T n (cs h).1)) (cs h)) := by rw [ssp381, sf371]
                      have ho := p383
                      rw [hx1] at ho
                      have ht := p388
                      rw [sf387] at ht
                      have hc3 : rCl3 T n ip366.toInt.toNat (vp381.2) (rA vp381.1 (rA (rE T n (rB T n (cs h).1)) (cs h))).2.2.length (cs hp383) (.inr (cs hp388, vp381.2, (rA vp381.1 (rA (rE T n (rB T n (cs h).1)) (cs h))).2.2.length, (cs hp383).2.2.length, (cs hp388).2.2.length)) := Or.inl ⟨hw16, Or.inr ⟨_, ht, rfl⟩⟩
                      have hthv : (Int32.ofNat vp381.2).toNatClampNeg = vp381.2 := zoN (by have := (rM_r (rE_le (rB_le hpn)) hrm).2.2; omega)
                      have hclk : cCl hp389 = cCl h ++ [(vp381.2, (rA vp381.1 (rA (rE T n (rB T n (cs h).1)) (cs h))).2.2.length, (cs hp383).2.2.length, (cs hp388).2.2.length)] := by
                        rw [clp389, cCl_f ggp388, ← hx1, show (cs hp381).2.2.length = _ from cCo_len, show (cs hp388).2.2.length = _ from cCo_len, show (cs hp383).2.2.length = _ from cCo_len]
                        exact congrArg (fun z => cCl h ++ [(z, _, _, _)]) hthv
                      have hcz : rCl T n (cCl h).length (cs h) (.inr (cs hp389, vp381.2, (rA vp381.1 (rA (rE T n (rB T n (cs h).1)) (cs h))).2.2.length, (cs hp383).2.2.length, (cs hp388).2.2.length)) := by rw [ssp389]; exact Or.inr ⟨ip366.toInt.toNat, by omega, by omega, hkw, Or.inr ⟨hc12, Or.inl ⟨hk12, Or.inr ⟨vp381, hrm, Or.inr ⟨hk15, Or.inr ⟨_, ho, hc3⟩⟩⟩⟩⟩⟩
                      exact tw_iret rfl ⟨cFq_t (cFq_f ggp388) gqp389, qqp389, Or.inl ⟨rfl, _, hcz, hclk, ppp389⟩⟩
                    · have ggp388 := cFr_t gf387 gp388
                      refine tw_if_ne rfl (fun z => absurd z (by decide)) (fun _ => ?_)
                      refine tw_push rfl ?_
                      have hk15 : ip366.toInt.toNat ≠ 15 := by have z := q372i; omega
                      have hk12 : ip366.toInt.toNat = 12 := by have z := q373i; omega
                      have hrm := p381
                      rw [sf371] at hrm
                      have hx1 : cs hp381 = rA vp381.1 (rA (rE T n (rB T n (cs h).1)) (cs h)) := by rw [ssp381, sf371]
                      have ho := p383
                      rw [hx1] at ho
                      have ht := p388
                      rw [sf387] at ht
                      have hc3 : rCl3 T n ip366.toInt.toNat (vp381.2) (rA vp381.1 (rA (rE T n (rB T n (cs h).1)) (cs h))).2.2.length (cs hp383) (.inl _) := Or.inl ⟨hw16, Or.inl ⟨_, ht, rfl⟩⟩
                      exact tw_iret rfl ⟨cFq_f ggp388, cQ_f ggp388 hq, Or.inr ⟨rfl, _, Or.inr ⟨ip366.toInt.toNat, by omega, by omega, hkw, Or.inr ⟨hc12, Or.inl ⟨hk12, Or.inr ⟨vp381, hrm, Or.inr ⟨hk15, Or.inr ⟨_, ho, hc3⟩⟩⟩⟩⟩⟩, up388⟩⟩
                · have ggp383 := cFr_t ggp381 gp383
                  refine tw_if_ne rfl (fun z => absurd z (by decide)) (fun _ => ?_)
                  refine tw_push rfl ?_
                  have hk15 : ip366.toInt.toNat ≠ 15 := by have z := q372i; omega
                  have hk12 : ip366.toInt.toNat = 12 := by have z := q373i; omega
                  have hrm := p381
                  rw [sf371] at hrm
                  have hx1 : cs hp381 = rA vp381.1 (rA (rE T n (rB T n (cs h).1)) (cs h)) := by rw [ssp381, sf371]
                  have ho := p383
                  rw [hx1] at ho
                  exact tw_iret rfl ⟨cFq_f ggp383, cQ_f ggp383 hq, Or.inr ⟨rfl, _, Or.inr ⟨ip366.toInt.toNat, by omega, by omega, hkw, Or.inr ⟨hc12, Or.inl ⟨hk12, Or.inr ⟨vp381, hrm, Or.inr ⟨hk15, Or.inl ⟨_, ho, rfl⟩⟩⟩⟩⟩⟩, up383⟩⟩
              · try dsimp only [tvI_i, tvJ_j, tvR_r] at q382
                have q382i := zeqi (Y := (-1)) (by decide) q382
                exact absurd q382 (zoN9 (by have := (rM_r (rE_le (rB_le hpn)) (by have y := p381; rw [sf371] at y; exact y)).2.2; omega))
            · have ggp381 := cFr_t gf371 gp381
              refine tw_istore rfl ?_
              refine tw_iload rfl rfl ?_
              refine tw_push rfl ?_
              refine tw_ic_ne rfl (fun z => absurd z (by decide)) (fun _ => ?_)
              refine tw_push rfl ?_
              have hk15 : ip366.toInt.toNat ≠ 15 := by have z := q372i; omega
              have hk12 : ip366.toInt.toNat = 12 := by have z := q373i; omega
              have hrm := p381
              rw [sf371] at hrm
              exact tw_iret rfl ⟨cFq_f ggp381, cQ_f ggp381 hq, Or.inr ⟨rfl, _, Or.inr ⟨ip366.toInt.toNat, by omega, by omega, hkw, Or.inr ⟨hc12, Or.inl ⟨hk12, Or.inl ⟨_, hrm, rfl⟩⟩⟩⟩, up381⟩⟩
        · try dsimp only [tvI_i, tvJ_j, tvR_r] at q372
          have q372i := zeqi (Y := 15) (by decide) q372
          refine tw_push rfl ?_
          refine tw_goto rfl ?_
          refine tw_istore rfl ?_
          refine tw_iload rfl rfl ?_
          refine tw_push rfl ?_
          refine tw_ic_ne rfl (fun q390 => ?_) (fun q390 => ?_)
          · try dsimp only [tvI_i, tvJ_j, tvR_r] at q390
            have q390i := zneq (Y := 12) (by decide) q390
            refine tw_aload rfl rfl ?_
            refine tw_getS rfl (hi_44_5 (gf371).1) ?_
            refine tw_istore rfl ?_
            refine tw_iload rfl rfl ?_
            refine tw_if_ne rfl (fun _ => ?_) (fun z => absurd z (by decide))
            refine tw_aload rfl rfl ?_
            refine tw_getS rfl (hi_44_5 (gf371).1) ?_
            refine tw_istore rfl ?_
            refine tw_aload rfl rfl ?_
            refine tw_virt0 rfl (f_wordHere hG hX (gf371).1 pf371 ((cFr_T gf371).trans hT) ((cFr_n gf371).trans hN)) (fun wp391 hp391 p391 => ?_)
            obtain ⟨gp391, ppp391, ssp391, eep391, ip391, rfl, kwp391⟩ := p391
            have ggp391 := cFr_t gf371 gp391
            refine tw_push rfl ?_
            refine tw_ic_ne rfl (fun q392 => ?_) (fun q392 => ?_)
            · try dsimp only [tvI_i, tvJ_j, tvR_r] at q392
              have q392i := zneq (Y := 16) (by decide) q392
              refine tw_iload rfl rfl ?_
              refine tw_if_eq rfl (fun z => absurd z (by decide)) (fun _ => ?_)
              refine tw_aload rfl rfl ?_
              refine tw_aload rfl rfl ?_
              refine tw_getS rfl (hi_44_2 ggp391.1) ?_
              refine tw_push rfl ?_
              refine tw_virt2 rfl (f_refuse hG hX (ggp391).1 ppp391 ((cFr_T ggp391).trans hT) ((cFr_n ggp391).trans hN)) (fun wp393 hp393 p393 => ?_)
              obtain ⟨gp393, rfl, up393⟩ := p393
              have ggp393 := cFr_t ggp391 gp393
              have hk15 : ip366.toInt.toNat = 15 := by have z := q372i; omega
              have hk12 : ip366.toInt.toNat ≠ 12 := by omega
              have hx1 := sf371
              have hy1 := hx1
              have hnw : ¬ rW T n (rB T n (cs hf371).1) (rWd 16) = true := fun z => q392 ((wrd_k (k := 16) kwp391 (by decide) (K := 16) rfl).mpr z)
              have hft := cFt_of ppp391 up393 (w := 0) rfl (by decide)
              rw [ssp391, hx1] at hft
              rw [hx1] at hnw
              have hc3 : rCl3 T n ip366.toInt.toNat (ip366.toInt.toNat) (rA (rE T n (rB T n (cs h).1)) (cs h)).2.2.length (rA (rE T n (rB T n (cs h).1)) (cs h)) (.inl (1 + 8 * rB T n (rA (rE T n (rB T n (cs h).1)) (cs h)).1 + 0)) := Or.inr (Or.inl ⟨hnw, hk15, rfl⟩)
              have hft2 : cFt hp393 (1 + 8 * rB T n (rA (rE T n (rB T n (cs h).1)) (cs h)).1 + 0) := hft
              exact tw_iret rfl ⟨cFq_f ggp393, cQ_f ggp393 hq, Or.inr ⟨rfl, _, Or.inr ⟨ip366.toInt.toNat, by omega, by omega, hkw, Or.inr ⟨hc12, Or.inr ⟨hk12, Or.inl ⟨hk15, hc3⟩⟩⟩⟩, hft2⟩⟩
            · try dsimp only [tvI_i, tvJ_j, tvR_r] at q392
              have q392i := zeqi (Y := 16) (by decide) q392
              refine tw_aload rfl rfl ?_
              refine tw_aload rfl rfl ?_
              refine tw_getS rfl (hi_44_3 ggp391.1) ?_
              refine tw_put rfl (fun f394 => ?_)
              refine tG_set f394 (hw_44_2 f394 (ggp391).1) (fun hf394 ef394 => ?_)
              try dsimp only [tvI_i] at ef394
              have gf394 := cFr_s ggp391 ef394 (by decide)
              have hw16 := (wrd_k (k := 16) kwp391 (by decide) (K := 16) rfl).mp q392
              have h9w : rE T n (rB T n (cs hf371).1) = rB T n (cs hf371).1 + 2 := by rw [rW_e hw16, wlen_k.2.2.2]
              have hyn : (cs hf371).1 ≤ n := by rw [← ((cFr_n gf371).trans hN)]; exact cP_le pf371
              have hr9 := rE_le (T := T) (rB_le (T := T) hyn)
              rw [h9w] at hr9 eep391
              obtain ⟨pf394, sf394⟩ := cTo ppp391 ((cFr_n ggp391).trans hN) ef394 eep391 (by rw [ssp391]; exact Nat.le_add_right _ _) hr9
              have sf394 : cs hf394 = rA (rB T n (cs hf371).1 + 2) (cs hf371) := by rw [sf394, ssp391]; rfl
              refine tw_aload rfl rfl ?_
              refine tw_push rfl ?_
              refine tw_virt1 rfl (tC_rec hG hX (m := 9) (d := 0) (by decide) (gf394).1 pf394 ((cFr_T gf394).trans hT) ((cFr_n gf394).trans hN) rfl (by decide)) (fun w9 hp395 p395 => ?_)
              obtain ⟨gp395, ⟨rfl, p395, ppp395⟩ | ⟨rfl, xp395, p395, up395⟩⟩ := p395
              · have ggp395 := cFr_t gf394 gp395
                refine tw_if_ne rfl (fun _ => ?_) (fun z => absurd z (by decide))
                refine tw_aload rfl rfl ?_
                refine tw_iload rfl rfl ?_
                refine tw_iload rfl rfl ?_
                refine tw_iload rfl rfl ?_
                refine tw_virt3 rfl (f_keepClause hG hX (ggp395).1 ppp395 ((cFr_T ggp395).trans hT) ((cFr_n ggp395).trans hN) (cQ_f ggp395 hq) (by have := cFr_7 ggp395; rw [this]; exact hlt12)) (fun wp396 hp396 p396 => ?_)
                obtain ⟨rfl, gqp396, clp396, qqp396, ssp396, ppp396⟩ := p396
                refine tw_push rfl ?_
                have hk15 : ip366.toInt.toNat = 15 := by have z := q372i; omega
                have hk12 : ip366.toInt.toNat ≠ 12 := by omega
                have hx1 := sf371
                have hy1 := hx1
                rw [hx1] at hw16
                have ht := p395
                rw [sf394, hx1] at ht
                have hc3 : rCl3 T n ip366.toInt.toNat (ip366.toInt.toNat) (rA (rE T n (rB T n (cs h).1)) (cs h)).2.2.length (rA (rE T n (rB T n (cs h).1)) (cs h)) (.inr (cs hp395, ip366.toInt.toNat, (rA (rE T n (rB T n (cs h).1)) (cs h)).2.2.length, (rA (rE T n (rB T n (cs h).1)) (cs h)).2.2.length, (cs hp395).2.2.length)) := Or.inl ⟨hw16, Or.inr ⟨_, ht, rfl⟩⟩
                have hthv : (ip366).toNatClampNeg = ip366.toInt.toNat := rfl
                have hclk : cCl hp396 = cCl h ++ [(ip366.toInt.toNat, (rA (rE T n (rB T n (cs h).1)) (cs h)).2.2.length, (rA (rE T n (rB T n (cs h).1)) (cs h)).2.2.length, (cs hp395).2.2.length)] := by
                  rw [clp396, cCl_f ggp395, ← hx1, show (cs hf371).2.2.length = _ from cCo_len, show (cs hp395).2.2.length = _ from cCo_len]
                  exact congrArg (fun z => cCl h ++ [(z, _, _, _)]) hthv
                have hcz : rCl T n (cCl h).length (cs h) (.inr (cs hp396, ip366.toInt.toNat, (rA (rE T n (rB T n (cs h).1)) (cs h)).2.2.length, (rA (rE T n (rB T n (cs h).1)) (cs h)).2.2.length, (cs hp395).2.2.length)) := by rw [ssp396]; exact Or.inr ⟨ip366.toInt.toNat, by omega, by omega, hkw, Or.inr ⟨hc12, Or.inr ⟨hk12, Or.inl ⟨hk15, hc3⟩⟩⟩⟩
                exact tw_iret rfl ⟨cFq_t (cFq_f ggp395) gqp396, qqp396, Or.inl ⟨rfl, _, hcz, hclk, ppp396⟩⟩
              · have ggp395 := cFr_t gf394 gp395
                refine tw_if_ne rfl (fun z => absurd z (by decide)) (fun _ => ?_)
                refine tw_push rfl ?_
                have hk15 : ip366.toInt.toNat = 15 := by have z := q372i; omega
                have hk12 : ip366.toInt.toNat ≠ 12 := by omega
                have hx1 := sf371
                have hy1 := hx1
                rw [hx1] at hw16
                have ht := p395
                rw [sf394, hx1] at ht
                have hc3 : rCl3 T n ip366.toInt.toNat (ip366.toInt.toNat) (rA (rE T n (rB T n (cs h).1)) (cs h)).2.2.length (rA (rE T n (rB T n (cs h).1)) (cs h)) (.inl _) := Or.inl ⟨hw16, Or.inl ⟨_, ht, rfl⟩⟩
                exact tw_iret rfl ⟨cFq_f ggp395, cQ_f ggp395 hq, Or.inr ⟨rfl, _, Or.inr ⟨ip366.toInt.toNat, by omega, by omega, hkw, Or.inr ⟨hc12, Or.inr ⟨hk12, Or.inl ⟨hk15, hc3⟩⟩⟩⟩, up395⟩⟩
          · try dsimp only [tvI_i, tvJ_j, tvR_r] at q390
            have q390i := zeqi (Y := 12) (by decide) q390
            exact absurd (q372.symm.trans q390) (by decide)
      · try dsimp only [tvI_i, tvJ_j, tvR_r] at q370
        have q370i := zeqi (Y := 12) (by decide) q370
        refine tw_aload rfl rfl ?_
        refine tw_aload rfl rfl ?_
        refine tw_getS rfl (hi_44_2 ggp366.1) ?_
        refine tw_push rfl ?_
        refine tw_virt2 rfl (f_refuse hG hX (ggp366).1 ppp366 ((cFr_T ggp366).trans hT) ((cFr_n ggp366).trans hN)) (fun wp397 hp397 p397 => ?_)
        obtain ⟨gp397, rfl, up397⟩ := p397
        have ggp397 := cFr_t ggp366 gp397
        have kwb := kwp366.1
        have hk1 : 12 ≤ ip366.toInt := by have z := q367; omega
        have hk2 : ip366.toInt ≤ 15 := by have z := q369; omega
        have hkw : rW T n (rB T n (cs h).1) (rWd ip366.toInt.toNat) = true := (kwp366.2 ip366.toInt.toNat (by omega)).mp (by omega)
        have hft := cFt_of ppp366 up397 (w := 4) rfl (by decide)
        rw [ssp366] at hft
        have h12 : (cCl h).length = 12 := (c12 hq).mpr ((congrArg tvI (cFr_7 ggp366)).symm.trans q370)
        exact tw_iret rfl ⟨cFq_f ggp397, cQ_f ggp397 hq, Or.inr ⟨rfl, _, Or.inr ⟨ip366.toInt.toNat, by omega, by omega, hkw, Or.inl ⟨h12, rfl⟩⟩, hft⟩⟩
    · try dsimp only [tvI_i, tvJ_j, tvR_r] at q369
      refine tw_aload rfl rfl ?_
      refine tw_aload rfl rfl ?_
      refine tw_getS rfl (hi_44_2 ggp366.1) ?_
      refine tw_push rfl ?_
      refine tw_virt2 rfl (f_refuse hG hX (ggp366).1 ppp366 ((cFr_T ggp366).trans hT) ((cFr_n ggp366).trans hN)) (fun wp398 hp398 p398 => ?_)
      obtain ⟨gp398, rfl, up398⟩ := p398
      have ggp398 := cFr_t ggp366 gp398
      have kwb := kwp366.1
      have hft := cFt_of ppp366 up398 (w := 0) rfl (by decide)
      rw [ssp366] at hft
      have z0 := q367
      have z1 := q369
      exact tw_iret rfl ⟨cFq_f ggp398, cQ_f ggp398 hq, Or.inr ⟨rfl, _, Or.inl ⟨fun k h1 h2 z => by have y := (kwp366.2 k (by omega)).mpr z; omega, rfl⟩, hft⟩⟩
theorem cRst {h a b c d e : zH} (hs : tSh h) (hl : 0 ≤ (tvI (tF h 44 1)).toInt ∧ (tvI (tF h 44 1)).toInt ≤ 400) (hT : ∀ i, i < 400 → -128 ≤ (tA h 45 i).toInt ∧ (tA h 45 i).toInt ≤ 127) (h46 : tN h 46 = 400) (h47 : tN h 47 = 48) (e2 : cSet 2 0 h a) (e5 : cSet 5 0 a b) (e7 : cSet 7 0 b c) (e8 : cSet 8 0 c d) (e9 : cSet 9 (-1) d e) : cFq h e ∧ cs e = (0, 0, []) ∧ cCl e = [] ∧ cP e ∧ cQ e := by
  have F : ∀ p q, ¬ (p = 44 ∧ (q = 2 ∨ q = 3 ∨ q = 5 ∨ q = 7 ∨ q = 8 ∨ q = 9)) → tF e p q = tF h p q := fun p q z =>
    (e9.2.2.1 p q (fun w => z ⟨w.1, by omega⟩)).trans ((e8.2.2.1 p q (fun w => z ⟨w.1, by omega⟩)).trans ((e7.2.2.1 p q (fun w => z ⟨w.1, by omega⟩)).trans ((e5.2.2.1 p q (fun w => z ⟨w.1, by omega⟩)).trans (e2.2.2.1 p q (fun w => z ⟨w.1, by omega⟩)))))
  have A : tA e = tA h := e9.2.2.2.1.trans (e8.2.2.2.1.trans (e7.2.2.2.1.trans (e5.2.2.2.1.trans e2.2.2.2.1)))
  have N : tN e = tN h := e9.2.2.2.2.trans (e8.2.2.2.2.trans (e7.2.2.2.2.trans (e5.2.2.2.2.trans e2.2.2.2.2)))
  have f8 : tF e 44 8 = .int 0 := (e9.2.2.1 44 8 (by decide)).trans e8.2.1
  have f7 : tF e 44 7 = .int 0 := (e9.2.2.1 44 7 (by decide)).trans ((e8.2.2.1 44 7 (by decide)).trans e7.2.1)
  have f5 : tF e 44 5 = .int 0 := (e9.2.2.1 44 5 (by decide)).trans ((e8.2.2.1 44 5 (by decide)).trans ((e7.2.2.1 44 5 (by decide)).trans e5.2.1))
  have f2 : tF e 44 2 = .int 0 := (e9.2.2.1 44 2 (by decide)).trans ((e8.2.2.1 44 2 (by decide)).trans ((e7.2.2.1 44 2 (by decide)).trans ((e5.2.2.1 44 2 (by decide)).trans e2.2.1)))
  have f1 : tF e 44 1 = tF h 44 1 := F 44 1 (by decide)
  refine ⟨⟨e9.1, F, fun p _ _ => congrFun A p, N⟩, ?_, ?_, ⟨?_, ?_, ?_, ?_, ?_, e9.2.1⟩, ⟨?_, ?_, ?_⟩⟩
  · unfold cs cCo
    rw [f2, f8, f5]
    rfl
  · unfold cCl
    rw [f7]
    rfl
  · rw [f2, f1]
    refine ⟨by decide, ?_, hl.2⟩
    show (0 : Int) ≤ _
    exact hl.1
  · rw [f8]; decide
  · rw [f5, f2]; decide
  · rw [A]; exact hT
  · rw [N]; exact h46
  · rw [f7]; decide
  · rw [f7]; decide
  · rw [N]; exact h47
theorem cFtv {h : zH} {e : Nat} (u : cFt h e) : tF h 44 9 = .int (Int32.ofNat e) := u
theorem rTon {T : Nat → Int32} {n : Nat} {c : Int32} {s s2 : rS} (h : rT T n c s = some (.inr s2)) : (rB T n s.1 < n ∧ T (rB T n s.1) = c) ∧ s2 = rA (rB T n s.1 + 1) s := by
  unfold rT at h
  by_cases z : rB T n s.1 < n ∧ T (rB T n s.1) = c
  · rw [if_pos z] at h; cases h; exact ⟨z, rfl⟩
  · rw [if_neg z] at h; cases h
theorem rToff {T : Nat → Int32} {n e : Nat} {c : Int32} {s : rS} (h : rT T n c s = some (.inl e)) : ¬ (rB T n s.1 < n ∧ T (rB T n s.1) = c) ∧ e = 1 + 8 * rB T n s.1 + 0 := by
  unfold rT at h
  by_cases z : rB T n s.1 < n ∧ T (rB T n s.1) = c
  · rw [if_pos z] at h; cases h
  · rw [if_neg z] at h; cases h; exact ⟨z, rfl⟩
theorem rCl_12 {T : Nat → Int32} {n c : Nat} {s : rS} {x : rS × rCt} (h : rCl T n c s (.inr x)) : c ≠ 12 := by
  rcases h with ⟨-, h⟩ | ⟨k, -, -, -, ⟨-, h⟩ | ⟨h, -⟩⟩
  · cases h
  · cases h
  · exact h
theorem f_readRule {G : zG} (hG : G.1 = zProg) (hX : G.2.1 = ztx) {h : zH} {T : Nat → Int32} {n : Nat} (hs : tSh h) (hT : tA h 45 = T) (hN : cn h = n) (hl : 0 ≤ (tvI (tF h 44 1)).toInt ∧ (tvI (tF h 44 1)).toInt ≤ 400) (hT9 : ∀ i, i < 400 → -128 ≤ (tA h 45 i).toInt ∧ (tA h 45 i).toInt ≤ 127) (h46 : tN h 46 = 400) (h47 : tN h 47 = 48) : tC zTt G 75 [.ref 44] h (fun w h2 => cFq h h2 ∧ ((∃ f, rRu T n f (0, 0, []) [] (.inr (cs h2, cCl h2)) ∧ w = some (.int (-1)) ∧ cP h2 ∧ cQ h2) ∨ ∃ e f, rRu T n f (0, 0, []) [] (.inl e) ∧ w = some (.int (Int32.ofNat e)))) := by
  refine tC_in (by rw [hG]; rfl) (fun dp => ?_)
  refine tw_aload rfl rfl ?_
  refine tw_push rfl ?_
  refine tw_put rfl (fun f399 => ?_)
  refine tG_set f399 (hw_44_2 f399 hs) (fun hf399 ef399 => ?_)
  try dsimp only [tvI_i] at ef399
  refine tw_aload rfl rfl ?_
  refine tw_push rfl ?_
  refine tw_put rfl (fun f400 => ?_)
  refine tG_set f400 (hw_44_5 f400 ef399.1) (fun hf400 ef400 => ?_)
  try dsimp only [tvI_i] at ef400
  refine tw_aload rfl rfl ?_
  refine tw_push rfl ?_
  refine tw_put rfl (fun f401 => ?_)
  refine tG_set f401 (hw_44_7 f401 ef400.1) (fun hf401 ef401 => ?_)
  try dsimp only [tvI_i] at ef401
  refine tw_aload rfl rfl ?_
  refine tw_push rfl ?_
  refine tw_put rfl (fun f402 => ?_)
  refine tG_set f402 (hw_44_8 f402 ef401.1) (fun hf402 ef402 => ?_)
  try dsimp only [tvI_i] at ef402
  refine tw_aload rfl rfl ?_
  refine tw_push rfl ?_
  refine tw_put rfl (fun f403 => ?_)
  refine tG_set f403 (hw_44_9 f403 ef402.1) (fun hf403 ef403 => ?_)
  try dsimp only [tvI_i] at ef403
  refine tw_push rfl ?_
  refine tw_istore rfl ?_
  refine tG_loop (zW_mono zTt G dp) (zW_conj zTt G dp) (V := fun pc L st h9 _ _ => pc = 27 ∧ st = [] ∧ ∃ (h1 : zH) (k : Nat) (x : Int32), h1 = h9 ∧ x.toInt = k ∧ cFq h h1 ∧ cP h1 ∧ cQ h1 ∧ (cCl h1).length = k ∧ (∀ r, (∃ f, rRu T n f (cs h1) (cCl h1) r) → ∃ f, rRu T n f (0, 0, []) [] r) ∧ L = [some (.ref 44), some (.int x)]) ?_ (⟨rfl, rfl, _, 0, 0, rfl, rfl, (cRst hs hl hT9 h46 h47 ef399 ef400 ef401 ef402 ef403).1, (cRst hs hl hT9 h46 h47 ef399 ef400 ef401 ef402 ef403).2.2.2.1, (cRst hs hl hT9 h46 h47 ef399 ef400 ef401 ef402 ef403).2.2.2.2, (by rw [(cRst hs hl hT9 h46 h47 ef399 ef400 ef401 ef402 ef403).2.2.1]; rfl), (fun r z => by rw [(cRst hs hl hT9 h46 h47 ef399 ef400 ef401 ef402 ef403).2.1, (cRst hs hl hT9 h46 h47 ef399 ef400 ef401 ef402 ef403).2.2.1] at z; exact z), rfl⟩)
  rintro _ _ _ _ _ _ ⟨rfl, rfl, h1, k, x, rfl, hx, gF, p1, q1, hk, hR, rfl⟩
  have g1 := cFr_r gF.1
  refine tw_iload rfl rfl ?_
  refine tw_push rfl ?_
  refine tw_ic_gt rfl (fun q404 => ?_) (fun q404 => ?_)
  · try dsimp only [tvI_i, tvJ_j, tvR_r] at q404
    refine tw_aload rfl rfl ?_
    refine tw_getS rfl (hi_44_9 g1.1) ?_
    exfalso
    have := q1.1
    have := q1.2.1
    rw [cCl_len, zclE] at hk
    have c129 : (12 : Int32).toInt = 12 := rfl
    have z := q404
    omega
  · try dsimp only [tvI_i, tvJ_j, tvR_r] at q404
    refine tw_aload rfl rfl ?_
    refine tw_virt0 rfl (f_readClause hG hX g1.1 p1 ((cFq_T gF).trans hT) ((cFq_n gF).trans hN) q1) (fun w9 hp405 p405 => ?_)
    obtain ⟨gqp405, qqp405, ⟨rfl, cp405, p405, clp405, ppp405⟩ | ⟨rfl, xp405, p405, up405⟩⟩ := p405
    · have gzp405 := cFr_r gqp405.1
      refine tw_if_eq rfl (fun z => absurd z (by decide)) (fun _ => ?_)
      refine tw_aload rfl rfl ?_
      refine tw_virt0 rfl (f_signHere hG hX (gzp405).1 ppp405 ((cFq_T (cFq_t gF gqp405)).trans hT) ((cFq_n (cFq_t gF gqp405)).trans hN)) (fun wp406 hp406 p406 => ?_)
      obtain ⟨gp406, ppp406, ssp406, t3p406, cp406, rfl, kp406⟩ := p406
      have ggp406 := cFr_t gzp405 gp406
      refine tw_push rfl ?_
      refine tw_ic_eq rfl (fun q407 => ?_) (fun q407 => ?_)
      · try dsimp only [tvI_i, tvJ_j, tvR_r] at q407
        have q407i := zeqi (Y := (-1)) (by decide) q407
        refine tw_aload rfl rfl ?_
        refine tw_getS rfl (hi_44_9 ggp406.1) ?_
        have hne : ¬ rB T n (cs hp405).1 < n := kp406.2.mp q407
        obtain ⟨f9, z⟩ := hR _ ⟨1, Or.inr ⟨_, _, p405, Or.inl ⟨hne, rfl⟩⟩⟩
        have hcc : cCl hp406 = cCl h1 ++ [cp405] := (cCl_f gp406).trans clp405
        rw [← hcc, ← ssp406] at z
        exact tw_iret rfl ⟨cFq_t (cFq_t gF gqp405) (cFq_f gp406), Or.inl ⟨f9, z, by rw [ppp406.2.2.2.2.2]; rfl, ppp406, cQ_f gp406 qqp405⟩⟩
      · try dsimp only [tvI_i, tvJ_j, tvR_r] at q407
        have q407i := zneq (Y := (-1)) (by decide) q407
        refine tw_aload rfl rfl ?_
        refine tw_push rfl ?_
        refine tw_virt1 rfl (f_takeSign hG hX (ggp406).1 ppp406 ((cFr_T ggp406).trans ((cFq_T (cFq_t gF gqp405)).trans hT)) ((cFr_n ggp406).trans ((cFq_n (cFq_t gF gqp405)).trans hN)) (y := 59) (by decide)) (fun w9 hp408 p408 => ?_)
        obtain ⟨gp408, ⟨rfl, p408, ppp408⟩ | ⟨rfl, xp408, p408, up408⟩⟩ := p408
        · have ggp408 := cFr_t ggp406 gp408
          refine tw_if_ne rfl (fun _ => ?_) (fun z => absurd z (by decide))
          refine tw_iinc rfl rfl ?_
          refine tw_goto rfl ?_
          have hcl : (cCl h1).length < 12 := by have z := rCl_12 (T := T) p405; have y := q1; rw [cCl_len, zclE] at *; have := q1.1; have := q1.2.1; omega
          have hts := rTon p408
          rw [ssp406, show (rA (rB T n (cs hp405).1) (cs hp405)).1 = rB T n (cs hp405).1 from rfl, rB_2] at hts
          have hcc : cCl hp408 = cCl h1 ++ [cp405] := (cCl_f (cFr_t (cFr_t (cFr_r gqp405.1) gp406) gp408)).trans clp405
          refine tG_cut (zW_mono zTt G dp) (Or.inr ⟨rfl, rfl, _, k + 1, x + 1, rfl, zincN hx (by omega), cFq_t (cFq_t gF gqp405) (cFq_f (cFr_t gp406 gp408)), ppp408, cQ_f (cFr_t gp406 gp408) qqp405, (by rw [hcc, List.length_append, hk]; rfl), (fun r z => ?_), rfl⟩)
          rw [hcc, hts.2] at z
          obtain ⟨f9, z⟩ := z
          exact hR r ⟨f9 + 1, Or.inr ⟨_, _, p405, Or.inr (Or.inl ⟨hts.1, z⟩)⟩⟩
        · have ggp408 := cFr_t ggp406 gp408
          refine tw_if_ne rfl (fun z => absurd z (by decide)) (fun _ => ?_)
          refine tw_goto rfl ?_
          refine tw_aload rfl rfl ?_
          refine tw_getS rfl (hi_44_9 ggp408.1) ?_
          have hts := rToff p408
          rw [ssp406, show (rA (rB T n (cs hp405).1) (cs hp405)).1 = rB T n (cs hp405).1 from rfl, rB_2] at hts
          have hlt : rB T n (cs hp405).1 < n := Classical.byContradiction (fun z => q407 (kp406.2.mpr z))
          obtain ⟨f9, z⟩ := hR _ ⟨1, Or.inr ⟨_, _, p405, Or.inr (Or.inr ⟨⟨hlt, fun z => hts.1 ⟨hlt, z⟩⟩, rfl⟩)⟩⟩
          exact tw_iret rfl ⟨cFq_t (cFq_t gF gqp405) (cFq_f (cFr_t gp406 gp408)), Or.inr ⟨_, f9, z, by rw [cFtv up408, hts.2]; rfl⟩⟩
    · refine tw_if_eq rfl (fun _ => ?_) (fun z => absurd z (by decide))
      refine tw_aload rfl rfl ?_
      refine tw_getS rfl (hi_44_9 gqp405.1) ?_
      obtain ⟨f9, z⟩ := hR _ ⟨1, Or.inl ⟨_, p405, rfl⟩⟩
      exact tw_iret rfl ⟨cFq_t gF gqp405, Or.inr ⟨_, f9, z, by rw [cFtv up405]; rfl⟩⟩
/-! the reader with a pile, as it stands in the object 111 -/
noncomputable def mCode (s v : Nat) : Nat := if s = 0 then v else if s = 1 then (if v < 12 then 100000 + v else 200000 + v) else if s = 2 then 100102 else if s = 3 then 100100 else if s = 4 then 100101 else if s = 10 then 100110 else if s = 11 then 100109 else if s = 12 then 100108 else 100098 + s
theorem mCode_1 {v : Nat} (h : v < 12) : mCode 1 v = 100000 + v := by
  show (if v < 12 then 100000 + v else 200000 + v) = _
  rw [if_pos h]
noncomputable def mEn (h : zH) : List Nat := (List.range (tvI (tF h 111 31)).toNatClampNeg).map (fun i => mCode (tA h 133 (500 * (tvI (tF h 111 30)).toNatClampNeg + i)).toNatClampNeg (tA h 134 (500 * (tvI (tF h 111 30)).toNatClampNeg + i)).toNatClampNeg)
noncomputable def mSk (h : zH) : List Nat := ((List.range (tvI (tF h 111 34)).toNatClampNeg).map (fun i => (tA h 142 i).toNatClampNeg)).reverse
noncomputable def ms (h : zH) : rS := ((tvI (tF h 111 28)).toNatClampNeg, (tvI (tF h 111 33)).toNatClampNeg, mEn h)
noncomputable abbrev mn (h : zH) : Nat := (tvI (tF h 111 27)).toNatClampNeg
noncomputable def mFs (b : Nat) : Prop := b = 28 ∨ b = 29 ∨ b = 31 ∨ b = 32 ∨ b = 33 ∨ b = 34
/-- what is told of the rules before stays -/
noncomputable def mLo (h h2 : zH) : Prop := ∀ q, q < 500 * (tvI (tF h 111 30)).toNatClampNeg → tA h2 133 q = tA h 133 q ∧ tA h2 134 q = tA h 134 q
theorem mLo_r {h : zH} : mLo h h := fun _ _ => ⟨rfl, rfl⟩
theorem mLo_t {h h1 h2 : zH} (e : tF h1 111 30 = tF h 111 30) (a : mLo h h1) (k : mLo h1 h2) : mLo h h2 := fun q hq =>
  have y := k q (by rw [e]; exact hq)
  ⟨y.1.trans (a q hq).1, y.2.trans (a q hq).2⟩
theorem mLo_A {h h1 h2 : zH} (e : tA h2 = tA h1) (a : mLo h h1) : mLo h h2 := fun q hq => by rw [e]; exact a q hq
theorem mLo_p {h h2 : zH} (a : tA h2 133 = tA h 133) (b : tA h2 134 = tA h 134) : mLo h h2 := fun q _ => ⟨by rw [a], by rw [b]⟩
noncomputable def mFr (h h2 : zH) : Prop := tSh h2 ∧ (∀ p b, ¬ (p = 111 ∧ mFs b) → tF h2 p b = tF h p b) ∧ (∀ p, p ≠ 133 → p ≠ 134 → p ≠ 142 → tA h2 p = tA h p) ∧ tN h2 = tN h ∧ mLo h h2
/-- no fault so far -/
noncomputable def mP (h : zH) : Prop := tF h 111 29 = .int 0 ∧ (0 ≤ (tvI (tF h 111 28)).toInt ∧ (tvI (tF h 111 28)).toInt ≤ (tvI (tF h 111 27)).toInt ∧ (tvI (tF h 111 27)).toInt ≤ 400) ∧ (0 ≤ (tvI (tF h 111 33)).toInt ∧ (tvI (tF h 111 33)).toInt ≤ 80) ∧ (0 ≤ (tvI (tF h 111 31)).toInt ∧ (tvI (tF h 111 31)).toInt ≤ 100000) ∧ 0 ≤ (tvI (tF h 111 34)).toInt ∧ (0 ≤ (tvI (tF h 111 30)).toInt ∧ (tvI (tF h 111 30)).toInt ≤ 10) ∧ (∀ i, i < tN h 142 → 0 ≤ (tA h 142 i).toInt) ∧ (∀ i : Nat, i = i) ∧ tN h 133 ≤ 100000 ∧ tN h 142 ≤ 100000
noncomputable def mD (h : zH) : Prop := (tvI (tF h 111 32)).toInt = mDp (mSk h)
noncomputable def mSet (b : Nat) (X : Int32) (h h3 : zH) : Prop := tSh h3 ∧ tF h3 111 b = .int X ∧ (∀ p q, ¬ (p = 111 ∧ q = b) → tF h3 p q = tF h p q) ∧ tA h3 = tA h ∧ tN h3 = tN h
/-- a fault stands -/
noncomputable def mFt (h : zH) (e : Nat) : Prop := tF h 111 29 = .int (Int32.ofNat e) ∧ 0 < e ∧ e < 100000
section MF
variable {h h1 h2 h3 : zH} {b e : Nat} {X : Int32}
theorem mSet_of (hf : tFd h 111 b) (hs : tSh (tSF h 111 b (.int X))) : mSet b X h (tSF h 111 b (.int X)) := ⟨hs, tF_same hf, fun _ _ hn => tF_nz hn, tA_tSF _ _ _ _, tN_tSF _ _ _ _⟩
theorem tG_setm {tt : zT} {G : zG} {cd : zK} {bc bs : Nat} {rt : Option FieldType} {M : zM} {Q : zQ} {Z : zX} {f : Bool} {pc : Nat} {L : zL} {st : List Value} {c n : Nat} (hf : tFd h 111 b) (hs : tSh (tSF h 111 b (.int X))) (k : ∀ h3, mSet b X h h3 → tG tt G cd bc bs rt M Q Z f pc L st h3 c n) : tG tt G cd bc bs rt M Q Z f pc L st (tSF h 111 b (.int X)) c n := k _ (mSet_of hf hs)
theorem mFr_r (hs : tSh h) : mFr h h := ⟨hs, fun _ _ _ => rfl, fun _ _ _ _ => rfl, rfl, mLo_r⟩
theorem mFr_t (a : mFr h h1) (k : mFr h1 h2) : mFr h h2 := ⟨k.1, fun p q z => (k.2.1 p q z).trans (a.2.1 p q z), fun p z w y => (k.2.2.1 p z w y).trans (a.2.2.1 p z w y), k.2.2.2.1.trans a.2.2.2.1, mLo_t (a.2.1 111 30 (fun z => by have z := z.2; unfold mFs at z; omega)) a.2.2.2.2 k.2.2.2.2⟩
theorem mFr_s (a : mFr h h1) (k : mSet b X h1 h2) (hb : mFs b) : mFr h h2 := ⟨k.1, fun p q z => (k.2.2.1 p q (fun w => z ⟨w.1, w.2.symm ▸ hb⟩)).trans (a.2.1 p q z), fun p z w y => (congrFun k.2.2.2.1 p).trans (a.2.2.1 p z w y), k.2.2.2.2.trans a.2.2.2.1, mLo_A k.2.2.2.1 a.2.2.2.2⟩
theorem nFs {q : Nat} (h : q = 27 ∨ q = 30 ∨ q = 1 ∨ q = 46 ∨ q = 47) : ¬ ((111 : Nat) = 111 ∧ mFs q) := fun z => by
  have z := z.2
  unfold mFs at z
  omega
theorem mFr_T (a : mFr h h1) : tA h1 132 = tA h 132 := a.2.2.1 132 (by decide) (by decide) (by decide)
theorem mFr_27 (a : mFr h h1) : tF h1 111 27 = tF h 111 27 := a.2.1 111 27 (nFs (by decide))
theorem mFr_30 (a : mFr h h1) : tF h1 111 30 = tF h 111 30 := a.2.1 111 30 (nFs (by decide))
theorem mFr_n (a : mFr h h1) : mn h1 = mn h := by unfold mn; rw [mFr_27 a]
theorem mFr_46 (a : mFr h h1) : tF h1 111 46 = tF h 111 46 := a.2.1 111 46 (nFs (by decide))
theorem mFr_47 (a : mFr h h1) : tF h1 111 47 = tF h 111 47 := a.2.1 111 47 (nFs (by decide))
theorem mI_x (k : mSet b X h h3) : tvI (tF h3 111 b) = X := congrArg tvI k.2.1
theorem mI_o {q : Nat} (k : mSet b X h h3) (hq : q ≠ b) : tF h3 111 q = tF h 111 q := k.2.2.1 111 q (fun z => hq z.2)
theorem mEn_o (k : mSet b X h h3) (h1 : b ≠ 31) (h2 : b ≠ 30) : mEn h3 = mEn h := by
  unfold mEn
  rw [mI_o k (fun z => h1 z.symm), mI_o k (fun z => h2 z.symm), k.2.2.2.1]
theorem mSk_o (k : mSet b X h h3) (h1 : b ≠ 34) : mSk h3 = mSk h := by
  unfold mSk
  rw [mI_o k (fun z => h1 z.symm), k.2.2.2.1]
theorem mSk_len : (mSk h).length = (tvI (tF h 111 34)).toNatClampNeg := by unfold mSk; rw [List.length_reverse, List.length_map, List.length_range]
/-- the fault stays over other fields -/
theorem mFt_s (k : mFt h e) (s : mSet b X h h3) (hb : b ≠ 29) : mFt h3 e := ⟨(mI_o s (fun z => hb z.symm)).trans k.1, k.2⟩
theorem mFt_n (k : mFt h e) : ¬ tvI (tF h 111 29) = 0 := by
  rw [k.1]
  intro z
  have z : Int32.ofNat e = 0 := z
  have y := zofI (e := e) (by have := k.2; omega)
  rw [z] at y
  have : ((0 : Int32)).toInt = 0 := rfl
  have := k.2
  omega
theorem mP_0 (p : mP h) : tvI (tF h 111 29) = 0 := by rw [p.1]; rfl
theorem mPl (p : mP h) : (tvI (tF h 111 28)).toInt = ((ms h).1 : Int) := by
  show _ = ((tvI (tF h 111 28)).toNatClampNeg : Int)
  rw [zclE]
  have := p.2.1
  omega
theorem mNl {n : Nat} (p : mP h) (hn : mn h = n) : (tvI (tF h 111 27)).toInt = (n : Int) := by
  rw [← hn]
  show _ = ((tvI (tF h 111 27)).toNatClampNeg : Int)
  rw [zclE]
  have := p.2.1
  omega
theorem mCl (p : mP h) : (tvI (tF h 111 33)).toInt = ((ms h).2.1 : Int) := by
  show _ = ((tvI (tF h 111 33)).toNatClampNeg : Int)
  rw [zclE]
  have := p.2.2.1
  omega
theorem mPle {n : Nat} (p : mP h) (hn : mn h = n) : (ms h).1 ≤ n := by
  have := mPl p
  have := mNl p hn
  have := p.2.1
  omega
/-- the place was set -/
theorem mTo {n v : Nat} (p : mP h) (hn : mn h = n) (s : mSet 28 X h h3) (hx : X.toInt = v) (hv : v ≤ n) : mP h3 ∧ ms h3 = rA v (ms h) ∧ mSk h3 = mSk h := by
  have e1 := mNl p hn
  obtain ⟨a, b, c, d, e, g, i, j, t1, t2⟩ := p
  have NN : tN h3 = tN h := s.2.2.2.2
  refine ⟨⟨(mI_o s (by decide)).trans a, ?_, ?_, ?_, ?_, ?_, ?_, ?_, by rw [NN]; exact t1, by rw [NN]; exact t2⟩, ?_, mSk_o s (by decide)⟩
  · rw [mI_x s, mI_o s (by decide)]; omega
  · rw [mI_o s (by decide)]; exact c
  · rw [mI_o s (by decide)]; exact d
  · rw [mI_o s (by decide)]; exact e
  · rw [mI_o s (by decide)]; exact g
  · rw [s.2.2.2.1, s.2.2.2.2]; exact i
  · exact j
  · unfold ms
    rw [mI_x s, mI_o s (by decide), mEn_o s (by decide) (by decide), zof_cl hx]
    rfl
/-- one more is counted -/
theorem mCnt (p : mP h) (h8 : (ms h).2.1 ≠ 80) (s : mSet 33 (tvI (tF h 111 33) + 1) h h3) : mP h3 ∧ ms h3 = ((ms h).1, (ms h).2.1 + 1, (ms h).2.2) ∧ mSk h3 = mSk h := by
  have e1 := mCl p
  have e2 : (tvI (tF h 111 33) + 1).toInt = (((ms h).2.1 + 1 : Nat) : Int) := zincN e1 (by have := p.2.2.1; omega)
  obtain ⟨a, b, c, d, e, g, i, j, t1, t2⟩ := p
  have NN : tN h3 = tN h := s.2.2.2.2
  refine ⟨⟨(mI_o s (by decide)).trans a, ?_, ?_, ?_, ?_, ?_, ?_, ?_, by rw [NN]; exact t1, by rw [NN]; exact t2⟩, ?_, mSk_o s (by decide)⟩
  · rw [mI_o s (by decide), mI_o s (by decide)]; exact b
  · rw [mI_x s]; omega
  · rw [mI_o s (by decide)]; exact d
  · rw [mI_o s (by decide)]; exact e
  · rw [mI_o s (by decide)]; exact g
  · rw [s.2.2.2.1, s.2.2.2.2]; exact i
  · exact j
  · unfold ms
    rw [mI_x s, mI_o s (by decide), mEn_o s (by decide) (by decide), zof_cl e2]
    rfl
theorem mSte (p : mP h) (s : mSet 46 X h h3) : mP h3 ∧ ms h3 = ms h ∧ mSk h3 = mSk h := by
  obtain ⟨a, b, c, d, e, g, i, j, t1, t2⟩ := p
  have e1 := mEn_o s (by decide) (by decide)
  have e2 := mSk_o s (by decide)
  have NN : tN h3 = tN h := s.2.2.2.2
  refine ⟨⟨(mI_o s (by decide)).trans a, ?_, ?_, ?_, ?_, ?_, ?_, ?_, by rw [NN]; exact t1, by rw [NN]; exact t2⟩, ?_, e2⟩
  · rw [mI_o s (by decide), mI_o s (by decide)]; exact b
  · rw [mI_o s (by decide)]; exact c
  · rw [mI_o s (by decide)]; exact d
  · rw [mI_o s (by decide)]; exact e
  · rw [mI_o s (by decide)]; exact g
  · rw [s.2.2.2.1, s.2.2.2.2]; exact i
  · exact j
  · unfold ms
    rw [mI_o s (by decide), mI_o s (by decide), e1]
/-- a fault is set -/
theorem mFt_of {a y : Int32} {k w : Nat} (s : mSet 29 (1 + 8 * a + y) h h3) (ha : a.toInt = k) (hk : k ≤ 400) (hy : y.toInt = w) (hw : w ≤ 7) : mFt h3 (1 + 8 * k + w) := ⟨by rw [s.2.1, zfa ha hk hy hw], by omega, by omega⟩
/-- the top, and off with it: the depth follows by the caller -/
theorem mSk_top (hk : 0 < (tvI (tF h 111 34)).toNatClampNeg) : mSk h = (tA h 142 ((tvI (tF h 111 34)).toNatClampNeg - 1)).toNatClampNeg :: ((List.range ((tvI (tF h 111 34)).toNatClampNeg - 1)).map (fun i => (tA h 142 i).toNatClampNeg)).reverse := by
  unfold mSk
  obtain ⟨k, e⟩ : ∃ k, (tvI (tF h 111 34)).toNatClampNeg = k + 1 := ⟨_, (Nat.sub_add_cancel hk).symm⟩
  rw [e, List.range_succ, List.map_append, List.reverse_append]
  rfl
theorem mSk_nil (hk : (tvI (tF h 111 34)).toNatClampNeg = 0) : mSk h = [] := by
  unfold mSk
  rw [hk]
  rfl
theorem mD_o (k : mSet b X h h3) (h1 : b ≠ 32) (h2 : b ≠ 34) (d : mD h) : mD h3 := by
  unfold mD
  rw [mI_o k (fun z => h1 z.symm), mSk_o k h2]
  exact d
theorem mSk_pop (p : mP h) (hne : mSk h ≠ []) (s : mSet 34 (tvI (tF h 111 34) - 1) h h3) : mP h3 ∧ mSk h3 = (mSk h).tail ∧ ms h3 = ms h ∧ tF h3 111 32 = tF h 111 32 := by
  have hk : 0 < (tvI (tF h 111 34)).toNatClampNeg := by
    rcases Nat.eq_zero_or_pos (tvI (tF h 111 34)).toNatClampNeg with z | z
    · exact absurd (mSk_nil z) hne
    · exact z
  have e0 : (tvI (tF h 111 34)).toInt = ((tvI (tF h 111 34)).toNatClampNeg : Int) := by rw [zclE]; have := p.2.2.2.2.1; omega
  have e1 : (tvI (tF h 111 34) - 1).toInt = (tvI (tF h 111 34)).toInt - 1 := zsub1 p.2.2.2.2.1
  have e2 : (tvI (tF h 111 34) - 1).toNatClampNeg = (tvI (tF h 111 34)).toNatClampNeg - 1 := by rw [zclE, e1]; omega
  obtain ⟨a, b, c, d, e, g, i, j, t1, t2⟩ := p
  have NN : tN h3 = tN h := s.2.2.2.2
  refine ⟨⟨(mI_o s (by decide)).trans a, ?_, ?_, ?_, ?_, ?_, ?_, ?_, by rw [NN]; exact t1, by rw [NN]; exact t2⟩, ?_, ?_, mI_o s (by decide)⟩
  · rw [mI_o s (by decide), mI_o s (by decide)]; exact b
  · rw [mI_o s (by decide)]; exact c
  · rw [mI_o s (by decide)]; exact d
  · rw [mI_x s, e1]; omega
  · rw [mI_o s (by decide)]; exact g
  · rw [s.2.2.2.1, s.2.2.2.2]; exact i
  · exact j
  · rw [mSk_top hk]
    unfold mSk
    rw [mI_x s, e2, s.2.2.2.1]
    rfl
  · unfold ms
    rw [mI_o s (by decide), mI_o s (by decide), mEn_o s (by decide) (by decide)]
/-- the depth goes down by one -/
theorem mDn (p : mP h) (s : mSet 32 (tvI (tF h 111 32) - 1) h h3) {k : Nat} (hd : (tvI (tF h 111 32)).toInt = ((k + 1 : Nat) : Int)) (hk : k = mDp (mSk h)) : mP h3 ∧ mSk h3 = mSk h ∧ ms h3 = ms h ∧ mD h3 := by
  have e1 : (tvI (tF h 111 32) - 1).toInt = (tvI (tF h 111 32)).toInt - 1 := zsub1 (by omega)
  have e2 := mSk_o s (by decide)
  obtain ⟨a, b, c, d, e, g, i, j, t1, t2⟩ := p
  have NN : tN h3 = tN h := s.2.2.2.2
  refine ⟨⟨(mI_o s (by decide)).trans a, ?_, ?_, ?_, ?_, ?_, ?_, ?_, by rw [NN]; exact t1, by rw [NN]; exact t2⟩, e2, ?_, ?_⟩
  · rw [mI_o s (by decide), mI_o s (by decide)]; exact b
  · rw [mI_o s (by decide)]; exact c
  · rw [mI_o s (by decide)]; exact d
  · rw [mI_o s (by decide)]; exact e
  · rw [mI_o s (by decide)]; exact g
  · rw [s.2.2.2.1, s.2.2.2.2]; exact i
  · exact j
  · unfold ms
    rw [mI_o s (by decide), mI_o s (by decide), mEn_o s (by decide) (by decide)]
  · unfold mD
    rw [mI_x s, e1, e2, hd, hk]
    omega
theorem mUp (p : mP h) (s : mSet 32 (tvI (tF h 111 32) + 1) h h3) {k : Nat} (hd : (tvI (tF h 111 32)).toInt = (k : Int)) (hk : k ≤ 1000) : mP h3 ∧ mSk h3 = mSk h ∧ ms h3 = ms h ∧ (tvI (tF h3 111 32)).toInt = ((k + 1 : Nat) : Int) := by
  have e1 := zincN hd (by omega)
  have e2 := mSk_o s (by decide)
  obtain ⟨a, b, c, d, e, g, i, j, t1, t2⟩ := p
  have NN : tN h3 = tN h := s.2.2.2.2
  refine ⟨⟨(mI_o s (by decide)).trans a, ?_, ?_, ?_, ?_, ?_, ?_, ?_, by rw [NN]; exact t1, by rw [NN]; exact t2⟩, e2, ?_, ?_⟩
  · rw [mI_o s (by decide), mI_o s (by decide)]; exact b
  · rw [mI_o s (by decide)]; exact c
  · rw [mI_o s (by decide)]; exact d
  · rw [mI_o s (by decide)]; exact e
  · rw [mI_o s (by decide)]; exact g
  · rw [s.2.2.2.1, s.2.2.2.2]; exact i
  · exact j
  · unfold ms
    rw [mI_o s (by decide), mI_o s (by decide), mEn_o s (by decide) (by decide)]
  · rw [mI_x s, e1]
/-- laid on the pile -/
theorem mPush {x : Int32} {kd : Nat} (hs : tSh h) (p : mP h) (hx : 0 ≤ x.toInt) (hf : tIn h 142 kd (tvI (tF h 111 34))) (hf2 : tFd (tSA h 142 (tvI (tF h 111 34)).toNatClampNeg x) 111 34) : mFr h (tSF (tSA h 142 (tvI (tF h 111 34)).toNatClampNeg x) 111 34 (.int (tvI (tF h 111 34) + 1))) ∧ mP (tSF (tSA h 142 (tvI (tF h 111 34)).toNatClampNeg x) 111 34 (.int (tvI (tF h 111 34) + 1))) ∧ mSk (tSF (tSA h 142 (tvI (tF h 111 34)).toNatClampNeg x) 111 34 (.int (tvI (tF h 111 34) + 1))) = x.toNatClampNeg :: mSk h ∧ ms (tSF (tSA h 142 (tvI (tF h 111 34)).toNatClampNeg x) 111 34 (.int (tvI (tF h 111 34) + 1))) = ms h ∧ tF (tSF (tSA h 142 (tvI (tF h 111 34)).toNatClampNeg x) 111 34 (.int (tvI (tF h 111 34) + 1))) 111 32 = tF h 111 32 := by
  have hw := hw_111_34 (x := tvI (tF h 111 34) + 1) hf2 (tSh_SA hs)
  have e := mSet_of hf2 hw
  generalize tSF (tSA h 142 (tvI (tF h 111 34)).toNatClampNeg x) 111 34 (.int (tvI (tF h 111 34) + 1)) = h3 at e
  have hF : ∀ b, b ≠ 34 → tF h3 111 b = tF h 111 b := fun b hb => (mI_o e hb).trans (by rw [tF_tSA])
  have h34 : tvI (tF h3 111 34) = tvI (tF h 111 34) + 1 := mI_x e
  have hA : tA h3 = fun p q => if p = 142 ∧ q = (tvI (tF h 111 34)).toNatClampNeg then x else tA h p q := e.2.2.2.1.trans (tA_tSA hf.cell _ _)
  have hr := hf.rg
  have e0 : (tvI (tF h 111 34)).toInt = ((tvI (tF h 111 34)).toNatClampNeg : Int) := by rw [zclE]; omega
  have hl := p.2.2.2.2.2.2.2.2.2
  have e1 := zincN e0 (by omega)
  have e2 : (tvI (tF h 111 34) + 1).toNatClampNeg = (tvI (tF h 111 34)).toNatClampNeg + 1 := zof_cl e1
  have hE : ∀ p, p ≠ 142 → tA h3 p = tA h p := fun p hp => by rw [hA]; funext q; exact if_neg (fun w => hp w.1)
  obtain ⟨a, b, c, d, e9, g, i, j, t1, t2⟩ := p
  have NN : tN h3 = tN h := e.2.2.2.2.trans (tN_tSA _ _ _ _)
  refine ⟨⟨e.1, fun p q z => (e.2.2.1 p q (fun w => z ⟨w.1, by unfold mFs; omega⟩)).trans (by rw [tF_tSA]), fun p _ _ z => hE p z, NN, mLo_p (hE 133 (by decide)) (hE 134 (by decide))⟩, ⟨(hF 29 (by decide)).trans a, ?_, ?_, ?_, ?_, ?_, ?_, ?_, by rw [NN]; exact t1, by rw [NN]; exact t2⟩, ?_, ?_, hF 32 (by decide)⟩
  · rw [hF 28 (by decide), hF 27 (by decide)]; exact b
  · rw [hF 33 (by decide)]; exact c
  · rw [hF 31 (by decide)]; exact d
  · rw [h34, e1]; omega
  · rw [hF 30 (by decide)]; exact g
  · intro q hq
    rw [NN] at hq
    rw [hA]
    show 0 ≤ (if 142 = 142 ∧ q = _ then x else tA h 142 q : Int32).toInt
    by_cases z : q = (tvI (tF h 111 34)).toNatClampNeg
    · rw [if_pos ⟨rfl, z⟩]; exact hx
    · rw [if_neg (fun w => z w.2)]; exact i q hq
  · exact j
  · unfold mSk
    rw [h34, e2, List.range_succ, List.map_append, List.reverse_append, hA]
    show [(if 142 = 142 ∧ (tvI (tF h 111 34)).toNatClampNeg = (tvI (tF h 111 34)).toNatClampNeg then x else _ : Int32).toNatClampNeg] ++ _ = _
    rw [if_pos ⟨rfl, rfl⟩]
    refine congrArg (fun z => x.toNatClampNeg :: z) (congrArg List.reverse (List.map_congr_left (fun i hi => ?_)))
    have hi := List.mem_range.mp hi
    show (if 142 = 142 ∧ i = _ then x else tA h 142 i : Int32).toNatClampNeg = _
    rw [if_neg (fun z => by omega)]
  · unfold ms mEn
    rw [hF 28 (by decide), hF 33 (by decide), hF 31 (by decide), hF 30 (by decide), hE 133 (by decide), hE 134 (by decide)]
/-- told on -/
theorem mEnt {s v : Int32} {k1 k2 : Nat} {i1 i2 : Int32} (hs : tSh h) (p : mP h) (h0 : 0 ≤ s.toInt ∧ 0 ≤ v.toInt) (hi1 : i1 = 500 * tvI (tF h 111 30) + tvI (tF h 111 31)) (hi2 : i2 = 500 * tvI (tF h 111 30) + tvI (tF h 111 31)) (f1 : tIn h 133 k1 i1) (f2 : tIn (tSA h 133 i1.toNatClampNeg s) 134 k2 i2) (f3 : tFd (tSA (tSA h 133 i1.toNatClampNeg s) 134 i2.toNatClampNeg v) 111 31) : mFr h (tSF (tSA (tSA h 133 i1.toNatClampNeg s) 134 i2.toNatClampNeg v) 111 31 (.int (tvI (tF h 111 31) + 1))) ∧ mP (tSF (tSA (tSA h 133 i1.toNatClampNeg s) 134 i2.toNatClampNeg v) 111 31 (.int (tvI (tF h 111 31) + 1))) ∧ mSk (tSF (tSA (tSA h 133 i1.toNatClampNeg s) 134 i2.toNatClampNeg v) 111 31 (.int (tvI (tF h 111 31) + 1))) = mSk h ∧ ms (tSF (tSA (tSA h 133 i1.toNatClampNeg s) 134 i2.toNatClampNeg v) 111 31 (.int (tvI (tF h 111 31) + 1))) = rU (mCode s.toNatClampNeg v.toNatClampNeg) (ms h) ∧ tF (tSF (tSA (tSA h 133 i1.toNatClampNeg s) 134 i2.toNatClampNeg v) 111 31 (.int (tvI (tF h 111 31) + 1))) 111 32 = tF h 111 32 := by
  have hw := hw_111_31 (x := tvI (tF h 111 31) + 1) f3 (tSh_SA (tSh_SA hs))
  have e := mSet_of f3 hw
  have hr := f1.rg
  generalize tSF (tSA (tSA h 133 i1.toNatClampNeg s) 134 i2.toNatClampNeg v) 111 31 (.int (tvI (tF h 111 31) + 1)) = h3 at e
  have hF : ∀ b, b ≠ 31 → tF h3 111 b = tF h 111 b := fun b hb => (mI_o e hb).trans (by rw [tF_tSA, tF_tSA])
  have h31 : tvI (tF h3 111 31) = tvI (tF h 111 31) + 1 := mI_x e
  have hA : tA h3 = fun p q => if p = 134 ∧ q = i2.toNatClampNeg then v else if p = 133 ∧ q = i1.toNatClampNeg then s else tA h p q := e.2.2.2.1.trans ((tA_tSA f2.cell _ _).trans (by rw [tA_tSA f1.cell]))
  obtain ⟨a, b, c, d, e9, g, i, j, t1, t2⟩ := p
  have n1 : (500 * tvI (tF h 111 30)).toInt = 500 * (tvI (tF h 111 30)).toInt := by
    rw [Int32.toInt_mul, show (500 : Int32).toInt = 500 from rfl]
    exact Int.bmod_eq_of_le (by show (-2147483648 : Int) ≤ 500 * (tvI (tF h 111 30)).toInt; omega) (by show 500 * (tvI (tF h 111 30)).toInt < (2147483648 : Int); omega)
  have n2 : i1.toInt = 500 * (tvI (tF h 111 30)).toInt + (tvI (tF h 111 31)).toInt := by
    rw [hi1, Int32.toInt_add, n1]
    exact Int.bmod_eq_of_le (by show (-2147483648 : Int) ≤ 500 * (tvI (tF h 111 30)).toInt + (tvI (tF h 111 31)).toInt; omega) (by show 500 * (tvI (tF h 111 30)).toInt + (tvI (tF h 111 31)).toInt < (2147483648 : Int); omega)
  have n3 : i1.toNatClampNeg = 500 * (tvI (tF h 111 30)).toNatClampNeg + (tvI (tF h 111 31)).toNatClampNeg := by
    rw [zclE, zclE, zclE, n2]
    omega
  have n4 : i2 = i1 := hi2.trans hi1.symm
  have e0 : (tvI (tF h 111 31)).toInt = ((tvI (tF h 111 31)).toNatClampNeg : Int) := by rw [zclE]; omega
  have e1 := zincN e0 (by omega)
  have e2 : (tvI (tF h 111 31) + 1).toNatClampNeg = (tvI (tF h 111 31)).toNatClampNeg + 1 := zof_cl e1
  have hE : ∀ p, p ≠ 133 → p ≠ 134 → tA h3 p = tA h p := fun p hp hq => by
    rw [hA]; funext q
    show (if p = 134 ∧ q = _ then v else if p = 133 ∧ q = _ then s else tA h p q) = _
    rw [if_neg (fun w => hq w.1), if_neg (fun w => hp w.1)]
  have hS : tA h3 133 = fun q => if q = i1.toNatClampNeg then s else tA h 133 q := by
    rw [hA]; funext q
    show (if 133 = 134 ∧ q = _ then v else if 133 = 133 ∧ q = _ then s else tA h 133 q) = _
    rw [if_neg (fun w => absurd w.1 (by decide))]
    by_cases z : q = i1.toNatClampNeg
    · rw [if_pos ⟨rfl, z⟩, if_pos z]
    · rw [if_neg (fun w => z w.2), if_neg z]
  have hV : tA h3 134 = fun q => if q = i1.toNatClampNeg then v else tA h 134 q := by
    rw [hA]; funext q
    show (if 134 = 134 ∧ q = i2.toNatClampNeg then v else if 134 = 133 ∧ q = _ then s else tA h 134 q) = _
    rw [n4]
    by_cases z : q = i1.toNatClampNeg
    · rw [if_pos ⟨rfl, z⟩, if_pos z]
    · rw [if_neg (fun w => z w.2), if_neg z, if_neg (fun w => absurd w.1 (by decide))]
  have NN : tN h3 = tN h := e.2.2.2.2.trans ((tN_tSA _ _ _ _).trans (tN_tSA _ _ _ _))
  refine ⟨⟨e.1, fun p q z => (e.2.2.1 p q (fun w => z ⟨w.1, by unfold mFs; omega⟩)).trans (by rw [tF_tSA, tF_tSA]), fun p z y _ => hE p z y, NN, fun q hq => ⟨by rw [hS]; exact if_neg (by rw [n3]; omega), by rw [hV]; exact if_neg (by rw [n3]; omega)⟩⟩, ⟨(hF 29 (by decide)).trans a, ?_, ?_, ?_, ?_, ?_, ?_, ?_, by rw [NN]; exact t1, by rw [NN]; exact t2⟩, ?_, ?_, hF 32 (by decide)⟩
  · rw [hF 28 (by decide), hF 27 (by decide)]; exact b
  · rw [hF 33 (by decide)]; exact c
  · rw [h31, e1]; constructor <;> omega
  · rw [hF 34 (by decide)]; exact e9
  · rw [hF 30 (by decide)]; exact g
  · rw [hE 142 (by decide) (by decide), NN]; exact i
  · exact j
  · unfold mSk
    rw [hF 34 (by decide), hE 142 (by decide) (by decide)]
  · unfold ms rU mEn
    rw [hF 28 (by decide), hF 33 (by decide), hF 30 (by decide), h31, e2, List.range_succ, List.map_append, hS, hV]
    refine Prod.ext rfl (Prod.ext rfl ?_)
    show List.map _ _ ++ [mCode _ _] = List.map _ _ ++ [_]
    refine congr (congrArg HAppend.hAppend (List.map_congr_left (fun i hi => ?_))) ?_
    · have hi := List.mem_range.mp hi
      dsimp only
      rw [if_neg (by rw [n3]; omega), if_neg (by rw [n3]; omega)]
    · show [mCode (if _ = i1.toNatClampNeg then s else _ : Int32).toNatClampNeg (if _ = i1.toNatClampNeg then v else _ : Int32).toNatClampNeg] = _
      rw [if_pos n3.symm, if_pos n3.symm]
/-- a whole step's frame -/
noncomputable def mFq (h h2 : zH) : Prop := tSh h2 ∧ (∀ p b, ¬ (p = 111 ∧ (mFs b ∨ b = 46)) → tF h2 p b = tF h p b) ∧ (∀ p, p ≠ 133 → p ≠ 134 → p ≠ 142 → tA h2 p = tA h p) ∧ tN h2 = tN h ∧ mLo h h2
theorem mFq_f (k : mFr h h2) : mFq h h2 := ⟨k.1, fun p b z => k.2.1 p b (fun w => z ⟨w.1, Or.inl w.2⟩), k.2.2.1, k.2.2.2⟩
theorem mFq_t (a : mFq h h1) (k : mFq h1 h2) : mFq h h2 := ⟨k.1, fun p q z => (k.2.1 p q z).trans (a.2.1 p q z), fun p z w y => (k.2.2.1 p z w y).trans (a.2.2.1 p z w y), k.2.2.2.1.trans a.2.2.2.1, mLo_t (a.2.1 111 30 (fun z => by have z := z.2; unfold mFs at z; omega)) a.2.2.2.2 k.2.2.2.2⟩
theorem mFq_s (a : mFq h h1) (k : mSet b X h1 h2) (hb : mFs b ∨ b = 46) : mFq h h2 := ⟨k.1, fun p q z => (k.2.2.1 p q (fun w => z ⟨w.1, w.2.symm ▸ hb⟩)).trans (a.2.1 p q z), fun p z w y => (congrFun k.2.2.2.1 p).trans (a.2.2.1 p z w y), k.2.2.2.2.trans a.2.2.2.1, mLo_A k.2.2.2.1 a.2.2.2.2⟩
theorem mFq_T (a : mFq h h1) : tA h1 132 = tA h 132 := a.2.2.1 132 (by decide) (by decide) (by decide)
theorem mFq_n (a : mFq h h1) : mn h1 = mn h := by
  unfold mn
  rw [a.2.1 111 27 (fun z => by have z := z.2; unfold mFs at z; omega)]
noncomputable def mFw (h h2 : zH) : Prop := tSh h2 ∧ (∀ p b, ¬ (p = 111 ∧ (mFs b ∨ b = 46 ∨ b = 47)) → tF h2 p b = tF h p b) ∧ (∀ p, p ≠ 133 → p ≠ 134 → p ≠ 142 → tA h2 p = tA h p) ∧ tN h2 = tN h ∧ mLo h h2
theorem mFw_q (k : mFq h h2) : mFw h h2 := ⟨k.1, fun p b z => k.2.1 p b (fun w => z ⟨w.1, w.2.elim Or.inl (fun y => Or.inr (Or.inl y))⟩), k.2.2.1, k.2.2.2⟩
theorem mFw_t (a : mFw h h1) (k : mFw h1 h2) : mFw h h2 := ⟨k.1, fun p q z => (k.2.1 p q z).trans (a.2.1 p q z), fun p z w y => (k.2.2.1 p z w y).trans (a.2.2.1 p z w y), k.2.2.2.1.trans a.2.2.2.1, mLo_t (a.2.1 111 30 (fun z => by have z := z.2; unfold mFs at z; omega)) a.2.2.2.2 k.2.2.2.2⟩
theorem mFw_s (a : mFw h h1) (k : mSet b X h1 h2) (hb : mFs b ∨ b = 46 ∨ b = 47) : mFw h h2 := ⟨k.1, fun p q z => (k.2.2.1 p q (fun w => z ⟨w.1, w.2.symm ▸ hb⟩)).trans (a.2.1 p q z), fun p z w y => (congrFun k.2.2.2.1 p).trans (a.2.2.1 p z w y), k.2.2.2.2.trans a.2.2.2.1, mLo_A k.2.2.2.1 a.2.2.2.2⟩
theorem mFw_T (a : mFw h h1) : tA h1 132 = tA h 132 := a.2.2.1 132 (by decide) (by decide) (by decide)
theorem mFw_i {q : Nat} (a : mFw h h1) (hq : ¬ (mFs q ∨ q = 46 ∨ q = 47)) : tF h1 111 q = tF h 111 q := a.2.1 111 q (fun z => hq z.2)
theorem mFq_47 (a : mFq h h1) : tF h1 111 47 = tF h 111 47 := a.2.1 111 47 (fun z => by have z := z.2; unfold mFs at z; omega)
theorem mFw_27 (a : mFw h h1) : tF h1 111 27 = tF h 111 27 := mFw_i a (fun z => by unfold mFs at z; omega)
theorem mFw_n (a : mFw h h1) : mn h1 = mn h := by
  unfold mn
  rw [mFw_27 a]
noncomputable def stN (x : Int32) : Nat := if x.toInt < 0 then 99 else x.toInt.toNat
noncomputable def mst (h : zH) : rMs := (stN (tvI (tF h 111 46)), mSk h, ms h)
end MF
/-- a byte, or -1 behind the end -/
noncomputable def sgm (T : Nat → Int32) (n p : Nat) (c : Int32) : Prop := (p < n ∧ c = T p) ∨ (¬ p < n ∧ c = -1)
theorem sgm_k {T : Nat → Int32} {n p : Nat} {c : Int32} (s : sgm T n p c) (k : Int32) (hk : 0 ≤ k.toInt) : c = k ↔ p < n ∧ T p = k := by
  rcases s with ⟨a, rfl⟩ | ⟨a, rfl⟩
  · exact ⟨fun z => ⟨a, z⟩, fun z => z.2⟩
  · exact ⟨fun z => by rw [← z] at hk; exact absurd hk (by decide), fun z => absurd z.1 a⟩
theorem sgm_d {T : Nat → Int32} {n p : Nat} {c : Int32} (s : sgm T n p c) : (48 ≤ c.toInt ∧ c.toInt ≤ 57) ↔ (p < n ∧ 48 ≤ (T p).toInt ∧ (T p).toInt ≤ 57) := by
  rcases s with ⟨a, rfl⟩ | ⟨a, rfl⟩
  · exact ⟨fun z => ⟨a, z⟩, fun z => z.2⟩
  · have : ((-1 : Int32)).toInt = -1 := by decide
    exact ⟨fun z => by omega, fun z => absurd z.1 a⟩
theorem mpos {h : zH} (hf : 0 ≤ (tvI (tF h 111 28)).toInt ∧ 0 ≤ (tvI (tF h 111 27)).toInt) : ((tvI (tF h 111 28)).toInt < (tvI (tF h 111 27)).toInt) ↔ (ms h).1 < mn h := by
  show _ ↔ (tvI (tF h 111 28)).toNatClampNeg < (tvI (tF h 111 27)).toNatClampNeg
  rw [zclE, zclE]
  omega
theorem g_sign {G : zG} (hG : G.1 = zProg) (hX : G.2.1 = ztx) {h : zH} {T : Nat → Int32} {n : Nat} (hs : tSh h) (hT : tA h 132 = T) (hN : mn h = n) (h0 : 0 ≤ (tvI (tF h 111 28)).toInt ∧ 0 ≤ (tvI (tF h 111 27)).toInt) : tC zTt G 202 [.ref 111] h (fun w h2 => (∃ c, w = some (.int c) ∧ sgm T n (ms h).1 c) ∧ h = h2) := by
  refine tC_in (by rw [hG]; rfl) (fun dp => ?_)
  have g0 := mFr_r hs
  refine tw_aload rfl rfl ?_
  refine tw_getS rfl (hi_111_28 hs) ?_
  refine tw_aload rfl rfl ?_
  refine tw_getS rfl (hi_111_27 hs) ?_
  refine tw_ic_ge rfl (fun q409 => ?_) (fun q409 => ?_)
  · try dsimp only [tvI_i, tvJ_j, tvR_r] at q409
    refine tw_push rfl ?_
    exact tw_iret rfl ⟨⟨_, rfl, Or.inr ⟨fun z => absurd ((mpos h0).mpr (by rw [hN]; exact z)) (Int.not_lt.mpr q409), rfl⟩⟩, rfl⟩
  · try dsimp only [tvI_i, tvJ_j, tvR_r] at q409
    refine tw_aload rfl rfl ?_
    refine tw_getS rfl (hs_111_35 hs) ?_
    refine tw_aload rfl rfl ?_
    refine tw_getS rfl (hi_111_28 hs) ?_
    refine tw_bald rfl (fun f410 => ?_)
    refine tw_goto rfl ?_
    exact tw_iret rfl ⟨⟨_, rfl, Or.inl ⟨by rw [← hN]; exact (mpos h0).mp q409, congrFun hT _⟩⟩, rfl⟩
theorem g_isDigit {G : zG} (hG : G.1 = zProg) {h : zH} {c : Int32} : tC zTt G 204 [.int c] h (fun w h2 => tBo (48 ≤ c.toInt ∧ c.toInt ≤ 57) w ∧ h = h2) := by
  refine tC_in (by rw [hG]; rfl) (fun dp => ?_)
  refine tw_iload rfl rfl ?_
  refine tw_push rfl ?_
  refine tw_ic_lt rfl (fun q411 => ?_) (fun q411 => ?_)
  · try dsimp only [tvI_i, tvJ_j, tvR_r] at q411
    refine tw_push rfl ?_
    have c489 : (48 : Int32).toInt = 48 := rfl
    have c579 : (57 : Int32).toInt = 57 := rfl
    exact tw_iret rfl ⟨Or.inr ⟨by omega, rfl⟩, rfl⟩
  · try dsimp only [tvI_i, tvJ_j, tvR_r] at q411
    refine tw_iload rfl rfl ?_
    refine tw_push rfl ?_
    refine tw_ic_gt rfl (fun q412 => ?_) (fun q412 => ?_)
    · try dsimp only [tvI_i, tvJ_j, tvR_r] at q412
      refine tw_push rfl ?_
      have c489 : (48 : Int32).toInt = 48 := rfl
      have c579 : (57 : Int32).toInt = 57 := rfl
      exact tw_iret rfl ⟨Or.inr ⟨by omega, rfl⟩, rfl⟩
    · try dsimp only [tvI_i, tvJ_j, tvR_r] at q412
      refine tw_push rfl ?_
      refine tw_goto rfl ?_
      have c489 : (48 : Int32).toInt = 48 := rfl
      have c579 : (57 : Int32).toInt = 57 := rfl
      exact tw_iret rfl ⟨Or.inl ⟨by omega, rfl⟩, rfl⟩
theorem g_blanks {G : zG} (hG : G.1 = zProg) (hX : G.2.1 = ztx) {h : zH} {T : Nat → Int32} {n : Nat} (hs : tSh h) (hp : mP h) (hT : tA h 132 = T) (hN : mn h = n)  : tC zTt G 203 [.ref 111] h (fun w h2 => w = none ∧ mFr h h2 ∧ mP h2 ∧ ms h2 = rA (rB T n (ms h).1) (ms h) ∧ mSk h2 = mSk h ∧ tF h2 111 32 = tF h 111 32) := by
  refine tC_in (by rw [hG]; rfl) (fun dp => ?_)
  have g0 := mFr_r hs
  have hpn : (ms h).1 ≤ n := mPle hp hN
  refine tG_loop (zW_mono zTt G dp) (zW_conj zTt G dp) (V := fun pc L st h9 _ _ => pc = 0 ∧ st = [] ∧ ∃ h1, h1 = h9 ∧ mFr h h1 ∧ mP h1 ∧ (ms h1).2 = (ms h).2 ∧ mSk h1 = mSk h ∧ tF h1 111 32 = tF h 111 32 ∧ rB T n (ms h1).1 = rB T n (ms h).1 ∧ L = [some (.ref 111)]) ?_ (⟨rfl, rfl, _, rfl, g0, hp, rfl, rfl, rfl, rfl, rfl⟩)
  rintro _ _ _ _ _ _ ⟨rfl, rfl, h1, rfl, g1, p1, e1, e2, e3, e4, rfl⟩
  refine tw_aload rfl rfl ?_
  refine tw_virt0 rfl (g_sign hG hX (g1).1 ((mFr_T g1).trans hT) ((mFr_n g1).trans hN) ⟨p1.2.1.1, by have := p1.2.1; omega⟩) (fun wp413 hp413 p413 => ?_)
  obtain ⟨⟨cp413, rfl, kp413⟩, rfl⟩ := p413
  refine tw_push rfl ?_
  refine tw_ic_ne rfl (fun q414 => ?_) (fun q414 => ?_)
  · try dsimp only [tvI_i, tvJ_j, tvR_r] at q414
    have q414i := zneq (Y := 32) (by decide) q414
    have hb : (ms h1).1 = rB T n (ms h).1 := by rw [← e4, rB_n (fun z => q414 ((sgm_k kp413 32 (by decide)).mpr z))]
    exact tw_vret rfl ⟨rfl, g1, p1, Prod.ext hb e1, e2, e3⟩
  · try dsimp only [tvI_i, tvJ_j, tvR_r] at q414
    have q414i := zeqi (Y := 32) (by decide) q414
    refine tw_aload rfl rfl ?_
    refine tw_dup rfl ?_
    refine tw_getS rfl (hi_111_28 (g1).1) ?_
    refine tw_push rfl ?_
    refine tw_iadd rfl ?_
    refine tw_put rfl (fun f415 => ?_)
    refine tG_setm f415 (hw_111_28 f415 (g1).1) (fun hf415 ef415 => ?_)
    try dsimp only [tvI_i] at ef415
    have gf415 := mFr_s g1 ef415 (by unfold mFs; omega)
    have wf415 := (sgm_k kp413 32 (by decide)).mp q414
    obtain ⟨pf415, sf415, tf415⟩ := mTo p1 ((mFr_n g1).trans hN) ef415 (v := (ms h1).1 + 1) (zincN (mPl p1) (by have := mPle p1 ((mFr_n g1).trans hN); have := p1.2.1; have := mNl p1 ((mFr_n g1).trans hN); omega)) wf415.1
    refine tw_goto rfl ?_
    exact tG_cut (zW_mono zTt G dp) (Or.inr ⟨rfl, rfl, _, rfl, gf415, pf415, (by rw [sf415]; exact e1), tf415.trans e2, (mI_o ef415 (by decide)).trans e3, (by rw [sf415]; exact (rB_y wf415).symm.trans e4), rfl⟩)
theorem z_blanks {G : zG} (hG : G.1 = zProg) (hX : G.2.1 = ztx) {h : zH} {T : Nat → Int32} {n : Nat} (hs : tSh h) {ef : Nat} (hp : mFt h ef) (hT : tA h 132 = T) (hN : mn h = n) (h0 : 0 ≤ (tvI (tF h 111 28)).toInt ∧ 0 ≤ (tvI (tF h 111 27)).toInt) : tC zTt G 203 [.ref 111] h (fun w h2 => w = none ∧ mFr h h2 ∧ mFt h2 ef ∧ (0 ≤ (tvI (tF h2 111 28)).toInt ∧ 0 ≤ (tvI (tF h2 111 27)).toInt)) := by
  refine tC_in (by rw [hG]; rfl) (fun dp => ?_)
  have g0 := mFr_r hs
  refine tG_loop (zW_mono zTt G dp) (zW_conj zTt G dp) (V := fun pc L st h9 _ _ => pc = 0 ∧ st = [] ∧ ∃ h1, h1 = h9 ∧ mFr h h1 ∧ mFt h1 ef ∧ (0 ≤ (tvI (tF h1 111 28)).toInt ∧ 0 ≤ (tvI (tF h1 111 27)).toInt) ∧ L = [some (.ref 111)]) ?_ (⟨rfl, rfl, _, rfl, g0, hp, h0, rfl⟩)
  rintro _ _ _ _ _ _ ⟨rfl, rfl, h1, rfl, g1, z1, h0, rfl⟩
  refine tw_aload rfl rfl ?_
  refine tw_virt0 rfl (g_sign hG hX (g1).1 ((mFr_T g1).trans hT) ((mFr_n g1).trans hN) h0) (fun wp416 hp416 p416 => ?_)
  obtain ⟨⟨cp416, rfl, kp416⟩, rfl⟩ := p416
  refine tw_push rfl ?_
  refine tw_ic_ne rfl (fun q417 => ?_) (fun q417 => ?_)
  · try dsimp only [tvI_i, tvJ_j, tvR_r] at q417
    have q417i := zneq (Y := 32) (by decide) q417
    exact tw_vret rfl ⟨rfl, g1, z1, h0⟩
  · try dsimp only [tvI_i, tvJ_j, tvR_r] at q417
    have q417i := zeqi (Y := 32) (by decide) q417
    refine tw_aload rfl rfl ?_
    refine tw_dup rfl ?_
    refine tw_getS rfl (hi_111_28 (g1).1) ?_
    refine tw_push rfl ?_
    refine tw_iadd rfl ?_
    refine tw_put rfl (fun f418 => ?_)
    refine tG_setm f418 (hw_111_28 f418 (g1).1) (fun hf418 ef418 => ?_)
    try dsimp only [tvI_i] at ef418
    have gf418 := mFr_s g1 ef418 (by unfold mFs; omega)
    have zf418 := mFt_s z1 ef418 (by decide)
    have wf418 := (sgm_k kp416 32 (by decide)).mp q417
    have if418 : 0 ≤ (tvI (tF hf418 111 28)).toInt ∧ 0 ≤ (tvI (tF hf418 111 27)).toInt := by rw [mI_x ef418, mI_o ef418 (by decide)]; have y := (mpos h0).mpr (by rw [((mFr_n g1).trans hN)]; exact wf418.1); exact ⟨by rw [zj1 h0.1 y]; omega, h0.2⟩
    refine tw_goto rfl ?_
    exact tG_cut (zW_mono zTt G dp) (Or.inr ⟨rfl, rfl, _, rfl, gf418, zf418, if418, rfl⟩)
theorem g_fails {G : zG} (hG : G.1 = zProg) (hX : G.2.1 = ztx) {h : zH} {T : Nat → Int32} {n : Nat} (hs : tSh h) (hp : mP h) (hT : tA h 132 = T) (hN : mn h = n) {y a : Int32} {w b : Nat} (hw : y.toInt = w) (hw7 : w ≤ 7) (hb : a.toInt = b) (hb4 : b ≤ 400) : tC zTt G 201 [.ref 111, .int y, .int a] h (fun w9 h2 => w9 = none ∧ mFr h h2 ∧ mFt h2 (1 + 8 * b + w) ∧ tF h2 111 28 = tF h 111 28 ∧ tF h2 111 27 = tF h 111 27) := by
  refine tC_in (by rw [hG]; rfl) (fun dp => ?_)
  have g0 := mFr_r hs
  have hpn : (ms h).1 ≤ n := mPle hp hN
  refine tw_aload rfl rfl ?_
  refine tw_aload rfl rfl ?_
  refine tw_getS rfl (hi_111_29 hs) ?_
  refine tw_if_ne rfl (fun q419 => ?_) (fun q419 => ?_)
  · try dsimp only [tvI_i, tvJ_j, tvR_r] at q419
    have q419i := zneq (Y := 0) (by decide) q419
    refine tw_aload rfl rfl ?_
    refine tw_getS rfl (hi_111_29 hs) ?_
    refine tw_put rfl (fun f420 => ?_)
    refine tG_setm f420 (hw_111_29 f420 (g0).1) (fun hf420 ef420 => ?_)
    try dsimp only [tvI_i] at ef420
    have gf420 := mFr_s g0 ef420 (by unfold mFs; omega)
    exact absurd (mP_0 hp) q419
  · try dsimp only [tvI_i, tvJ_j, tvR_r] at q419
    have q419i := zeqi (Y := 0) (by decide) q419
    refine tw_push rfl ?_
    refine tw_push rfl ?_
    refine tw_iload rfl rfl ?_
    refine tw_imul rfl ?_
    refine tw_iadd rfl ?_
    refine tw_iload rfl rfl ?_
    refine tw_iadd rfl ?_
    refine tw_goto rfl ?_
    refine tw_put rfl (fun f421 => ?_)
    refine tG_setm f421 (hw_111_29 f421 (g0).1) (fun hf421 ef421 => ?_)
    try dsimp only [tvI_i] at ef421
    have gf421 := mFr_s g0 ef421 (by unfold mFs; omega)
    exact tw_vret rfl ⟨rfl, gf421, mFt_of ef421 hb hb4 hw hw7, mI_o ef421 (by decide), mI_o ef421 (by decide)⟩
theorem z_fails {G : zG} (hG : G.1 = zProg) (hX : G.2.1 = ztx) {h : zH} {T : Nat → Int32} {n : Nat} (hs : tSh h) {ef : Nat} (hp : mFt h ef) (hT : tA h 132 = T) (hN : mn h = n) {y a : Int32} : tC zTt G 201 [.ref 111, .int y, .int a] h (fun w9 h2 => w9 = none ∧ mFr h h2 ∧ mFt h2 ef ∧ tF h2 111 28 = tF h 111 28 ∧ tF h2 111 27 = tF h 111 27) := by
  refine tC_in (by rw [hG]; rfl) (fun dp => ?_)
  have g0 := mFr_r hs
  refine tw_aload rfl rfl ?_
  refine tw_aload rfl rfl ?_
  refine tw_getS rfl (hi_111_29 hs) ?_
  refine tw_if_ne rfl (fun q422 => ?_) (fun q422 => ?_)
  · try dsimp only [tvI_i, tvJ_j, tvR_r] at q422
    have q422i := zneq (Y := 0) (by decide) q422
    refine tw_aload rfl rfl ?_
    refine tw_getS rfl (hi_111_29 hs) ?_
    refine tw_put rfl (fun f423 => ?_)
    refine tG_setm f423 (hw_111_29 f423 (g0).1) (fun hf423 ef423 => ?_)
    try dsimp only [tvI_i] at ef423
    have gf423 := mFr_s g0 ef423 (by unfold mFs; omega)
    have hz : mFt hf423 ef := ⟨ef423.2.1.trans ((hi_111_29 hs).symm.trans hp.1), hp.2⟩
    exact tw_vret rfl ⟨rfl, gf423, hz, mI_o ef423 (by decide), mI_o ef423 (by decide)⟩
  · try dsimp only [tvI_i, tvJ_j, tvR_r] at q422
    have q422i := zeqi (Y := 0) (by decide) q422
    refine tw_push rfl ?_
    refine tw_push rfl ?_
    refine tw_iload rfl rfl ?_
    refine tw_imul rfl ?_
    refine tw_iadd rfl ?_
    refine tw_iload rfl rfl ?_
    refine tw_iadd rfl ?_
    refine tw_goto rfl ?_
    refine tw_put rfl (fun f424 => ?_)
    refine tG_setm f424 (hw_111_29 f424 (g0).1) (fun hf424 ef424 => ?_)
    try dsimp only [tvI_i] at ef424
    have gf424 := mFr_s g0 ef424 (by unfold mFs; omega)
    exact absurd q422 (mFt_n hp)
theorem mpos_k {h h2 : zH} (h0 : 0 ≤ (tvI (tF h 111 28)).toInt ∧ 0 ≤ (tvI (tF h 111 27)).toInt) (a : tF h2 111 28 = tF h 111 28) (b : tF h2 111 27 = tF h 111 27) : 0 ≤ (tvI (tF h2 111 28)).toInt ∧ 0 ≤ (tvI (tF h2 111 27)).toInt := by rw [a, b]; exact h0
theorem mpos_p {h : zH} (p : mP h) : 0 ≤ (tvI (tF h 111 28)).toInt ∧ 0 ≤ (tvI (tF h 111 27)).toInt := by have := p.2.1; exact ⟨by omega, by omega⟩
theorem m80 {h : zH} (p : mP h) (q : tvI (tF h 111 33) = 80) : (ms h).2.1 = 80 := by
  have e := mCl p
  rw [q] at e
  have : (80 : Int32).toInt = 80 := rfl
  omega
theorem mn80 {h : zH} (p : mP h) (q : ¬ tvI (tF h 111 33) = 80) : (ms h).2.1 ≠ 80 := by
  intro z
  have e := mCl p
  refine q (Int32.toInt_inj.mp ?_)
  have : (80 : Int32).toInt = 80 := rfl
  omega
theorem g_entry {G : zG} (hG : G.1 = zProg) (hX : G.2.1 = ztx) {h : zH} {T : Nat → Int32} {n : Nat} (hs : tSh h) (hp : mP h) (hT : tA h 132 = T) (hN : mn h = n) {s v : Int32} (hv : 0 ≤ s.toInt ∧ 0 ≤ v.toInt) : tC zTt G 206 [.ref 111, .int s, .int v] h (fun w h2 => w = none ∧ mFr h h2 ∧ mP h2 ∧ ms h2 = rU (mCode s.toNatClampNeg v.toNatClampNeg) (ms h) ∧ mSk h2 = mSk h ∧ tF h2 111 32 = tF h 111 32) := by
  refine tC_in (by rw [hG]; rfl) (fun dp => ?_)
  have g0 := mFr_r hs
  have hpn : (ms h).1 ≤ n := mPle hp hN
  refine tw_aload rfl rfl ?_
  refine tw_getS rfl (hi_111_29 hs) ?_
  refine tw_if_ne rfl (fun q425 => ?_) (fun q425 => ?_)
  · try dsimp only [tvI_i, tvJ_j, tvR_r] at q425
    have q425i := zneq (Y := 0) (by decide) q425
    exact absurd (mP_0 hp) q425
  · try dsimp only [tvI_i, tvJ_j, tvR_r] at q425
    have q425i := zeqi (Y := 0) (by decide) q425
    refine tw_aload rfl rfl ?_
    refine tw_getS rfl (hs_111_36 hs) ?_
    refine tw_push rfl ?_
    refine tw_aload rfl rfl ?_
    refine tw_getS rfl (hi_111_30 hs) ?_
    refine tw_imul rfl ?_
    refine tw_aload rfl rfl ?_
    refine tw_getS rfl (hi_111_31 hs) ?_
    refine tw_iadd rfl ?_
    refine tw_iload rfl rfl ?_
    refine tw_iast rfl (fun f426 => ?_)
    refine tw_aload rfl rfl ?_
    refine tw_getS rfl (hs_111_37 (tSh_SA hs)) ?_
    refine tw_push rfl ?_
    refine tw_aload rfl rfl ?_
    refine tw_getS rfl (tF_a (hi_111_30 hs)) ?_
    refine tw_imul rfl ?_
    refine tw_aload rfl rfl ?_
    refine tw_getS rfl (tF_a (hi_111_31 hs)) ?_
    refine tw_iadd rfl ?_
    refine tw_iload rfl rfl ?_
    refine tw_iast rfl (fun f427 => ?_)
    refine tw_aload rfl rfl ?_
    refine tw_dup rfl ?_
    refine tw_getS rfl (tF_a (tF_a (hi_111_31 hs))) ?_
    refine tw_push rfl ?_
    refine tw_iadd rfl ?_
    refine tw_put rfl (fun f428 => ?_)
    have K := mEnt (s := s) (v := v) hs hp hv rfl rfl f426 f427 f428
    exact tw_vret rfl ⟨rfl, K.1, K.2.1, K.2.2.2.1, K.2.2.1, K.2.2.2.2⟩
theorem z_entry {G : zG} (hG : G.1 = zProg) (hX : G.2.1 = ztx) {h : zH} {T : Nat → Int32} {n : Nat} (hs : tSh h) {ef : Nat} (hp : mFt h ef) (hT : tA h 132 = T) (hN : mn h = n) {s v : Int32} : tC zTt G 206 [.ref 111, .int s, .int v] h (fun w h2 => w = none ∧ h2 = h) := by
  refine tC_in (by rw [hG]; rfl) (fun dp => ?_)
  have g0 := mFr_r hs
  refine tw_aload rfl rfl ?_
  refine tw_getS rfl (hi_111_29 hs) ?_
  refine tw_if_ne rfl (fun q429 => ?_) (fun q429 => ?_)
  · try dsimp only [tvI_i, tvJ_j, tvR_r] at q429
    have q429i := zneq (Y := 0) (by decide) q429
    exact tw_vret rfl ⟨rfl, rfl⟩
  · try dsimp only [tvI_i, tvJ_j, tvR_r] at q429
    have q429i := zeqi (Y := 0) (by decide) q429
    refine tw_aload rfl rfl ?_
    refine tw_getS rfl (hs_111_36 hs) ?_
    refine tw_push rfl ?_
    refine tw_aload rfl rfl ?_
    refine tw_getS rfl (hi_111_30 hs) ?_
    refine tw_imul rfl ?_
    refine tw_aload rfl rfl ?_
    refine tw_getS rfl (hi_111_31 hs) ?_
    refine tw_iadd rfl ?_
    refine tw_iload rfl rfl ?_
    refine tw_iast rfl (fun f430 => ?_)
    refine tw_aload rfl rfl ?_
    refine tw_getS rfl (hs_111_37 (tSh_SA hs)) ?_
    refine tw_push rfl ?_
    refine tw_aload rfl rfl ?_
    refine tw_getS rfl (tF_a (hi_111_30 hs)) ?_
    refine tw_imul rfl ?_
    refine tw_aload rfl rfl ?_
    refine tw_getS rfl (tF_a (hi_111_31 hs)) ?_
    refine tw_iadd rfl ?_
    refine tw_iload rfl rfl ?_
    refine tw_iast rfl (fun f431 => ?_)
    refine tw_aload rfl rfl ?_
    refine tw_dup rfl ?_
    refine tw_getS rfl (tF_a (tF_a (hi_111_31 hs))) ?_
    refine tw_push rfl ?_
    refine tw_iadd rfl ?_
    refine tw_put rfl (fun f432 => ?_)
    exact absurd q429 (mFt_n hp)
theorem g_counts {G : zG} (hG : G.1 = zProg) (hX : G.2.1 = ztx) {h : zH} {T : Nat → Int32} {n : Nat} (hs : tSh h) (hp : mP h) (hT : tA h 132 = T) (hN : mn h = n) {a : Int32} {b : Nat} (hb : a.toInt = b) (hb4 : b ≤ 400) : tC zTt G 207 [.ref 111, .int a] h (fun w h2 => w = none ∧ mFr h h2 ∧ (((ms h).2.1 ≠ 80 ∧ mP h2 ∧ ms h2 = ((ms h).1, (ms h).2.1 + 1, (ms h).2.2) ∧ mSk h2 = mSk h ∧ tF h2 111 32 = tF h 111 32) ∨ ((ms h).2.1 = 80 ∧ mFt h2 (1 + 8 * b + 3))) ∧ tF h2 111 28 = tF h 111 28 ∧ tF h2 111 27 = tF h 111 27) := by
  refine tC_in (by rw [hG]; rfl) (fun dp => ?_)
  have g0 := mFr_r hs
  have hpn : (ms h).1 ≤ n := mPle hp hN
  refine tw_aload rfl rfl ?_
  refine tw_getS rfl (hi_111_33 hs) ?_
  refine tw_push rfl ?_
  refine tw_ic_ne rfl (fun q433 => ?_) (fun q433 => ?_)
  · try dsimp only [tvI_i, tvJ_j, tvR_r] at q433
    have q433i := zneq (Y := 80) (by decide) q433
    refine tw_aload rfl rfl ?_
    refine tw_dup rfl ?_
    refine tw_getS rfl (hi_111_33 hs) ?_
    refine tw_push rfl ?_
    refine tw_iadd rfl ?_
    refine tw_put rfl (fun f434 => ?_)
    refine tG_setm f434 (hw_111_33 f434 (g0).1) (fun hf434 ef434 => ?_)
    try dsimp only [tvI_i] at ef434
    have gf434 := mFr_s g0 ef434 (by unfold mFs; omega)
    obtain ⟨pf434, sf434, tf434⟩ := mCnt hp (mn80 hp q433) ef434
    exact tw_vret rfl ⟨rfl, gf434, Or.inl ⟨mn80 hp q433, pf434, sf434, tf434, mI_o ef434 (by decide)⟩, mI_o ef434 (by decide), mI_o ef434 (by decide)⟩
  · try dsimp only [tvI_i, tvJ_j, tvR_r] at q433
    have q433i := zeqi (Y := 80) (by decide) q433
    refine tw_aload rfl rfl ?_
    refine tw_push rfl ?_
    refine tw_iload rfl rfl ?_
    refine tw_virt2 rfl (g_fails hG hX (g0).1 hp ((mFr_T g0).trans hT) ((mFr_n g0).trans hN) (w := 3) (b := b) rfl (by decide) hb hb4) (fun wp435 hp435 p435 => ?_)
    obtain ⟨rfl, gp435, Fp435, ip435, jp435⟩ := p435
    have ggp435 := mFr_t g0 gp435
    refine tw_aload rfl rfl ?_
    refine tw_dup rfl ?_
    refine tw_getS rfl (hi_111_33 ggp435.1) ?_
    refine tw_push rfl ?_
    refine tw_iadd rfl ?_
    refine tw_put rfl (fun f436 => ?_)
    refine tG_setm f436 (hw_111_33 f436 (ggp435).1) (fun hf436 ef436 => ?_)
    try dsimp only [tvI_i] at ef436
    have gf436 := mFr_s ggp435 ef436 (by unfold mFs; omega)
    have zf436 := mFt_s Fp435 ef436 (by decide)
    exact tw_vret rfl ⟨rfl, gf436, Or.inr ⟨m80 hp q433, zf436⟩, (mI_o ef436 (by decide)).trans ip435, (mI_o ef436 (by decide)).trans jp435⟩
theorem z_counts {G : zG} (hG : G.1 = zProg) (hX : G.2.1 = ztx) {h : zH} {T : Nat → Int32} {n : Nat} (hs : tSh h) {ef : Nat} (hp : mFt h ef) (hT : tA h 132 = T) (hN : mn h = n) {a : Int32} : tC zTt G 207 [.ref 111, .int a] h (fun w h2 => w = none ∧ mFr h h2 ∧ mFt h2 ef ∧ tF h2 111 28 = tF h 111 28 ∧ tF h2 111 27 = tF h 111 27) := by
  refine tC_in (by rw [hG]; rfl) (fun dp => ?_)
  have g0 := mFr_r hs
  refine tw_aload rfl rfl ?_
  refine tw_getS rfl (hi_111_33 hs) ?_
  refine tw_push rfl ?_
  refine tw_ic_ne rfl (fun q437 => ?_) (fun q437 => ?_)
  · try dsimp only [tvI_i, tvJ_j, tvR_r] at q437
    have q437i := zneq (Y := 80) (by decide) q437
    refine tw_aload rfl rfl ?_
    refine tw_dup rfl ?_
    refine tw_getS rfl (hi_111_33 hs) ?_
    refine tw_push rfl ?_
    refine tw_iadd rfl ?_
    refine tw_put rfl (fun f438 => ?_)
    refine tG_setm f438 (hw_111_33 f438 (g0).1) (fun hf438 ef438 => ?_)
    try dsimp only [tvI_i] at ef438
    have gf438 := mFr_s g0 ef438 (by unfold mFs; omega)
    have zf438 := mFt_s hp ef438 (by decide)
    exact tw_vret rfl ⟨rfl, gf438, zf438, mI_o ef438 (by decide), mI_o ef438 (by decide)⟩
  · try dsimp only [tvI_i, tvJ_j, tvR_r] at q437
    have q437i := zeqi (Y := 80) (by decide) q437
    refine tw_aload rfl rfl ?_
    refine tw_push rfl ?_
    refine tw_iload rfl rfl ?_
    refine tw_virt2 rfl (z_fails hG hX (g0).1 hp ((mFr_T g0).trans hT) ((mFr_n g0).trans hN)) (fun wp439 hp439 p439 => ?_)
    obtain ⟨rfl, gp439, Fp439, ip439, jp439⟩ := p439
    have ggp439 := mFr_t g0 gp439
    refine tw_aload rfl rfl ?_
    refine tw_dup rfl ?_
    refine tw_getS rfl (hi_111_33 ggp439.1) ?_
    refine tw_push rfl ?_
    refine tw_iadd rfl ?_
    refine tw_put rfl (fun f440 => ?_)
    refine tG_setm f440 (hw_111_33 f440 (ggp439).1) (fun hf440 ef440 => ?_)
    try dsimp only [tvI_i] at ef440
    have gf440 := mFr_s ggp439 ef440 (by unfold mFs; omega)
    have zf440 := mFt_s Fp439 ef440 (by decide)
    exact tw_vret rfl ⟨rfl, gf440, zf440, (mI_o ef440 (by decide)).trans ip439, (mI_o ef440 (by decide)).trans jp439⟩
theorem g_opens {G : zG} (hG : G.1 = zProg) (hX : G.2.1 = ztx) {h : zH} {T : Nat → Int32} {n : Nat} (hs : tSh h) (hp : mP h) (hT : tA h 132 = T) (hN : mn h = n) {x : Int32} (hx0 : 0 ≤ x.toInt) : tC zTt G 208 [.ref 111, .int x] h (fun w h2 => w = none ∧ mFr h h2 ∧ mP h2 ∧ mSk h2 = x.toNatClampNeg :: mSk h ∧ ms h2 = ms h ∧ tF h2 111 32 = tF h 111 32) := by
  refine tC_in (by rw [hG]; rfl) (fun dp => ?_)
  have g0 := mFr_r hs
  have hpn : (ms h).1 ≤ n := mPle hp hN
  refine tw_aload rfl rfl ?_
  refine tw_getS rfl (hs_111_45 hs) ?_
  refine tw_aload rfl rfl ?_
  refine tw_getS rfl (hi_111_34 hs) ?_
  refine tw_iload rfl rfl ?_
  refine tw_iast rfl (fun f441 => ?_)
  refine tw_aload rfl rfl ?_
  refine tw_dup rfl ?_
  refine tw_getS rfl (tF_a (hi_111_34 hs)) ?_
  refine tw_push rfl ?_
  refine tw_iadd rfl ?_
  refine tw_put rfl (fun f442 => ?_)
  have K := mPush (x := x) hs hp hx0 f441 f442
  exact tw_vret rfl ⟨rfl, K.1, K.2.1, K.2.2.1, K.2.2.2.1, K.2.2.2.2⟩
theorem mPushz {h : zH} {x : Int32} {kd ef : Nat} (hs : tSh h) (z : mFt h ef) (hf : tIn h 142 kd (tvI (tF h 111 34))) (hf2 : tFd (tSA h 142 (tvI (tF h 111 34)).toNatClampNeg x) 111 34) : mFr h (tSF (tSA h 142 (tvI (tF h 111 34)).toNatClampNeg x) 111 34 (.int (tvI (tF h 111 34) + 1))) ∧ mFt (tSF (tSA h 142 (tvI (tF h 111 34)).toNatClampNeg x) 111 34 (.int (tvI (tF h 111 34) + 1))) ef ∧ tF (tSF (tSA h 142 (tvI (tF h 111 34)).toNatClampNeg x) 111 34 (.int (tvI (tF h 111 34) + 1))) 111 28 = tF h 111 28 ∧ tF (tSF (tSA h 142 (tvI (tF h 111 34)).toNatClampNeg x) 111 34 (.int (tvI (tF h 111 34) + 1))) 111 27 = tF h 111 27 := by
  have hw := hw_111_34 (x := tvI (tF h 111 34) + 1) hf2 (tSh_SA hs)
  have e := mSet_of hf2 hw
  generalize tSF (tSA h 142 (tvI (tF h 111 34)).toNatClampNeg x) 111 34 (.int (tvI (tF h 111 34) + 1)) = h3 at e
  have hF : ∀ b, b ≠ 34 → tF h3 111 b = tF h 111 b := fun b hb => (mI_o e hb).trans (by rw [tF_tSA])
  refine ⟨⟨e.1, fun p q z => (e.2.2.1 p q (fun w => z ⟨w.1, by unfold mFs; omega⟩)).trans (by rw [tF_tSA]), fun p _ _ y => (congrFun e.2.2.2.1 p).trans (tA_nz y), e.2.2.2.2.trans (tN_tSA _ _ _ _), mLo_p ((congrFun e.2.2.2.1 133).trans (tA_nz (by decide))) ((congrFun e.2.2.2.1 134).trans (tA_nz (by decide)))⟩, ⟨(hF 29 (by decide)).trans z.1, z.2⟩, hF 28 (by decide), hF 27 (by decide)⟩
theorem z_opens {G : zG} (hG : G.1 = zProg) (hX : G.2.1 = ztx) {h : zH} {T : Nat → Int32} {n : Nat} (hs : tSh h) {ef : Nat} (hp : mFt h ef) (hT : tA h 132 = T) (hN : mn h = n) {x : Int32} : tC zTt G 208 [.ref 111, .int x] h (fun w h2 => w = none ∧ mFr h h2 ∧ mFt h2 ef ∧ tF h2 111 28 = tF h 111 28 ∧ tF h2 111 27 = tF h 111 27) := by
  refine tC_in (by rw [hG]; rfl) (fun dp => ?_)
  have g0 := mFr_r hs
  refine tw_aload rfl rfl ?_
  refine tw_getS rfl (hs_111_45 hs) ?_
  refine tw_aload rfl rfl ?_
  refine tw_getS rfl (hi_111_34 hs) ?_
  refine tw_iload rfl rfl ?_
  refine tw_iast rfl (fun f443 => ?_)
  refine tw_aload rfl rfl ?_
  refine tw_dup rfl ?_
  refine tw_getS rfl (tF_a (hi_111_34 hs)) ?_
  refine tw_push rfl ?_
  refine tw_iadd rfl ?_
  refine tw_put rfl (fun f444 => ?_)
  have K := mPushz (x := x) hs hp f443 f444
  exact tw_vret rfl ⟨rfl, K.1, K.2.1, K.2.2.1, K.2.2.2⟩
theorem mD10 {h : zH} (d : mD h) : tvI (tF h 111 32) = 10 ↔ mDp (mSk h) = 10 := by
  have d : (tvI (tF h 111 32)).toInt = (mDp (mSk h) : Int) := d
  have e : (10 : Int32).toInt = 10 := rfl
  constructor
  · intro z
    rw [z] at d
    omega
  · intro z
    refine Int32.toInt_inj.mp ?_
    omega
theorem mDp_c {c : Nat} {S : List Nat} (h : c = 50 ∨ c = 10 ∨ c = 13) : mDp (c :: S) = mDp S + 1 := if_pos h
theorem mDp_e {c : Nat} {S : List Nat} (h : ¬ (c = 50 ∨ c = 10 ∨ c = 13)) : mDp (c :: S) = mDp S := if_neg h
theorem g_opensDeep {G : zG} (hG : G.1 = zProg) (hX : G.2.1 = ztx) {h : zH} {T : Nat → Int32} {n : Nat} (hs : tSh h) (hp : mP h) (hT : tA h 132 = T) (hN : mn h = n) {x a : Int32} {b : Nat} (hx0 : 0 ≤ x.toInt) (hx : x.toNatClampNeg = 50 ∨ x.toNatClampNeg = 10 ∨ x.toNatClampNeg = 13) (hb : a.toInt = b) (hb4 : b ≤ 400) (hD : mD h) (hd10 : mDp (mSk h) ≤ 1000) : tC zTt G 209 [.ref 111, .int x, .int a] h (fun w h2 => w = none ∧ mFr h h2 ∧ ((mDp (mSk h) ≠ 10 ∧ mP h2 ∧ mSk h2 = x.toNatClampNeg :: mSk h ∧ ms h2 = ms h ∧ mD h2) ∨ (mDp (mSk h) = 10 ∧ mFt h2 (1 + 8 * b + 2) ∧ tF h2 111 28 = tF h 111 28 ∧ tF h2 111 27 = tF h 111 27))) := by
  refine tC_in (by rw [hG]; rfl) (fun dp => ?_)
  have g0 := mFr_r hs
  have hpn : (ms h).1 ≤ n := mPle hp hN
  refine tw_aload rfl rfl ?_
  refine tw_getS rfl (hi_111_32 hs) ?_
  refine tw_push rfl ?_
  refine tw_ic_ne rfl (fun q445 => ?_) (fun q445 => ?_)
  · try dsimp only [tvI_i, tvJ_j, tvR_r] at q445
    have q445i := zneq (Y := 10) (by decide) q445
    refine tw_aload rfl rfl ?_
    refine tw_dup rfl ?_
    refine tw_getS rfl (hi_111_32 hs) ?_
    refine tw_push rfl ?_
    refine tw_iadd rfl ?_
    refine tw_put rfl (fun f446 => ?_)
    refine tG_setm f446 (hw_111_32 f446 (g0).1) (fun hf446 ef446 => ?_)
    try dsimp only [tvI_i] at ef446
    have gf446 := mFr_s g0 ef446 (by unfold mFs; omega)
    obtain ⟨pf446, tf446, sf446, df446⟩ := mUp hp ef446 hD hd10
    refine tw_aload rfl rfl ?_
    refine tw_iload rfl rfl ?_
    refine tw_virt1 rfl (g_opens hG hX (gf446).1 pf446 ((mFr_T gf446).trans hT) ((mFr_n gf446).trans hN) hx0) (fun wp447 hp447 p447 => ?_)
    obtain ⟨rfl, gp447, pp447e, tp447, sp447, dp447⟩ := p447
    have ggp447 := mFr_t gf446 gp447
    have hne : mDp (mSk h) ≠ 10 := fun z => q445 ((mD10 hD).mpr z)
    exact tw_vret rfl ⟨rfl, ggp447, Or.inl ⟨hne, pp447e, by rw [tp447, tf446], sp447.trans sf446, by unfold mD; rw [dp447, tp447, tf446, mDp_c hx]; exact df446⟩⟩
  · try dsimp only [tvI_i, tvJ_j, tvR_r] at q445
    have q445i := zeqi (Y := 10) (by decide) q445
    refine tw_aload rfl rfl ?_
    refine tw_push rfl ?_
    refine tw_iload rfl rfl ?_
    refine tw_virt2 rfl (g_fails hG hX (g0).1 hp ((mFr_T g0).trans hT) ((mFr_n g0).trans hN) (w := 2) (b := b) rfl (by decide) hb hb4) (fun wp448 hp448 p448 => ?_)
    obtain ⟨rfl, gp448, Fp448, ip448, jp448⟩ := p448
    have ggp448 := mFr_t g0 gp448
    refine tw_aload rfl rfl ?_
    refine tw_dup rfl ?_
    refine tw_getS rfl (hi_111_32 ggp448.1) ?_
    refine tw_push rfl ?_
    refine tw_iadd rfl ?_
    refine tw_put rfl (fun f449 => ?_)
    refine tG_setm f449 (hw_111_32 f449 (ggp448).1) (fun hf449 ef449 => ?_)
    try dsimp only [tvI_i] at ef449
    have gf449 := mFr_s ggp448 ef449 (by unfold mFs; omega)
    have zf449 := mFt_s Fp448 ef449 (by decide)
    refine tw_aload rfl rfl ?_
    refine tw_iload rfl rfl ?_
    refine tw_virt1 rfl (z_opens hG hX (gf449).1 zf449 ((mFr_T gf449).trans hT) ((mFr_n gf449).trans hN)) (fun wp450 hp450 p450 => ?_)
    obtain ⟨rfl, gp450, Fp450, ip450, jp450⟩ := p450
    have ggp450 := mFr_t gf449 gp450
    exact tw_vret rfl ⟨rfl, ggp450, Or.inr ⟨(mD10 hD).mp q445, Fp450, ip450.trans ((mI_o ef449 (by decide)).trans ip448), jp450.trans ((mI_o ef449 (by decide)).trans jp448)⟩⟩
noncomputable def tpm (S : List Nat) (c : Int32) : Prop := (S = [] ∧ c = -1) ∨ (S ≠ [] ∧ c.toInt = ((S.headD 0 : Nat) : Int))
theorem tpm_k {S : List Nat} {c : Int32} (t : tpm S c) {k : Int32} {K : Nat} (hk : k.toInt = K) (h0 : 0 < K) : c = k ↔ S.headD 0 = K := by
  rcases t with ⟨rfl, rfl⟩ | ⟨h, e⟩
  · have : ((-1 : Int32)).toInt = -1 := by decide
    exact ⟨fun z => by rw [← z] at hk; omega, fun z => by have z : 0 = K := z; omega⟩
  · exact ⟨fun z => by rw [z] at e; omega, fun z => Int32.toInt_inj.mp (by omega)⟩
theorem tpm_i {S : List Nat} {c : Int32} (t : tpm S c) (hc : 0 ≤ c.toInt) : S ≠ [] ∧ c.toInt = ((S.headD 0 : Nat) : Int) := by
  rcases t with ⟨rfl, rfl⟩ | t
  · exact absurd hc (by decide)
  · exact t
theorem tpm_e {S : List Nat} {c : Int32} (t : tpm S c) : c.toInt = ((S.headD 0 : Nat) : Int) ∨ (S.headD 0 = 0 ∧ c.toInt = -1) := by
  rcases t with ⟨rfl, rfl⟩ | t
  · exact Or.inr ⟨rfl, by decide⟩
  · exact Or.inl t.2
theorem g_top {G : zG} (hG : G.1 = zProg) (hX : G.2.1 = ztx) {h : zH} {T : Nat → Int32} {n : Nat} (hs : tSh h) (hp : mP h) (hT : tA h 132 = T) (hN : mn h = n)  : tC zTt G 210 [.ref 111] h (fun w h2 => (∃ c, w = some (.int c) ∧ tpm (mSk h) c) ∧ h = h2) := by
  refine tC_in (by rw [hG]; rfl) (fun dp => ?_)
  have g0 := mFr_r hs
  have hpn : (ms h).1 ≤ n := mPle hp hN
  refine tw_aload rfl rfl ?_
  refine tw_getS rfl (hi_111_34 hs) ?_
  refine tw_if_ne rfl (fun q451 => ?_) (fun q451 => ?_)
  · try dsimp only [tvI_i, tvJ_j, tvR_r] at q451
    have q451i := zneq (Y := 0) (by decide) q451
    refine tw_aload rfl rfl ?_
    refine tw_getS rfl (hs_111_45 hs) ?_
    refine tw_aload rfl rfl ?_
    refine tw_getS rfl (hi_111_34 hs) ?_
    refine tw_push rfl ?_
    refine tw_isub rfl ?_
    refine tw_iald rfl (fun f452 => ?_)
    have hk : 0 < (tvI (tF h 111 34)).toNatClampNeg := by rw [zclE]; have := hp.2.2.2.2.1; omega
    have e2 : (tvI (tF h 111 34) - 1).toNatClampNeg = (tvI (tF h 111 34)).toNatClampNeg - 1 := by rw [zclE, zclE, zsub1 hp.2.2.2.2.1]; omega
    refine tw_iret rfl ⟨⟨_, rfl, Or.inr ?_⟩, rfl⟩
    rw [mSk_top hk]
    refine ⟨List.cons_ne_nil _ _, ?_⟩
    show (tA h 142 (tvI (tF h 111 34) - 1).toNatClampNeg).toInt = _
    have hl9 : (tvI (tF h 111 34) - 1).toNatClampNeg < tN h 142 := f452.rg.2
    rw [e2] at hl9
    rw [e2]
    exact (zclx (hp.2.2.2.2.2.2.1 _ hl9)).symm
  · try dsimp only [tvI_i, tvJ_j, tvR_r] at q451
    have q451i := zeqi (Y := 0) (by decide) q451
    refine tw_push rfl ?_
    refine tw_goto rfl ?_
    exact tw_iret rfl ⟨⟨_, rfl, Or.inl ⟨mSk_nil (by rw [q451]; rfl), rfl⟩⟩, rfl⟩
theorem rQ_at {T : Nat → Int32} : ∀ (w : List Int32) (p k : Nat), rQ T p w = true → k < w.length → T (p + k) = w.getD k 0
  | c :: w, p, 0, h, _ => by
    have h : (decide (T p = c) && rQ T (p + 1) w) = true := h
    rw [Bool.and_eq_true] at h
    exact of_decide_eq_true h.1
  | c :: w, p, k + 1, h, hk => by
    have h : (decide (T p = c) && rQ T (p + 1) w) = true := h
    rw [Bool.and_eq_true] at h
    have z := rQ_at w (p + 1) k h.2 (by rw [List.length_cons] at hk; omega)
    rw [show p + 1 + k = p + (k + 1) by omega] at z
    exact z
theorem rQ_of {T : Nat → Int32} : ∀ (w : List Int32) (p : Nat), (∀ k, k < w.length → T (p + k) = w.getD k 0) → rQ T p w = true
  | [], _, _ => rfl
  | c :: w, p, h => by
    show (decide (T p = c) && rQ T (p + 1) w) = true
    rw [Bool.and_eq_true]
    refine ⟨decide_eq_true (h 0 (by rw [List.length_cons]; omega)), rQ_of w (p + 1) (fun k hk => ?_)⟩
    have z := h (k + 1) (by rw [List.length_cons]; omega)
    rw [show p + (k + 1) = p + 1 + k by omega] at z
    exact z
theorem mPz {h : zH} (h0 : 0 ≤ (tvI (tF h 111 28)).toInt) : (tvI (tF h 111 28)).toInt = ((ms h).1 : Int) := by
  show _ = ((tvI (tF h 111 28)).toNatClampNeg : Int)
  rw [zclE]
  omega
theorem mNz {h : zH} {n : Nat} (h0 : 0 ≤ (tvI (tF h 111 27)).toInt) (hN : mn h = n) : (tvI (tF h 111 27)).toInt = (n : Int) := by
  rw [← hN]
  show _ = ((tvI (tF h 111 27)).toNatClampNeg : Int)
  rw [zclE]
  omega
theorem zadN {x y : Int32} {a b : Nat} (hx : x.toInt = a) (hy : y.toInt = b) (ha : a ≤ 100000) (hb : b ≤ 100000) : (x + y).toInt = ((a + b : Nat) : Int) := by
  rw [Int32.toInt_add, hx, hy]
  exact (Int.bmod_eq_of_le (by show (-2147483648 : Int) ≤ (a : Int) + b; omega) (by show (a : Int) + b < (2147483648 : Int); omega)).trans (by omega)
theorem g_stands {G : zG} (hG : G.1 = zProg) (hX : G.2.1 = ztx) {h : zH} {T : Nat → Int32} {n : Nat} (hs : tSh h) (hT : tA h 132 = T) (hN : mn h = n) {q : Nat} (hq1 : (ztx q).length ≤ 200) (h0 : 0 ≤ (tvI (tF h 111 28)).toInt ∧ 0 ≤ (tvI (tF h 111 27)).toInt) (h4 : (tvI (tF h 111 28)).toInt ≤ 1000 ∧ (tvI (tF h 111 27)).toInt ≤ 400) : tC zTt G 205 [.ref 111, .retAddr q] h (fun w h2 => tBo (rW T n (ms h).1 (ztx q) = true) w ∧ h = h2) := by
  refine tC_in (by rw [hG]; rfl) (fun dp => ?_)
  have g0 := mFr_r hs
  have c979 : (97 : Int32).toInt = 97 := rfl
  have c1229 : (122 : Int32).toInt = 122 := rfl
  have hn4 := mNz h0.2 hN
  have hp4 := mPz h0.1
  refine tw_aload rfl rfl ?_
  refine tw_getS rfl (hi_111_28 hs) ?_
  refine tw_istore rfl ?_
  refine tG_loop (zW_mono zTt G dp) (zW_conj zTt G dp) (V := fun pc L st h9 _ _ => pc = 5 ∧ st = [] ∧ h = h9 ∧ ∃ (k : Nat) (x : Int32) (l3 l4 : Option Value), x.toInt = (((ms h).1 + k : Nat) : Int) ∧ rE T n ((ms h).1 + k) = rE T n (ms h).1 ∧ (ms h).1 + k ≤ 1400 ∧ L = [some (.ref 111), some (.retAddr q), some (.int x), l3, l4]) ?_ (⟨rfl, rfl, rfl, 0, _, _, _, mPz h0.1, rfl, by have := mPz h0.1; omega, rfl⟩)
  rintro _ _ _ _ _ _ ⟨rfl, rfl, rfl, k, x, l3, l4, hx, he, hk14, rfl⟩
  refine tw_iload rfl rfl ?_
  refine tw_aload rfl rfl ?_
  refine tw_getS rfl (hi_111_27 hs) ?_
  refine tw_ic_ge rfl (fun q453 => ?_) (fun q453 => ?_)
  · try dsimp only [tvI_i, tvJ_j, tvR_r] at q453
    refine tw_iload rfl rfl ?_
    refine tw_aload rfl rfl ?_
    refine tw_getS rfl (hi_111_28 hs) ?_
    refine tw_isub rfl ?_
    refine tw_aload rfl rfl ?_
    refine tw_tlen rfl ?_
    refine tw_ic_ne rfl (fun q454 => ?_) (fun q454 => ?_)
    · try dsimp only [tvI_i, tvJ_j, tvR_r] at q454
      have q454i := zneq rfl q454
      refine tw_push rfl ?_
      refine tw_istore rfl ?_
      refine tw_push rfl ?_
      refine tw_istore rfl ?_
      have hix : x.toNatClampNeg = (ms h).1 + k := zof_cl hx
      have hTx : tA h 132 x.toNatClampNeg = T ((ms h).1 + k) := by rw [hix, hT]
      have hnd : ¬ ((ms h).1 + k < n ∧ 97 ≤ (T ((ms h).1 + k)).toInt ∧ (T ((ms h).1 + k)).toInt ≤ 122) := by
        have z0 := q453
        try rw [hTx] at z1
        try rw [hTx] at z2
        omega
      have hE9 : rE T n (ms h).1 = (ms h).1 + k := he.symm.trans (rE_n hnd)
      have hsb : (x - tvI (tF h 111 28)).toInt = ((((ms h).1 + k : Nat) : Int)) - (((ms h).1 : Nat) : Int) := zsb hx (mPz h0.1) (by omega) (by omega)
      have hLn : (Int32.ofNat (G.2.1 q).length).toInt = ((ztx q).length : Int) := by rw [hX]; exact zofI (by omega)
      have hEL : x - tvI (tF h 111 28) = Int32.ofNat (G.2.1 q).length ↔ rE T n (ms h).1 = (ms h).1 + (ztx q).length := ⟨fun z => by rw [z, hLn] at hsb; omega, fun z => Int32.toInt_inj.mp (by rw [hsb, hLn]; omega)⟩
      refine tG_loop (zW_mono zTt G dp) (zW_conj zTt G dp) (V := fun pc L st h9 _ _ => pc = 63 ∧ st = [] ∧ h = h9 ∧ ∃ (j : Nat) (y is : Int32), y.toInt = j ∧ j ≤ (ztx q).length ∧ ((is = 1 ∧ rE T n (ms h).1 = (ms h).1 + (ztx q).length ∧ ∀ i, i < j → T ((ms h).1 + i) = (ztx q).getD i 0) ∨ (is = 0 ∧ ¬ rW T n (ms h).1 (ztx q) = true)) ∧ L = [some (.ref 111), some (.retAddr q), some (.int x), some (.int is), some (.int y)]) ?_ (⟨rfl, rfl, rfl, 0, 0, _, rfl, Nat.zero_le _, Or.inr ⟨rfl, fun z => q454 (hEL.mpr (rW_e z))⟩, rfl⟩)
      rintro _ _ _ _ _ _ ⟨rfl, rfl, rfl, j, y, is, hy, hjn, his, rfl⟩
      refine tw_iload rfl rfl ?_
      refine tw_aload rfl rfl ?_
      refine tw_tlen rfl ?_
      refine tw_ic_ge rfl (fun q455 => ?_) (fun q455 => ?_)
      · try dsimp only [tvI_i, tvJ_j, tvR_r] at q455
        refine tw_iload rfl rfl ?_
        have hlen : (Int32.ofNat (G.2.1 q).length).toInt = ((ztx q).length : Int) := by rw [hX]; exact zofI (by omega)
        have hj : j = (ztx q).length := by have z := q455; omega
        rcases his with ⟨e1, e2, e3⟩ | ⟨e1, e2⟩
        · exact tw_iret rfl ⟨Or.inl ⟨rW_i.mpr ⟨e2, rQ_of _ _ (fun k hk => e3 k (by omega))⟩, congrArg (fun z => some (Value.int z)) e1⟩, rfl⟩
        · exact tw_iret rfl ⟨Or.inr ⟨e2, congrArg (fun z => some (Value.int z)) e1⟩, rfl⟩
      · try dsimp only [tvI_i, tvJ_j, tvR_r] at q455
        refine tw_iload rfl rfl ?_
        refine tw_if_eq rfl (fun q456 => ?_) (fun q456 => ?_)
        · try dsimp only [tvI_i, tvJ_j, tvR_r] at q456
          have q456i := zeqi (Y := 0) (by decide) q456
          refine tw_iload rfl rfl ?_
          have hlen : (Int32.ofNat (G.2.1 q).length).toInt = ((ztx q).length : Int) := by rw [hX]; exact zofI (by omega)
          rcases his with ⟨e1, -, -⟩ | ⟨e1, e2⟩
          · exact absurd (e1.symm.trans q456) (by decide)
          · exact tw_iret rfl ⟨Or.inr ⟨e2, congrArg (fun z => some (Value.int z)) e1⟩, rfl⟩
        · try dsimp only [tvI_i, tvJ_j, tvR_r] at q456
          have q456i := zneq (Y := 0) (by decide) q456
          refine tw_aload rfl rfl ?_
          refine tw_getS rfl (hs_111_35 hs) ?_
          refine tw_aload rfl rfl ?_
          refine tw_getS rfl (hi_111_28 hs) ?_
          refine tw_iload rfl rfl ?_
          refine tw_iadd rfl ?_
          refine tw_bald rfl (fun f457 => ?_)
          refine tw_aload rfl rfl ?_
          refine tw_iload rfl rfl ?_
          refine tw_chr rfl (fun _ => ?_)
          refine tw_ic_ne rfl (fun q458 => ?_) (fun q458 => ?_)
          · try dsimp only [tvI_i, tvJ_j, tvR_r] at q458
            have q458i := zneq rfl q458
            refine tw_push rfl ?_
            refine tw_istore rfl ?_
            refine tw_iinc rfl rfl ?_
            refine tw_goto rfl ?_
            have hlen : (Int32.ofNat (G.2.1 q).length).toInt = ((ztx q).length : Int) := by rw [hX]; exact zofI (by omega)
            have hjl : j < (ztx q).length := by have z := q455; omega
            rcases his with ⟨e1, e2, e3⟩ | ⟨e1, -⟩
            rotate_left
            · exact absurd e1 q456
            have hpy : (tvI (tF h 111 28) + y).toNatClampNeg = (ms h).1 + j := zof_cl (zadN (mPz h0.1) hy (by omega) (by omega))
            have hTy : tA h 132 (tvI (tF h 111 28) + y).toNatClampNeg = T ((ms h).1 + j) := by rw [hpy, hT]
            have ec : (G.2.1 q).getD y.toNatClampNeg 0 = (ztx q).getD j 0 := by rw [hX, zof_cl hy]
            have hc : ¬ T ((ms h).1 + j) = (ztx q).getD j 0 := fun z => q458 (hTy.trans (z.trans ec.symm))
            exact tG_cut (zW_mono zTt G dp) (Or.inr ⟨rfl, rfl, rfl, j + 1, y + 1, _, zincN hy (by omega), by omega, Or.inr ⟨rfl, fun z => hc (rQ_at _ _ _ (rW_i.mp z).2 hjl)⟩, rfl⟩)
          · try dsimp only [tvI_i, tvJ_j, tvR_r] at q458
            have q458i := zeqi rfl q458
            refine tw_push rfl ?_
            refine tw_goto rfl ?_
            refine tw_istore rfl ?_
            refine tw_iinc rfl rfl ?_
            refine tw_goto rfl ?_
            have hlen : (Int32.ofNat (G.2.1 q).length).toInt = ((ztx q).length : Int) := by rw [hX]; exact zofI (by omega)
            have hjl : j < (ztx q).length := by have z := q455; omega
            rcases his with ⟨e1, e2, e3⟩ | ⟨e1, -⟩
            rotate_left
            · exact absurd e1 q456
            have hpy : (tvI (tF h 111 28) + y).toNatClampNeg = (ms h).1 + j := zof_cl (zadN (mPz h0.1) hy (by omega) (by omega))
            have hTy : tA h 132 (tvI (tF h 111 28) + y).toNatClampNeg = T ((ms h).1 + j) := by rw [hpy, hT]
            have ec : (G.2.1 q).getD y.toNatClampNeg 0 = (ztx q).getD j 0 := by rw [hX, zof_cl hy]
            have hc : T ((ms h).1 + j) = (ztx q).getD j 0 := hTy.symm.trans (q458.trans ec)
            exact tG_cut (zW_mono zTt G dp) (Or.inr ⟨rfl, rfl, rfl, j + 1, y + 1, _, zincN hy (by omega), by omega, Or.inl ⟨rfl, e2, fun i hi => (Classical.em (i = j)).elim (fun z => by rw [z]; exact hc) (fun z => e3 i (by omega))⟩, rfl⟩)
    · try dsimp only [tvI_i, tvJ_j, tvR_r] at q454
      have q454i := zeqi rfl q454
      refine tw_push rfl ?_
      refine tw_goto rfl ?_
      refine tw_istore rfl ?_
      refine tw_push rfl ?_
      refine tw_istore rfl ?_
      have hix : x.toNatClampNeg = (ms h).1 + k := zof_cl hx
      have hTx : tA h 132 x.toNatClampNeg = T ((ms h).1 + k) := by rw [hix, hT]
      have hnd : ¬ ((ms h).1 + k < n ∧ 97 ≤ (T ((ms h).1 + k)).toInt ∧ (T ((ms h).1 + k)).toInt ≤ 122) := by
        have z0 := q453
        try rw [hTx] at z1
        try rw [hTx] at z2
        omega
      have hE9 : rE T n (ms h).1 = (ms h).1 + k := he.symm.trans (rE_n hnd)
      have hsb : (x - tvI (tF h 111 28)).toInt = ((((ms h).1 + k : Nat) : Int)) - (((ms h).1 : Nat) : Int) := zsb hx (mPz h0.1) (by omega) (by omega)
      have hLn : (Int32.ofNat (G.2.1 q).length).toInt = ((ztx q).length : Int) := by rw [hX]; exact zofI (by omega)
      have hEL : x - tvI (tF h 111 28) = Int32.ofNat (G.2.1 q).length ↔ rE T n (ms h).1 = (ms h).1 + (ztx q).length := ⟨fun z => by rw [z, hLn] at hsb; omega, fun z => Int32.toInt_inj.mp (by rw [hsb, hLn]; omega)⟩
      refine tG_loop (zW_mono zTt G dp) (zW_conj zTt G dp) (V := fun pc L st h9 _ _ => pc = 63 ∧ st = [] ∧ h = h9 ∧ ∃ (j : Nat) (y is : Int32), y.toInt = j ∧ j ≤ (ztx q).length ∧ ((is = 1 ∧ rE T n (ms h).1 = (ms h).1 + (ztx q).length ∧ ∀ i, i < j → T ((ms h).1 + i) = (ztx q).getD i 0) ∨ (is = 0 ∧ ¬ rW T n (ms h).1 (ztx q) = true)) ∧ L = [some (.ref 111), some (.retAddr q), some (.int x), some (.int is), some (.int y)]) ?_ (⟨rfl, rfl, rfl, 0, 0, _, rfl, Nat.zero_le _, Or.inl ⟨rfl, hEL.mp q454, fun i hi => by omega⟩, rfl⟩)
      rintro _ _ _ _ _ _ ⟨rfl, rfl, rfl, j, y, is, hy, hjn, his, rfl⟩
      refine tw_iload rfl rfl ?_
      refine tw_aload rfl rfl ?_
      refine tw_tlen rfl ?_
      refine tw_ic_ge rfl (fun q459 => ?_) (fun q459 => ?_)
      · try dsimp only [tvI_i, tvJ_j, tvR_r] at q459
        refine tw_iload rfl rfl ?_
        have hlen : (Int32.ofNat (G.2.1 q).length).toInt = ((ztx q).length : Int) := by rw [hX]; exact zofI (by omega)
        have hj : j = (ztx q).length := by have z := q459; omega
        rcases his with ⟨e1, e2, e3⟩ | ⟨e1, e2⟩
        · exact tw_iret rfl ⟨Or.inl ⟨rW_i.mpr ⟨e2, rQ_of _ _ (fun k hk => e3 k (by omega))⟩, congrArg (fun z => some (Value.int z)) e1⟩, rfl⟩
        · exact tw_iret rfl ⟨Or.inr ⟨e2, congrArg (fun z => some (Value.int z)) e1⟩, rfl⟩
      · try dsimp only [tvI_i, tvJ_j, tvR_r] at q459
        refine tw_iload rfl rfl ?_
        refine tw_if_eq rfl (fun q460 => ?_) (fun q460 => ?_)
        · try dsimp only [tvI_i, tvJ_j, tvR_r] at q460
          have q460i := zeqi (Y := 0) (by decide) q460
          refine tw_iload rfl rfl ?_
          have hlen : (Int32.ofNat (G.2.1 q).length).toInt = ((ztx q).length : Int) := by rw [hX]; exact zofI (by omega)
          rcases his with ⟨e1, -, -⟩ | ⟨e1, e2⟩
          · exact absurd (e1.symm.trans q460) (by decide)
          · exact tw_iret rfl ⟨Or.inr ⟨e2, congrArg (fun z => some (Value.int z)) e1⟩, rfl⟩
        · try dsimp only [tvI_i, tvJ_j, tvR_r] at q460
          have q460i := zneq (Y := 0) (by decide) q460
          refine tw_aload rfl rfl ?_
          refine tw_getS rfl (hs_111_35 hs) ?_
          refine tw_aload rfl rfl ?_
          refine tw_getS rfl (hi_111_28 hs) ?_
          refine tw_iload rfl rfl ?_
          refine tw_iadd rfl ?_
          refine tw_bald rfl (fun f461 => ?_)
          refine tw_aload rfl rfl ?_
          refine tw_iload rfl rfl ?_
          refine tw_chr rfl (fun _ => ?_)
          refine tw_ic_ne rfl (fun q462 => ?_) (fun q462 => ?_)
          · try dsimp only [tvI_i, tvJ_j, tvR_r] at q462
            have q462i := zneq rfl q462
            refine tw_push rfl ?_
            refine tw_istore rfl ?_
            refine tw_iinc rfl rfl ?_
            refine tw_goto rfl ?_
            have hlen : (Int32.ofNat (G.2.1 q).length).toInt = ((ztx q).length : Int) := by rw [hX]; exact zofI (by omega)
            have hjl : j < (ztx q).length := by have z := q459; omega
            rcases his with ⟨e1, e2, e3⟩ | ⟨e1, -⟩
            rotate_left
            · exact absurd e1 q460
            have hpy : (tvI (tF h 111 28) + y).toNatClampNeg = (ms h).1 + j := zof_cl (zadN (mPz h0.1) hy (by omega) (by omega))
            have hTy : tA h 132 (tvI (tF h 111 28) + y).toNatClampNeg = T ((ms h).1 + j) := by rw [hpy, hT]
            have ec : (G.2.1 q).getD y.toNatClampNeg 0 = (ztx q).getD j 0 := by rw [hX, zof_cl hy]
            have hc : ¬ T ((ms h).1 + j) = (ztx q).getD j 0 := fun z => q462 (hTy.trans (z.trans ec.symm))
            exact tG_cut (zW_mono zTt G dp) (Or.inr ⟨rfl, rfl, rfl, j + 1, y + 1, _, zincN hy (by omega), by omega, Or.inr ⟨rfl, fun z => hc (rQ_at _ _ _ (rW_i.mp z).2 hjl)⟩, rfl⟩)
          · try dsimp only [tvI_i, tvJ_j, tvR_r] at q462
            have q462i := zeqi rfl q462
            refine tw_push rfl ?_
            refine tw_goto rfl ?_
            refine tw_istore rfl ?_
            refine tw_iinc rfl rfl ?_
            refine tw_goto rfl ?_
            have hlen : (Int32.ofNat (G.2.1 q).length).toInt = ((ztx q).length : Int) := by rw [hX]; exact zofI (by omega)
            have hjl : j < (ztx q).length := by have z := q459; omega
            rcases his with ⟨e1, e2, e3⟩ | ⟨e1, -⟩
            rotate_left
            · exact absurd e1 q460
            have hpy : (tvI (tF h 111 28) + y).toNatClampNeg = (ms h).1 + j := zof_cl (zadN (mPz h0.1) hy (by omega) (by omega))
            have hTy : tA h 132 (tvI (tF h 111 28) + y).toNatClampNeg = T ((ms h).1 + j) := by rw [hpy, hT]
            have ec : (G.2.1 q).getD y.toNatClampNeg 0 = (ztx q).getD j 0 := by rw [hX, zof_cl hy]
            have hc : T ((ms h).1 + j) = (ztx q).getD j 0 := hTy.symm.trans (q462.trans ec)
            exact tG_cut (zW_mono zTt G dp) (Or.inr ⟨rfl, rfl, rfl, j + 1, y + 1, _, zincN hy (by omega), by omega, Or.inl ⟨rfl, e2, fun i hi => (Classical.em (i = j)).elim (fun z => by rw [z]; exact hc) (fun z => e3 i (by omega))⟩, rfl⟩)
  · try dsimp only [tvI_i, tvJ_j, tvR_r] at q453
    refine tw_aload rfl rfl ?_
    refine tw_getS rfl (hs_111_35 hs) ?_
    refine tw_iload rfl rfl ?_
    refine tw_bald rfl (fun f463 => ?_)
    refine tw_push rfl ?_
    refine tw_ic_lt rfl (fun q464 => ?_) (fun q464 => ?_)
    · try dsimp only [tvI_i, tvJ_j, tvR_r] at q464
      refine tw_iload rfl rfl ?_
      refine tw_aload rfl rfl ?_
      refine tw_getS rfl (hi_111_28 hs) ?_
      refine tw_isub rfl ?_
      refine tw_aload rfl rfl ?_
      refine tw_tlen rfl ?_
      refine tw_ic_ne rfl (fun q465 => ?_) (fun q465 => ?_)
      · try dsimp only [tvI_i, tvJ_j, tvR_r] at q465
        have q465i := zneq rfl q465
        refine tw_push rfl ?_
        refine tw_istore rfl ?_
        refine tw_push rfl ?_
        refine tw_istore rfl ?_
        have hix : x.toNatClampNeg = (ms h).1 + k := zof_cl hx
        have hTx : tA h 132 x.toNatClampNeg = T ((ms h).1 + k) := by rw [hix, hT]
        have hnd : ¬ ((ms h).1 + k < n ∧ 97 ≤ (T ((ms h).1 + k)).toInt ∧ (T ((ms h).1 + k)).toInt ≤ 122) := by
          have z0 := q453
          have z1 := q464
          try rw [hTx] at z1
          try rw [hTx] at z2
          omega
        have hE9 : rE T n (ms h).1 = (ms h).1 + k := he.symm.trans (rE_n hnd)
        have hsb : (x - tvI (tF h 111 28)).toInt = ((((ms h).1 + k : Nat) : Int)) - (((ms h).1 : Nat) : Int) := zsb hx (mPz h0.1) (by omega) (by omega)
        have hLn : (Int32.ofNat (G.2.1 q).length).toInt = ((ztx q).length : Int) := by rw [hX]; exact zofI (by omega)
        have hEL : x - tvI (tF h 111 28) = Int32.ofNat (G.2.1 q).length ↔ rE T n (ms h).1 = (ms h).1 + (ztx q).length := ⟨fun z => by rw [z, hLn] at hsb; omega, fun z => Int32.toInt_inj.mp (by rw [hsb, hLn]; omega)⟩
        refine tG_loop (zW_mono zTt G dp) (zW_conj zTt G dp) (V := fun pc L st h9 _ _ => pc = 63 ∧ st = [] ∧ h = h9 ∧ ∃ (j : Nat) (y is : Int32), y.toInt = j ∧ j ≤ (ztx q).length ∧ ((is = 1 ∧ rE T n (ms h).1 = (ms h).1 + (ztx q).length ∧ ∀ i, i < j → T ((ms h).1 + i) = (ztx q).getD i 0) ∨ (is = 0 ∧ ¬ rW T n (ms h).1 (ztx q) = true)) ∧ L = [some (.ref 111), some (.retAddr q), some (.int x), some (.int is), some (.int y)]) ?_ (⟨rfl, rfl, rfl, 0, 0, _, rfl, Nat.zero_le _, Or.inr ⟨rfl, fun z => q465 (hEL.mpr (rW_e z))⟩, rfl⟩)
        rintro _ _ _ _ _ _ ⟨rfl, rfl, rfl, j, y, is, hy, hjn, his, rfl⟩
        refine tw_iload rfl rfl ?_
        refine tw_aload rfl rfl ?_
        refine tw_tlen rfl ?_
        refine tw_ic_ge rfl (fun q466 => ?_) (fun q466 => ?_)
        · try dsimp only [tvI_i, tvJ_j, tvR_r] at q466
          refine tw_iload rfl rfl ?_
          have hlen : (Int32.ofNat (G.2.1 q).length).toInt = ((ztx q).length : Int) := by rw [hX]; exact zofI (by omega)
          have hj : j = (ztx q).length := by have z := q466; omega
          rcases his with ⟨e1, e2, e3⟩ | ⟨e1, e2⟩
          · exact tw_iret rfl ⟨Or.inl ⟨rW_i.mpr ⟨e2, rQ_of _ _ (fun k hk => e3 k (by omega))⟩, congrArg (fun z => some (Value.int z)) e1⟩, rfl⟩
          · exact tw_iret rfl ⟨Or.inr ⟨e2, congrArg (fun z => some (Value.int z)) e1⟩, rfl⟩
        · try dsimp only [tvI_i, tvJ_j, tvR_r] at q466
          refine tw_iload rfl rfl ?_
          refine tw_if_eq rfl (fun q467 => ?_) (fun q467 => ?_)
          · try dsimp only [tvI_i, tvJ_j, tvR_r] at q467
            have q467i := zeqi (Y := 0) (by decide) q467
            refine tw_iload rfl rfl ?_
            have hlen : (Int32.ofNat (G.2.1 q).length).toInt = ((ztx q).length : Int) := by rw [hX]; exact zofI (by omega)
            rcases his with ⟨e1, -, -⟩ | ⟨e1, e2⟩
            · exact absurd (e1.symm.trans q467) (by decide)
            · exact tw_iret rfl ⟨Or.inr ⟨e2, congrArg (fun z => some (Value.int z)) e1⟩, rfl⟩
          · try dsimp only [tvI_i, tvJ_j, tvR_r] at q467
            have q467i := zneq (Y := 0) (by decide) q467
            refine tw_aload rfl rfl ?_
            refine tw_getS rfl (hs_111_35 hs) ?_
            refine tw_aload rfl rfl ?_
            refine tw_getS rfl (hi_111_28 hs) ?_
            refine tw_iload rfl rfl ?_
            refine tw_iadd rfl ?_
            refine tw_bald rfl (fun f468 => ?_)
            refine tw_aload rfl rfl ?_
            refine tw_iload rfl rfl ?_
            refine tw_chr rfl (fun _ => ?_)
            refine tw_ic_ne rfl (fun q469 => ?_) (fun q469 => ?_)
            · try dsimp only [tvI_i, tvJ_j, tvR_r] at q469
              have q469i := zneq rfl q469
              refine tw_push rfl ?_
              refine tw_istore rfl ?_
              refine tw_iinc rfl rfl ?_
              refine tw_goto rfl ?_
              have hlen : (Int32.ofNat (G.2.1 q).length).toInt = ((ztx q).length : Int) := by rw [hX]; exact zofI (by omega)
              have hjl : j < (ztx q).length := by have z := q466; omega
              rcases his with ⟨e1, e2, e3⟩ | ⟨e1, -⟩
              rotate_left
              · exact absurd e1 q467
              have hpy : (tvI (tF h 111 28) + y).toNatClampNeg = (ms h).1 + j := zof_cl (zadN (mPz h0.1) hy (by omega) (by omega))
              have hTy : tA h 132 (tvI (tF h 111 28) + y).toNatClampNeg = T ((ms h).1 + j) := by rw [hpy, hT]
              have ec : (G.2.1 q).getD y.toNatClampNeg 0 = (ztx q).getD j 0 := by rw [hX, zof_cl hy]
              have hc : ¬ T ((ms h).1 + j) = (ztx q).getD j 0 := fun z => q469 (hTy.trans (z.trans ec.symm))
              exact tG_cut (zW_mono zTt G dp) (Or.inr ⟨rfl, rfl, rfl, j + 1, y + 1, _, zincN hy (by omega), by omega, Or.inr ⟨rfl, fun z => hc (rQ_at _ _ _ (rW_i.mp z).2 hjl)⟩, rfl⟩)
            · try dsimp only [tvI_i, tvJ_j, tvR_r] at q469
              have q469i := zeqi rfl q469
              refine tw_push rfl ?_
              refine tw_goto rfl ?_
              refine tw_istore rfl ?_
              refine tw_iinc rfl rfl ?_
              refine tw_goto rfl ?_
              have hlen : (Int32.ofNat (G.2.1 q).length).toInt = ((ztx q).length : Int) := by rw [hX]; exact zofI (by omega)
              have hjl : j < (ztx q).length := by have z := q466; omega
              rcases his with ⟨e1, e2, e3⟩ | ⟨e1, -⟩
              rotate_left
              · exact absurd e1 q467
              have hpy : (tvI (tF h 111 28) + y).toNatClampNeg = (ms h).1 + j := zof_cl (zadN (mPz h0.1) hy (by omega) (by omega))
              have hTy : tA h 132 (tvI (tF h 111 28) + y).toNatClampNeg = T ((ms h).1 + j) := by rw [hpy, hT]
              have ec : (G.2.1 q).getD y.toNatClampNeg 0 = (ztx q).getD j 0 := by rw [hX, zof_cl hy]
              have hc : T ((ms h).1 + j) = (ztx q).getD j 0 := hTy.symm.trans (q469.trans ec)
              exact tG_cut (zW_mono zTt G dp) (Or.inr ⟨rfl, rfl, rfl, j + 1, y + 1, _, zincN hy (by omega), by omega, Or.inl ⟨rfl, e2, fun i hi => (Classical.em (i = j)).elim (fun z => by rw [z]; exact hc) (fun z => e3 i (by omega))⟩, rfl⟩)
      · try dsimp only [tvI_i, tvJ_j, tvR_r] at q465
        have q465i := zeqi rfl q465
        refine tw_push rfl ?_
        refine tw_goto rfl ?_
        refine tw_istore rfl ?_
        refine tw_push rfl ?_
        refine tw_istore rfl ?_
        have hix : x.toNatClampNeg = (ms h).1 + k := zof_cl hx
        have hTx : tA h 132 x.toNatClampNeg = T ((ms h).1 + k) := by rw [hix, hT]
        have hnd : ¬ ((ms h).1 + k < n ∧ 97 ≤ (T ((ms h).1 + k)).toInt ∧ (T ((ms h).1 + k)).toInt ≤ 122) := by
          have z0 := q453
          have z1 := q464
          try rw [hTx] at z1
          try rw [hTx] at z2
          omega
        have hE9 : rE T n (ms h).1 = (ms h).1 + k := he.symm.trans (rE_n hnd)
        have hsb : (x - tvI (tF h 111 28)).toInt = ((((ms h).1 + k : Nat) : Int)) - (((ms h).1 : Nat) : Int) := zsb hx (mPz h0.1) (by omega) (by omega)
        have hLn : (Int32.ofNat (G.2.1 q).length).toInt = ((ztx q).length : Int) := by rw [hX]; exact zofI (by omega)
        have hEL : x - tvI (tF h 111 28) = Int32.ofNat (G.2.1 q).length ↔ rE T n (ms h).1 = (ms h).1 + (ztx q).length := ⟨fun z => by rw [z, hLn] at hsb; omega, fun z => Int32.toInt_inj.mp (by rw [hsb, hLn]; omega)⟩
        refine tG_loop (zW_mono zTt G dp) (zW_conj zTt G dp) (V := fun pc L st h9 _ _ => pc = 63 ∧ st = [] ∧ h = h9 ∧ ∃ (j : Nat) (y is : Int32), y.toInt = j ∧ j ≤ (ztx q).length ∧ ((is = 1 ∧ rE T n (ms h).1 = (ms h).1 + (ztx q).length ∧ ∀ i, i < j → T ((ms h).1 + i) = (ztx q).getD i 0) ∨ (is = 0 ∧ ¬ rW T n (ms h).1 (ztx q) = true)) ∧ L = [some (.ref 111), some (.retAddr q), some (.int x), some (.int is), some (.int y)]) ?_ (⟨rfl, rfl, rfl, 0, 0, _, rfl, Nat.zero_le _, Or.inl ⟨rfl, hEL.mp q465, fun i hi => by omega⟩, rfl⟩)
        rintro _ _ _ _ _ _ ⟨rfl, rfl, rfl, j, y, is, hy, hjn, his, rfl⟩
        refine tw_iload rfl rfl ?_
        refine tw_aload rfl rfl ?_
        refine tw_tlen rfl ?_
        refine tw_ic_ge rfl (fun q470 => ?_) (fun q470 => ?_)
        · try dsimp only [tvI_i, tvJ_j, tvR_r] at q470
          refine tw_iload rfl rfl ?_
          have hlen : (Int32.ofNat (G.2.1 q).length).toInt = ((ztx q).length : Int) := by rw [hX]; exact zofI (by omega)
          have hj : j = (ztx q).length := by have z := q470; omega
          rcases his with ⟨e1, e2, e3⟩ | ⟨e1, e2⟩
          · exact tw_iret rfl ⟨Or.inl ⟨rW_i.mpr ⟨e2, rQ_of _ _ (fun k hk => e3 k (by omega))⟩, congrArg (fun z => some (Value.int z)) e1⟩, rfl⟩
          · exact tw_iret rfl ⟨Or.inr ⟨e2, congrArg (fun z => some (Value.int z)) e1⟩, rfl⟩
        · try dsimp only [tvI_i, tvJ_j, tvR_r] at q470
          refine tw_iload rfl rfl ?_
          refine tw_if_eq rfl (fun q471 => ?_) (fun q471 => ?_)
          · try dsimp only [tvI_i, tvJ_j, tvR_r] at q471
            have q471i := zeqi (Y := 0) (by decide) q471
            refine tw_iload rfl rfl ?_
            have hlen : (Int32.ofNat (G.2.1 q).length).toInt = ((ztx q).length : Int) := by rw [hX]; exact zofI (by omega)
            rcases his with ⟨e1, -, -⟩ | ⟨e1, e2⟩
            · exact absurd (e1.symm.trans q471) (by decide)
            · exact tw_iret rfl ⟨Or.inr ⟨e2, congrArg (fun z => some (Value.int z)) e1⟩, rfl⟩
          · try dsimp only [tvI_i, tvJ_j, tvR_r] at q471
            have q471i := zneq (Y := 0) (by decide) q471
            refine tw_aload rfl rfl ?_
            refine tw_getS rfl (hs_111_35 hs) ?_
            refine tw_aload rfl rfl ?_
            refine tw_getS rfl (hi_111_28 hs) ?_
            refine tw_iload rfl rfl ?_
            refine tw_iadd rfl ?_
            refine tw_bald rfl (fun f472 => ?_)
            refine tw_aload rfl rfl ?_
            refine tw_iload rfl rfl ?_
            refine tw_chr rfl (fun _ => ?_)
            refine tw_ic_ne rfl (fun q473 => ?_) (fun q473 => ?_)
            · try dsimp only [tvI_i, tvJ_j, tvR_r] at q473
              have q473i := zneq rfl q473
              refine tw_push rfl ?_
              refine tw_istore rfl ?_
              refine tw_iinc rfl rfl ?_
              refine tw_goto rfl ?_
              have hlen : (Int32.ofNat (G.2.1 q).length).toInt = ((ztx q).length : Int) := by rw [hX]; exact zofI (by omega)
              have hjl : j < (ztx q).length := by have z := q470; omega
              rcases his with ⟨e1, e2, e3⟩ | ⟨e1, -⟩
              rotate_left
              · exact absurd e1 q471
              have hpy : (tvI (tF h 111 28) + y).toNatClampNeg = (ms h).1 + j := zof_cl (zadN (mPz h0.1) hy (by omega) (by omega))
              have hTy : tA h 132 (tvI (tF h 111 28) + y).toNatClampNeg = T ((ms h).1 + j) := by rw [hpy, hT]
              have ec : (G.2.1 q).getD y.toNatClampNeg 0 = (ztx q).getD j 0 := by rw [hX, zof_cl hy]
              have hc : ¬ T ((ms h).1 + j) = (ztx q).getD j 0 := fun z => q473 (hTy.trans (z.trans ec.symm))
              exact tG_cut (zW_mono zTt G dp) (Or.inr ⟨rfl, rfl, rfl, j + 1, y + 1, _, zincN hy (by omega), by omega, Or.inr ⟨rfl, fun z => hc (rQ_at _ _ _ (rW_i.mp z).2 hjl)⟩, rfl⟩)
            · try dsimp only [tvI_i, tvJ_j, tvR_r] at q473
              have q473i := zeqi rfl q473
              refine tw_push rfl ?_
              refine tw_goto rfl ?_
              refine tw_istore rfl ?_
              refine tw_iinc rfl rfl ?_
              refine tw_goto rfl ?_
              have hlen : (Int32.ofNat (G.2.1 q).length).toInt = ((ztx q).length : Int) := by rw [hX]; exact zofI (by omega)
              have hjl : j < (ztx q).length := by have z := q470; omega
              rcases his with ⟨e1, e2, e3⟩ | ⟨e1, -⟩
              rotate_left
              · exact absurd e1 q471
              have hpy : (tvI (tF h 111 28) + y).toNatClampNeg = (ms h).1 + j := zof_cl (zadN (mPz h0.1) hy (by omega) (by omega))
              have hTy : tA h 132 (tvI (tF h 111 28) + y).toNatClampNeg = T ((ms h).1 + j) := by rw [hpy, hT]
              have ec : (G.2.1 q).getD y.toNatClampNeg 0 = (ztx q).getD j 0 := by rw [hX, zof_cl hy]
              have hc : T ((ms h).1 + j) = (ztx q).getD j 0 := hTy.symm.trans (q473.trans ec)
              exact tG_cut (zW_mono zTt G dp) (Or.inr ⟨rfl, rfl, rfl, j + 1, y + 1, _, zincN hy (by omega), by omega, Or.inl ⟨rfl, e2, fun i hi => (Classical.em (i = j)).elim (fun z => by rw [z]; exact hc) (fun z => e3 i (by omega))⟩, rfl⟩)
    · try dsimp only [tvI_i, tvJ_j, tvR_r] at q464
      refine tw_aload rfl rfl ?_
      refine tw_getS rfl (hs_111_35 hs) ?_
      refine tw_iload rfl rfl ?_
      refine tw_bald rfl (fun f474 => ?_)
      refine tw_push rfl ?_
      refine tw_ic_gt rfl (fun q475 => ?_) (fun q475 => ?_)
      · try dsimp only [tvI_i, tvJ_j, tvR_r] at q475
        refine tw_iload rfl rfl ?_
        refine tw_aload rfl rfl ?_
        refine tw_getS rfl (hi_111_28 hs) ?_
        refine tw_isub rfl ?_
        refine tw_aload rfl rfl ?_
        refine tw_tlen rfl ?_
        refine tw_ic_ne rfl (fun q476 => ?_) (fun q476 => ?_)
        · try dsimp only [tvI_i, tvJ_j, tvR_r] at q476
          have q476i := zneq rfl q476
          refine tw_push rfl ?_
          refine tw_istore rfl ?_
          refine tw_push rfl ?_
          refine tw_istore rfl ?_
          have hix : x.toNatClampNeg = (ms h).1 + k := zof_cl hx
          have hTx : tA h 132 x.toNatClampNeg = T ((ms h).1 + k) := by rw [hix, hT]
          have hnd : ¬ ((ms h).1 + k < n ∧ 97 ≤ (T ((ms h).1 + k)).toInt ∧ (T ((ms h).1 + k)).toInt ≤ 122) := by
            have z0 := q453
            have z1 := q464
            have z2 := q475
            try rw [hTx] at z1
            try rw [hTx] at z2
            omega
          have hE9 : rE T n (ms h).1 = (ms h).1 + k := he.symm.trans (rE_n hnd)
          have hsb : (x - tvI (tF h 111 28)).toInt = ((((ms h).1 + k : Nat) : Int)) - (((ms h).1 : Nat) : Int) := zsb hx (mPz h0.1) (by omega) (by omega)
          have hLn : (Int32.ofNat (G.2.1 q).length).toInt = ((ztx q).length : Int) := by rw [hX]; exact zofI (by omega)
          have hEL : x - tvI (tF h 111 28) = Int32.ofNat (G.2.1 q).length ↔ rE T n (ms h).1 = (ms h).1 + (ztx q).length := ⟨fun z => by rw [z, hLn] at hsb; omega, fun z => Int32.toInt_inj.mp (by rw [hsb, hLn]; omega)⟩
          refine tG_loop (zW_mono zTt G dp) (zW_conj zTt G dp) (V := fun pc L st h9 _ _ => pc = 63 ∧ st = [] ∧ h = h9 ∧ ∃ (j : Nat) (y is : Int32), y.toInt = j ∧ j ≤ (ztx q).length ∧ ((is = 1 ∧ rE T n (ms h).1 = (ms h).1 + (ztx q).length ∧ ∀ i, i < j → T ((ms h).1 + i) = (ztx q).getD i 0) ∨ (is = 0 ∧ ¬ rW T n (ms h).1 (ztx q) = true)) ∧ L = [some (.ref 111), some (.retAddr q), some (.int x), some (.int is), some (.int y)]) ?_ (⟨rfl, rfl, rfl, 0, 0, _, rfl, Nat.zero_le _, Or.inr ⟨rfl, fun z => q476 (hEL.mpr (rW_e z))⟩, rfl⟩)
          rintro _ _ _ _ _ _ ⟨rfl, rfl, rfl, j, y, is, hy, hjn, his, rfl⟩
          refine tw_iload rfl rfl ?_
          refine tw_aload rfl rfl ?_
          refine tw_tlen rfl ?_
          refine tw_ic_ge rfl (fun q477 => ?_) (fun q477 => ?_)
          · try dsimp only [tvI_i, tvJ_j, tvR_r] at q477
            refine tw_iload rfl rfl ?_
            have hlen : (Int32.ofNat (G.2.1 q).length).toInt = ((ztx q).length : Int) := by rw [hX]; exact zofI (by omega)
            have hj : j = (ztx q).length := by have z := q477; omega
            rcases his with ⟨e1, e2, e3⟩ | ⟨e1, e2⟩
            · exact tw_iret rfl ⟨Or.inl ⟨rW_i.mpr ⟨e2, rQ_of _ _ (fun k hk => e3 k (by omega))⟩, congrArg (fun z => some (Value.int z)) e1⟩, rfl⟩
            · exact tw_iret rfl ⟨Or.inr ⟨e2, congrArg (fun z => some (Value.int z)) e1⟩, rfl⟩
          · try dsimp only [tvI_i, tvJ_j, tvR_r] at q477
            refine tw_iload rfl rfl ?_
            refine tw_if_eq rfl (fun q478 => ?_) (fun q478 => ?_)
            · try dsimp only [tvI_i, tvJ_j, tvR_r] at q478
              have q478i := zeqi (Y := 0) (by decide) q478
              refine tw_iload rfl rfl ?_
              have hlen : (Int32.ofNat (G.2.1 q).length).toInt = ((ztx q).length : Int) := by rw [hX]; exact zofI (by omega)
              rcases his with ⟨e1, -, -⟩ | ⟨e1, e2⟩
              · exact absurd (e1.symm.trans q478) (by decide)
              · exact tw_iret rfl ⟨Or.inr ⟨e2, congrArg (fun z => some (Value.int z)) e1⟩, rfl⟩
            · try dsimp only [tvI_i, tvJ_j, tvR_r] at q478
              have q478i := zneq (Y := 0) (by decide) q478
              refine tw_aload rfl rfl ?_
              refine tw_getS rfl (hs_111_35 hs) ?_
              refine tw_aload rfl rfl ?_
              refine tw_getS rfl (hi_111_28 hs) ?_
              refine tw_iload rfl rfl ?_
              refine tw_iadd rfl ?_
              refine tw_bald rfl (fun f479 => ?_)
              refine tw_aload rfl rfl ?_
              refine tw_iload rfl rfl ?_
              refine tw_chr rfl (fun _ => ?_)
              refine tw_ic_ne rfl (fun q480 => ?_) (fun q480 => ?_)
              · try dsimp only [tvI_i, tvJ_j, tvR_r] at q480
                have q480i := zneq rfl q480
                refine tw_push rfl ?_
                refine tw_istore rfl ?_
                refine tw_iinc rfl rfl ?_
                refine tw_goto rfl ?_
                have hlen : (Int32.ofNat (G.2.1 q).length).toInt = ((ztx q).length : Int) := by rw [hX]; exact zofI (by omega)
                have hjl : j < (ztx q).length := by have z := q477; omega
                rcases his with ⟨e1, e2, e3⟩ | ⟨e1, -⟩
                rotate_left
                · exact absurd e1 q478
                have hpy : (tvI (tF h 111 28) + y).toNatClampNeg = (ms h).1 + j := zof_cl (zadN (mPz h0.1) hy (by omega) (by omega))
                have hTy : tA h 132 (tvI (tF h 111 28) + y).toNatClampNeg = T ((ms h).1 + j) := by rw [hpy, hT]
                have ec : (G.2.1 q).getD y.toNatClampNeg 0 = (ztx q).getD j 0 := by rw [hX, zof_cl hy]
                have hc : ¬ T ((ms h).1 + j) = (ztx q).getD j 0 := fun z => q480 (hTy.trans (z.trans ec.symm))
                exact tG_cut (zW_mono zTt G dp) (Or.inr ⟨rfl, rfl, rfl, j + 1, y + 1, _, zincN hy (by omega), by omega, Or.inr ⟨rfl, fun z => hc (rQ_at _ _ _ (rW_i.mp z).2 hjl)⟩, rfl⟩)
              · try dsimp only [tvI_i, tvJ_j, tvR_r] at q480
                have q480i := zeqi rfl q480
                refine tw_push rfl ?_
                refine tw_goto rfl ?_
                refine tw_istore rfl ?_
                refine tw_iinc rfl rfl ?_
                refine tw_goto rfl ?_
                have hlen : (Int32.ofNat (G.2.1 q).length).toInt = ((ztx q).length : Int) := by rw [hX]; exact zofI (by omega)
                have hjl : j < (ztx q).length := by have z := q477; omega
                rcases his with ⟨e1, e2, e3⟩ | ⟨e1, -⟩
                rotate_left
                · exact absurd e1 q478
                have hpy : (tvI (tF h 111 28) + y).toNatClampNeg = (ms h).1 + j := zof_cl (zadN (mPz h0.1) hy (by omega) (by omega))
                have hTy : tA h 132 (tvI (tF h 111 28) + y).toNatClampNeg = T ((ms h).1 + j) := by rw [hpy, hT]
                have ec : (G.2.1 q).getD y.toNatClampNeg 0 = (ztx q).getD j 0 := by rw [hX, zof_cl hy]
                have hc : T ((ms h).1 + j) = (ztx q).getD j 0 := hTy.symm.trans (q480.trans ec)
                exact tG_cut (zW_mono zTt G dp) (Or.inr ⟨rfl, rfl, rfl, j + 1, y + 1, _, zincN hy (by omega), by omega, Or.inl ⟨rfl, e2, fun i hi => (Classical.em (i = j)).elim (fun z => by rw [z]; exact hc) (fun z => e3 i (by omega))⟩, rfl⟩)
        · try dsimp only [tvI_i, tvJ_j, tvR_r] at q476
          have q476i := zeqi rfl q476
          refine tw_push rfl ?_
          refine tw_goto rfl ?_
          refine tw_istore rfl ?_
          refine tw_push rfl ?_
          refine tw_istore rfl ?_
          have hix : x.toNatClampNeg = (ms h).1 + k := zof_cl hx
          have hTx : tA h 132 x.toNatClampNeg = T ((ms h).1 + k) := by rw [hix, hT]
          have hnd : ¬ ((ms h).1 + k < n ∧ 97 ≤ (T ((ms h).1 + k)).toInt ∧ (T ((ms h).1 + k)).toInt ≤ 122) := by
            have z0 := q453
            have z1 := q464
            have z2 := q475
            try rw [hTx] at z1
            try rw [hTx] at z2
            omega
          have hE9 : rE T n (ms h).1 = (ms h).1 + k := he.symm.trans (rE_n hnd)
          have hsb : (x - tvI (tF h 111 28)).toInt = ((((ms h).1 + k : Nat) : Int)) - (((ms h).1 : Nat) : Int) := zsb hx (mPz h0.1) (by omega) (by omega)
          have hLn : (Int32.ofNat (G.2.1 q).length).toInt = ((ztx q).length : Int) := by rw [hX]; exact zofI (by omega)
          have hEL : x - tvI (tF h 111 28) = Int32.ofNat (G.2.1 q).length ↔ rE T n (ms h).1 = (ms h).1 + (ztx q).length := ⟨fun z => by rw [z, hLn] at hsb; omega, fun z => Int32.toInt_inj.mp (by rw [hsb, hLn]; omega)⟩
          refine tG_loop (zW_mono zTt G dp) (zW_conj zTt G dp) (V := fun pc L st h9 _ _ => pc = 63 ∧ st = [] ∧ h = h9 ∧ ∃ (j : Nat) (y is : Int32), y.toInt = j ∧ j ≤ (ztx q).length ∧ ((is = 1 ∧ rE T n (ms h).1 = (ms h).1 + (ztx q).length ∧ ∀ i, i < j → T ((ms h).1 + i) = (ztx q).getD i 0) ∨ (is = 0 ∧ ¬ rW T n (ms h).1 (ztx q) = true)) ∧ L = [some (.ref 111), some (.retAddr q), some (.int x), some (.int is), some (.int y)]) ?_ (⟨rfl, rfl, rfl, 0, 0, _, rfl, Nat.zero_le _, Or.inl ⟨rfl, hEL.mp q476, fun i hi => by omega⟩, rfl⟩)
          rintro _ _ _ _ _ _ ⟨rfl, rfl, rfl, j, y, is, hy, hjn, his, rfl⟩
          refine tw_iload rfl rfl ?_
          refine tw_aload rfl rfl ?_
          refine tw_tlen rfl ?_
          refine tw_ic_ge rfl (fun q481 => ?_) (fun q481 => ?_)
          · try dsimp only [tvI_i, tvJ_j, tvR_r] at q481
            refine tw_iload rfl rfl ?_
            have hlen : (Int32.ofNat (G.2.1 q).length).toInt = ((ztx q).length : Int) := by rw [hX]; exact zofI (by omega)
            have hj : j = (ztx q).length := by have z := q481; omega
            rcases his with ⟨e1, e2, e3⟩ | ⟨e1, e2⟩
            · exact tw_iret rfl ⟨Or.inl ⟨rW_i.mpr ⟨e2, rQ_of _ _ (fun k hk => e3 k (by omega))⟩, congrArg (fun z => some (Value.int z)) e1⟩, rfl⟩
            · exact tw_iret rfl ⟨Or.inr ⟨e2, congrArg (fun z => some (Value.int z)) e1⟩, rfl⟩
          · try dsimp only [tvI_i, tvJ_j, tvR_r] at q481
            refine tw_iload rfl rfl ?_
            refine tw_if_eq rfl (fun q482 => ?_) (fun q482 => ?_)
            · try dsimp only [tvI_i, tvJ_j, tvR_r] at q482
              have q482i := zeqi (Y := 0) (by decide) q482
              refine tw_iload rfl rfl ?_
              have hlen : (Int32.ofNat (G.2.1 q).length).toInt = ((ztx q).length : Int) := by rw [hX]; exact zofI (by omega)
              rcases his with ⟨e1, -, -⟩ | ⟨e1, e2⟩
              · exact absurd (e1.symm.trans q482) (by decide)
              · exact tw_iret rfl ⟨Or.inr ⟨e2, congrArg (fun z => some (Value.int z)) e1⟩, rfl⟩
            · try dsimp only [tvI_i, tvJ_j, tvR_r] at q482
              have q482i := zneq (Y := 0) (by decide) q482
              refine tw_aload rfl rfl ?_
              refine tw_getS rfl (hs_111_35 hs) ?_
              refine tw_aload rfl rfl ?_
              refine tw_getS rfl (hi_111_28 hs) ?_
              refine tw_iload rfl rfl ?_
              refine tw_iadd rfl ?_
              refine tw_bald rfl (fun f483 => ?_)
              refine tw_aload rfl rfl ?_
              refine tw_iload rfl rfl ?_
              refine tw_chr rfl (fun _ => ?_)
              refine tw_ic_ne rfl (fun q484 => ?_) (fun q484 => ?_)
              · try dsimp only [tvI_i, tvJ_j, tvR_r] at q484
                have q484i := zneq rfl q484
                refine tw_push rfl ?_
                refine tw_istore rfl ?_
                refine tw_iinc rfl rfl ?_
                refine tw_goto rfl ?_
                have hlen : (Int32.ofNat (G.2.1 q).length).toInt = ((ztx q).length : Int) := by rw [hX]; exact zofI (by omega)
                have hjl : j < (ztx q).length := by have z := q481; omega
                rcases his with ⟨e1, e2, e3⟩ | ⟨e1, -⟩
                rotate_left
                · exact absurd e1 q482
                have hpy : (tvI (tF h 111 28) + y).toNatClampNeg = (ms h).1 + j := zof_cl (zadN (mPz h0.1) hy (by omega) (by omega))
                have hTy : tA h 132 (tvI (tF h 111 28) + y).toNatClampNeg = T ((ms h).1 + j) := by rw [hpy, hT]
                have ec : (G.2.1 q).getD y.toNatClampNeg 0 = (ztx q).getD j 0 := by rw [hX, zof_cl hy]
                have hc : ¬ T ((ms h).1 + j) = (ztx q).getD j 0 := fun z => q484 (hTy.trans (z.trans ec.symm))
                exact tG_cut (zW_mono zTt G dp) (Or.inr ⟨rfl, rfl, rfl, j + 1, y + 1, _, zincN hy (by omega), by omega, Or.inr ⟨rfl, fun z => hc (rQ_at _ _ _ (rW_i.mp z).2 hjl)⟩, rfl⟩)
              · try dsimp only [tvI_i, tvJ_j, tvR_r] at q484
                have q484i := zeqi rfl q484
                refine tw_push rfl ?_
                refine tw_goto rfl ?_
                refine tw_istore rfl ?_
                refine tw_iinc rfl rfl ?_
                refine tw_goto rfl ?_
                have hlen : (Int32.ofNat (G.2.1 q).length).toInt = ((ztx q).length : Int) := by rw [hX]; exact zofI (by omega)
                have hjl : j < (ztx q).length := by have z := q481; omega
                rcases his with ⟨e1, e2, e3⟩ | ⟨e1, -⟩
                rotate_left
                · exact absurd e1 q482
                have hpy : (tvI (tF h 111 28) + y).toNatClampNeg = (ms h).1 + j := zof_cl (zadN (mPz h0.1) hy (by omega) (by omega))
                have hTy : tA h 132 (tvI (tF h 111 28) + y).toNatClampNeg = T ((ms h).1 + j) := by rw [hpy, hT]
                have ec : (G.2.1 q).getD y.toNatClampNeg 0 = (ztx q).getD j 0 := by rw [hX, zof_cl hy]
                have hc : T ((ms h).1 + j) = (ztx q).getD j 0 := hTy.symm.trans (q484.trans ec)
                exact tG_cut (zW_mono zTt G dp) (Or.inr ⟨rfl, rfl, rfl, j + 1, y + 1, _, zincN hy (by omega), by omega, Or.inl ⟨rfl, e2, fun i hi => (Classical.em (i = j)).elim (fun z => by rw [z]; exact hc) (fun z => e3 i (by omega))⟩, rfl⟩)
      · try dsimp only [tvI_i, tvJ_j, tvR_r] at q475
        refine tw_iinc rfl rfl ?_
        refine tw_goto rfl ?_
        have hix : x.toNatClampNeg = (ms h).1 + k := zof_cl hx
        have hTx : tA h 132 x.toNatClampNeg = T ((ms h).1 + k) := by rw [hix, hT]
        have z1 := q464
        have z2 := q475
        rw [hTx] at z1 z2
        have hlt : (ms h).1 + k < n := by omega
        exact tG_cut (zW_mono zTt G dp) (Or.inr ⟨rfl, rfl, rfl, k + 1, x + 1, _, _, zincL hx q453, (rE_y ⟨hlt, by omega, by omega⟩).symm.trans he, by omega, rfl⟩)
/-- places that bear reading, fault or not -/
noncomputable def mZp (h : zH) : Prop := (0 ≤ (tvI (tF h 111 28)).toInt ∧ 0 ≤ (tvI (tF h 111 27)).toInt) ∧ (tvI (tF h 111 28)).toInt ≤ 500 ∧ (tvI (tF h 111 27)).toInt ≤ 400
theorem mZp_k {h h2 : zH} (z : mZp h) (a : tF h2 111 28 = tF h 111 28) (b : tF h2 111 27 = tF h 111 27) : mZp h2 := by unfold mZp; rw [a, b]; exact z
theorem mZp_p {h : zH} (p : mP h) : mZp h := by have := p.2.1; exact ⟨⟨by omega, by omega⟩, by omega, by omega⟩
theorem mZp_s {h h3 : zH} {X : Int32} (z : mZp h) (s : mSet 28 X h h3) (hX : 0 ≤ X.toInt ∧ X.toInt ≤ 500) : mZp h3 := by
  unfold mZp
  rw [mI_x s, mI_o s (by decide)]
  exact ⟨⟨hX.1, z.1.2⟩, hX.2, z.2.2⟩
theorem mZp_o {h h3 : zH} {X : Int32} {b : Nat} (z : mZp h) (s : mSet b X h h3) (hb : b ≠ 28 ∧ b ≠ 27) : mZp h3 := mZp_k z (mI_o s (fun w => hb.1 w.symm)) (mI_o s (fun w => hb.2 w.symm))
theorem cNum2 {y t : Int32} {V Q : Nat} (hy : y.toInt = (V : Int)) (hV : V + 1 ≤ Q) (hQ : Q ≤ 10000) (ht : 48 ≤ t.toInt ∧ t.toInt ≤ 57) : (10 * y + t - 48).toInt = ((10 * V + (t.toInt - 48).toNat : Nat) : Int) ∧ 10 * V + (t.toInt - 48).toNat + 1 ≤ Q * 10 := by
  have h1 : (10 * y).toInt = 10 * V := by
    rw [Int32.toInt_mul, hy, show (10 : Int32).toInt = 10 from rfl]
    exact Int.bmod_eq_of_le (by show (-2147483648 : Int) ≤ 10 * (V : Int); omega) (by show 10 * (V : Int) < (2147483648 : Int); omega)
  have h2 : (10 * y + t).toInt = 10 * V + t.toInt := by
    rw [Int32.toInt_add, h1]
    exact Int.bmod_eq_of_le (by show (-2147483648 : Int) ≤ 10 * (V : Int) + t.toInt; omega) (by show 10 * (V : Int) + t.toInt < (2147483648 : Int); omega)
  refine ⟨?_, by omega⟩
  rw [Int32.toInt_sub, h2, show (48 : Int32).toInt = 48 from rfl]
  exact (Int.bmod_eq_of_le (by show (-2147483648 : Int) ≤ 10 * (V : Int) + t.toInt - 48; omega) (by show 10 * (V : Int) + t.toInt - 48 < (2147483648 : Int); omega)).trans (by omega)
theorem g_digits {G : zG} (hG : G.1 = zProg) (hX : G.2.1 = ztx) {h : zH} {T : Nat → Int32} {n : Nat} (hs : tSh h) (hp : mP h) (hT : tA h 132 = T) (hN : mn h = n) {m : Int32} {M : Nat} (hm : m.toInt = M) (hM : M ≤ 99999) (hB : rB T n (ms h).1 = (ms h).1) : tC zTt G 211 [.ref 111, .int m] h (fun w h2 => mFr h h2 ∧ ((∃ q, rM T n M (ms h).1 = .inr q ∧ w = some (.int (Int32.ofNat q.2)) ∧ mP h2 ∧ ms h2 = rA q.1 (ms h) ∧ mSk h2 = mSk h ∧ tF h2 111 32 = tF h 111 32) ∨ (∃ e x, rM T n M (ms h).1 = .inl e ∧ w = some (.int x) ∧ 0 ≤ x.toInt ∧ mFt h2 e ∧ mZp h2))) := by
  refine tC_in (by rw [hG]; rfl) (fun dp => ?_)
  have g0 := mFr_r hs
  have hpn : (ms h).1 ≤ n := mPle hp hN
  have c59 : (5 : Int32).toInt = 5 := rfl
  have hn4 : n ≤ 400 := by have a := mNl hp hN; have b := hp.2.1; omega
  refine tw_aload rfl rfl ?_
  refine tw_getS rfl (hi_111_28 hs) ?_
  refine tw_istore rfl ?_
  refine tw_aload rfl rfl ?_
  refine tw_virt0 rfl (g_sign hG hX (g0).1 ((mFr_T g0).trans hT) ((mFr_n g0).trans hN) ⟨hp.2.1.1, by have := hp.2.1; omega⟩) (fun wp485 hp485 p485 => ?_)
  obtain ⟨⟨cp485, rfl, kp485⟩, rfl⟩ := p485
  refine tw_stat1 rfl (g_isDigit hG) (fun w9 h9 p486 => ?_)
  obtain ⟨⟨p486, rfl⟩ | ⟨p486, rfl⟩, rfl⟩ := p486
  · try dsimp only [tvI_i, tvJ_j, tvR_r] at p486
    refine tw_if_ne rfl (fun _ => ?_) (fun z => absurd z (by decide))
    refine tw_push rfl ?_
    refine tw_istore rfl ?_
    refine tw_push rfl ?_
    refine tw_istore rfl ?_
    refine tG_loop (zW_mono zTt G dp) (zW_conj zTt G dp) (V := fun pc L st h9 _ _ => pc = 31 ∧ st = [] ∧ ∃ (h1 : zH) (k : Nat) (x y : Int32), h1 = h9 ∧ mFr h h1 ∧ mP h1 ∧ ms h1 = rA ((ms h).1 + k) (ms h) ∧ mSk h1 = mSk h ∧ tF h1 111 32 = tF h 111 32 ∧ (ms h).1 + k ≤ n ∧ rD T n ((ms h).1 + k) = rD T n (ms h).1 ∧ x.toInt = k ∧ y.toInt = ((rV T (ms h).1 (min k 5) : Nat) : Int) ∧ rV T (ms h).1 (min k 5) + 1 ≤ 10 ^ (min k 5) ∧ L = [some (.ref 111), some (.int m), some (.int (tvI (tF h 111 28))), some (.int x), some (.int y)]) ?_ (⟨rfl, rfl, _, 0, 0, 0, rfl, g0, hp, rfl, rfl, rfl, hpn, rfl, rfl, rfl, Nat.le_refl 1, rfl⟩)
    rintro _ _ _ _ _ _ ⟨rfl, rfl, h1, k, x, y, rfl, g1, p1, hms, hsk, h32, hkn, hrd, hx, hy, hyb, rfl⟩
    refine tw_aload rfl rfl ?_
    refine tw_virt0 rfl (g_sign hG hX (g1).1 ((mFr_T g1).trans hT) ((mFr_n g1).trans hN) ⟨p1.2.1.1, by have := p1.2.1; omega⟩) (fun wp487 hp487 p487 => ?_)
    obtain ⟨⟨cp487, rfl, kp487⟩, rfl⟩ := p487
    refine tw_stat1 rfl (g_isDigit hG) (fun w9 h9 p488 => ?_)
    obtain ⟨⟨p488, rfl⟩ | ⟨p488, rfl⟩, rfl⟩ := p488
    · try dsimp only [tvI_i, tvJ_j, tvR_r] at p488
      refine tw_if_eq rfl (fun z => absurd z (by decide)) (fun _ => ?_)
      refine tw_iload rfl rfl ?_
      refine tw_push rfl ?_
      refine tw_ic_ge rfl (fun q489 => ?_) (fun q489 => ?_)
      · try dsimp only [tvI_i, tvJ_j, tvR_r] at q489
        refine tw_iload rfl rfl ?_
        refine tw_istore rfl ?_
        refine tw_iinc rfl rfl ?_
        refine tw_aload rfl rfl ?_
        refine tw_dup rfl ?_
        refine tw_getS rfl (hi_111_28 (g1).1) ?_
        refine tw_push rfl ?_
        refine tw_iadd rfl ?_
        refine tw_put rfl (fun f490 => ?_)
        refine tG_setm f490 (hw_111_28 f490 (g1).1) (fun hf490 ef490 => ?_)
        try dsimp only [tvI_i] at ef490
        have gf490 := mFr_s g1 ef490 (by unfold mFs; omega)
        have wf490 := (sgm_d kp487).mp p488
        rw [hms] at wf490
        have wf490 : (ms h).1 + k < n ∧ 48 ≤ (T ((ms h).1 + k)).toInt ∧ (T ((ms h).1 + k)).toInt ≤ 57 := wf490
        obtain ⟨pf490, sf490, tf490⟩ := mTo p1 ((mFr_n g1).trans hN) ef490 (v := (ms h).1 + (k + 1)) (zincN (n := (ms h).1 + k) (by rw [mPl p1, hms]; rfl) (by omega)) wf490.1
        refine tw_goto rfl ?_
        have hd2 := (rD_y wf490).symm.trans hrd
        have hk5 : 5 ≤ k := by have z := q489; omega
        have hm5 : min k 5 = 5 := by omega
        have hm6 : min (k + 1) 5 = 5 := by omega
        rw [hm5] at hy hyb
        exact tG_cut (zW_mono zTt G dp) (Or.inr ⟨rfl, rfl, _, k + 1, _, _, rfl, gf490, pf490, (by rw [sf490, hms]; rfl), tf490.trans hsk, (mI_o ef490 (by decide)).trans h32, (by omega), hd2, zincN hx (by omega), (by rw [hm6]; exact hy), (by rw [hm6]; exact hyb), rfl⟩)
      · try dsimp only [tvI_i, tvJ_j, tvR_r] at q489
        refine tw_push rfl ?_
        refine tw_iload rfl rfl ?_
        refine tw_imul rfl ?_
        refine tw_aload rfl rfl ?_
        refine tw_virt0 rfl (g_sign hG hX (g1).1 ((mFr_T g1).trans hT) ((mFr_n g1).trans hN) ⟨p1.2.1.1, by have := p1.2.1; omega⟩) (fun wp491 hp491 p491 => ?_)
        obtain ⟨⟨cp491, rfl, kp491⟩, rfl⟩ := p491
        refine tw_iadd rfl ?_
        refine tw_push rfl ?_
        refine tw_isub rfl ?_
        refine tw_goto rfl ?_
        refine tw_istore rfl ?_
        refine tw_iinc rfl rfl ?_
        refine tw_aload rfl rfl ?_
        refine tw_dup rfl ?_
        refine tw_getS rfl (hi_111_28 (g1).1) ?_
        refine tw_push rfl ?_
        refine tw_iadd rfl ?_
        refine tw_put rfl (fun f492 => ?_)
        refine tG_setm f492 (hw_111_28 f492 (g1).1) (fun hf492 ef492 => ?_)
        try dsimp only [tvI_i] at ef492
        have gf492 := mFr_s g1 ef492 (by unfold mFs; omega)
        have wf492 := (sgm_d kp487).mp p488
        rw [hms] at wf492
        have wf492 : (ms h).1 + k < n ∧ 48 ≤ (T ((ms h).1 + k)).toInt ∧ (T ((ms h).1 + k)).toInt ≤ 57 := wf492
        obtain ⟨pf492, sf492, tf492⟩ := mTo p1 ((mFr_n g1).trans hN) ef492 (v := (ms h).1 + (k + 1)) (zincN (n := (ms h).1 + k) (by rw [mPl p1, hms]; rfl) (by omega)) wf492.1
        refine tw_goto rfl ?_
        have hd2 := (rD_y wf492).symm.trans hrd
        have hk5 : k < 5 := by have z := q489; omega
        have hm5 : min k 5 = k := by omega
        have hm6 : min (k + 1) 5 = k + 1 := by omega
        rw [hm5] at hy hyb
        have hc2 : cp491 = T ((ms h).1 + k) := kp491.elim (fun z => by rw [z.2, hms]; rfl) (fun z => absurd (by rw [hms]; exact wf492.1) z.1)
        have hq4 : 10 ^ k ≤ 10000 := Nat.pow_le_pow_right (n := 10) (by omega) (show k ≤ 4 by omega)
        have hnn := cNum2 hy hyb hq4 (t := T ((ms h).1 + k)) ⟨wf492.2.1, wf492.2.2⟩
        exact tG_cut (zW_mono zTt G dp) (Or.inr ⟨rfl, rfl, _, k + 1, _, _, rfl, gf492, pf492, (by rw [sf492, hms]; rfl), tf492.trans hsk, (mI_o ef492 (by decide)).trans h32, (by omega), hd2, zincN hx (by omega), (by rw [hm6]; show (10 * y + cp491 - 48).toInt = _; rw [hc2]; exact hnn.1), (by rw [hm6, Nat.pow_succ]; exact hnn.2), rfl⟩)
    · try dsimp only [tvI_i, tvJ_j, tvR_r] at p488
      refine tw_if_eq rfl (fun _ => ?_) (fun z => absurd z (by decide))
      refine tw_iload rfl rfl ?_
      refine tw_push rfl ?_
      refine tw_ic_gt rfl (fun q493 => ?_) (fun q493 => ?_)
      · try dsimp only [tvI_i, tvJ_j, tvR_r] at q493
        refine tw_aload rfl rfl ?_
        refine tw_push rfl ?_
        refine tw_iload rfl rfl ?_
        refine tw_virt2 rfl (g_fails hG hX (g1).1 p1 ((mFr_T g1).trans hT) ((mFr_n g1).trans hN) (w := 1) (b := (ms h).1) rfl (by decide) (mPl hp) (by omega)) (fun wp494 hp494 p494 => ?_)
        obtain ⟨rfl, gp494, Fp494, ip494, jp494⟩ := p494
        have ggp494 := mFr_t g1 gp494
        refine tw_iload rfl rfl ?_
        have w0 := (sgm_d kp485).mp p486
        have hge := rD_ge (T := T) (n := n) (p := (ms h).1 + 1)
        rw [← rD_y w0] at hge
        have hnd : rD T n ((ms h).1 + k) = (ms h).1 + k := rD_n (fun z => p488 ((sgm_d kp487).mpr (by rw [hms]; exact z)))
        have hrb : rD T n (ms h).1 = (ms h).1 + k := hrd.symm.trans hnd
        have hk0 : k ≠ 0 := by omega
        have z0 := q493
        have hyn : 0 ≤ y.toInt := by omega
        have hbig : 5 < k ∨ M < rV T (ms h).1 k := by
          rcases Nat.lt_or_ge 5 k with a | a
          · exact Or.inl a
          · rw [show min k 5 = k by omega] at hy; exact Or.inr (by omega)
        exact tw_iret rfl ⟨ggp494, Or.inr ⟨_, _, rM_b hB hrb hk0 hbig, rfl, hyn, Fp494, mZp_k (mZp_p p1) ip494 jp494⟩⟩
      · try dsimp only [tvI_i, tvJ_j, tvR_r] at q493
        refine tw_iload rfl rfl ?_
        refine tw_iload rfl rfl ?_
        refine tw_ic_le rfl (fun q495 => ?_) (fun q495 => ?_)
        · try dsimp only [tvI_i, tvJ_j, tvR_r] at q495
          refine tw_iload rfl rfl ?_
          have w0 := (sgm_d kp485).mp p486
          have hge := rD_ge (T := T) (n := n) (p := (ms h).1 + 1)
          rw [← rD_y w0] at hge
          have hnd : rD T n ((ms h).1 + k) = (ms h).1 + k := rD_n (fun z => p488 ((sgm_d kp487).mpr (by rw [hms]; exact z)))
          have hrb : rD T n (ms h).1 = (ms h).1 + k := hrd.symm.trans hnd
          have hk0 : k ≠ 0 := by omega
          have z0 := q493
          have z1 := q495
          have hyn : 0 ≤ y.toInt := by omega
          have hk5 : k ≤ 5 := by omega
          rw [show min k 5 = k by omega] at hy
          exact tw_iret rfl ⟨g1, Or.inl ⟨_, rM_c hB hrb hk0 (by omega), congrArg (fun z => some (Value.int z)) (zof hy), p1, hms, hsk, h32⟩⟩
        · try dsimp only [tvI_i, tvJ_j, tvR_r] at q495
          refine tw_aload rfl rfl ?_
          refine tw_push rfl ?_
          refine tw_iload rfl rfl ?_
          refine tw_virt2 rfl (g_fails hG hX (g1).1 p1 ((mFr_T g1).trans hT) ((mFr_n g1).trans hN) (w := 1) (b := (ms h).1) rfl (by decide) (mPl hp) (by omega)) (fun wp496 hp496 p496 => ?_)
          obtain ⟨rfl, gp496, Fp496, ip496, jp496⟩ := p496
          have ggp496 := mFr_t g1 gp496
          refine tw_iload rfl rfl ?_
          have w0 := (sgm_d kp485).mp p486
          have hge := rD_ge (T := T) (n := n) (p := (ms h).1 + 1)
          rw [← rD_y w0] at hge
          have hnd : rD T n ((ms h).1 + k) = (ms h).1 + k := rD_n (fun z => p488 ((sgm_d kp487).mpr (by rw [hms]; exact z)))
          have hrb : rD T n (ms h).1 = (ms h).1 + k := hrd.symm.trans hnd
          have hk0 : k ≠ 0 := by omega
          have z0 := q493
          have z1 := q495
          have hyn : 0 ≤ y.toInt := by omega
          have hbig : 5 < k ∨ M < rV T (ms h).1 k := by
            rcases Nat.lt_or_ge 5 k with a | a
            · exact Or.inl a
            · rw [show min k 5 = k by omega] at hy; exact Or.inr (by omega)
          exact tw_iret rfl ⟨ggp496, Or.inr ⟨_, _, rM_b hB hrb hk0 hbig, rfl, hyn, Fp496, mZp_k (mZp_p p1) ip496 jp496⟩⟩
  · try dsimp only [tvI_i, tvJ_j, tvR_r] at p486
    refine tw_if_ne rfl (fun z => absurd z (by decide)) (fun _ => ?_)
    refine tw_aload rfl rfl ?_
    refine tw_push rfl ?_
    refine tw_aload rfl rfl ?_
    refine tw_getS rfl (hi_111_28 (g0).1) ?_
    refine tw_virt2 rfl (g_fails hG hX (g0).1 hp ((mFr_T g0).trans hT) ((mFr_n g0).trans hN) (w := 0) (b := (ms h).1) rfl (by decide) (mPl hp) (by omega)) (fun wp497 hp497 p497 => ?_)
    obtain ⟨rfl, gp497, Fp497, ip497, jp497⟩ := p497
    have ggp497 := mFr_t g0 gp497
    refine tw_push rfl ?_
    have hnd : rD T n (ms h).1 = (ms h).1 := rD_n (fun z => p486 ((sgm_d kp485).mpr z))
    exact tw_iret rfl ⟨ggp497, Or.inr ⟨_, _, rM_a hB hnd, rfl, by decide, Fp497, mZp_k (mZp_p hp) ip497 jp497⟩⟩
theorem mhead {S : List Nat} {k : Nat} (h : S.headD 0 = k + 1) : S = (k + 1) :: S.tail := by
  cases S with
  | nil => cases h
  | cons x r => rw [show x = k + 1 from h]; rfl
theorem mT_y (r o : List Nat) : mT (102 :: r) o = mT r (o ++ [100102]) := if_pos rfl
theorem mN_y (r o : List Nat) : mN (10 :: r) o = mN r (o ++ [100110]) := if_pos rfl
theorem mA_y (r o : List Nat) : mA (11 :: r) o = mA r (o ++ [100109]) := if_pos rfl
theorem mO_y (r o : List Nat) : mO1 (12 :: r) o = mO1 r (o ++ [100108]) := if_pos rfl
theorem mP_y (r o : List Nat) : mPm (103 :: r) o = mPm r (o ++ [100100]) := if_pos rfl
theorem mM_y (r o : List Nat) : mPm (104 :: r) o = mPm r (o ++ [100101]) := (if_neg (by decide)).trans (if_pos rfl)
theorem mne {S : List Nat} {k : Nat} (h : S.headD 0 = k + 1) : S ≠ [] := fun z => by rw [z] at h; cases h
theorem g_makesProducts {G : zG} (hG : G.1 = zProg) (hX : G.2.1 = ztx) {h : zH} {T : Nat → Int32} {n : Nat} (hs : tSh h) (hp : mP h) (hT : tA h 132 = T) (hN : mn h = n)  : tC zTt G 214 [.ref 111] h (fun w h2 => w = none ∧ mFr h h2 ∧ mP h2 ∧ (ms h2).1 = (ms h).1 ∧ (ms h2).2.1 = (ms h).2.1 ∧ (mSk h2, (ms h2).2.2) = mT (mSk h) (ms h).2.2 ∧ tF h2 111 32 = tF h 111 32) := by
  refine tC_in (by rw [hG]; rfl) (fun dp => ?_)
  have g0 := mFr_r hs
  have hpn : (ms h).1 ≤ n := mPle hp hN
  refine tG_loop (zW_mono zTt G dp) (zW_conj zTt G dp) (V := fun pc L st h9 _ _ => pc = 0 ∧ st = [] ∧ ∃ h1, h1 = h9 ∧ mFr h h1 ∧ mP h1 ∧ (ms h1).1 = (ms h).1 ∧ (ms h1).2.1 = (ms h).2.1 ∧ mT (mSk h1) (ms h1).2.2 = mT (mSk h) (ms h).2.2 ∧ tF h1 111 32 = tF h 111 32 ∧ L = [some (.ref 111)]) ?_ (⟨rfl, rfl, _, rfl, g0, hp, rfl, rfl, rfl, rfl, rfl⟩)
  rintro _ _ _ _ _ _ ⟨rfl, rfl, h1, rfl, g1, p1, e1, e2, hL, h32, rfl⟩
  refine tw_aload rfl rfl ?_
  refine tw_virt0 rfl (g_top hG hX (g1).1 p1 ((mFr_T g1).trans hT) ((mFr_n g1).trans hN)) (fun wp498 hp498 p498 => ?_)
  obtain ⟨⟨cp498, rfl, Tp498⟩, rfl⟩ := p498
  refine tw_push rfl ?_
  refine tw_ic_ne rfl (fun q499 => ?_) (fun q499 => ?_)
  · try dsimp only [tvI_i, tvJ_j, tvR_r] at q499
    have q499i := zneq (Y := 102) (by decide) q499
    have hfin : (mSk h1, (ms h1).2.2) = mT (mSk h) (ms h).2.2 := by rw [← hL, mT_n (fun z => q499 ((tpm_k Tp498 (k := 102) (K := 102) rfl (by decide)).mpr z))]
    exact tw_vret rfl ⟨rfl, g1, p1, e1, e2, hfin, h32⟩
  · try dsimp only [tvI_i, tvJ_j, tvR_r] at q499
    have q499i := zeqi (Y := 102) (by decide) q499
    refine tw_aload rfl rfl ?_
    refine tw_push rfl ?_
    refine tw_push rfl ?_
    have hhd : (mSk h1).headD 0 = 102 := (tpm_k Tp498 (k := 102) (K := 102) rfl (by decide)).mp q499
    have hne := mne (k := 101) hhd
    have hst : mSk h1 = 102 :: (mSk h1).tail := mhead (k := 101) hhd
    refine tw_virt2 rfl (g_entry hG hX (g1).1 p1 ((mFr_T g1).trans hT) ((mFr_n g1).trans hN) ⟨by decide, by decide⟩) (fun wp500 hp500 p500 => ?_)
    obtain ⟨rfl, gp500, pp500e, sp500, tp500, dp500⟩ := p500
    have ggp500 := mFr_t g1 gp500
    refine tw_aload rfl rfl ?_
    refine tw_dup rfl ?_
    refine tw_getS rfl (hi_111_34 ggp500.1) ?_
    refine tw_push rfl ?_
    refine tw_isub rfl ?_
    refine tw_put rfl (fun f501 => ?_)
    refine tG_setm f501 (hw_111_34 f501 (ggp500).1) (fun hf501 ef501 => ?_)
    try dsimp only [tvI_i] at ef501
    have gf501 := mFr_s ggp500 ef501 (by unfold mFs; omega)
    have hnef501 : mSk hp500 ≠ [] := by rw [tp500]; exact hne
    obtain ⟨pf501, tf501, sf501, df501⟩ := mSk_pop pp500e hnef501 ef501
    refine tw_goto rfl ?_
    have hst : mSk h1 = 102 :: (mSk h1).tail := mhead (k := 101) hhd
    have hsp : mSk hf501 = (mSk h1).tail := by rw [tf501, tp500]
    have hms2 : ms hf501 = rU 100102 (ms h1) := by rw [sf501, sp500]; rfl
    have hlp : mT (mSk hf501) (ms hf501).2.2 = mT (mSk h) (ms h).2.2 := by rw [hsp, hms2, ← hL, hst]; exact (mT_y (mSk h1).tail _).symm
    exact tG_cut (zW_mono zTt G dp) (Or.inr ⟨rfl, rfl, _, rfl, gf501, pf501, by rw [hms2]; exact e1, by rw [hms2]; exact e2, hlp, df501.trans (dp500.trans h32), rfl⟩)
theorem g_makesNots {G : zG} (hG : G.1 = zProg) (hX : G.2.1 = ztx) {h : zH} {T : Nat → Int32} {n : Nat} (hs : tSh h) (hp : mP h) (hT : tA h 132 = T) (hN : mn h = n) (hD : mD h) : tC zTt G 219 [.ref 111] h (fun w h2 => w = none ∧ mFr h h2 ∧ mP h2 ∧ (ms h2).1 = (ms h).1 ∧ (ms h2).2.1 = (ms h).2.1 ∧ (mSk h2, (ms h2).2.2) = mN (mSk h) (ms h).2.2 ∧ mD h2) := by
  refine tC_in (by rw [hG]; rfl) (fun dp => ?_)
  have g0 := mFr_r hs
  have hpn : (ms h).1 ≤ n := mPle hp hN
  refine tG_loop (zW_mono zTt G dp) (zW_conj zTt G dp) (V := fun pc L st h9 _ _ => pc = 0 ∧ st = [] ∧ ∃ h1, h1 = h9 ∧ mFr h h1 ∧ mP h1 ∧ (ms h1).1 = (ms h).1 ∧ (ms h1).2.1 = (ms h).2.1 ∧ mN (mSk h1) (ms h1).2.2 = mN (mSk h) (ms h).2.2 ∧ mD h1 ∧ L = [some (.ref 111)]) ?_ (⟨rfl, rfl, _, rfl, g0, hp, rfl, rfl, rfl, hD, rfl⟩)
  rintro _ _ _ _ _ _ ⟨rfl, rfl, h1, rfl, g1, p1, e1, e2, hL, hDn, rfl⟩
  refine tw_aload rfl rfl ?_
  refine tw_virt0 rfl (g_top hG hX (g1).1 p1 ((mFr_T g1).trans hT) ((mFr_n g1).trans hN)) (fun wp502 hp502 p502 => ?_)
  obtain ⟨⟨cp502, rfl, Tp502⟩, rfl⟩ := p502
  refine tw_push rfl ?_
  refine tw_ic_ne rfl (fun q503 => ?_) (fun q503 => ?_)
  · try dsimp only [tvI_i, tvJ_j, tvR_r] at q503
    have q503i := zneq (Y := 10) (by decide) q503
    have hfin : (mSk h1, (ms h1).2.2) = mN (mSk h) (ms h).2.2 := by rw [← hL, mN_n (fun z => q503 ((tpm_k Tp502 (k := 10) (K := 10) rfl (by decide)).mpr z))]
    exact tw_vret rfl ⟨rfl, g1, p1, e1, e2, hfin, hDn⟩
  · try dsimp only [tvI_i, tvJ_j, tvR_r] at q503
    have q503i := zeqi (Y := 10) (by decide) q503
    refine tw_aload rfl rfl ?_
    refine tw_push rfl ?_
    refine tw_push rfl ?_
    have hhd : (mSk h1).headD 0 = 10 := (tpm_k Tp502 (k := 10) (K := 10) rfl (by decide)).mp q503
    have hne := mne (k := 9) hhd
    have hst : mSk h1 = 10 :: (mSk h1).tail := mhead (k := 9) hhd
    refine tw_virt2 rfl (g_entry hG hX (g1).1 p1 ((mFr_T g1).trans hT) ((mFr_n g1).trans hN) ⟨by decide, by decide⟩) (fun wp504 hp504 p504 => ?_)
    obtain ⟨rfl, gp504, pp504e, sp504, tp504, dp504⟩ := p504
    have ggp504 := mFr_t g1 gp504
    refine tw_aload rfl rfl ?_
    refine tw_dup rfl ?_
    refine tw_getS rfl (hi_111_34 ggp504.1) ?_
    refine tw_push rfl ?_
    refine tw_isub rfl ?_
    refine tw_put rfl (fun f505 => ?_)
    refine tG_setm f505 (hw_111_34 f505 (ggp504).1) (fun hf505 ef505 => ?_)
    try dsimp only [tvI_i] at ef505
    have gf505 := mFr_s ggp504 ef505 (by unfold mFs; omega)
    have hnef505 : mSk hp504 ≠ [] := by rw [tp504]; exact hne
    obtain ⟨pf505, tf505, sf505, df505⟩ := mSk_pop pp504e hnef505 ef505
    refine tw_aload rfl rfl ?_
    refine tw_dup rfl ?_
    refine tw_getS rfl (hi_111_32 (gf505).1) ?_
    refine tw_push rfl ?_
    refine tw_isub rfl ?_
    refine tw_put rfl (fun f506 => ?_)
    refine tG_setm f506 (hw_111_32 f506 (gf505).1) (fun hf506 ef506 => ?_)
    try dsimp only [tvI_i] at ef506
    have gf506 := mFr_s gf505 ef506 (by unfold mFs; omega)
    have hdf506 : (tvI (tF hf505 111 32)).toInt = ((mDp (mSk hf505) + 1 : Nat) : Int) := by
      rw [df505, dp504]
      refine (show (tvI (tF h1 111 32)).toInt = (mDp (mSk h1) : Int) from hDn).trans ?_
      rw [tf505, tp504]
      exact congrArg (fun z : Nat => (z : Int)) ((congrArg mDp hst).trans (mDp_c (by decide)))
    obtain ⟨pf506, tf506, sf506, ddf506⟩ := mDn pf505 ef506 hdf506 rfl
    refine tw_goto rfl ?_
    have hst : mSk h1 = 10 :: (mSk h1).tail := mhead (k := 9) hhd
    have hsp : mSk hf506 = (mSk h1).tail := by rw [tf506, tf505, tp504]
    have hms2 : ms hf506 = rU 100110 (ms h1) := by rw [sf506, sf505, sp504]; rfl
    have hlp : mN (mSk hf506) (ms hf506).2.2 = mN (mSk h) (ms h).2.2 := by rw [hsp, hms2, ← hL, hst]; exact (mN_y (mSk h1).tail _).symm
    exact tG_cut (zW_mono zTt G dp) (Or.inr ⟨rfl, rfl, _, rfl, gf506, pf506, by rw [hms2]; exact e1, by rw [hms2]; exact e2, hlp, ddf506, rfl⟩)
theorem g_makesAnds {G : zG} (hG : G.1 = zProg) (hX : G.2.1 = ztx) {h : zH} {T : Nat → Int32} {n : Nat} (hs : tSh h) (hp : mP h) (hT : tA h 132 = T) (hN : mn h = n)  : tC zTt G 220 [.ref 111] h (fun w h2 => w = none ∧ mFr h h2 ∧ mP h2 ∧ (ms h2).1 = (ms h).1 ∧ (ms h2).2.1 = (ms h).2.1 ∧ (mSk h2, (ms h2).2.2) = mA (mSk h) (ms h).2.2 ∧ tF h2 111 32 = tF h 111 32) := by
  refine tC_in (by rw [hG]; rfl) (fun dp => ?_)
  have g0 := mFr_r hs
  have hpn : (ms h).1 ≤ n := mPle hp hN
  refine tG_loop (zW_mono zTt G dp) (zW_conj zTt G dp) (V := fun pc L st h9 _ _ => pc = 0 ∧ st = [] ∧ ∃ h1, h1 = h9 ∧ mFr h h1 ∧ mP h1 ∧ (ms h1).1 = (ms h).1 ∧ (ms h1).2.1 = (ms h).2.1 ∧ mA (mSk h1) (ms h1).2.2 = mA (mSk h) (ms h).2.2 ∧ tF h1 111 32 = tF h 111 32 ∧ L = [some (.ref 111)]) ?_ (⟨rfl, rfl, _, rfl, g0, hp, rfl, rfl, rfl, rfl, rfl⟩)
  rintro _ _ _ _ _ _ ⟨rfl, rfl, h1, rfl, g1, p1, e1, e2, hL, h32, rfl⟩
  refine tw_aload rfl rfl ?_
  refine tw_virt0 rfl (g_top hG hX (g1).1 p1 ((mFr_T g1).trans hT) ((mFr_n g1).trans hN)) (fun wp507 hp507 p507 => ?_)
  obtain ⟨⟨cp507, rfl, Tp507⟩, rfl⟩ := p507
  refine tw_push rfl ?_
  refine tw_ic_ne rfl (fun q508 => ?_) (fun q508 => ?_)
  · try dsimp only [tvI_i, tvJ_j, tvR_r] at q508
    have q508i := zneq (Y := 11) (by decide) q508
    have hfin : (mSk h1, (ms h1).2.2) = mA (mSk h) (ms h).2.2 := by rw [← hL, mA_n (fun z => q508 ((tpm_k Tp507 (k := 11) (K := 11) rfl (by decide)).mpr z))]
    exact tw_vret rfl ⟨rfl, g1, p1, e1, e2, hfin, h32⟩
  · try dsimp only [tvI_i, tvJ_j, tvR_r] at q508
    have q508i := zeqi (Y := 11) (by decide) q508
    refine tw_aload rfl rfl ?_
    refine tw_push rfl ?_
    refine tw_push rfl ?_
    have hhd : (mSk h1).headD 0 = 11 := (tpm_k Tp507 (k := 11) (K := 11) rfl (by decide)).mp q508
    have hne := mne (k := 10) hhd
    have hst : mSk h1 = 11 :: (mSk h1).tail := mhead (k := 10) hhd
    refine tw_virt2 rfl (g_entry hG hX (g1).1 p1 ((mFr_T g1).trans hT) ((mFr_n g1).trans hN) ⟨by decide, by decide⟩) (fun wp509 hp509 p509 => ?_)
    obtain ⟨rfl, gp509, pp509e, sp509, tp509, dp509⟩ := p509
    have ggp509 := mFr_t g1 gp509
    refine tw_aload rfl rfl ?_
    refine tw_dup rfl ?_
    refine tw_getS rfl (hi_111_34 ggp509.1) ?_
    refine tw_push rfl ?_
    refine tw_isub rfl ?_
    refine tw_put rfl (fun f510 => ?_)
    refine tG_setm f510 (hw_111_34 f510 (ggp509).1) (fun hf510 ef510 => ?_)
    try dsimp only [tvI_i] at ef510
    have gf510 := mFr_s ggp509 ef510 (by unfold mFs; omega)
    have hnef510 : mSk hp509 ≠ [] := by rw [tp509]; exact hne
    obtain ⟨pf510, tf510, sf510, df510⟩ := mSk_pop pp509e hnef510 ef510
    refine tw_goto rfl ?_
    have hst : mSk h1 = 11 :: (mSk h1).tail := mhead (k := 10) hhd
    have hsp : mSk hf510 = (mSk h1).tail := by rw [tf510, tp509]
    have hms2 : ms hf510 = rU 100109 (ms h1) := by rw [sf510, sp509]; rfl
    have hlp : mA (mSk hf510) (ms hf510).2.2 = mA (mSk h) (ms h).2.2 := by rw [hsp, hms2, ← hL, hst]; exact (mA_y (mSk h1).tail _).symm
    exact tG_cut (zW_mono zTt G dp) (Or.inr ⟨rfl, rfl, _, rfl, gf510, pf510, by rw [hms2]; exact e1, by rw [hms2]; exact e2, hlp, df510.trans (dp509.trans h32), rfl⟩)
theorem g_makesSums {G : zG} (hG : G.1 = zProg) (hX : G.2.1 = ztx) {h : zH} {T : Nat → Int32} {n : Nat} (hs : tSh h) (hp : mP h) (hT : tA h 132 = T) (hN : mn h = n)  : tC zTt G 215 [.ref 111] h (fun w h2 => w = none ∧ mFr h h2 ∧ mP h2 ∧ (ms h2).1 = (ms h).1 ∧ (ms h2).2.1 = (ms h).2.1 ∧ (mSk h2, (ms h2).2.2) = mS (mSk h) (ms h).2.2 ∧ tF h2 111 32 = tF h 111 32) := by
  refine tC_in (by rw [hG]; rfl) (fun dp => ?_)
  have g0 := mFr_r hs
  have hpn : (ms h).1 ≤ n := mPle hp hN
  refine tw_aload rfl rfl ?_
  refine tw_virt0 rfl (g_makesProducts hG hX (g0).1 hp ((mFr_T g0).trans hT) ((mFr_n g0).trans hN)) (fun wp511 hp511 p511 => ?_)
  obtain ⟨rfl, gp511, pp511e, ap511, bp511, mp511, dp511⟩ := p511
  have ggp511 := mFr_t g0 gp511
  refine tG_loop (zW_mono zTt G dp) (zW_conj zTt G dp) (V := fun pc L st h9 _ _ => pc = 4 ∧ st = [] ∧ ∃ h1, h1 = h9 ∧ mFr h h1 ∧ mP h1 ∧ (ms h1).1 = (ms h).1 ∧ (ms h1).2.1 = (ms h).2.1 ∧ mPm (mSk h1) (ms h1).2.2 = mS (mSk h) (ms h).2.2 ∧ tF h1 111 32 = tF h 111 32 ∧ L = [some (.ref 111)]) ?_ (⟨rfl, rfl, _, rfl, ggp511, pp511e, ap511, bp511, (by unfold mS; rw [← mp511]), dp511, rfl⟩)
  rintro _ _ _ _ _ _ ⟨rfl, rfl, h1, rfl, g1, p1, e1, e2, hL, h32, rfl⟩
  refine tw_aload rfl rfl ?_
  refine tw_virt0 rfl (g_top hG hX (g1).1 p1 ((mFr_T g1).trans hT) ((mFr_n g1).trans hN)) (fun wp512 hp512 p512 => ?_)
  obtain ⟨⟨cp512, rfl, Tp512⟩, rfl⟩ := p512
  refine tw_push rfl ?_
  refine tw_ic_eq rfl (fun q513 => ?_) (fun q513 => ?_)
  · try dsimp only [tvI_i, tvJ_j, tvR_r] at q513
    have q513i := zeqi (Y := 103) (by decide) q513
    refine tw_aload rfl rfl ?_
    refine tw_aload rfl rfl ?_
    refine tw_virt0 rfl (g_top hG hX (g1).1 p1 ((mFr_T g1).trans hT) ((mFr_n g1).trans hN)) (fun wp514 hp514 p514 => ?_)
    obtain ⟨⟨cp514, rfl, Tp514⟩, rfl⟩ := p514
    refine tw_push rfl ?_
    refine tw_isub rfl ?_
    refine tw_push rfl ?_
    have hhd : (mSk h1).headD 0 = 103 := (tpm_k Tp512 (k := 103) (K := 103) rfl (by decide)).mp q513
    have hne := mne (k := 102) hhd
    have hst : mSk h1 = 103 :: (mSk h1).tail := mhead (k := 102) hhd
    have hc9 := (tpm_k Tp514 (k := 103) (K := 103) rfl (by decide)).mpr hhd
    subst hc9
    refine tw_virt2 rfl (g_entry hG hX (g1).1 p1 ((mFr_T g1).trans hT) ((mFr_n g1).trans hN) ⟨by decide, by decide⟩) (fun wp515 hp515 p515 => ?_)
    obtain ⟨rfl, gp515, pp515e, sp515, tp515, dp515⟩ := p515
    have ggp515 := mFr_t g1 gp515
    refine tw_aload rfl rfl ?_
    refine tw_dup rfl ?_
    refine tw_getS rfl (hi_111_34 ggp515.1) ?_
    refine tw_push rfl ?_
    refine tw_isub rfl ?_
    refine tw_put rfl (fun f516 => ?_)
    refine tG_setm f516 (hw_111_34 f516 (ggp515).1) (fun hf516 ef516 => ?_)
    try dsimp only [tvI_i] at ef516
    have gf516 := mFr_s ggp515 ef516 (by unfold mFs; omega)
    have hnef516 : mSk hp515 ≠ [] := by rw [tp515]; exact hne
    obtain ⟨pf516, tf516, sf516, df516⟩ := mSk_pop pp515e hnef516 ef516
    refine tw_goto rfl ?_
    have hst : mSk h1 = 103 :: (mSk h1).tail := mhead (k := 102) hhd
    have hsp : mSk hf516 = (mSk h1).tail := by rw [tf516, tp515]
    have hms2 : ms hf516 = rU 100100 (ms h1) := by rw [sf516, sp515]; rfl
    have hlp : mPm (mSk hf516) (ms hf516).2.2 = mS (mSk h) (ms h).2.2 := by rw [hsp, hms2, ← hL, hst]; exact (mP_y (mSk h1).tail _).symm
    exact tG_cut (zW_mono zTt G dp) (Or.inr ⟨rfl, rfl, _, rfl, gf516, pf516, by rw [hms2]; exact e1, by rw [hms2]; exact e2, hlp, df516.trans (dp515.trans h32), rfl⟩)
  · try dsimp only [tvI_i, tvJ_j, tvR_r] at q513
    have q513i := zneq (Y := 103) (by decide) q513
    refine tw_aload rfl rfl ?_
    refine tw_virt0 rfl (g_top hG hX (g1).1 p1 ((mFr_T g1).trans hT) ((mFr_n g1).trans hN)) (fun wp517 hp517 p517 => ?_)
    obtain ⟨⟨cp517, rfl, Tp517⟩, rfl⟩ := p517
    refine tw_push rfl ?_
    refine tw_ic_ne rfl (fun q518 => ?_) (fun q518 => ?_)
    · try dsimp only [tvI_i, tvJ_j, tvR_r] at q518
      have q518i := zneq (Y := 104) (by decide) q518
      have hfin : (mSk h1, (ms h1).2.2) = mS (mSk h) (ms h).2.2 := by rw [← hL, mPm_n (fun z => q513 ((tpm_k Tp512 (k := 103) (K := 103) rfl (by decide)).mpr z)) (fun z => q518 ((tpm_k Tp517 (k := 104) (K := 104) rfl (by decide)).mpr z))]
      exact tw_vret rfl ⟨rfl, g1, p1, e1, e2, hfin, h32⟩
    · try dsimp only [tvI_i, tvJ_j, tvR_r] at q518
      have q518i := zeqi (Y := 104) (by decide) q518
      refine tw_aload rfl rfl ?_
      refine tw_aload rfl rfl ?_
      refine tw_virt0 rfl (g_top hG hX (g1).1 p1 ((mFr_T g1).trans hT) ((mFr_n g1).trans hN)) (fun wp519 hp519 p519 => ?_)
      obtain ⟨⟨cp519, rfl, Tp519⟩, rfl⟩ := p519
      refine tw_push rfl ?_
      refine tw_isub rfl ?_
      refine tw_push rfl ?_
      have hhd : (mSk h1).headD 0 = 104 := (tpm_k Tp517 (k := 104) (K := 104) rfl (by decide)).mp q518
      have hne := mne (k := 103) hhd
      have hst : mSk h1 = 104 :: (mSk h1).tail := mhead (k := 103) hhd
      have hc9 := (tpm_k Tp519 (k := 104) (K := 104) rfl (by decide)).mpr hhd
      subst hc9
      refine tw_virt2 rfl (g_entry hG hX (g1).1 p1 ((mFr_T g1).trans hT) ((mFr_n g1).trans hN) ⟨by decide, by decide⟩) (fun wp520 hp520 p520 => ?_)
      obtain ⟨rfl, gp520, pp520e, sp520, tp520, dp520⟩ := p520
      have ggp520 := mFr_t g1 gp520
      refine tw_aload rfl rfl ?_
      refine tw_dup rfl ?_
      refine tw_getS rfl (hi_111_34 ggp520.1) ?_
      refine tw_push rfl ?_
      refine tw_isub rfl ?_
      refine tw_put rfl (fun f521 => ?_)
      refine tG_setm f521 (hw_111_34 f521 (ggp520).1) (fun hf521 ef521 => ?_)
      try dsimp only [tvI_i] at ef521
      have gf521 := mFr_s ggp520 ef521 (by unfold mFs; omega)
      have hnef521 : mSk hp520 ≠ [] := by rw [tp520]; exact hne
      obtain ⟨pf521, tf521, sf521, df521⟩ := mSk_pop pp520e hnef521 ef521
      refine tw_goto rfl ?_
      have hst : mSk h1 = 104 :: (mSk h1).tail := mhead (k := 103) hhd
      have hsp : mSk hf521 = (mSk h1).tail := by rw [tf521, tp520]
      have hms2 : ms hf521 = rU 100101 (ms h1) := by rw [sf521, sp520]; rfl
      have hlp : mPm (mSk hf521) (ms hf521).2.2 = mS (mSk h) (ms h).2.2 := by rw [hsp, hms2, ← hL, hst]; exact (mM_y (mSk h1).tail _).symm
      exact tG_cut (zW_mono zTt G dp) (Or.inr ⟨rfl, rfl, _, rfl, gf521, pf521, by rw [hms2]; exact e1, by rw [hms2]; exact e2, hlp, df521.trans (dp520.trans h32), rfl⟩)
theorem g_makesOrs {G : zG} (hG : G.1 = zProg) (hX : G.2.1 = ztx) {h : zH} {T : Nat → Int32} {n : Nat} (hs : tSh h) (hp : mP h) (hT : tA h 132 = T) (hN : mn h = n)  : tC zTt G 221 [.ref 111] h (fun w h2 => w = none ∧ mFr h h2 ∧ mP h2 ∧ (ms h2).1 = (ms h).1 ∧ (ms h2).2.1 = (ms h).2.1 ∧ (mSk h2, (ms h2).2.2) = mO (mSk h) (ms h).2.2 ∧ tF h2 111 32 = tF h 111 32) := by
  refine tC_in (by rw [hG]; rfl) (fun dp => ?_)
  have g0 := mFr_r hs
  have hpn : (ms h).1 ≤ n := mPle hp hN
  refine tw_aload rfl rfl ?_
  refine tw_virt0 rfl (g_makesAnds hG hX (g0).1 hp ((mFr_T g0).trans hT) ((mFr_n g0).trans hN)) (fun wp522 hp522 p522 => ?_)
  obtain ⟨rfl, gp522, pp522e, ap522, bp522, mp522, dp522⟩ := p522
  have ggp522 := mFr_t g0 gp522
  refine tG_loop (zW_mono zTt G dp) (zW_conj zTt G dp) (V := fun pc L st h9 _ _ => pc = 4 ∧ st = [] ∧ ∃ h1, h1 = h9 ∧ mFr h h1 ∧ mP h1 ∧ (ms h1).1 = (ms h).1 ∧ (ms h1).2.1 = (ms h).2.1 ∧ mO1 (mSk h1) (ms h1).2.2 = mO (mSk h) (ms h).2.2 ∧ tF h1 111 32 = tF h 111 32 ∧ L = [some (.ref 111)]) ?_ (⟨rfl, rfl, _, rfl, ggp522, pp522e, ap522, bp522, (by unfold mO; rw [← mp522]), dp522, rfl⟩)
  rintro _ _ _ _ _ _ ⟨rfl, rfl, h1, rfl, g1, p1, e1, e2, hL, h32, rfl⟩
  refine tw_aload rfl rfl ?_
  refine tw_virt0 rfl (g_top hG hX (g1).1 p1 ((mFr_T g1).trans hT) ((mFr_n g1).trans hN)) (fun wp523 hp523 p523 => ?_)
  obtain ⟨⟨cp523, rfl, Tp523⟩, rfl⟩ := p523
  refine tw_push rfl ?_
  refine tw_ic_ne rfl (fun q524 => ?_) (fun q524 => ?_)
  · try dsimp only [tvI_i, tvJ_j, tvR_r] at q524
    have q524i := zneq (Y := 12) (by decide) q524
    have hfin : (mSk h1, (ms h1).2.2) = mO (mSk h) (ms h).2.2 := by rw [← hL, mO1_n (fun z => q524 ((tpm_k Tp523 (k := 12) (K := 12) rfl (by decide)).mpr z))]
    exact tw_vret rfl ⟨rfl, g1, p1, e1, e2, hfin, h32⟩
  · try dsimp only [tvI_i, tvJ_j, tvR_r] at q524
    have q524i := zeqi (Y := 12) (by decide) q524
    refine tw_aload rfl rfl ?_
    refine tw_push rfl ?_
    refine tw_push rfl ?_
    have hhd : (mSk h1).headD 0 = 12 := (tpm_k Tp523 (k := 12) (K := 12) rfl (by decide)).mp q524
    have hne := mne (k := 11) hhd
    have hst : mSk h1 = 12 :: (mSk h1).tail := mhead (k := 11) hhd
    refine tw_virt2 rfl (g_entry hG hX (g1).1 p1 ((mFr_T g1).trans hT) ((mFr_n g1).trans hN) ⟨by decide, by decide⟩) (fun wp525 hp525 p525 => ?_)
    obtain ⟨rfl, gp525, pp525e, sp525, tp525, dp525⟩ := p525
    have ggp525 := mFr_t g1 gp525
    refine tw_aload rfl rfl ?_
    refine tw_dup rfl ?_
    refine tw_getS rfl (hi_111_34 ggp525.1) ?_
    refine tw_push rfl ?_
    refine tw_isub rfl ?_
    refine tw_put rfl (fun f526 => ?_)
    refine tG_setm f526 (hw_111_34 f526 (ggp525).1) (fun hf526 ef526 => ?_)
    try dsimp only [tvI_i] at ef526
    have gf526 := mFr_s ggp525 ef526 (by unfold mFs; omega)
    have hnef526 : mSk hp525 ≠ [] := by rw [tp525]; exact hne
    obtain ⟨pf526, tf526, sf526, df526⟩ := mSk_pop pp525e hnef526 ef526
    refine tw_goto rfl ?_
    have hst : mSk h1 = 12 :: (mSk h1).tail := mhead (k := 11) hhd
    have hsp : mSk hf526 = (mSk h1).tail := by rw [tf526, tp525]
    have hms2 : ms hf526 = rU 100108 (ms h1) := by rw [sf526, sp525]; rfl
    have hlp : mO1 (mSk hf526) (ms hf526).2.2 = mO (mSk h) (ms h).2.2 := by rw [hsp, hms2, ← hL, hst]; exact (mO_y (mSk h1).tail _).symm
    exact tG_cut (zW_mono zTt G dp) (Or.inr ⟨rfl, rfl, _, rfl, gf526, pf526, by rw [hms2]; exact e1, by rw [hms2]; exact e2, hlp, df526.trans (dp525.trans h32), rfl⟩)
theorem zp0 {x : Int32} {k : Nat} (h : x.toInt = k) : (x + 0).toInt = ((k + 0 : Nat) : Int) := by
  rw [Int32.toInt_add, show (0 : Int32).toInt = 0 from rfl, Int.add_zero, h]
  have := Int32.toInt_lt x
  exact Int.bmod_eq_of_le (by show (-2147483648 : Int) ≤ (k : Int); omega) (by show (k : Int) < (2147483648 : Int); omega)
theorem cmw {K : Int32} {k : Nat} (hk : K.toInt = (k : Int)) {C p : Nat} (h : k + 100098 = C) : K.toInt + 100098 = (((C, p) : Nat × Nat).1 : Int) := by
  show K.toInt + 100098 = (C : Int)
  rw [hk, ← h]
  omega
theorem zp1 {x : Int32} {k : Nat} (h : x.toInt = k) (hk : k ≤ 1000) : (x + 1).toInt = ((k + 1 : Nat) : Int) := zincN h (by omega)
theorem g_compares {G : zG} (hG : G.1 = zProg) (hX : G.2.1 = ztx) {h : zH} {T : Nat → Int32} {n : Nat} (hs : tSh h) (hp : mP h) (hT : tA h 132 = T) (hN : mn h = n)  : tC zTt G 212 [.ref 111] h (fun w h2 => mFr h h2 ∧ ((rCm T n (ms h).1 = none ∧ w = some (.int 0) ∧ h2 = h) ∨ (∃ q, rCm T n (ms h).1 = some q ∧ (((ms h).2.1 ≠ 80 ∧ (∃ x : Int32, w = some (.int x) ∧ x.toInt + 100098 = (q.1 : Int)) ∧ mP h2 ∧ ms h2 = (q.2, (ms h).2.1 + 1, (ms h).2.2) ∧ mSk h2 = mSk h ∧ tF h2 111 32 = tF h 111 32) ∨ ((ms h).2.1 = 80 ∧ ∃ x, w = some (.int x) ∧ 5 ≤ x.toInt ∧ x.toInt ≤ 9 ∧ mFt h2 (1 + 8 * (ms h).1 + 3) ∧ mZp h2))))) := by
  refine tC_in (by rw [hG]; rfl) (fun dp => ?_)
  have g0 := mFr_r hs
  have hpn : (ms h).1 ≤ n := mPle hp hN
  have hn4 : n ≤ 400 := by have a := mNl hp hN; have b := hp.2.1; omega
  refine tw_aload rfl rfl ?_
  refine tw_virt0 rfl (g_sign hG hX (g0).1 ((mFr_T g0).trans hT) ((mFr_n g0).trans hN) ⟨hp.2.1.1, by have := hp.2.1; omega⟩) (fun wp527 hp527 p527 => ?_)
  obtain ⟨⟨cp527, rfl, kp527⟩, rfl⟩ := p527
  refine tw_istore rfl ?_
  refine tw_iload rfl rfl ?_
  refine tw_push rfl ?_
  refine tw_ic_eq rfl (fun q528 => ?_) (fun q528 => ?_)
  · try dsimp only [tvI_i, tvJ_j, tvR_r] at q528
    have q528i := zeqi (Y := 60) (by decide) q528
    refine tw_aload rfl rfl ?_
    refine tw_aload rfl rfl ?_
    refine tw_getS rfl (hi_111_28 (g0).1) ?_
    refine tw_virt1 rfl (g_counts hG hX (g0).1 hp ((mFr_T g0).trans hT) ((mFr_n g0).trans hN) (b := (ms h).1) (mPl hp) (by omega)) (fun w9 hp529 p529 => ?_)
    obtain ⟨rfl, gp529, ⟨np529, pp529e, sp529, tp529, dp529⟩ | ⟨np529, Fp529⟩, ip529, jp529⟩ := p529
    · have ggp529 := mFr_t g0 gp529
      refine tw_aload rfl rfl ?_
      refine tw_dup rfl ?_
      refine tw_getS rfl (hi_111_28 ggp529.1) ?_
      refine tw_push rfl ?_
      refine tw_iadd rfl ?_
      refine tw_put rfl (fun f530 => ?_)
      refine tG_setm f530 (hw_111_28 f530 (ggp529).1) (fun hf530 ef530 => ?_)
      try dsimp only [tvI_i] at ef530
      have gf530 := mFr_s ggp529 ef530 (by unfold mFs; omega)
      have wf530 := (sgm_k kp527 60 (by decide)).mp q528
      obtain ⟨pf530, sf530, tf530⟩ := mTo pp529e ((mFr_n ggp529).trans hN) ef530 (v := (ms h).1 + 1) (zincN (n := (ms h).1) (by rw [mPl pp529e, sp529]) (by omega)) wf530.1
      rw [sp529] at sf530
      refine tw_iload rfl rfl ?_
      refine tw_push rfl ?_
      refine tw_ic_eq rfl (fun q531 => ?_) (fun q531 => ?_)
      · try dsimp only [tvI_i, tvJ_j, tvR_r] at q531
        have q531i := zeqi (Y := 61) (by decide) q531
        exact absurd (q528.symm.trans q531) (by decide)
      · try dsimp only [tvI_i, tvJ_j, tvR_r] at q531
        have q531i := zneq (Y := 61) (by decide) q531
        refine tw_aload rfl rfl ?_
        refine tw_virt0 rfl (g_sign hG hX (gf530).1 ((mFr_T gf530).trans hT) ((mFr_n gf530).trans hN) ⟨pf530.2.1.1, by have := pf530.2.1; omega⟩) (fun wp532 hp532 p532 => ?_)
        obtain ⟨⟨cp532, rfl, kp532⟩, rfl⟩ := p532
        refine tw_push rfl ?_
        refine tw_ic_ne rfl (fun q533 => ?_) (fun q533 => ?_)
        · try dsimp only [tvI_i, tvJ_j, tvR_r] at q533
          have q533i := zneq (Y := 61) (by decide) q533
          refine tw_push rfl ?_
          refine tw_istore rfl ?_
          refine tw_aload rfl rfl ?_
          refine tw_dup rfl ?_
          refine tw_getS rfl (hi_111_28 (gf530).1) ?_
          refine tw_iload rfl rfl ?_
          refine tw_if_eq rfl (fun _ => ?_) (fun z => absurd z (by decide))
          refine tw_push rfl ?_
          refine tw_iadd rfl ?_
          refine tw_put rfl (fun f534 => ?_)
          refine tG_setm f534 (hw_111_28 f534 (gf530).1) (fun hf534 ef534 => ?_)
          try dsimp only [tvI_i] at ef534
          have gf534 := mFr_s gf530 ef534 (by unfold mFs; omega)
          obtain ⟨pf534, sf534, tf534⟩ := mTo pf530 ((mFr_n gf530).trans hN) ef534 (v := (ms h).1 + 1 + 0) (zp0 (by rw [mPl pf530, sf530]; rfl)) (by have z := mPle pf530 ((mFr_n gf530).trans hN); rw [sf530] at z; exact z)
          rw [sf530] at sf534
          refine tw_iload rfl rfl ?_
          refine tw_push rfl ?_
          refine tw_ic_ne rfl (fun q535 => ?_) (fun q535 => ?_)
          · try dsimp only [tvI_i, tvJ_j, tvR_r] at q535
            have q535i := zneq (Y := 61) (by decide) q535
            refine tw_iload rfl rfl ?_
            refine tw_push rfl ?_
            refine tw_ic_ne rfl (fun q536 => ?_) (fun q536 => ?_)
            · try dsimp only [tvI_i, tvJ_j, tvR_r] at q536
              have q536i := zneq (Y := 60) (by decide) q536
              exact absurd q528 q536
            · try dsimp only [tvI_i, tvJ_j, tvR_r] at q536
              have q536i := zeqi (Y := 60) (by decide) q536
              refine tw_iload rfl rfl ?_
              refine tw_if_eq rfl (fun _ => ?_) (fun z => absurd z (by decide))
              refine tw_push rfl ?_
              refine tw_goto rfl ?_
              have w9 := (sgm_k kp527 60 (by decide)).mp q528
              have hk2 := sgm_k kp532 61 (by decide)
              rw [sf530] at hk2
              have hk2 : _ ↔ ((ms h).1 + 1 < n ∧ T ((ms h).1 + 1) = 61) := hk2
              have hq9 := (cm60 w9).trans (if_neg (fun z => q533 (hk2.mpr z)))
              exact tw_iret rfl ⟨gf534, Or.inr ⟨(100103, (ms h).1 + 1), hq9, Or.inl ⟨np529, ⟨5, rfl, cmw (k := 5) (C := 100103) rfl rfl⟩, pf534, sf534, tf534.trans (tf530.trans tp529), (mI_o ef534 (by decide)).trans ((mI_o ef530 (by decide)).trans dp529)⟩⟩⟩
          · try dsimp only [tvI_i, tvJ_j, tvR_r] at q535
            have q535i := zeqi (Y := 61) (by decide) q535
            exact absurd (q528.symm.trans q535) (by decide)
        · try dsimp only [tvI_i, tvJ_j, tvR_r] at q533
          have q533i := zeqi (Y := 61) (by decide) q533
          refine tw_push rfl ?_
          refine tw_goto rfl ?_
          refine tw_istore rfl ?_
          refine tw_aload rfl rfl ?_
          refine tw_dup rfl ?_
          refine tw_getS rfl (hi_111_28 (gf530).1) ?_
          refine tw_iload rfl rfl ?_
          refine tw_if_eq rfl (fun z => absurd z (by decide)) (fun _ => ?_)
          refine tw_push rfl ?_
          refine tw_goto rfl ?_
          refine tw_iadd rfl ?_
          refine tw_put rfl (fun f537 => ?_)
          refine tG_setm f537 (hw_111_28 f537 (gf530).1) (fun hf537 ef537 => ?_)
          try dsimp only [tvI_i] at ef537
          have gf537 := mFr_s gf530 ef537 (by unfold mFs; omega)
          have vf537 := (sgm_k kp532 61 (by decide)).mp q533
          rw [sf530] at vf537
          have vf537 : (ms h).1 + 1 < n ∧ T ((ms h).1 + 1) = 61 := vf537
          obtain ⟨pf537, sf537, tf537⟩ := mTo pf530 ((mFr_n gf530).trans hN) ef537 (v := (ms h).1 + 1 + 1) (zincN (n := (ms h).1 + 1) (by rw [mPl pf530, sf530]; rfl) (by omega)) (by omega)
          rw [sf530] at sf537
          refine tw_iload rfl rfl ?_
          refine tw_push rfl ?_
          refine tw_ic_ne rfl (fun q538 => ?_) (fun q538 => ?_)
          · try dsimp only [tvI_i, tvJ_j, tvR_r] at q538
            have q538i := zneq (Y := 61) (by decide) q538
            refine tw_iload rfl rfl ?_
            refine tw_push rfl ?_
            refine tw_ic_ne rfl (fun q539 => ?_) (fun q539 => ?_)
            · try dsimp only [tvI_i, tvJ_j, tvR_r] at q539
              have q539i := zneq (Y := 60) (by decide) q539
              exact absurd q528 q539
            · try dsimp only [tvI_i, tvJ_j, tvR_r] at q539
              have q539i := zeqi (Y := 60) (by decide) q539
              refine tw_iload rfl rfl ?_
              refine tw_if_eq rfl (fun z => absurd z (by decide)) (fun _ => ?_)
              refine tw_push rfl ?_
              refine tw_goto rfl ?_
              have w9 := (sgm_k kp527 60 (by decide)).mp q528
              have hk2 := sgm_k kp532 61 (by decide)
              rw [sf530] at hk2
              have hk2 : _ ↔ ((ms h).1 + 1 < n ∧ T ((ms h).1 + 1) = 61) := hk2
              have hq9 := (cm60 w9).trans (if_pos (hk2.mp q533))
              exact tw_iret rfl ⟨gf537, Or.inr ⟨(100104, (ms h).1 + 2), hq9, Or.inl ⟨np529, ⟨6, rfl, cmw (k := 6) (C := 100104) rfl rfl⟩, pf537, sf537, tf537.trans (tf530.trans tp529), (mI_o ef537 (by decide)).trans ((mI_o ef530 (by decide)).trans dp529)⟩⟩⟩
          · try dsimp only [tvI_i, tvJ_j, tvR_r] at q538
            have q538i := zeqi (Y := 61) (by decide) q538
            exact absurd (q528.symm.trans q538) (by decide)
    · have ggp529 := mFr_t g0 gp529
      refine tw_aload rfl rfl ?_
      refine tw_dup rfl ?_
      refine tw_getS rfl (hi_111_28 ggp529.1) ?_
      refine tw_push rfl ?_
      refine tw_iadd rfl ?_
      refine tw_put rfl (fun f540 => ?_)
      refine tG_setm f540 (hw_111_28 f540 (ggp529).1) (fun hf540 ef540 => ?_)
      try dsimp only [tvI_i] at ef540
      have gf540 := mFr_s ggp529 ef540 (by unfold mFs; omega)
      have zf540 := mFt_s Fp529 ef540 (by decide)
      have ZBf540 : mZp hp529 := mZp_k (mZp_p hp) ip529 jp529
      have yf540 : (tvI (tF hp529 111 28) + 1).toInt = (((ms h).1 + 1 : Nat) : Int) := zp1 (by rw [ip529]; exact mPl hp) (by omega)
      have Zf540 : mZp hf540 := mZp_s ZBf540 ef540 (by omega)
      refine tw_iload rfl rfl ?_
      refine tw_push rfl ?_
      refine tw_ic_eq rfl (fun q541 => ?_) (fun q541 => ?_)
      · try dsimp only [tvI_i, tvJ_j, tvR_r] at q541
        have q541i := zeqi (Y := 61) (by decide) q541
        exact absurd (q528.symm.trans q541) (by decide)
      · try dsimp only [tvI_i, tvJ_j, tvR_r] at q541
        have q541i := zneq (Y := 61) (by decide) q541
        refine tw_aload rfl rfl ?_
        refine tw_virt0 rfl (g_sign hG hX (gf540).1 ((mFr_T gf540).trans hT) ((mFr_n gf540).trans hN) Zf540.1) (fun wp542 hp542 p542 => ?_)
        obtain ⟨⟨cp542, rfl, kp542⟩, rfl⟩ := p542
        refine tw_push rfl ?_
        refine tw_ic_ne rfl (fun q543 => ?_) (fun q543 => ?_)
        · try dsimp only [tvI_i, tvJ_j, tvR_r] at q543
          have q543i := zneq (Y := 61) (by decide) q543
          refine tw_push rfl ?_
          refine tw_istore rfl ?_
          refine tw_aload rfl rfl ?_
          refine tw_dup rfl ?_
          refine tw_getS rfl (hi_111_28 (gf540).1) ?_
          refine tw_iload rfl rfl ?_
          refine tw_if_eq rfl (fun _ => ?_) (fun z => absurd z (by decide))
          refine tw_push rfl ?_
          refine tw_iadd rfl ?_
          refine tw_put rfl (fun f544 => ?_)
          refine tG_setm f544 (hw_111_28 f544 (gf540).1) (fun hf544 ef544 => ?_)
          try dsimp only [tvI_i] at ef544
          have gf544 := mFr_s gf540 ef544 (by unfold mFs; omega)
          have zf544 := mFt_s zf540 ef544 (by decide)
          have xf544 : (tvI (tF hf540 111 28)).toInt = (((ms h).1 + 1 : Nat) : Int) := by rw [mI_x ef540]; exact yf540
          have Zf544 : mZp hf544 := mZp_s Zf540 ef544 (by have y := zp0 xf544; omega)
          refine tw_iload rfl rfl ?_
          refine tw_push rfl ?_
          refine tw_ic_ne rfl (fun q545 => ?_) (fun q545 => ?_)
          · try dsimp only [tvI_i, tvJ_j, tvR_r] at q545
            have q545i := zneq (Y := 61) (by decide) q545
            refine tw_iload rfl rfl ?_
            refine tw_push rfl ?_
            refine tw_ic_ne rfl (fun q546 => ?_) (fun q546 => ?_)
            · try dsimp only [tvI_i, tvJ_j, tvR_r] at q546
              have q546i := zneq (Y := 60) (by decide) q546
              exact absurd q528 q546
            · try dsimp only [tvI_i, tvJ_j, tvR_r] at q546
              have q546i := zeqi (Y := 60) (by decide) q546
              refine tw_iload rfl rfl ?_
              refine tw_if_eq rfl (fun _ => ?_) (fun z => absurd z (by decide))
              refine tw_push rfl ?_
              refine tw_goto rfl ?_
              have w9 := (sgm_k kp527 60 (by decide)).mp q528
              obtain ⟨q9, hq9⟩ := cm_s (Or.inr (Or.inl w9))
              exact tw_iret rfl ⟨gf544, Or.inr ⟨q9, hq9, Or.inr ⟨np529, _, rfl, by decide, by decide, zf544, Zf544⟩⟩⟩
          · try dsimp only [tvI_i, tvJ_j, tvR_r] at q545
            have q545i := zeqi (Y := 61) (by decide) q545
            exact absurd (q528.symm.trans q545) (by decide)
        · try dsimp only [tvI_i, tvJ_j, tvR_r] at q543
          have q543i := zeqi (Y := 61) (by decide) q543
          refine tw_push rfl ?_
          refine tw_goto rfl ?_
          refine tw_istore rfl ?_
          refine tw_aload rfl rfl ?_
          refine tw_dup rfl ?_
          refine tw_getS rfl (hi_111_28 (gf540).1) ?_
          refine tw_iload rfl rfl ?_
          refine tw_if_eq rfl (fun z => absurd z (by decide)) (fun _ => ?_)
          refine tw_push rfl ?_
          refine tw_goto rfl ?_
          refine tw_iadd rfl ?_
          refine tw_put rfl (fun f547 => ?_)
          refine tG_setm f547 (hw_111_28 f547 (gf540).1) (fun hf547 ef547 => ?_)
          try dsimp only [tvI_i] at ef547
          have gf547 := mFr_s gf540 ef547 (by unfold mFs; omega)
          have zf547 := mFt_s zf540 ef547 (by decide)
          have xf547 : (tvI (tF hf540 111 28)).toInt = (((ms h).1 + 1 : Nat) : Int) := by rw [mI_x ef540]; exact yf540
          have Zf547 : mZp hf547 := mZp_s Zf540 ef547 (by have y := zp1 xf547 (by omega); omega)
          refine tw_iload rfl rfl ?_
          refine tw_push rfl ?_
          refine tw_ic_ne rfl (fun q548 => ?_) (fun q548 => ?_)
          · try dsimp only [tvI_i, tvJ_j, tvR_r] at q548
            have q548i := zneq (Y := 61) (by decide) q548
            refine tw_iload rfl rfl ?_
            refine tw_push rfl ?_
            refine tw_ic_ne rfl (fun q549 => ?_) (fun q549 => ?_)
            · try dsimp only [tvI_i, tvJ_j, tvR_r] at q549
              have q549i := zneq (Y := 60) (by decide) q549
              exact absurd q528 q549
            · try dsimp only [tvI_i, tvJ_j, tvR_r] at q549
              have q549i := zeqi (Y := 60) (by decide) q549
              refine tw_iload rfl rfl ?_
              refine tw_if_eq rfl (fun z => absurd z (by decide)) (fun _ => ?_)
              refine tw_push rfl ?_
              refine tw_goto rfl ?_
              have w9 := (sgm_k kp527 60 (by decide)).mp q528
              obtain ⟨q9, hq9⟩ := cm_s (Or.inr (Or.inl w9))
              exact tw_iret rfl ⟨gf547, Or.inr ⟨q9, hq9, Or.inr ⟨np529, _, rfl, by decide, by decide, zf547, Zf547⟩⟩⟩
          · try dsimp only [tvI_i, tvJ_j, tvR_r] at q548
            have q548i := zeqi (Y := 61) (by decide) q548
            exact absurd (q528.symm.trans q548) (by decide)
  · try dsimp only [tvI_i, tvJ_j, tvR_r] at q528
    have q528i := zneq (Y := 60) (by decide) q528
    refine tw_iload rfl rfl ?_
    refine tw_push rfl ?_
    refine tw_ic_eq rfl (fun q550 => ?_) (fun q550 => ?_)
    · try dsimp only [tvI_i, tvJ_j, tvR_r] at q550
      have q550i := zeqi (Y := 62) (by decide) q550
      refine tw_aload rfl rfl ?_
      refine tw_aload rfl rfl ?_
      refine tw_getS rfl (hi_111_28 (g0).1) ?_
      refine tw_virt1 rfl (g_counts hG hX (g0).1 hp ((mFr_T g0).trans hT) ((mFr_n g0).trans hN) (b := (ms h).1) (mPl hp) (by omega)) (fun w9 hp551 p551 => ?_)
      obtain ⟨rfl, gp551, ⟨np551, pp551e, sp551, tp551, dp551⟩ | ⟨np551, Fp551⟩, ip551, jp551⟩ := p551
      · have ggp551 := mFr_t g0 gp551
        refine tw_aload rfl rfl ?_
        refine tw_dup rfl ?_
        refine tw_getS rfl (hi_111_28 ggp551.1) ?_
        refine tw_push rfl ?_
        refine tw_iadd rfl ?_
        refine tw_put rfl (fun f552 => ?_)
        refine tG_setm f552 (hw_111_28 f552 (ggp551).1) (fun hf552 ef552 => ?_)
        try dsimp only [tvI_i] at ef552
        have gf552 := mFr_s ggp551 ef552 (by unfold mFs; omega)
        have wf552 := (sgm_k kp527 62 (by decide)).mp q550
        obtain ⟨pf552, sf552, tf552⟩ := mTo pp551e ((mFr_n ggp551).trans hN) ef552 (v := (ms h).1 + 1) (zincN (n := (ms h).1) (by rw [mPl pp551e, sp551]) (by omega)) wf552.1
        rw [sp551] at sf552
        refine tw_iload rfl rfl ?_
        refine tw_push rfl ?_
        refine tw_ic_eq rfl (fun q553 => ?_) (fun q553 => ?_)
        · try dsimp only [tvI_i, tvJ_j, tvR_r] at q553
          have q553i := zeqi (Y := 61) (by decide) q553
          exact absurd (q550.symm.trans q553) (by decide)
        · try dsimp only [tvI_i, tvJ_j, tvR_r] at q553
          have q553i := zneq (Y := 61) (by decide) q553
          refine tw_aload rfl rfl ?_
          refine tw_virt0 rfl (g_sign hG hX (gf552).1 ((mFr_T gf552).trans hT) ((mFr_n gf552).trans hN) ⟨pf552.2.1.1, by have := pf552.2.1; omega⟩) (fun wp554 hp554 p554 => ?_)
          obtain ⟨⟨cp554, rfl, kp554⟩, rfl⟩ := p554
          refine tw_push rfl ?_
          refine tw_ic_ne rfl (fun q555 => ?_) (fun q555 => ?_)
          · try dsimp only [tvI_i, tvJ_j, tvR_r] at q555
            have q555i := zneq (Y := 61) (by decide) q555
            refine tw_push rfl ?_
            refine tw_istore rfl ?_
            refine tw_aload rfl rfl ?_
            refine tw_dup rfl ?_
            refine tw_getS rfl (hi_111_28 (gf552).1) ?_
            refine tw_iload rfl rfl ?_
            refine tw_if_eq rfl (fun _ => ?_) (fun z => absurd z (by decide))
            refine tw_push rfl ?_
            refine tw_iadd rfl ?_
            refine tw_put rfl (fun f556 => ?_)
            refine tG_setm f556 (hw_111_28 f556 (gf552).1) (fun hf556 ef556 => ?_)
            try dsimp only [tvI_i] at ef556
            have gf556 := mFr_s gf552 ef556 (by unfold mFs; omega)
            obtain ⟨pf556, sf556, tf556⟩ := mTo pf552 ((mFr_n gf552).trans hN) ef556 (v := (ms h).1 + 1 + 0) (zp0 (by rw [mPl pf552, sf552]; rfl)) (by have z := mPle pf552 ((mFr_n gf552).trans hN); rw [sf552] at z; exact z)
            rw [sf552] at sf556
            refine tw_iload rfl rfl ?_
            refine tw_push rfl ?_
            refine tw_ic_ne rfl (fun q557 => ?_) (fun q557 => ?_)
            · try dsimp only [tvI_i, tvJ_j, tvR_r] at q557
              have q557i := zneq (Y := 61) (by decide) q557
              refine tw_iload rfl rfl ?_
              refine tw_push rfl ?_
              refine tw_ic_ne rfl (fun q558 => ?_) (fun q558 => ?_)
              · try dsimp only [tvI_i, tvJ_j, tvR_r] at q558
                have q558i := zneq (Y := 60) (by decide) q558
                refine tw_iload rfl rfl ?_
                refine tw_if_eq rfl (fun _ => ?_) (fun z => absurd z (by decide))
                refine tw_push rfl ?_
                have w9 := (sgm_k kp527 62 (by decide)).mp q550
                have hk2 := sgm_k kp554 61 (by decide)
                rw [sf552] at hk2
                have hk2 : _ ↔ ((ms h).1 + 1 < n ∧ T ((ms h).1 + 1) = 61) := hk2
                have hq9 := (cm62 w9).trans (if_neg (fun z => q555 (hk2.mpr z)))
                exact tw_iret rfl ⟨gf556, Or.inr ⟨(100107, (ms h).1 + 1), hq9, Or.inl ⟨np551, ⟨9, rfl, cmw (k := 9) (C := 100107) rfl rfl⟩, pf556, sf556, tf556.trans (tf552.trans tp551), (mI_o ef556 (by decide)).trans ((mI_o ef552 (by decide)).trans dp551)⟩⟩⟩
              · try dsimp only [tvI_i, tvJ_j, tvR_r] at q558
                have q558i := zeqi (Y := 60) (by decide) q558
                exact absurd (q550.symm.trans q558) (by decide)
            · try dsimp only [tvI_i, tvJ_j, tvR_r] at q557
              have q557i := zeqi (Y := 61) (by decide) q557
              exact absurd (q550.symm.trans q557) (by decide)
          · try dsimp only [tvI_i, tvJ_j, tvR_r] at q555
            have q555i := zeqi (Y := 61) (by decide) q555
            refine tw_push rfl ?_
            refine tw_goto rfl ?_
            refine tw_istore rfl ?_
            refine tw_aload rfl rfl ?_
            refine tw_dup rfl ?_
            refine tw_getS rfl (hi_111_28 (gf552).1) ?_
            refine tw_iload rfl rfl ?_
            refine tw_if_eq rfl (fun z => absurd z (by decide)) (fun _ => ?_)
            refine tw_push rfl ?_
            refine tw_goto rfl ?_
            refine tw_iadd rfl ?_
            refine tw_put rfl (fun f559 => ?_)
            refine tG_setm f559 (hw_111_28 f559 (gf552).1) (fun hf559 ef559 => ?_)
            try dsimp only [tvI_i] at ef559
            have gf559 := mFr_s gf552 ef559 (by unfold mFs; omega)
            have vf559 := (sgm_k kp554 61 (by decide)).mp q555
            rw [sf552] at vf559
            have vf559 : (ms h).1 + 1 < n ∧ T ((ms h).1 + 1) = 61 := vf559
            obtain ⟨pf559, sf559, tf559⟩ := mTo pf552 ((mFr_n gf552).trans hN) ef559 (v := (ms h).1 + 1 + 1) (zincN (n := (ms h).1 + 1) (by rw [mPl pf552, sf552]; rfl) (by omega)) (by omega)
            rw [sf552] at sf559
            refine tw_iload rfl rfl ?_
            refine tw_push rfl ?_
            refine tw_ic_ne rfl (fun q560 => ?_) (fun q560 => ?_)
            · try dsimp only [tvI_i, tvJ_j, tvR_r] at q560
              have q560i := zneq (Y := 61) (by decide) q560
              refine tw_iload rfl rfl ?_
              refine tw_push rfl ?_
              refine tw_ic_ne rfl (fun q561 => ?_) (fun q561 => ?_)
              · try dsimp only [tvI_i, tvJ_j, tvR_r] at q561
                have q561i := zneq (Y := 60) (by decide) q561
                refine tw_iload rfl rfl ?_
                refine tw_if_eq rfl (fun z => absurd z (by decide)) (fun _ => ?_)
                refine tw_push rfl ?_
                refine tw_goto rfl ?_
                have w9 := (sgm_k kp527 62 (by decide)).mp q550
                have hk2 := sgm_k kp554 61 (by decide)
                rw [sf552] at hk2
                have hk2 : _ ↔ ((ms h).1 + 1 < n ∧ T ((ms h).1 + 1) = 61) := hk2
                have hq9 := (cm62 w9).trans (if_pos (hk2.mp q555))
                exact tw_iret rfl ⟨gf559, Or.inr ⟨(100106, (ms h).1 + 2), hq9, Or.inl ⟨np551, ⟨8, rfl, cmw (k := 8) (C := 100106) rfl rfl⟩, pf559, sf559, tf559.trans (tf552.trans tp551), (mI_o ef559 (by decide)).trans ((mI_o ef552 (by decide)).trans dp551)⟩⟩⟩
              · try dsimp only [tvI_i, tvJ_j, tvR_r] at q561
                have q561i := zeqi (Y := 60) (by decide) q561
                exact absurd (q550.symm.trans q561) (by decide)
            · try dsimp only [tvI_i, tvJ_j, tvR_r] at q560
              have q560i := zeqi (Y := 61) (by decide) q560
              exact absurd (q550.symm.trans q560) (by decide)
      · have ggp551 := mFr_t g0 gp551
        refine tw_aload rfl rfl ?_
        refine tw_dup rfl ?_
        refine tw_getS rfl (hi_111_28 ggp551.1) ?_
        refine tw_push rfl ?_
        refine tw_iadd rfl ?_
        refine tw_put rfl (fun f562 => ?_)
        refine tG_setm f562 (hw_111_28 f562 (ggp551).1) (fun hf562 ef562 => ?_)
        try dsimp only [tvI_i] at ef562
        have gf562 := mFr_s ggp551 ef562 (by unfold mFs; omega)
        have zf562 := mFt_s Fp551 ef562 (by decide)
        have ZBf562 : mZp hp551 := mZp_k (mZp_p hp) ip551 jp551
        have yf562 : (tvI (tF hp551 111 28) + 1).toInt = (((ms h).1 + 1 : Nat) : Int) := zp1 (by rw [ip551]; exact mPl hp) (by omega)
        have Zf562 : mZp hf562 := mZp_s ZBf562 ef562 (by omega)
        refine tw_iload rfl rfl ?_
        refine tw_push rfl ?_
        refine tw_ic_eq rfl (fun q563 => ?_) (fun q563 => ?_)
        · try dsimp only [tvI_i, tvJ_j, tvR_r] at q563
          have q563i := zeqi (Y := 61) (by decide) q563
          exact absurd (q550.symm.trans q563) (by decide)
        · try dsimp only [tvI_i, tvJ_j, tvR_r] at q563
          have q563i := zneq (Y := 61) (by decide) q563
          refine tw_aload rfl rfl ?_
          refine tw_virt0 rfl (g_sign hG hX (gf562).1 ((mFr_T gf562).trans hT) ((mFr_n gf562).trans hN) Zf562.1) (fun wp564 hp564 p564 => ?_)
          obtain ⟨⟨cp564, rfl, kp564⟩, rfl⟩ := p564
          refine tw_push rfl ?_
          refine tw_ic_ne rfl (fun q565 => ?_) (fun q565 => ?_)
          · try dsimp only [tvI_i, tvJ_j, tvR_r] at q565
            have q565i := zneq (Y := 61) (by decide) q565
            refine tw_push rfl ?_
            refine tw_istore rfl ?_
            refine tw_aload rfl rfl ?_
            refine tw_dup rfl ?_
            refine tw_getS rfl (hi_111_28 (gf562).1) ?_
            refine tw_iload rfl rfl ?_
            refine tw_if_eq rfl (fun _ => ?_) (fun z => absurd z (by decide))
            refine tw_push rfl ?_
            refine tw_iadd rfl ?_
            refine tw_put rfl (fun f566 => ?_)
            refine tG_setm f566 (hw_111_28 f566 (gf562).1) (fun hf566 ef566 => ?_)
            try dsimp only [tvI_i] at ef566
            have gf566 := mFr_s gf562 ef566 (by unfold mFs; omega)
            have zf566 := mFt_s zf562 ef566 (by decide)
            have xf566 : (tvI (tF hf562 111 28)).toInt = (((ms h).1 + 1 : Nat) : Int) := by rw [mI_x ef562]; exact yf562
            have Zf566 : mZp hf566 := mZp_s Zf562 ef566 (by have y := zp0 xf566; omega)
            refine tw_iload rfl rfl ?_
            refine tw_push rfl ?_
            refine tw_ic_ne rfl (fun q567 => ?_) (fun q567 => ?_)
            · try dsimp only [tvI_i, tvJ_j, tvR_r] at q567
              have q567i := zneq (Y := 61) (by decide) q567
              refine tw_iload rfl rfl ?_
              refine tw_push rfl ?_
              refine tw_ic_ne rfl (fun q568 => ?_) (fun q568 => ?_)
              · try dsimp only [tvI_i, tvJ_j, tvR_r] at q568
                have q568i := zneq (Y := 60) (by decide) q568
                refine tw_iload rfl rfl ?_
                refine tw_if_eq rfl (fun _ => ?_) (fun z => absurd z (by decide))
                refine tw_push rfl ?_
                have w9 := (sgm_k kp527 62 (by decide)).mp q550
                obtain ⟨q9, hq9⟩ := cm_s (Or.inr (Or.inr w9))
                exact tw_iret rfl ⟨gf566, Or.inr ⟨q9, hq9, Or.inr ⟨np551, _, rfl, by decide, by decide, zf566, Zf566⟩⟩⟩
              · try dsimp only [tvI_i, tvJ_j, tvR_r] at q568
                have q568i := zeqi (Y := 60) (by decide) q568
                exact absurd (q550.symm.trans q568) (by decide)
            · try dsimp only [tvI_i, tvJ_j, tvR_r] at q567
              have q567i := zeqi (Y := 61) (by decide) q567
              exact absurd (q550.symm.trans q567) (by decide)
          · try dsimp only [tvI_i, tvJ_j, tvR_r] at q565
            have q565i := zeqi (Y := 61) (by decide) q565
            refine tw_push rfl ?_
            refine tw_goto rfl ?_
            refine tw_istore rfl ?_
            refine tw_aload rfl rfl ?_
            refine tw_dup rfl ?_
            refine tw_getS rfl (hi_111_28 (gf562).1) ?_
            refine tw_iload rfl rfl ?_
            refine tw_if_eq rfl (fun z => absurd z (by decide)) (fun _ => ?_)
            refine tw_push rfl ?_
            refine tw_goto rfl ?_
            refine tw_iadd rfl ?_
            refine tw_put rfl (fun f569 => ?_)
            refine tG_setm f569 (hw_111_28 f569 (gf562).1) (fun hf569 ef569 => ?_)
            try dsimp only [tvI_i] at ef569
            have gf569 := mFr_s gf562 ef569 (by unfold mFs; omega)
            have zf569 := mFt_s zf562 ef569 (by decide)
            have xf569 : (tvI (tF hf562 111 28)).toInt = (((ms h).1 + 1 : Nat) : Int) := by rw [mI_x ef562]; exact yf562
            have Zf569 : mZp hf569 := mZp_s Zf562 ef569 (by have y := zp1 xf569 (by omega); omega)
            refine tw_iload rfl rfl ?_
            refine tw_push rfl ?_
            refine tw_ic_ne rfl (fun q570 => ?_) (fun q570 => ?_)
            · try dsimp only [tvI_i, tvJ_j, tvR_r] at q570
              have q570i := zneq (Y := 61) (by decide) q570
              refine tw_iload rfl rfl ?_
              refine tw_push rfl ?_
              refine tw_ic_ne rfl (fun q571 => ?_) (fun q571 => ?_)
              · try dsimp only [tvI_i, tvJ_j, tvR_r] at q571
                have q571i := zneq (Y := 60) (by decide) q571
                refine tw_iload rfl rfl ?_
                refine tw_if_eq rfl (fun z => absurd z (by decide)) (fun _ => ?_)
                refine tw_push rfl ?_
                refine tw_goto rfl ?_
                have w9 := (sgm_k kp527 62 (by decide)).mp q550
                obtain ⟨q9, hq9⟩ := cm_s (Or.inr (Or.inr w9))
                exact tw_iret rfl ⟨gf569, Or.inr ⟨q9, hq9, Or.inr ⟨np551, _, rfl, by decide, by decide, zf569, Zf569⟩⟩⟩
              · try dsimp only [tvI_i, tvJ_j, tvR_r] at q571
                have q571i := zeqi (Y := 60) (by decide) q571
                exact absurd (q550.symm.trans q571) (by decide)
            · try dsimp only [tvI_i, tvJ_j, tvR_r] at q570
              have q570i := zeqi (Y := 61) (by decide) q570
              exact absurd (q550.symm.trans q570) (by decide)
    · try dsimp only [tvI_i, tvJ_j, tvR_r] at q550
      have q550i := zneq (Y := 62) (by decide) q550
      refine tw_iload rfl rfl ?_
      refine tw_push rfl ?_
      refine tw_ic_eq rfl (fun q572 => ?_) (fun q572 => ?_)
      · try dsimp only [tvI_i, tvJ_j, tvR_r] at q572
        have q572i := zeqi (Y := 61) (by decide) q572
        refine tw_aload rfl rfl ?_
        refine tw_aload rfl rfl ?_
        refine tw_getS rfl (hi_111_28 (g0).1) ?_
        refine tw_virt1 rfl (g_counts hG hX (g0).1 hp ((mFr_T g0).trans hT) ((mFr_n g0).trans hN) (b := (ms h).1) (mPl hp) (by omega)) (fun w9 hp573 p573 => ?_)
        obtain ⟨rfl, gp573, ⟨np573, pp573e, sp573, tp573, dp573⟩ | ⟨np573, Fp573⟩, ip573, jp573⟩ := p573
        · have ggp573 := mFr_t g0 gp573
          refine tw_aload rfl rfl ?_
          refine tw_dup rfl ?_
          refine tw_getS rfl (hi_111_28 ggp573.1) ?_
          refine tw_push rfl ?_
          refine tw_iadd rfl ?_
          refine tw_put rfl (fun f574 => ?_)
          refine tG_setm f574 (hw_111_28 f574 (ggp573).1) (fun hf574 ef574 => ?_)
          try dsimp only [tvI_i] at ef574
          have gf574 := mFr_s ggp573 ef574 (by unfold mFs; omega)
          have wf574 := (sgm_k kp527 61 (by decide)).mp q572
          obtain ⟨pf574, sf574, tf574⟩ := mTo pp573e ((mFr_n ggp573).trans hN) ef574 (v := (ms h).1 + 1) (zincN (n := (ms h).1) (by rw [mPl pp573e, sp573]) (by omega)) wf574.1
          rw [sp573] at sf574
          refine tw_iload rfl rfl ?_
          refine tw_push rfl ?_
          refine tw_ic_eq rfl (fun q575 => ?_) (fun q575 => ?_)
          · try dsimp only [tvI_i, tvJ_j, tvR_r] at q575
            have q575i := zeqi (Y := 61) (by decide) q575
            refine tw_push rfl ?_
            refine tw_istore rfl ?_
            refine tw_aload rfl rfl ?_
            refine tw_dup rfl ?_
            refine tw_getS rfl (hi_111_28 (gf574).1) ?_
            refine tw_iload rfl rfl ?_
            refine tw_if_eq rfl (fun _ => ?_) (fun z => absurd z (by decide))
            refine tw_push rfl ?_
            refine tw_iadd rfl ?_
            refine tw_put rfl (fun f576 => ?_)
            refine tG_setm f576 (hw_111_28 f576 (gf574).1) (fun hf576 ef576 => ?_)
            try dsimp only [tvI_i] at ef576
            have gf576 := mFr_s gf574 ef576 (by unfold mFs; omega)
            obtain ⟨pf576, sf576, tf576⟩ := mTo pf574 ((mFr_n gf574).trans hN) ef576 (v := (ms h).1 + 1 + 0) (zp0 (by rw [mPl pf574, sf574]; rfl)) (by have z := mPle pf574 ((mFr_n gf574).trans hN); rw [sf574] at z; exact z)
            rw [sf574] at sf576
            refine tw_iload rfl rfl ?_
            refine tw_push rfl ?_
            refine tw_ic_ne rfl (fun q577 => ?_) (fun q577 => ?_)
            · try dsimp only [tvI_i, tvJ_j, tvR_r] at q577
              have q577i := zneq (Y := 61) (by decide) q577
              exact absurd q572 q577
            · try dsimp only [tvI_i, tvJ_j, tvR_r] at q577
              have q577i := zeqi (Y := 61) (by decide) q577
              refine tw_push rfl ?_
              refine tw_goto rfl ?_
              have w9 := (sgm_k kp527 61 (by decide)).mp q572
              have hq9 := cm61 w9
              exact tw_iret rfl ⟨gf576, Or.inr ⟨(100105, (ms h).1 + 1), hq9, Or.inl ⟨np573, ⟨7, rfl, cmw (k := 7) (C := 100105) rfl rfl⟩, pf576, sf576, tf576.trans (tf574.trans tp573), (mI_o ef576 (by decide)).trans ((mI_o ef574 (by decide)).trans dp573)⟩⟩⟩
          · try dsimp only [tvI_i, tvJ_j, tvR_r] at q575
            have q575i := zneq (Y := 61) (by decide) q575
            exact absurd q572 q575
        · have ggp573 := mFr_t g0 gp573
          refine tw_aload rfl rfl ?_
          refine tw_dup rfl ?_
          refine tw_getS rfl (hi_111_28 ggp573.1) ?_
          refine tw_push rfl ?_
          refine tw_iadd rfl ?_
          refine tw_put rfl (fun f578 => ?_)
          refine tG_setm f578 (hw_111_28 f578 (ggp573).1) (fun hf578 ef578 => ?_)
          try dsimp only [tvI_i] at ef578
          have gf578 := mFr_s ggp573 ef578 (by unfold mFs; omega)
          have zf578 := mFt_s Fp573 ef578 (by decide)
          have ZBf578 : mZp hp573 := mZp_k (mZp_p hp) ip573 jp573
          have yf578 : (tvI (tF hp573 111 28) + 1).toInt = (((ms h).1 + 1 : Nat) : Int) := zp1 (by rw [ip573]; exact mPl hp) (by omega)
          have Zf578 : mZp hf578 := mZp_s ZBf578 ef578 (by omega)
          refine tw_iload rfl rfl ?_
          refine tw_push rfl ?_
          refine tw_ic_eq rfl (fun q579 => ?_) (fun q579 => ?_)
          · try dsimp only [tvI_i, tvJ_j, tvR_r] at q579
            have q579i := zeqi (Y := 61) (by decide) q579
            refine tw_push rfl ?_
            refine tw_istore rfl ?_
            refine tw_aload rfl rfl ?_
            refine tw_dup rfl ?_
            refine tw_getS rfl (hi_111_28 (gf578).1) ?_
            refine tw_iload rfl rfl ?_
            refine tw_if_eq rfl (fun _ => ?_) (fun z => absurd z (by decide))
            refine tw_push rfl ?_
            refine tw_iadd rfl ?_
            refine tw_put rfl (fun f580 => ?_)
            refine tG_setm f580 (hw_111_28 f580 (gf578).1) (fun hf580 ef580 => ?_)
            try dsimp only [tvI_i] at ef580
            have gf580 := mFr_s gf578 ef580 (by unfold mFs; omega)
            have zf580 := mFt_s zf578 ef580 (by decide)
            have xf580 : (tvI (tF hf578 111 28)).toInt = (((ms h).1 + 1 : Nat) : Int) := by rw [mI_x ef578]; exact yf578
            have Zf580 : mZp hf580 := mZp_s Zf578 ef580 (by have y := zp0 xf580; omega)
            refine tw_iload rfl rfl ?_
            refine tw_push rfl ?_
            refine tw_ic_ne rfl (fun q581 => ?_) (fun q581 => ?_)
            · try dsimp only [tvI_i, tvJ_j, tvR_r] at q581
              have q581i := zneq (Y := 61) (by decide) q581
              exact absurd q572 q581
            · try dsimp only [tvI_i, tvJ_j, tvR_r] at q581
              have q581i := zeqi (Y := 61) (by decide) q581
              refine tw_push rfl ?_
              refine tw_goto rfl ?_
              have w9 := (sgm_k kp527 61 (by decide)).mp q572
              obtain ⟨q9, hq9⟩ := cm_s (Or.inl w9)
              exact tw_iret rfl ⟨gf580, Or.inr ⟨q9, hq9, Or.inr ⟨np573, _, rfl, by decide, by decide, zf580, Zf580⟩⟩⟩
          · try dsimp only [tvI_i, tvJ_j, tvR_r] at q579
            have q579i := zneq (Y := 61) (by decide) q579
            exact absurd q572 q579
      · try dsimp only [tvI_i, tvJ_j, tvR_r] at q572
        have q572i := zneq (Y := 61) (by decide) q572
        refine tw_push rfl ?_
        exact tw_iret rfl ⟨g0, Or.inl ⟨cm_n (fun z => q572 ((sgm_k kp527 61 (by decide)).mpr z)) (fun z => q528 ((sgm_k kp527 60 (by decide)).mpr z)) (fun z => q550 ((sgm_k kp527 62 (by decide)).mpr z)), rfl, rfl⟩⟩
theorem rWd_lo : ∀ k, k < 16 → rWd k = ztx (k + 2) := by
  have a : (List.range 16).all (fun k => Nat.beq (rWn k) (k + 2)) = true := by decide +kernel
  intro k hk
  have e := Nat.eq_of_beq_eq_true (List.all_eq_true.mp a k (List.mem_range.mpr hk))
  unfold rWd
  rw [e]
theorem zl_lo : ∀ k, k < 16 → (ztx (k + 2)).length ≤ 200 ∧ 0 < (ztx (k + 2)).length := by
  have a : (List.range 16).all (fun k => decide ((ztx (k + 2)).length ≤ 200 ∧ 0 < (ztx (k + 2)).length)) = true := by decide +kernel
  intro k hk
  exact of_decide_eq_true (List.all_eq_true.mp a k (List.mem_range.mpr hk))
noncomputable def mOut (y : rMo) (h2 : zH) : Prop := match y with
  | .inl e => mFt h2 e ∧ mZp h2
  | .inr x => mP h2 ∧ mD h2 ∧ mst h2 = x
theorem mOut_l {y : rMo} {h2 : zH} {e : Nat} (hy : y = .inl e) (k : mFt h2 e) (z : mZp h2) : mOut y h2 := by rw [hy]; exact ⟨k, z⟩
theorem mOut_r {y : rMo} {h2 : zH} {x : rMs} (hy : y = .inr x) (k : mP h2) (d : mD h2) (z : mst h2 = x) : mOut y h2 := by rw [hy]; exact ⟨k, d, z⟩
theorem mD_k {h h2 : zH} (d : mD h) (a : mSk h2 = mSk h) (b : tF h2 111 32 = tF h 111 32) : mD h2 := by
  unfold mD
  rw [a, b]
  exact d
theorem g_wordOf {G : zG} (hG : G.1 = zProg) {h : zH} {x : Int32} {k : Nat} (hx : x.toInt = k) (hk : k < 12) : tC zTt G 199 [.int x] h (fun w h2 => w = some (.retAddr (k + 2)) ∧ h = h2) := by
  refine tC_in (by rw [hG]; rfl) (fun dp => ?_)
  refine tw_iload rfl rfl ?_
  refine tw_table rfl (fun q582 => ?_) (fun t9 q582a q582b q582c => ?_)
  · try dsimp only [tvI_i, tvJ_j, tvR_r] at q582
    refine tw_push rfl ?_
    try dsimp only [tvI_i] at q582
    have hk9 : k = 11 := by omega
    subst hk9
    exact tw_aret rfl ⟨rfl, rfl⟩
  · have q582d : (tvI (.int x)).toInt = 0 ∨ (tvI (.int x)).toInt = 1 ∨ (tvI (.int x)).toInt = 2 ∨ (tvI (.int x)).toInt = 3 ∨ (tvI (.int x)).toInt = 4 ∨ (tvI (.int x)).toInt = 5 ∨ (tvI (.int x)).toInt = 6 ∨ (tvI (.int x)).toInt = 7 ∨ (tvI (.int x)).toInt = 8 ∨ (tvI (.int x)).toInt = 9 ∨ (tvI (.int x)).toInt = 10 := by omega
    rcases q582d with q582 | q582 | q582 | q582 | q582 | q582 | q582 | q582 | q582 | q582 | q582
    · obtain rfl : t9 = 60 := by rw [q582] at q582c; exact Option.some.inj (q582c.symm.trans rfl)
      try dsimp only [tvI_i, tvJ_j, tvR_r] at q582
      refine tw_push rfl ?_
      try dsimp only [tvI_i] at q582
      have hk9 : k = 0 := by omega
      subst hk9
      exact tw_aret rfl ⟨rfl, rfl⟩
    · obtain rfl : t9 = 64 := by rw [q582] at q582c; exact Option.some.inj (q582c.symm.trans rfl)
      try dsimp only [tvI_i, tvJ_j, tvR_r] at q582
      refine tw_push rfl ?_
      try dsimp only [tvI_i] at q582
      have hk9 : k = 1 := by omega
      subst hk9
      exact tw_aret rfl ⟨rfl, rfl⟩
    · obtain rfl : t9 = 68 := by rw [q582] at q582c; exact Option.some.inj (q582c.symm.trans rfl)
      try dsimp only [tvI_i, tvJ_j, tvR_r] at q582
      refine tw_push rfl ?_
      try dsimp only [tvI_i] at q582
      have hk9 : k = 2 := by omega
      subst hk9
      exact tw_aret rfl ⟨rfl, rfl⟩
    · obtain rfl : t9 = 72 := by rw [q582] at q582c; exact Option.some.inj (q582c.symm.trans rfl)
      try dsimp only [tvI_i, tvJ_j, tvR_r] at q582
      refine tw_push rfl ?_
      try dsimp only [tvI_i] at q582
      have hk9 : k = 3 := by omega
      subst hk9
      exact tw_aret rfl ⟨rfl, rfl⟩
    · obtain rfl : t9 = 76 := by rw [q582] at q582c; exact Option.some.inj (q582c.symm.trans rfl)
      try dsimp only [tvI_i, tvJ_j, tvR_r] at q582
      refine tw_push rfl ?_
      try dsimp only [tvI_i] at q582
      have hk9 : k = 4 := by omega
      subst hk9
      exact tw_aret rfl ⟨rfl, rfl⟩
    · obtain rfl : t9 = 80 := by rw [q582] at q582c; exact Option.some.inj (q582c.symm.trans rfl)
      try dsimp only [tvI_i, tvJ_j, tvR_r] at q582
      refine tw_push rfl ?_
      try dsimp only [tvI_i] at q582
      have hk9 : k = 5 := by omega
      subst hk9
      exact tw_aret rfl ⟨rfl, rfl⟩
    · obtain rfl : t9 = 84 := by rw [q582] at q582c; exact Option.some.inj (q582c.symm.trans rfl)
      try dsimp only [tvI_i, tvJ_j, tvR_r] at q582
      refine tw_push rfl ?_
      try dsimp only [tvI_i] at q582
      have hk9 : k = 6 := by omega
      subst hk9
      exact tw_aret rfl ⟨rfl, rfl⟩
    · obtain rfl : t9 = 88 := by rw [q582] at q582c; exact Option.some.inj (q582c.symm.trans rfl)
      try dsimp only [tvI_i, tvJ_j, tvR_r] at q582
      refine tw_push rfl ?_
      try dsimp only [tvI_i] at q582
      have hk9 : k = 7 := by omega
      subst hk9
      exact tw_aret rfl ⟨rfl, rfl⟩
    · obtain rfl : t9 = 92 := by rw [q582] at q582c; exact Option.some.inj (q582c.symm.trans rfl)
      try dsimp only [tvI_i, tvJ_j, tvR_r] at q582
      refine tw_push rfl ?_
      try dsimp only [tvI_i] at q582
      have hk9 : k = 8 := by omega
      subst hk9
      exact tw_aret rfl ⟨rfl, rfl⟩
    · obtain rfl : t9 = 96 := by rw [q582] at q582c; exact Option.some.inj (q582c.symm.trans rfl)
      try dsimp only [tvI_i, tvJ_j, tvR_r] at q582
      refine tw_push rfl ?_
      try dsimp only [tvI_i] at q582
      have hk9 : k = 9 := by omega
      subst hk9
      exact tw_aret rfl ⟨rfl, rfl⟩
    · obtain rfl : t9 = 100 := by rw [q582] at q582c; exact Option.some.inj (q582c.symm.trans rfl)
      try dsimp only [tvI_i, tvJ_j, tvR_r] at q582
      refine tw_push rfl ?_
      try dsimp only [tvI_i] at q582
      have hk9 : k = 10 := by omega
      subst hk9
      exact tw_aret rfl ⟨rfl, rfl⟩
theorem g_thingName {G : zG} (hG : G.1 = zProg) {h : zH} {x : Int32} {k : Nat} (hx : x.toInt = k) (hk : k < 4) : tC zTt G 200 [.int x] h (fun w h2 => w = some (.retAddr (k + 14)) ∧ h = h2) := by
  refine tC_in (by rw [hG]; rfl) (fun dp => ?_)
  refine tw_iload rfl rfl ?_
  refine tw_table rfl (fun q583 => ?_) (fun t9 q583a q583b q583c => ?_)
  · try dsimp only [tvI_i, tvJ_j, tvR_r] at q583
    refine tw_push rfl ?_
    try dsimp only [tvI_i] at q583
    have hk9 : k = 3 := by omega
    subst hk9
    exact tw_aret rfl ⟨rfl, rfl⟩
  · have q583d : (tvI (.int x)).toInt = 0 ∨ (tvI (.int x)).toInt = 1 ∨ (tvI (.int x)).toInt = 2 := by omega
    rcases q583d with q583 | q583 | q583
    · obtain rfl : t9 = 28 := by rw [q583] at q583c; exact Option.some.inj (q583c.symm.trans rfl)
      try dsimp only [tvI_i, tvJ_j, tvR_r] at q583
      refine tw_push rfl ?_
      try dsimp only [tvI_i] at q583
      have hk9 : k = 0 := by omega
      subst hk9
      exact tw_aret rfl ⟨rfl, rfl⟩
    · obtain rfl : t9 = 32 := by rw [q583] at q583c; exact Option.some.inj (q583c.symm.trans rfl)
      try dsimp only [tvI_i, tvJ_j, tvR_r] at q583
      refine tw_push rfl ?_
      try dsimp only [tvI_i] at q583
      have hk9 : k = 1 := by omega
      subst hk9
      exact tw_aret rfl ⟨rfl, rfl⟩
    · obtain rfl : t9 = 36 := by rw [q583] at q583c; exact Option.some.inj (q583c.symm.trans rfl)
      try dsimp only [tvI_i, tvJ_j, tvR_r] at q583
      refine tw_push rfl ?_
      try dsimp only [tvI_i] at q583
      have hk9 : k = 2 := by omega
      subst hk9
      exact tw_aret rfl ⟨rfl, rfl⟩
theorem g_value {G : zG} (hG : G.1 = zProg) (hX : G.2.1 = ztx) {h : zH} {T : Nat → Int32} {n : Nat} (hs : tSh h) (hp : mP h) (hT : tA h 132 = T) (hN : mn h = n) (hD : mD h) (hd : mDp (mSk h) ≤ 1000) (h46s : tvI (tF h 111 46) = 1) : tC zTt G 213 [.ref 111] h (fun w h2 => w = none ∧ mFq h h2 ∧ mOut (mS1 T n (mSk h) (ms h)) h2) := by
  refine tC_in (by rw [hG]; rfl) (fun dp => ?_)
  have g0 := mFr_r hs
  have hpn : (ms h).1 ≤ n := mPle hp hN
  have c129 : (12 : Int32).toInt = 12 := rfl
  have hn4 : n ≤ 400 := by have a := mNl hp hN; have b := hp.2.1; omega
  refine tw_aload rfl rfl ?_
  refine tw_virt0 rfl (g_blanks hG hX (g0).1 hp ((mFr_T g0).trans hT) ((mFr_n g0).trans hN)) (fun wp584 hp584 p584 => ?_)
  obtain ⟨rfl, gp584, pp584e, sp584, tp584, dp584⟩ := p584
  have ggp584 := mFr_t g0 gp584
  refine tw_aload rfl rfl ?_
  refine tw_getS rfl (hi_111_28 ggp584.1) ?_
  refine tw_istore rfl ?_
  refine tw_aload rfl rfl ?_
  refine tw_virt0 rfl (g_sign hG hX (ggp584).1 ((mFr_T ggp584).trans hT) ((mFr_n ggp584).trans hN) ⟨pp584e.2.1.1, by have := pp584e.2.1; omega⟩) (fun wp585 hp585 p585 => ?_)
  obtain ⟨⟨cp585, rfl, kp585⟩, rfl⟩ := p585
  refine tw_push rfl ?_
  refine tw_ic_ne rfl (fun q586 => ?_) (fun q586 => ?_)
  · try dsimp only [tvI_i, tvJ_j, tvR_r] at q586
    have q586i := zneq (Y := 40) (by decide) q586
    refine tw_aload rfl rfl ?_
    refine tw_virt0 rfl (g_sign hG hX (ggp584).1 ((mFr_T ggp584).trans hT) ((mFr_n ggp584).trans hN) ⟨pp584e.2.1.1, by have := pp584e.2.1; omega⟩) (fun wp587 hp587 p587 => ?_)
    obtain ⟨⟨cp587, rfl, kp587⟩, rfl⟩ := p587
    refine tw_stat1 rfl (g_isDigit hG) (fun w9 h9 p588 => ?_)
    obtain ⟨⟨p588, rfl⟩ | ⟨p588, rfl⟩, rfl⟩ := p588
    · try dsimp only [tvI_i, tvJ_j, tvR_r] at p588
      refine tw_if_eq rfl (fun z => absurd z (by decide)) (fun _ => ?_)
      refine tw_aload rfl rfl ?_
      refine tw_push rfl ?_
      refine tw_virt1 rfl (g_digits hG hX (ggp584).1 pp584e ((mFr_T ggp584).trans hT) ((mFr_n ggp584).trans hN) (m := 99999) (M := 99999) rfl (by decide) (by rw [sp584]; exact rB_2)) (fun w9 hp589 p589 => ?_)
      obtain ⟨gp589, ⟨vp589, Np589, rfl, pp589e, sp589, tp589, dp589⟩ | ⟨ep589, xp589, Np589, rfl, x0p589, Fp589, Zp589⟩⟩ := p589
      · have ggp589 := mFr_t ggp584 gp589
        refine tw_istore rfl ?_
        refine tw_aload rfl rfl ?_
        refine tw_iload rfl rfl ?_
        refine tw_virt1 rfl (g_counts hG hX (ggp589).1 pp589e ((mFr_T ggp589).trans hT) ((mFr_n ggp589).trans hN) (b := (rB T n (ms h).1)) ((mPl pp584e).trans (by rw [sp584]; rfl)) (by have := rB_le (T := T) hpn; omega)) (fun w9 hp590 p590 => ?_)
        obtain ⟨rfl, gp590, ⟨np590, pp590e, sp590, tp590, dp590⟩ | ⟨np590, Fp590⟩, ip590, jp590⟩ := p590
        · have ggp590 := mFr_t ggp589 gp590
          refine tw_aload rfl rfl ?_
          refine tw_push rfl ?_
          refine tw_iload rfl rfl ?_
          refine tw_virt2 rfl (g_entry hG hX (ggp590).1 pp590e ((mFr_T ggp590).trans hT) ((mFr_n ggp590).trans hN) ⟨by decide, by show 0 ≤ (Int32.ofNat vp589.2).toInt; have z := Np589; rw [sp584] at z; have := (rM_r (rB_le hpn) z).2.2; rw [zofI (by omega)]; omega⟩) (fun wp591 hp591 p591 => ?_)
          obtain ⟨rfl, gp591, pp591e, sp591, tp591, dp591⟩ := p591
          have ggp591 := mFr_t ggp590 gp591
          refine tw_aload rfl rfl ?_
          refine tw_push rfl ?_
          refine tw_put rfl (fun f592 => ?_)
          refine tG_setm f592 (hw_111_46 f592 (ggp591).1) (fun hf592 ef592 => ?_)
          try dsimp only [tvI_i] at ef592
          have gf592 := mFq_s (mFq_f ggp591) ef592 (Or.inr rfl)
          obtain ⟨pf592, sf592, tf592⟩ := mSte pp591e ef592
          refine tw_goto rfl ?_
          have hdg := (sgm_d kp587).mp p588
          rw [sp584] at hdg
          have hk12 : rK12 T n (rB T n (ms h).1) = none := rK12_n (fun k hk z => by have y := rW_l (by omega) z; have y2 : _ ∧ _ := hdg.2; have y3 : T (rB T n (ms h).1) = T (rA (rB T n (ms h).1) (ms h)).1 := rfl; rw [← y3] at y2; omega)
          have hrm : rM T n 99999 (rB T n (ms h).1) = .inr vp589 := by have z := Np589; rw [sp584] at z; exact z
          have h80 : (ms h).2.1 ≠ 80 := by have z := np590; rw [sp589, sp584] at z; exact z
          have hsk : mSk hf592 = mSk h := by rw [tf592, tp591, tp590, tp589, tp584]
          have h32 : tF hf592 111 32 = tF h 111 32 := (mI_o ef592 (by decide)).trans (dp591.trans (dp590.trans (dp589.trans dp584)))
          have hms : ms hf592 = (vp589.1, (ms h).2.1 + 1, (ms h).2.2 ++ [vp589.2]) := by rw [sf592, sp591, sp590, sp589, sp584]; show (_, _, _ ++ [mCode 0 (Int32.ofNat vp589.2).toNatClampNeg]) = _; rw [zoN (by have := (rM_r (rB_le hpn) hrm).2.2; omega)]; rfl
          exact tw_vret rfl ⟨rfl, gf592, mOut_r (by unfold mS1; rw [if_neg (fun z => q586 ((by have y := sgm_k kp585 40 (by decide); rw [sp584] at y; exact y.mpr z))), hk12]; (try dsimp only); rw [hrm]; (try dsimp only); rw [if_neg h80]) pf592 (mD_k hD hsk h32) (by unfold mst; rw [mI_x ef592, hsk, hms]; rfl)⟩
        · have ggp590 := mFr_t ggp589 gp590
          refine tw_aload rfl rfl ?_
          refine tw_push rfl ?_
          refine tw_iload rfl rfl ?_
          refine tw_virt2 rfl (z_entry hG hX (ggp590).1 Fp590 ((mFr_T ggp590).trans hT) ((mFr_n ggp590).trans hN)) (fun wp593 hp593 p593 => ?_)
          obtain ⟨rfl, e9⟩ := p593
          obtain rfl := e9.symm
          refine tw_aload rfl rfl ?_
          refine tw_push rfl ?_
          refine tw_put rfl (fun f594 => ?_)
          refine tG_setm f594 (hw_111_46 f594 (ggp590).1) (fun hf594 ef594 => ?_)
          try dsimp only [tvI_i] at ef594
          have gf594 := mFq_s (mFq_f ggp590) ef594 (Or.inr rfl)
          have zf594 := mFt_s Fp590 ef594 (by decide)
          refine tw_goto rfl ?_
          have hdg := (sgm_d kp587).mp p588
          rw [sp584] at hdg
          have hk12 : rK12 T n (rB T n (ms h).1) = none := rK12_n (fun k hk z => by have y := rW_l (by omega) z; have y2 : _ ∧ _ := hdg.2; have y3 : T (rB T n (ms h).1) = T (rA (rB T n (ms h).1) (ms h)).1 := rfl; rw [← y3] at y2; omega)
          have hrm : rM T n 99999 (rB T n (ms h).1) = .inr vp589 := by have z := Np589; rw [sp584] at z; exact z
          have h80 : (ms h).2.1 = 80 := by have z := np590; rw [sp589, sp584] at z; exact z
          have Zfin : mZp hf594 := mZp_o (mZp_k (mZp_p pp589e) ip590 jp590) ef594 (by decide)
          exact tw_vret rfl ⟨rfl, gf594, mOut_l (by unfold mS1; rw [if_neg (fun z => q586 ((by have y := sgm_k kp585 40 (by decide); rw [sp584] at y; exact y.mpr z))), hk12]; (try dsimp only); rw [hrm]; (try dsimp only); rw [if_pos h80]) zf594 Zfin⟩
      · have ggp589 := mFr_t ggp584 gp589
        refine tw_istore rfl ?_
        refine tw_aload rfl rfl ?_
        refine tw_iload rfl rfl ?_
        refine tw_virt1 rfl (z_counts hG hX (ggp589).1 Fp589 ((mFr_T ggp589).trans hT) ((mFr_n ggp589).trans hN)) (fun w9 hp595 p595 => ?_)
        obtain ⟨rfl, gp595, Fp595, ip595, jp595⟩ := p595
        · have ggp595 := mFr_t ggp589 gp595
          refine tw_aload rfl rfl ?_
          refine tw_push rfl ?_
          refine tw_iload rfl rfl ?_
          refine tw_virt2 rfl (z_entry hG hX (ggp595).1 Fp595 ((mFr_T ggp595).trans hT) ((mFr_n ggp595).trans hN)) (fun wp596 hp596 p596 => ?_)
          obtain ⟨rfl, e9⟩ := p596
          obtain rfl := e9.symm
          refine tw_aload rfl rfl ?_
          refine tw_push rfl ?_
          refine tw_put rfl (fun f597 => ?_)
          refine tG_setm f597 (hw_111_46 f597 (ggp595).1) (fun hf597 ef597 => ?_)
          try dsimp only [tvI_i] at ef597
          have gf597 := mFq_s (mFq_f ggp595) ef597 (Or.inr rfl)
          have zf597 := mFt_s Fp595 ef597 (by decide)
          refine tw_goto rfl ?_
          have hdg := (sgm_d kp587).mp p588
          rw [sp584] at hdg
          have hk12 : rK12 T n (rB T n (ms h).1) = none := rK12_n (fun k hk z => by have y := rW_l (by omega) z; have y2 : _ ∧ _ := hdg.2; have y3 : T (rB T n (ms h).1) = T (rA (rB T n (ms h).1) (ms h)).1 := rfl; rw [← y3] at y2; omega)
          have hrm : rM T n 99999 (rB T n (ms h).1) = .inl ep589 := by have z := Np589; rw [sp584] at z; exact z
          have Zfin : mZp hf597 := mZp_o (mZp_k Zp589 ip595 jp595) ef597 (by decide)
          exact tw_vret rfl ⟨rfl, gf597, mOut_l (by unfold mS1; rw [if_neg (fun z => q586 ((by have y := sgm_k kp585 40 (by decide); rw [sp584] at y; exact y.mpr z))), hk12]; (try dsimp only); rw [hrm]) zf597 Zfin⟩
    · try dsimp only [tvI_i, tvJ_j, tvR_r] at p588
      refine tw_if_eq rfl (fun _ => ?_) (fun z => absurd z (by decide))
      refine tw_push rfl ?_
      refine tw_istore rfl ?_
      refine tG_loop (zW_mono zTt G dp) (zW_conj zTt G dp) (V := fun pc L st h9 _ _ => pc = 82 ∧ st = [] ∧ hp584 = h9 ∧ ∃ (k : Nat) (x : Int32), x.toInt = k ∧ k ≤ 12 ∧ (∀ i, i < k → ¬ rW T n (rB T n (ms h).1) (rWd i) = true) ∧ L = [some (.ref 111), some (.int (tvI (tF hp584 111 28))), some (.int x)]) ?_ (⟨rfl, rfl, rfl, 0, 0, rfl, by omega, fun i hi => by omega, rfl⟩)
      rintro _ _ _ _ _ _ ⟨rfl, rfl, rfl, k, x, hx, hk, hall, rfl⟩
      refine tw_iload rfl rfl ?_
      refine tw_push rfl ?_
      refine tw_ic_ge rfl (fun q598 => ?_) (fun q598 => ?_)
      · try dsimp only [tvI_i, tvJ_j, tvR_r] at q598
        refine tw_iload rfl rfl ?_
        refine tw_push rfl ?_
        refine tw_ic_ne rfl (fun q599 => ?_) (fun q599 => ?_)
        · try dsimp only [tvI_i, tvJ_j, tvR_r] at q599
          have q599i := zneq (Y := 12) (by decide) q599
          exact absurd (show x.toInt = 12 by have z := q598; omega) (fun z => q599i z)
        · try dsimp only [tvI_i, tvJ_j, tvR_r] at q599
          have q599i := zeqi (Y := 12) (by decide) q599
          refine tw_aload rfl rfl ?_
          refine tw_push rfl ?_
          refine tw_iload rfl rfl ?_
          refine tw_virt2 rfl (g_fails hG hX (ggp584).1 pp584e ((mFr_T ggp584).trans hT) ((mFr_n ggp584).trans hN) (w := 0) (b := (rB T n (ms h).1)) rfl (by decide) ((mPl pp584e).trans (by rw [sp584]; rfl)) (by have := rB_le (T := T) hpn; omega)) (fun wp600 hp600 p600 => ?_)
          obtain ⟨rfl, gp600, Fp600, ip600, jp600⟩ := p600
          have ggp600 := mFr_t ggp584 gp600
          refine tw_goto rfl ?_
          have hk12 : rK12 T n (rB T n (ms h).1) = none := rK12_n (fun i hi => hall i (by have z := q599; have z2 : x.toInt = 12 := q599i; omega))
          have hnd : rD T n (rB T n (ms h).1) = (rB T n (ms h).1) := rD_n (fun z => p588 (by have y := sgm_d kp587; rw [sp584] at y; exact y.mpr z))
          have hrm := rM_a (M := 99999) (T := T) (n := n) (p := (rB T n (ms h).1)) (b := (rB T n (ms h).1)) rB_2 hnd
          have Zfin : mZp hp600 := mZp_k (mZp_p pp584e) ip600 jp600
          exact tw_vret rfl ⟨rfl, mFq_f ggp600, mOut_l (by unfold mS1; rw [if_neg (fun z => q586 ((by have y := sgm_k kp585 40 (by decide); rw [sp584] at y; exact y.mpr z))), hk12]; (try dsimp only); rw [hrm]) Fp600 Zfin⟩
      · try dsimp only [tvI_i, tvJ_j, tvR_r] at q598
        refine tw_aload rfl rfl ?_
        refine tw_iload rfl rfl ?_
        refine tw_stat1 rfl (g_wordOf hG (k := k) hx (by omega)) (fun wp601 hp601 p601 => ?_)
        obtain ⟨rfl, rfl⟩ := p601
        refine tw_virt1 rfl (g_stands hG hX (ggp584).1 ((mFr_T ggp584).trans hT) ((mFr_n ggp584).trans hN) (q := (k + 2)) (zl_lo k (by omega)).1 ⟨pp584e.2.1.1, by have := pp584e.2.1; omega⟩ ⟨by have := pp584e.2.1; omega, pp584e.2.1.2.2⟩) (fun w9 h9 p602 => ?_)
        obtain ⟨⟨p602, rfl⟩ | ⟨p602, rfl⟩, rfl⟩ := p602
        · try dsimp only [tvI_i, tvJ_j, tvR_r] at p602
          refine tw_if_ne rfl (fun _ => ?_) (fun z => absurd z (by decide))
          refine tw_iload rfl rfl ?_
          refine tw_push rfl ?_
          refine tw_ic_ne rfl (fun q603 => ?_) (fun q603 => ?_)
          · try dsimp only [tvI_i, tvJ_j, tvR_r] at q603
            have q603i := zneq (Y := 12) (by decide) q603
            refine tw_aload rfl rfl ?_
            refine tw_iload rfl rfl ?_
            have hk11 : k < 12 := by have z := q598; omega
            have hwk : rW T n (rB T n (ms h).1) (rWd k) = true := by have z := p602; rw [sp584] at z; rw [rWd_lo k (by omega)]; exact z
            refine tw_virt1 rfl (g_counts hG hX (ggp584).1 pp584e ((mFr_T ggp584).trans hT) ((mFr_n ggp584).trans hN) (b := (rB T n (ms h).1)) ((mPl pp584e).trans (by rw [sp584]; rfl)) (by have := rB_le (T := T) hpn; omega)) (fun w9 hp604 p604 => ?_)
            obtain ⟨rfl, gp604, ⟨np604, pp604e, sp604, tp604, dp604⟩ | ⟨np604, Fp604⟩, ip604, jp604⟩ := p604
            · have ggp604 := mFr_t ggp584 gp604
              refine tw_aload rfl rfl ?_
              refine tw_push rfl ?_
              refine tw_iload rfl rfl ?_
              refine tw_virt2 rfl (g_entry hG hX (ggp604).1 pp604e ((mFr_T ggp604).trans hT) ((mFr_n ggp604).trans hN) ⟨by decide, by omega⟩) (fun wp605 hp605 p605 => ?_)
              obtain ⟨rfl, gp605, pp605e, sp605, tp605, dp605⟩ := p605
              have ggp605 := mFr_t ggp604 gp605
              refine tw_aload rfl rfl ?_
              refine tw_dup rfl ?_
              refine tw_getS rfl (hi_111_28 ggp605.1) ?_
              refine tw_iload rfl rfl ?_
              refine tw_stat1 rfl (g_wordOf hG (k := k) hx (by omega)) (fun wp606 hp606 p606 => ?_)
              obtain ⟨rfl, rfl⟩ := p606
              refine tw_tlen rfl ?_
              refine tw_iadd rfl ?_
              refine tw_put rfl (fun f607 => ?_)
              refine tG_setm f607 (hw_111_28 f607 (ggp605).1) (fun hf607 ef607 => ?_)
              try dsimp only [tvI_i] at ef607
              have gf607 := mFr_s ggp605 ef607 (by unfold mFs; omega)
              have hln : (Int32.ofNat (G.2.1 (k + 2)).length).toInt = ((ztx (k + 2)).length : Int) := by rw [hX]; exact zofI (by have := (zl_lo k (by omega)).1; omega)
              have hre : rE T n (rB T n (ms h).1) = (rB T n (ms h).1) + (ztx (k + 2)).length := by rw [rW_e hwk, rWd_lo k (by omega)]
              have hre2 := rE_le (T := T) (rB_le (T := T) hpn)
              obtain ⟨pf607, sf607, tf607⟩ := mTo pp605e ((mFr_n ggp605).trans hN) ef607 (v := (rB T n (ms h).1) + (ztx (k + 2)).length) (zadN (a := (rB T n (ms h).1)) (by rw [mPl pp605e, sp605, sp604, sp584]; rfl) hln (by omega) (by have := (zl_lo k (by omega)).1; omega)) (by omega)
              rw [sp605, sp604, sp584, ← hre] at sf607
              refine tw_aload rfl rfl ?_
              refine tw_push rfl ?_
              refine tw_put rfl (fun f608 => ?_)
              refine tG_setm f608 (hw_111_46 f608 (gf607).1) (fun hf608 ef608 => ?_)
              try dsimp only [tvI_i] at ef608
              have gf608 := mFq_s (mFq_f gf607) ef608 (Or.inr rfl)
              obtain ⟨pf608, sf608, tf608⟩ := mSte pf607 ef608
              have hk12 : rK12 T n (rB T n (ms h).1) = some k := rK12_i (by omega) hwk
              have h80 : (ms h).2.1 ≠ 80 := by have z := np604; rw [sp584] at z; exact z
              have hsk : mSk hf608 = mSk h := by rw [tf608, tf607, tp605, tp604, tp584]
              have h32 : tF hf608 111 32 = tF h 111 32 := (mI_o ef608 (by decide)).trans ((mI_o ef607 (by decide)).trans (dp605.trans (dp604.trans dp584)))
              have hms : ms hf608 = (rE T n (rB T n (ms h).1), (ms h).2.1 + 1, (ms h).2.2 ++ [100000 + k]) := by rw [sf608, sf607]; show (_, _, _ ++ [mCode 1 x.toNatClampNeg]) = _; rw [zof_cl hx, mCode_1 (by omega)]; rfl
              exact tw_vret rfl ⟨rfl, gf608, mOut_r (by unfold mS1; rw [if_neg (fun z => q586 ((by have y := sgm_k kp585 40 (by decide); rw [sp584] at y; exact y.mpr z))), hk12]; (try dsimp only); rw [if_neg h80]) pf608 (mD_k hD hsk h32) (by unfold mst; rw [mI_x ef608, hsk, hms]; rfl)⟩
            · have ggp604 := mFr_t ggp584 gp604
              refine tw_aload rfl rfl ?_
              refine tw_push rfl ?_
              refine tw_iload rfl rfl ?_
              refine tw_virt2 rfl (z_entry hG hX (ggp604).1 Fp604 ((mFr_T ggp604).trans hT) ((mFr_n ggp604).trans hN)) (fun wp609 hp609 p609 => ?_)
              obtain ⟨rfl, e9⟩ := p609
              obtain rfl := e9.symm
              refine tw_aload rfl rfl ?_
              refine tw_dup rfl ?_
              refine tw_getS rfl (hi_111_28 (ggp604).1) ?_
              refine tw_iload rfl rfl ?_
              refine tw_stat1 rfl (g_wordOf hG (k := k) hx (by omega)) (fun wp610 hp610 p610 => ?_)
              obtain ⟨rfl, rfl⟩ := p610
              refine tw_tlen rfl ?_
              refine tw_iadd rfl ?_
              refine tw_put rfl (fun f611 => ?_)
              refine tG_setm f611 (hw_111_28 f611 (ggp604).1) (fun hf611 ef611 => ?_)
              try dsimp only [tvI_i] at ef611
              have gf611 := mFr_s ggp604 ef611 (by unfold mFs; omega)
              have zf611 := mFt_s Fp604 ef611 (by decide)
              have Zbf611 : 0 ≤ (tvI (tF hp604 111 27)).toInt ∧ (tvI (tF hp604 111 27)).toInt ≤ 400 := by rw [show tF hp604 111 27 = tF h 111 27 from mFr_27 ggp604]; have := hp.2.1; omega
              have yf611 : (tvI (tF hp604 111 28)).toInt = (((rB T n (ms h).1) : Nat) : Int) := by rw [ip604, mPl pp584e, sp584]; rfl
              have hln : (Int32.ofNat (G.2.1 (k + 2)).length).toInt = ((ztx (k + 2)).length : Int) := by rw [hX]; exact zofI (by have := (zl_lo k (by omega)).1; omega)
              have Zf611 : mZp hf611 := by have y := zadN yf611 hln (by have := rB_le (T := T) hpn; omega) (by have := (zl_lo k (by omega)).1; omega); have y2 := rE_le (T := T) (rB_le (T := T) hpn); rw [rW_e hwk, rWd_lo k (by omega)] at y2; unfold mZp; rw [mI_x ef611, mI_o ef611 (by decide)]; exact ⟨⟨by omega, Zbf611.1⟩, by omega, Zbf611.2⟩
              refine tw_aload rfl rfl ?_
              refine tw_push rfl ?_
              refine tw_put rfl (fun f612 => ?_)
              refine tG_setm f612 (hw_111_46 f612 (gf611).1) (fun hf612 ef612 => ?_)
              try dsimp only [tvI_i] at ef612
              have gf612 := mFq_s (mFq_f gf611) ef612 (Or.inr rfl)
              have zf612 := mFt_s zf611 ef612 (by decide)
              have hk12 : rK12 T n (rB T n (ms h).1) = some k := rK12_i (by omega) hwk
              have h80 : (ms h).2.1 = 80 := by have z := np604; rw [sp584] at z; exact z
              have Zfin : mZp hf612 := mZp_o Zf611 ef612 (by decide)
              exact tw_vret rfl ⟨rfl, gf612, mOut_l (by unfold mS1; rw [if_neg (fun z => q586 ((by have y := sgm_k kp585 40 (by decide); rw [sp584] at y; exact y.mpr z))), hk12]; (try dsimp only); rw [if_pos h80]) zf612 Zfin⟩
          · try dsimp only [tvI_i, tvJ_j, tvR_r] at q603
            have q603i := zeqi (Y := 12) (by decide) q603
            exact absurd (show x.toInt = 12 from q603i) (by have z := q598; omega)
        · try dsimp only [tvI_i, tvJ_j, tvR_r] at p602
          refine tw_if_ne rfl (fun z => absurd z (by decide)) (fun _ => ?_)
          refine tw_iinc rfl rfl ?_
          refine tw_goto rfl ?_
          have hno : ¬ rW T n (rB T n (ms h).1) (rWd k) = true := by have z := p602; rw [sp584] at z; rw [rWd_lo k (by omega)]; exact z
          exact tG_cut (zW_mono zTt G dp) (Or.inr ⟨rfl, rfl, rfl, k + 1, x + 1, zincN hx (by omega), by omega, fun i hi => (Classical.em (i = k)).elim (fun z => by rw [z]; exact hno) (fun z => hall i (by omega)), rfl⟩)
  · try dsimp only [tvI_i, tvJ_j, tvR_r] at q586
    have q586i := zeqi (Y := 40) (by decide) q586
    refine tw_aload rfl rfl ?_
    refine tw_push rfl ?_
    refine tw_iload rfl rfl ?_
    have hw40 : (rB T n (ms h).1) < n ∧ T (rB T n (ms h).1) = 40 := by have y := sgm_k kp585 40 (by decide); rw [sp584] at y; exact y.mp q586
    refine tw_virt2 rfl (g_opensDeep hG hX (ggp584).1 pp584e ((mFr_T ggp584).trans hT) ((mFr_n ggp584).trans hN) (by decide) (by decide) (b := (rB T n (ms h).1)) ((mPl pp584e).trans (by rw [sp584]; rfl)) (by have := rB_le (T := T) hpn; omega) (mD_k hD tp584 dp584) (by rw [tp584]; exact hd)) (fun w9 hp613 p613 => ?_)
    obtain ⟨rfl, gp613, ⟨np613, pp613e, tp613, sp613, ddp613⟩ | ⟨np613, Fp613, ip613, jp613⟩⟩ := p613
    · have ggp613 := mFr_t ggp584 gp613
      refine tw_aload rfl rfl ?_
      refine tw_iload rfl rfl ?_
      refine tw_virt1 rfl (g_counts hG hX (ggp613).1 pp613e ((mFr_T ggp613).trans hT) ((mFr_n ggp613).trans hN) (b := (rB T n (ms h).1)) ((mPl pp584e).trans (by rw [sp584]; rfl)) (by have := rB_le (T := T) hpn; omega)) (fun w9 hp614 p614 => ?_)
      obtain ⟨rfl, gp614, ⟨np614, pp614e, sp614, tp614, dp614⟩ | ⟨np614, Fp614⟩, ip614, jp614⟩ := p614
      · have ggp614 := mFr_t ggp613 gp614
        refine tw_aload rfl rfl ?_
        refine tw_dup rfl ?_
        refine tw_getS rfl (hi_111_28 ggp614.1) ?_
        refine tw_push rfl ?_
        refine tw_iadd rfl ?_
        refine tw_put rfl (fun f615 => ?_)
        refine tG_setm f615 (hw_111_28 f615 (ggp614).1) (fun hf615 ef615 => ?_)
        try dsimp only [tvI_i] at ef615
        have gf615 := mFr_s ggp614 ef615 (by unfold mFs; omega)
        have wf615 := hw40
        obtain ⟨pf615, sf615, tf615⟩ := mTo pp614e ((mFr_n ggp614).trans hN) ef615 (v := (rB T n (ms h).1) + 1) (zincN (n := (rB T n (ms h).1)) (by rw [mPl pp614e, sp614, sp613, sp584]; rfl) (by omega)) wf615.1
        rw [sp614, sp613, sp584] at sf615
        refine tw_goto rfl ?_
        have hnd : mDp (mSk h) ≠ 10 := by rw [← tp584]; exact np613
        have h80 : (ms h).2.1 ≠ 80 := by have z := np614; rw [sp613, sp584] at z; exact z
        have hsk : mSk hf615 = 50 :: mSk h := by rw [tf615, tp614, tp613, tp584]; rfl
        have hdd : mD hf615 := mD_o ef615 (by decide) (by decide) (mD_k ddp613 tp614 dp614)
        have h46 : stN (tvI (tF hf615 111 46)) = 1 := by rw [mFr_46 gf615, h46s]; rfl
        exact tw_vret rfl ⟨rfl, mFq_f gf615, mOut_r (by unfold mS1; rw [if_pos hw40, if_neg hnd, if_neg h80]) pf615 hdd (by unfold mst; rw [h46, hsk, sf615]; rfl)⟩
      · have ggp614 := mFr_t ggp613 gp614
        refine tw_aload rfl rfl ?_
        refine tw_dup rfl ?_
        refine tw_getS rfl (hi_111_28 ggp614.1) ?_
        refine tw_push rfl ?_
        refine tw_iadd rfl ?_
        refine tw_put rfl (fun f616 => ?_)
        refine tG_setm f616 (hw_111_28 f616 (ggp614).1) (fun hf616 ef616 => ?_)
        try dsimp only [tvI_i] at ef616
        have gf616 := mFr_s ggp614 ef616 (by unfold mFs; omega)
        have zf616 := mFt_s Fp614 ef616 (by decide)
        have yf616 : (tvI (tF hp614 111 28)).toInt = (((rB T n (ms h).1) : Nat) : Int) := by rw [ip614, mPl pp613e, sp613, sp584]; rfl
        have Zbf616 : 0 ≤ (tvI (tF hp614 111 27)).toInt ∧ (tvI (tF hp614 111 27)).toInt ≤ 400 := by rw [show tF hp614 111 27 = tF h 111 27 from mFr_27 ggp614]; have := hp.2.1; omega
        have Zf616 : mZp hf616 := by have y := zp1 yf616 (by have := rB_le (T := T) hpn; omega); have y2 := rB_le (T := T) hpn; unfold mZp; rw [mI_x ef616, mI_o ef616 (by decide)]; exact ⟨⟨by omega, Zbf616.1⟩, by omega, Zbf616.2⟩
        refine tw_goto rfl ?_
        have hnd : mDp (mSk h) ≠ 10 := by rw [← tp584]; exact np613
        have h80 : (ms h).2.1 = 80 := by have z := np614; rw [sp613, sp584] at z; exact z
        exact tw_vret rfl ⟨rfl, mFq_f gf616, mOut_l (by unfold mS1; rw [if_pos hw40, if_neg hnd, if_pos h80]) zf616 Zf616⟩
    · have ggp613 := mFr_t ggp584 gp613
      refine tw_aload rfl rfl ?_
      refine tw_iload rfl rfl ?_
      refine tw_virt1 rfl (z_counts hG hX (ggp613).1 Fp613 ((mFr_T ggp613).trans hT) ((mFr_n ggp613).trans hN)) (fun w9 hp617 p617 => ?_)
      obtain ⟨rfl, gp617, Fp617, ip617, jp617⟩ := p617
      · have ggp617 := mFr_t ggp613 gp617
        refine tw_aload rfl rfl ?_
        refine tw_dup rfl ?_
        refine tw_getS rfl (hi_111_28 ggp617.1) ?_
        refine tw_push rfl ?_
        refine tw_iadd rfl ?_
        refine tw_put rfl (fun f618 => ?_)
        refine tG_setm f618 (hw_111_28 f618 (ggp617).1) (fun hf618 ef618 => ?_)
        try dsimp only [tvI_i] at ef618
        have gf618 := mFr_s ggp617 ef618 (by unfold mFs; omega)
        have zf618 := mFt_s Fp617 ef618 (by decide)
        have yf618 : (tvI (tF hp617 111 28)).toInt = (((rB T n (ms h).1) : Nat) : Int) := by rw [ip617, ip613, mPl pp584e, sp584]; rfl
        have Zbf618 : 0 ≤ (tvI (tF hp617 111 27)).toInt ∧ (tvI (tF hp617 111 27)).toInt ≤ 400 := by rw [show tF hp617 111 27 = tF h 111 27 from mFr_27 ggp617]; have := hp.2.1; omega
        have Zf618 : mZp hf618 := by have y := zp1 yf618 (by have := rB_le (T := T) hpn; omega); have y2 := rB_le (T := T) hpn; unfold mZp; rw [mI_x ef618, mI_o ef618 (by decide)]; exact ⟨⟨by omega, Zbf618.1⟩, by omega, Zbf618.2⟩
        refine tw_goto rfl ?_
        exact tw_vret rfl ⟨rfl, mFq_f gf618, mOut_l (by unfold mS1; rw [if_pos hw40, if_pos (by rw [← tp584]; exact np613)]) zf618 Zf618⟩
