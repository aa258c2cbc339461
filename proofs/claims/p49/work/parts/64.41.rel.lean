theorem f_comparisonHere {G : zG} (hG : G.1 = zProg) (hX : G.2.1 = ztx) {h : zH} {T : Nat → Int32} {n : Nat} (hs : tSh h) (hp : cP h) (hT : tA h 45 = T) (hN : cn h = n)  : tC zTt G 82 [.ref 44] h (fun w h2 => cFr h h2 ∧ ((∃ q, rCm T n (rB T n (cs h).1) = some q ∧ (cs h).2.1 ≠ 80 ∧ w = some (.int (Int32.ofNat q.1)) ∧ cs h2 = (q.2, (cs h).2.1 + 1, (cs h).2.2) ∧ cP h2) ∨ (w = some (.int (-1)) ∧ ∃ e, cFt h2 e ∧ ((rCm T n (rB T n (cs h).1) = none ∧ e = 1 + 8 * (rB T n (cs h).1) + 0) ∨ (∃ q, rCm T n (rB T n (cs h).1) = some q ∧ (cs h).2.1 = 80 ∧ e = 1 + 8 * (rB T n (cs h).1) + 3))))) := by
  refine tC_in (by rw [hG]; rfl) (fun dp => ?_)
  have g0 := cFr_r hs
  have hpn : (cs h).1 ≤ n := by rw [← hN]; exact cP_le hp
  refine tw_aload rfl rfl ?_
  refine tw_virt0 rfl (f_signHere hG hX (g0).1 hp ((cFr_T g0).trans hT) ((cFr_n g0).trans hN)) (fun wp313 hp313 p313 => ?_)
  obtain ⟨gp313, ppp313, ssp313, t3p313, cp313, rfl, kp313⟩ := p313
  have ggp313 := cFr_t g0 gp313
  refine tw_istore rfl ?_
  refine tw_iload rfl rfl ?_
  refine tw_push rfl ?_
  refine tw_ic_eq rfl (fun q314 => ?_) (fun q314 => ?_)
  · try dsimp only [tvI_i, tvJ_j, tvR_r] at q314
    have q314i := zeqi (Y := 60) (by decide) q314
    refine tw_aload rfl rfl ?_
    refine tw_virt0 rfl (f_countOne hG hX (ggp313).1 ppp313 ((cFr_T ggp313).trans hT) ((cFr_n ggp313).trans hN)) (fun w9 hp315 p315 => ?_)
    obtain ⟨gp315, ⟨rfl, p315, ppp315, t3p315⟩ | ⟨rfl, xp315, p315, up315⟩⟩ := p315
    · have ggp315 := cFr_t ggp313 gp315
      refine tw_if_ne rfl (fun _ => ?_) (fun z => absurd z (by decide))
      refine tw_aload rfl rfl ?_
      refine tw_dup rfl ?_
      refine tw_getS rfl (hi_44_2 ggp315.1) ?_
      refine tw_push rfl ?_
      refine tw_iadd rfl ?_
      refine tw_put rfl (fun f316 => ?_)
      refine tG_set f316 (hw_44_2 f316 (ggp315).1) (fun hf316 ef316 => ?_)
      try dsimp only [tvI_i] at ef316
      have gf316 := cFr_s ggp315 ef316 (by decide)
      have hbn := ((sgn_k kp313 60 (by decide)).mp q314).1
      obtain ⟨hcnf316, hcef316⟩ := rC_y p315
      have hlf316 : (cs hp315).1 < n := by rw [hcef316]; show (cs hp313).1 < n; rw [ssp313]; exact hbn
      obtain ⟨pf316, sf316⟩ := cInc ppp315 hlf316 ((cFr_n ggp315).trans hN) ef316
      rw [hcef316] at sf316
      refine tw_iload rfl rfl ?_
      refine tw_push rfl ?_
      refine tw_ic_ne rfl (fun q317 => ?_) (fun q317 => ?_)
      · try dsimp only [tvI_i, tvJ_j, tvR_r] at q317
        have q317i := zneq (Y := 61) (by decide) q317
        refine tw_aload rfl rfl ?_
        refine tw_getS rfl (hi_44_2 (gf316).1) ?_
        refine tw_aload rfl rfl ?_
        refine tw_getS rfl (hi_44_1 (gf316).1) ?_
        refine tw_ic_ge rfl (fun q318 => ?_) (fun q318 => ?_)
        · try dsimp only [tvI_i, tvJ_j, tvR_r] at q318
          refine tw_iload rfl rfl ?_
          refine tw_push rfl ?_
          refine tw_ic_ne rfl (fun q319 => ?_) (fun q319 => ?_)
          · try dsimp only [tvI_i, tvJ_j, tvR_r] at q319
            have q319i := zneq (Y := 60) (by decide) q319
            exact absurd q314 q319
          · try dsimp only [tvI_i, tvJ_j, tvR_r] at q319
            have q319i := zeqi (Y := 60) (by decide) q319
            refine tw_push rfl ?_
            refine tw_goto rfl ?_
            have hbb : (cs hp313).1 = (rB T n (cs h).1) := by rw [ssp313]; rfl
            rw [ssp313] at hcnf316
            have hb1 : (cs hf316).1 = (rB T n (cs h).1) + 1 := by rw [sf316, ssp313]; rfl
            have hy : ¬ ((rB T n (cs h).1) + 1 < n ∧ T ((rB T n (cs h).1) + 1) = 61) := by
              rw [← hb1, ← ((cFr_T gf316).trans hT)]
              rintro ⟨y1, y2⟩
              exact cGe pf316 ((cFr_n gf316).trans hN) q318 y1
            exact tw_iret rfl ⟨gf316, Or.inl ⟨_, (cm60 ((sgn_k kp313 60 (by decide)).mp q314)).trans (if_neg hy), hcnf316, rfl, (by rw [sf316, ssp313]; rfl), pf316⟩⟩
        · try dsimp only [tvI_i, tvJ_j, tvR_r] at q318
          refine tw_aload rfl rfl ?_
          refine tw_getS rfl (hs_44_0 (gf316).1) ?_
          refine tw_aload rfl rfl ?_
          refine tw_getS rfl (hi_44_2 (gf316).1) ?_
          refine tw_bald rfl (fun f320 => ?_)
          refine tw_push rfl ?_
          refine tw_ic_ne rfl (fun q321 => ?_) (fun q321 => ?_)
          · try dsimp only [tvI_i, tvJ_j, tvR_r] at q321
            have q321i := zneq (Y := 61) (by decide) q321
            refine tw_iload rfl rfl ?_
            refine tw_push rfl ?_
            refine tw_ic_ne rfl (fun q322 => ?_) (fun q322 => ?_)
            · try dsimp only [tvI_i, tvJ_j, tvR_r] at q322
              have q322i := zneq (Y := 60) (by decide) q322
              exact absurd q314 q322
            · try dsimp only [tvI_i, tvJ_j, tvR_r] at q322
              have q322i := zeqi (Y := 60) (by decide) q322
              refine tw_push rfl ?_
              refine tw_goto rfl ?_
              have hbb : (cs hp313).1 = (rB T n (cs h).1) := by rw [ssp313]; rfl
              rw [ssp313] at hcnf316
              have hb1 : (cs hf316).1 = (rB T n (cs h).1) + 1 := by rw [sf316, ssp313]; rfl
              have hy : ¬ ((rB T n (cs h).1) + 1 < n ∧ T ((rB T n (cs h).1) + 1) = 61) := by
                rw [← hb1, ← ((cFr_T gf316).trans hT)]
                rintro ⟨y1, y2⟩
                exact q321 y2
              exact tw_iret rfl ⟨gf316, Or.inl ⟨_, (cm60 ((sgn_k kp313 60 (by decide)).mp q314)).trans (if_neg hy), hcnf316, rfl, (by rw [sf316, ssp313]; rfl), pf316⟩⟩
          · try dsimp only [tvI_i, tvJ_j, tvR_r] at q321
            have q321i := zeqi (Y := 61) (by decide) q321
            refine tw_aload rfl rfl ?_
            refine tw_dup rfl ?_
            refine tw_getS rfl (hi_44_2 (gf316).1) ?_
            refine tw_push rfl ?_
            refine tw_iadd rfl ?_
            refine tw_put rfl (fun f323 => ?_)
            refine tG_set f323 (hw_44_2 f323 (gf316).1) (fun hf323 ef323 => ?_)
            try dsimp only [tvI_i] at ef323
            have gf323 := cFr_s gf316 ef323 (by decide)
            have hlf323 := cLt pf316 ((cFr_n gf316).trans hN) q318
            obtain ⟨pf323, sf323⟩ := cInc pf316 hlf323 ((cFr_n gf316).trans hN) ef323
            refine tw_iload rfl rfl ?_
            refine tw_push rfl ?_
            refine tw_ic_ne rfl (fun q324 => ?_) (fun q324 => ?_)
            · try dsimp only [tvI_i, tvJ_j, tvR_r] at q324
              have q324i := zneq (Y := 60) (by decide) q324
              exact absurd q314 q324
            · try dsimp only [tvI_i, tvJ_j, tvR_r] at q324
              have q324i := zeqi (Y := 60) (by decide) q324
              refine tw_push rfl ?_
              refine tw_goto rfl ?_
              have hbb : (cs hp313).1 = (rB T n (cs h).1) := by rw [ssp313]; rfl
              rw [ssp313] at hcnf316
              have hb1 : (cs hf316).1 = (rB T n (cs h).1) + 1 := by rw [sf316, ssp313]; rfl
              have hy : (rB T n (cs h).1) + 1 < n ∧ T ((rB T n (cs h).1) + 1) = 61 := by rw [← hb1]; exact ⟨hlf323, by rw [← ((cFr_T gf316).trans hT)]; exact q321⟩
              exact tw_iret rfl ⟨gf323, Or.inl ⟨_, (cm60 ((sgn_k kp313 60 (by decide)).mp q314)).trans (if_pos hy), hcnf316, rfl, (by rw [sf323, sf316, ssp313]; rfl), pf323⟩⟩
      · try dsimp only [tvI_i, tvJ_j, tvR_r] at q317
        have q317i := zeqi (Y := 61) (by decide) q317
        exact absurd (q314.symm.trans q317) (by decide)
    · have ggp315 := cFr_t ggp313 gp315
      refine tw_if_ne rfl (fun z => absurd z (by decide)) (fun _ => ?_)
      refine tw_push rfl ?_
      have hbb : (cs hp313).1 = (rB T n (cs h).1) := by rw [ssp313]; rfl
      obtain ⟨o1, o2⟩ := rC_n p315
      rw [hbb] at o2
      rw [ssp313] at o1
      obtain ⟨q9, hq9⟩ := cm_s (Or.inr (Or.inl ((sgn_k kp313 60 (by decide)).mp q314)))
      exact tw_iret rfl ⟨ggp315, Or.inr ⟨rfl, _, up315, Or.inr ⟨q9, hq9, o1, o2⟩⟩⟩
  · try dsimp only [tvI_i, tvJ_j, tvR_r] at q314
    have q314i := zneq (Y := 60) (by decide) q314
    refine tw_iload rfl rfl ?_
    refine tw_push rfl ?_
    refine tw_ic_eq rfl (fun q325 => ?_) (fun q325 => ?_)
    · try dsimp only [tvI_i, tvJ_j, tvR_r] at q325
      have q325i := zeqi (Y := 61) (by decide) q325
      refine tw_aload rfl rfl ?_
      refine tw_virt0 rfl (f_countOne hG hX (ggp313).1 ppp313 ((cFr_T ggp313).trans hT) ((cFr_n ggp313).trans hN)) (fun w9 hp326 p326 => ?_)
      obtain ⟨gp326, ⟨rfl, p326, ppp326, t3p326⟩ | ⟨rfl, xp326, p326, up326⟩⟩ := p326
      · have ggp326 := cFr_t ggp313 gp326
        refine tw_if_ne rfl (fun _ => ?_) (fun z => absurd z (by decide))
        refine tw_aload rfl rfl ?_
        refine tw_dup rfl ?_
        refine tw_getS rfl (hi_44_2 ggp326.1) ?_
        refine tw_push rfl ?_
        refine tw_iadd rfl ?_
        refine tw_put rfl (fun f327 => ?_)
        refine tG_set f327 (hw_44_2 f327 (ggp326).1) (fun hf327 ef327 => ?_)
        try dsimp only [tvI_i] at ef327
        have gf327 := cFr_s ggp326 ef327 (by decide)
        have hbn := ((sgn_k kp313 61 (by decide)).mp q325).1
        obtain ⟨hcnf327, hcef327⟩ := rC_y p326
        have hlf327 : (cs hp326).1 < n := by rw [hcef327]; show (cs hp313).1 < n; rw [ssp313]; exact hbn
        obtain ⟨pf327, sf327⟩ := cInc ppp326 hlf327 ((cFr_n ggp326).trans hN) ef327
        rw [hcef327] at sf327
        refine tw_iload rfl rfl ?_
        refine tw_push rfl ?_
        refine tw_ic_ne rfl (fun q328 => ?_) (fun q328 => ?_)
        · try dsimp only [tvI_i, tvJ_j, tvR_r] at q328
          have q328i := zneq (Y := 61) (by decide) q328
          exact absurd q325 q328
        · try dsimp only [tvI_i, tvJ_j, tvR_r] at q328
          have q328i := zeqi (Y := 61) (by decide) q328
          refine tw_push rfl ?_
          have hbb : (cs hp313).1 = (rB T n (cs h).1) := by rw [ssp313]; rfl
          rw [ssp313] at hcnf327
          exact tw_iret rfl ⟨gf327, Or.inl ⟨_, cm61 ((sgn_k kp313 61 (by decide)).mp q325), hcnf327, rfl, (by rw [sf327, ssp313]; rfl), pf327⟩⟩
      · have ggp326 := cFr_t ggp313 gp326
        refine tw_if_ne rfl (fun z => absurd z (by decide)) (fun _ => ?_)
        refine tw_push rfl ?_
        have hbb : (cs hp313).1 = (rB T n (cs h).1) := by rw [ssp313]; rfl
        obtain ⟨o1, o2⟩ := rC_n p326
        rw [hbb] at o2
        rw [ssp313] at o1
        obtain ⟨q9, hq9⟩ := cm_s (Or.inl ((sgn_k kp313 61 (by decide)).mp q325))
        exact tw_iret rfl ⟨ggp326, Or.inr ⟨rfl, _, up326, Or.inr ⟨q9, hq9, o1, o2⟩⟩⟩
    · try dsimp only [tvI_i, tvJ_j, tvR_r] at q325
      have q325i := zneq (Y := 61) (by decide) q325
      refine tw_iload rfl rfl ?_
      refine tw_push rfl ?_
      refine tw_ic_eq rfl (fun q329 => ?_) (fun q329 => ?_)
      · try dsimp only [tvI_i, tvJ_j, tvR_r] at q329
        have q329i := zeqi (Y := 62) (by decide) q329
        refine tw_aload rfl rfl ?_
        refine tw_virt0 rfl (f_countOne hG hX (ggp313).1 ppp313 ((cFr_T ggp313).trans hT) ((cFr_n ggp313).trans hN)) (fun w9 hp330 p330 => ?_)
        obtain ⟨gp330, ⟨rfl, p330, ppp330, t3p330⟩ | ⟨rfl, xp330, p330, up330⟩⟩ := p330
        · have ggp330 := cFr_t ggp313 gp330
          refine tw_if_ne rfl (fun _ => ?_) (fun z => absurd z (by decide))
          refine tw_aload rfl rfl ?_
          refine tw_dup rfl ?_
          refine tw_getS rfl (hi_44_2 ggp330.1) ?_
          refine tw_push rfl ?_
          refine tw_iadd rfl ?_
          refine tw_put rfl (fun f331 => ?_)
          refine tG_set f331 (hw_44_2 f331 (ggp330).1) (fun hf331 ef331 => ?_)
          try dsimp only [tvI_i] at ef331
          have gf331 := cFr_s ggp330 ef331 (by decide)
          have hbn := ((sgn_k kp313 62 (by decide)).mp q329).1
          obtain ⟨hcnf331, hcef331⟩ := rC_y p330
          have hlf331 : (cs hp330).1 < n := by rw [hcef331]; show (cs hp313).1 < n; rw [ssp313]; exact hbn
          obtain ⟨pf331, sf331⟩ := cInc ppp330 hlf331 ((cFr_n ggp330).trans hN) ef331
          rw [hcef331] at sf331
          refine tw_iload rfl rfl ?_
          refine tw_push rfl ?_
          refine tw_ic_ne rfl (fun q332 => ?_) (fun q332 => ?_)
          · try dsimp only [tvI_i, tvJ_j, tvR_r] at q332
            have q332i := zneq (Y := 61) (by decide) q332
            refine tw_aload rfl rfl ?_
            refine tw_getS rfl (hi_44_2 (gf331).1) ?_
            refine tw_aload rfl rfl ?_
            refine tw_getS rfl (hi_44_1 (gf331).1) ?_
            refine tw_ic_ge rfl (fun q333 => ?_) (fun q333 => ?_)
            · try dsimp only [tvI_i, tvJ_j, tvR_r] at q333
              refine tw_iload rfl rfl ?_
              refine tw_push rfl ?_
              refine tw_ic_ne rfl (fun q334 => ?_) (fun q334 => ?_)
              · try dsimp only [tvI_i, tvJ_j, tvR_r] at q334
                have q334i := zneq (Y := 60) (by decide) q334
                refine tw_push rfl ?_
                have hbb : (cs hp313).1 = (rB T n (cs h).1) := by rw [ssp313]; rfl
                rw [ssp313] at hcnf331
                have hb1 : (cs hf331).1 = (rB T n (cs h).1) + 1 := by rw [sf331, ssp313]; rfl
                have hy : ¬ ((rB T n (cs h).1) + 1 < n ∧ T ((rB T n (cs h).1) + 1) = 61) := by
                  rw [← hb1, ← ((cFr_T gf331).trans hT)]
                  rintro ⟨y1, y2⟩
                  exact cGe pf331 ((cFr_n gf331).trans hN) q333 y1
                exact tw_iret rfl ⟨gf331, Or.inl ⟨_, (cm62 ((sgn_k kp313 62 (by decide)).mp q329)).trans (if_neg hy), hcnf331, rfl, (by rw [sf331, ssp313]; rfl), pf331⟩⟩
              · try dsimp only [tvI_i, tvJ_j, tvR_r] at q334
                have q334i := zeqi (Y := 60) (by decide) q334
                exact absurd (q329.symm.trans q334) (by decide)
            · try dsimp only [tvI_i, tvJ_j, tvR_r] at q333
              refine tw_aload rfl rfl ?_
              refine tw_getS rfl (hs_44_0 (gf331).1) ?_
              refine tw_aload rfl rfl ?_
              refine tw_getS rfl (hi_44_2 (gf331).1) ?_
              refine tw_bald rfl (fun f335 => ?_)
              refine tw_push rfl ?_
              refine tw_ic_ne rfl (fun q336 => ?_) (fun q336 => ?_)
              · try dsimp only [tvI_i, tvJ_j, tvR_r] at q336
                have q336i := zneq (Y := 61) (by decide) q336
                refine tw_iload rfl rfl ?_
                refine tw_push rfl ?_
                refine tw_ic_ne rfl (fun q337 => ?_) (fun q337 => ?_)
                · try dsimp only [tvI_i, tvJ_j, tvR_r] at q337
                  have q337i := zneq (Y := 60) (by decide) q337
                  refine tw_push rfl ?_
                  have hbb : (cs hp313).1 = (rB T n (cs h).1) := by rw [ssp313]; rfl
                  rw [ssp313] at hcnf331
                  have hb1 : (cs hf331).1 = (rB T n (cs h).1) + 1 := by rw [sf331, ssp313]; rfl
                  have hy : ¬ ((rB T n (cs h).1) + 1 < n ∧ T ((rB T n (cs h).1) + 1) = 61) := by
                    rw [← hb1, ← ((cFr_T gf331).trans hT)]
                    rintro ⟨y1, y2⟩
                    exact q336 y2
                  exact tw_iret rfl ⟨gf331, Or.inl ⟨_, (cm62 ((sgn_k kp313 62 (by decide)).mp q329)).trans (if_neg hy), hcnf331, rfl, (by rw [sf331, ssp313]; rfl), pf331⟩⟩
                · try dsimp only [tvI_i, tvJ_j, tvR_r] at q337
                  have q337i := zeqi (Y := 60) (by decide) q337
                  exact absurd (q329.symm.trans q337) (by decide)
              · try dsimp only [tvI_i, tvJ_j, tvR_r] at q336
                have q336i := zeqi (Y := 61) (by decide) q336
                refine tw_aload rfl rfl ?_
                refine tw_dup rfl ?_
                refine tw_getS rfl (hi_44_2 (gf331).1) ?_
                refine tw_push rfl ?_
                refine tw_iadd rfl ?_
                refine tw_put rfl (fun f338 => ?_)
                refine tG_set f338 (hw_44_2 f338 (gf331).1) (fun hf338 ef338 => ?_)
                try dsimp only [tvI_i] at ef338
                have gf338 := cFr_s gf331 ef338 (by decide)
                have hlf338 := cLt pf331 ((cFr_n gf331).trans hN) q333
                obtain ⟨pf338, sf338⟩ := cInc pf331 hlf338 ((cFr_n gf331).trans hN) ef338
                refine tw_iload rfl rfl ?_
                refine tw_push rfl ?_
                refine tw_ic_ne rfl (fun q339 => ?_) (fun q339 => ?_)
                · try dsimp only [tvI_i, tvJ_j, tvR_r] at q339
                  have q339i := zneq (Y := 60) (by decide) q339
                  refine tw_push rfl ?_
                  have hbb : (cs hp313).1 = (rB T n (cs h).1) := by rw [ssp313]; rfl
                  rw [ssp313] at hcnf331
                  have hb1 : (cs hf331).1 = (rB T n (cs h).1) + 1 := by rw [sf331, ssp313]; rfl
                  have hy : (rB T n (cs h).1) + 1 < n ∧ T ((rB T n (cs h).1) + 1) = 61 := by rw [← hb1]; exact ⟨hlf338, by rw [← ((cFr_T gf331).trans hT)]; exact q336⟩
                  exact tw_iret rfl ⟨gf338, Or.inl ⟨_, (cm62 ((sgn_k kp313 62 (by decide)).mp q329)).trans (if_pos hy), hcnf331, rfl, (by rw [sf338, sf331, ssp313]; rfl), pf338⟩⟩
                · try dsimp only [tvI_i, tvJ_j, tvR_r] at q339
                  have q339i := zeqi (Y := 60) (by decide) q339
                  exact absurd (q329.symm.trans q339) (by decide)
          · try dsimp only [tvI_i, tvJ_j, tvR_r] at q332
            have q332i := zeqi (Y := 61) (by decide) q332
            exact absurd (q329.symm.trans q332) (by decide)
        · have ggp330 := cFr_t ggp313 gp330
          refine tw_if_ne rfl (fun z => absurd z (by decide)) (fun _ => ?_)
          refine tw_push rfl ?_
          have hbb : (cs hp313).1 = (rB T n (cs h).1) := by rw [ssp313]; rfl
          obtain ⟨o1, o2⟩ := rC_n p330
          rw [hbb] at o2
          rw [ssp313] at o1
          obtain ⟨q9, hq9⟩ := cm_s (Or.inr (Or.inr ((sgn_k kp313 62 (by decide)).mp q329)))
          exact tw_iret rfl ⟨ggp330, Or.inr ⟨rfl, _, up330, Or.inr ⟨q9, hq9, o1, o2⟩⟩⟩
      · try dsimp only [tvI_i, tvJ_j, tvR_r] at q329
        have q329i := zneq (Y := 62) (by decide) q329
        refine tw_aload rfl rfl ?_
        refine tw_aload rfl rfl ?_
        refine tw_getS rfl (hi_44_2 ggp313.1) ?_
        refine tw_push rfl ?_
        refine tw_virt2 rfl (f_refuse hG hX (ggp313).1 ppp313 ((cFr_T ggp313).trans hT) ((cFr_n ggp313).trans hN)) (fun wp340 hp340 p340 => ?_)
        obtain ⟨gp340, rfl, up340⟩ := p340
        have ggp340 := cFr_t ggp313 gp340
        refine tw_pop rfl ?_
        refine tw_push rfl ?_
        have hbb : (cs hp313).1 = (rB T n (cs h).1) := by rw [ssp313]; rfl
        have hft := cFt_of ppp313 up340 (w := 0) rfl (by decide)
        rw [hbb] at hft
        exact tw_iret rfl ⟨ggp340, Or.inr ⟨rfl, _, hft, Or.inl ⟨cm_n (fun z => q325 ((sgn_k kp313 61 (by decide)).mpr z)) (fun z => q314 ((sgn_k kp313 60 (by decide)).mpr z)) (fun z => q329 ((sgn_k kp313 62 (by decide)).mpr z)), rfl⟩⟩⟩
theorem zd1 {x : Int32} {d : Nat} (hx : x.toInt = d) (hd : d ≤ 10) : (x + 1).toInt = ((d + 1 : Nat) : Int) := zincN hx (by omega)
theorem wrd_k {T : Nat → Int32} {n b k : Nat} {i : Int32} (w : wrd T n b i) (hk : k < 20) {K : Int32} (hK : K.toInt = k) : i = K ↔ rW T n b (rWd k) = true := (by
  rw [← w.2 k hk, ← hK]
  exact Int32.toInt_inj.symm)
theorem cTw_of {h : zH} {k : Nat} {i : Int32} (hi : i.toInt = k) (hk : k < 20) : (100000 + i).toNatClampNeg = 100000 + k := by
  have e : (100000 + i).toInt = 100000 + k := by
    rw [Int32.toInt_add, hi]
    exact Int.bmod_eq_of_le (by show (-2147483648 : Int) ≤ 100000 + (k : Int); omega) (by show 100000 + (k : Int) < (2147483648 : Int); omega)
  rw [zclE, e]
  omega
theorem cPe {T : Nat → Int32} {n m d : Nat} {h h2 : zH} (p : cP h) (hn : cn h = n) (k : pE T n m d (cs h) (.inr (cs h2))) : rPg n (cs h) (cs h2) := pE_pg k (by rw [← hn]; exact cP_le p)
theorem cHc {h : zH} (p : cP h) (q : (cs h).2.2.length < (cs h).1) : (tvI (tF h 44 5)).toInt < (tvI (tF h 44 2)).toInt := by
  have q : (cCo h).length < (tvI (tF h 44 2)).toNatClampNeg := q
  rw [cCo_len, zclE, zclE] at q
  have := p.1
  have := p.2.2.1
  omega
theorem c400 {T : Nat → Int32} {n x : Nat} (h : 400 ≤ x) (h2 : x ≤ n) (hn : n ≤ 400) {c : Prop} : ¬ (rB T n x < n ∧ c) := by
  have := rB_ge (T := T) (n := n) (p := x)
  intro z
  omega
theorem rB_400 {T : Nat → Int32} {n x : Nat} (h : n ≤ x) : rB T n x = x := rB_n (by omega)
theorem w400 {T : Nat → Int32} {n x i : Nat} (hi : i < 20) (h : n ≤ x) : ¬ rW T n x (rWd i) = true := fun z => by
  have := (rW_l hi z).1
  omega
theorem f_takeWord {G : zG} (hG : G.1 = zProg) (hX : G.2.1 = ztx) {h : zH} {T : Nat → Int32} {n : Nat} (hs : tSh h) (hp : cP h) (hT : tA h 45 = T) (hN : cn h = n) {i : Int32} {k E : Nat} (hi : i.toInt = k) (hk : k < 12) (hE : (tvI (tF h 44 3)).toInt = E) (hE1 : (cs h).1 < E) (hE2 : E ≤ n) : tC zTt G 86 [.ref 44, .int i] h (fun w h2 => cFr h h2 ∧ w = some (.int 1) ∧ cs h2 = rU (100000 + k) (rA E (cs h)) ∧ cP h2) := by
  refine tC_in (by rw [hG]; rfl) (fun dp => ?_)
  have g0 := cFr_r hs
  have hpn : (cs h).1 ≤ n := by rw [← hN]; exact cP_le hp
  refine tw_aload rfl rfl ?_
  refine tw_aload rfl rfl ?_
  refine tw_getS rfl (hi_44_3 hs) ?_
  refine tw_put rfl (fun f341 => ?_)
  refine tG_set f341 (hw_44_2 f341 (g0).1) (fun hf341 ef341 => ?_)
  try dsimp only [tvI_i] at ef341
  have gf341 := cFr_s g0 ef341 (by decide)
  obtain ⟨pf341, sf341⟩ := cTo hp ((cFr_n g0).trans hN) ef341 hE (by omega) hE2
  refine tw_aload rfl rfl ?_
  refine tw_push rfl ?_
  refine tw_iload rfl rfl ?_
  refine tw_iadd rfl ?_
  refine tw_virt1 rfl (f_putCode hG hX (gf341).1 pf341 ((cFr_T gf341).trans hT) ((cFr_n gf341).trans hN) (cHc pf341 (by rw [sf341]; show (cs h).2.2.length < E; have := cP_len hp; omega))) (fun wp342 hp342 p342 => ?_)
  obtain ⟨gp342, rfl, ssp342, ppp342⟩ := p342
  have ggp342 := cFr_t gf341 gp342
  refine tw_push rfl ?_
  refine tw_iret rfl ⟨ggp342, rfl, ?_, ppp342⟩
  rw [ssp342, sf341]
  show rU (100000 + i).toNatClampNeg _ = _
  rw [cTw_of (h := h) hi (by omega)]
theorem zoN {v : Nat} (h : v ≤ 200000) : (Int32.ofNat v).toNatClampNeg = v := zof_cl (zofI (by omega))
theorem zoN9 {v : Nat} (h : v ≤ 200000) : ¬ Int32.ofNat v = -1 := fun z => by
  have e := zofI (e := v) (by omega)
  rw [z] at e
  have : ((-1 : Int32)).toInt = -1 := by decide
  omega
theorem f_readValue {G : zG} (hG : G.1 = zProg) (hX : G.2.1 = ztx) {dp : Nat} (IH : cIH G dp) {h : zH} {T : Nat → Int32} {n : Nat} (hs : tSh h) (hp : cP h) (hT : tA h 45 = T) (hN : cn h = n) {x : Int32} {d : Nat} (hx : x.toInt = d) (hd : d ≤ 10) : tCp zTt G (dp + 1) 85 [.ref 44, .int x] h (cR T n 0 d h) := by
  refine tCp_in (by rw [hG]; rfl) ?_
  have g0 := cFr_r hs
  have hpn : (cs h).1 ≤ n := by rw [← hN]; exact cP_le hp
  have c129 : (12 : Int32).toInt = 12 := rfl
  have c4009 : (400 : Int32).toInt = 400 := rfl
  have c109 : (10 : Int32).toInt = 10 := rfl
  refine tw_aload rfl rfl ?_
  refine tw_virt0 rfl (f_signHere hG hX (g0).1 hp ((cFr_T g0).trans hT) ((cFr_n g0).trans hN)) (fun wp343 hp343 p343 => ?_)
  obtain ⟨gp343, ppp343, ssp343, t3p343, cp343, rfl, kp343⟩ := p343
  have ggp343 := cFr_t g0 gp343
  refine tw_push rfl ?_
  refine tw_ic_ne rfl (fun q344 => ?_) (fun q344 => ?_)
  · try dsimp only [tvI_i, tvJ_j, tvR_r] at q344
    have q344i := zneq (Y := 40) (by decide) q344
    refine tw_aload rfl rfl ?_
    refine tw_virt0 rfl (f_wordHere hG hX (ggp343).1 ppp343 ((cFr_T ggp343).trans hT) ((cFr_n ggp343).trans hN)) (fun wp345 hp345 p345 => ?_)
    obtain ⟨gp345, ppp345, ssp345, eep345, ip345, rfl, kwp345⟩ := p345
    have ggp345 := cFr_t ggp343 gp345
    have hbS : rB T n (cs hp343).1 = (rB T n (cs h).1) := by rw [ssp343]; exact rB_2
    rw [hbS] at ssp345 eep345 kwp345
    rw [ssp343] at ssp345
    refine tw_istore rfl ?_
    refine tw_iload rfl rfl ?_
    refine tw_push rfl ?_
    refine tw_ic_eq rfl (fun q346 => ?_) (fun q346 => ?_)
    · try dsimp only [tvI_i, tvJ_j, tvR_r] at q346
      have q346i := zeqi (Y := (-1)) (by decide) q346
      refine tw_aload rfl rfl ?_
      refine tw_getS rfl (hi_44_2 ggp345.1) ?_
      refine tw_istore rfl ?_
      refine tw_aload rfl rfl ?_
      refine tw_push rfl ?_
      refine tw_virt1 rfl (f_numberHere hG hX (ggp345).1 ppp345 ((cFr_T ggp345).trans hT) ((cFr_n ggp345).trans hN) (m := 99999) (M := 99999) rfl (by decide)) (fun w9 hp347 p347 => ?_)
      obtain ⟨gp347, ⟨vp347, p347, rfl, ssp347, ppp347⟩ | ⟨xp347, p347, rfl, up347⟩⟩ := p347
      · have ggp347 := cFr_t ggp345 gp347
        have hrm := p347
        rw [ssp345] at hrm
        refine tw_istore rfl ?_
        refine tw_iload rfl rfl ?_
        refine tw_push rfl ?_
        refine tw_ic_ne rfl (fun q348 => ?_) (fun q348 => ?_)
        · try dsimp only [tvI_i, tvJ_j, tvR_r] at q348
          have q348i := zneq (Y := (-1)) (by decide) q348
          refine tw_aload rfl rfl ?_
          refine tw_getS rfl (hi_44_8 ggp347.1) ?_
          refine tw_push rfl ?_
          refine tw_ic_ne rfl (fun q349 => ?_) (fun q349 => ?_)
          · try dsimp only [tvI_i, tvJ_j, tvR_r] at q349
            have q349i := zneq (Y := 80) (by decide) q349
            refine tw_aload rfl rfl ?_
            refine tw_dup rfl ?_
            refine tw_getS rfl (hi_44_8 ggp347.1) ?_
            refine tw_push rfl ?_
            refine tw_iadd rfl ?_
            refine tw_put rfl (fun f350 => ?_)
            refine tG_set f350 (hw_44_8 f350 (ggp347).1) (fun hf350 ef350 => ?_)
            try dsimp only [tvI_i] at ef350
            have gf350 := cFr_s ggp347 ef350 (by decide)
            obtain ⟨pf350, sf350⟩ := cCnt ppp347 q349 ef350
            refine tw_aload rfl rfl ?_
            refine tw_iload rfl rfl ?_
            refine tw_virt1 rfl (f_putCode hG hX (gf350).1 pf350 ((cFr_T gf350).trans hT) ((cFr_n gf350).trans hN) (cHc pf350 (by rw [sf350]; show (cs hp347).2.2.length < (cs hp347).1; rw [ssp347, ssp345]; show (cs h).2.2.length < vp347.1; have z := (rM_r (rB_le (T := T) hpn) hrm).1; rw [rB_2] at z; have := rB_ge (T := T) (n := n) (p := (cs h).1); have := cP_len hp; omega))) (fun wp351 hp351 p351 => ?_)
            obtain ⟨gp351, rfl, ssp351, ppp351⟩ := p351
            have ggp351 := cFr_t gf350 gp351
            refine tw_push rfl ?_
            have hi9 : ip345.toInt = -1 := congrArg Int32.toInt q346
            have hnw : ∀ k, k < 12 → ¬ rW T n (rB T n (cs h).1) (rWd k) = true := fun k hk z => by have y := (kwp345.2 k (by omega)).mpr z; omega
            have h80 := cn80 ppp347 q349
            rw [ssp347, ssp345] at h80
            refine tw_iret rfl ⟨ggp351, Or.inl ⟨rfl, ?_, ppp351⟩⟩
            rw [ssp351, sf350, ssp347, ssp345]
            have e9 := zoN (v := vp347.2) (by have := (rM_r (rB_le (T := T) hpn) hrm).2.2; omega)
            show pE T n 0 d (cs h) (.inr (vp347.1, (cs h).2.1 + 1, (cs h).2.2 ++ [(Int32.ofNat vp347.2).toNatClampNeg]))
            rw [e9]
            exact pE_0z (fun z => q344 ((sgn_k kp343 40 (by decide)).mpr z)) hnw hrm h80
          · try dsimp only [tvI_i, tvJ_j, tvR_r] at q349
            have q349i := zeqi (Y := 80) (by decide) q349
            refine tw_aload rfl rfl ?_
            refine tw_iload rfl rfl ?_
            refine tw_push rfl ?_
            refine tw_virt2 rfl (f_refuse hG hX (ggp347).1 ppp347 ((cFr_T ggp347).trans hT) ((cFr_n ggp347).trans hN)) (fun wp352 hp352 p352 => ?_)
            obtain ⟨gp352, rfl, up352⟩ := p352
            have ggp352 := cFr_t ggp347 gp352
            have hi9 : ip345.toInt = -1 := congrArg Int32.toInt q346
            have hnw : ∀ k, k < 12 → ¬ rW T n (rB T n (cs h).1) (rWd k) = true := fun k hk z => by have y := (kwp345.2 k (by omega)).mpr z; omega
            have hft := cFt_of ppp345 up352 (w := 3) rfl (by decide)
            rw [ssp345] at hft
            have h80 := c80 q349
            rw [ssp347, ssp345] at h80
            exact tw_iret rfl ⟨ggp352, Or.inr ⟨rfl, _, pE_0y (fun z => q344 ((sgn_k kp343 40 (by decide)).mpr z)) hnw hrm h80, hft⟩⟩
        · try dsimp only [tvI_i, tvJ_j, tvR_r] at q348
          have q348i := zeqi (Y := (-1)) (by decide) q348
          exact absurd q348 (zoN9 (by have := (rM_r (rB_le (T := T) hpn) hrm).2.2; omega))
      · have ggp347 := cFr_t ggp345 gp347
        have hrm := p347
        rw [ssp345] at hrm
        refine tw_istore rfl ?_
        refine tw_iload rfl rfl ?_
        refine tw_push rfl ?_
        refine tw_ic_ne rfl (fun z => absurd z (by decide)) (fun _ => ?_)
        refine tw_push rfl ?_
        have hi9 : ip345.toInt = -1 := congrArg Int32.toInt q346
        have hnw : ∀ k, k < 12 → ¬ rW T n (rB T n (cs h).1) (rWd k) = true := fun k hk z => by have y := (kwp345.2 k (by omega)).mpr z; omega
        exact tw_iret rfl ⟨ggp347, Or.inr ⟨rfl, _, pE_0m (fun z => q344 ((sgn_k kp343 40 (by decide)).mpr z)) hnw hrm, up347⟩⟩
    · try dsimp only [tvI_i, tvJ_j, tvR_r] at q346
      have q346i := zneq (Y := (-1)) (by decide) q346
      refine tw_iload rfl rfl ?_
      refine tw_push rfl ?_
      refine tw_ic_ge rfl (fun q353 => ?_) (fun q353 => ?_)
      · try dsimp only [tvI_i, tvJ_j, tvR_r] at q353
        refine tw_aload rfl rfl ?_
        refine tw_getS rfl (hi_44_2 ggp345.1) ?_
        refine tw_istore rfl ?_
        refine tw_aload rfl rfl ?_
        refine tw_push rfl ?_
        refine tw_virt1 rfl (f_numberHere hG hX (ggp345).1 ppp345 ((cFr_T ggp345).trans hT) ((cFr_n ggp345).trans hN) (m := 99999) (M := 99999) rfl (by decide)) (fun w9 hp354 p354 => ?_)
        obtain ⟨gp354, ⟨vp354, p354, rfl, ssp354, ppp354⟩ | ⟨xp354, p354, rfl, up354⟩⟩ := p354
        · have ggp354 := cFr_t ggp345 gp354
          have hrm := p354
          rw [ssp345] at hrm
          refine tw_istore rfl ?_
          refine tw_iload rfl rfl ?_
          refine tw_push rfl ?_
          refine tw_ic_ne rfl (fun q355 => ?_) (fun q355 => ?_)
          · try dsimp only [tvI_i, tvJ_j, tvR_r] at q355
            have q355i := zneq (Y := (-1)) (by decide) q355
            refine tw_aload rfl rfl ?_
            refine tw_getS rfl (hi_44_8 ggp354.1) ?_
            refine tw_push rfl ?_
            refine tw_ic_ne rfl (fun q356 => ?_) (fun q356 => ?_)
            · try dsimp only [tvI_i, tvJ_j, tvR_r] at q356
              have q356i := zneq (Y := 80) (by decide) q356
              refine tw_aload rfl rfl ?_
              refine tw_dup rfl ?_
              refine tw_getS rfl (hi_44_8 ggp354.1) ?_
              refine tw_push rfl ?_
              refine tw_iadd rfl ?_
              refine tw_put rfl (fun f357 => ?_)
              refine tG_set f357 (hw_44_8 f357 (ggp354).1) (fun hf357 ef357 => ?_)
              try dsimp only [tvI_i] at ef357
              have gf357 := cFr_s ggp354 ef357 (by decide)
              obtain ⟨pf357, sf357⟩ := cCnt ppp354 q356 ef357
              refine tw_aload rfl rfl ?_
              refine tw_iload rfl rfl ?_
              refine tw_virt1 rfl (f_putCode hG hX (gf357).1 pf357 ((cFr_T gf357).trans hT) ((cFr_n gf357).trans hN) (cHc pf357 (by rw [sf357]; show (cs hp354).2.2.length < (cs hp354).1; rw [ssp354, ssp345]; show (cs h).2.2.length < vp354.1; have z := (rM_r (rB_le (T := T) hpn) hrm).1; rw [rB_2] at z; have := rB_ge (T := T) (n := n) (p := (cs h).1); have := cP_len hp; omega))) (fun wp358 hp358 p358 => ?_)
              obtain ⟨gp358, rfl, ssp358, ppp358⟩ := p358
              have ggp358 := cFr_t gf357 gp358
              refine tw_push rfl ?_
              have hi9 : 12 ≤ ip345.toInt := by have z := q353; exact z
              have hnw : ∀ k, k < 12 → ¬ rW T n (rB T n (cs h).1) (rWd k) = true := fun k hk z => by have y := (kwp345.2 k (by omega)).mpr z; omega
              have h80 := cn80 ppp354 q356
              rw [ssp354, ssp345] at h80
              refine tw_iret rfl ⟨ggp358, Or.inl ⟨rfl, ?_, ppp358⟩⟩
              rw [ssp358, sf357, ssp354, ssp345]
              have e9 := zoN (v := vp354.2) (by have := (rM_r (rB_le (T := T) hpn) hrm).2.2; omega)
              show pE T n 0 d (cs h) (.inr (vp354.1, (cs h).2.1 + 1, (cs h).2.2 ++ [(Int32.ofNat vp354.2).toNatClampNeg]))
              rw [e9]
              exact pE_0z (fun z => q344 ((sgn_k kp343 40 (by decide)).mpr z)) hnw hrm h80
            · try dsimp only [tvI_i, tvJ_j, tvR_r] at q356
              have q356i := zeqi (Y := 80) (by decide) q356
              refine tw_aload rfl rfl ?_
              refine tw_iload rfl rfl ?_
              refine tw_push rfl ?_
              refine tw_virt2 rfl (f_refuse hG hX (ggp354).1 ppp354 ((cFr_T ggp354).trans hT) ((cFr_n ggp354).trans hN)) (fun wp359 hp359 p359 => ?_)
              obtain ⟨gp359, rfl, up359⟩ := p359
              have ggp359 := cFr_t ggp354 gp359
              have hi9 : 12 ≤ ip345.toInt := by have z := q353; exact z
              have hnw : ∀ k, k < 12 → ¬ rW T n (rB T n (cs h).1) (rWd k) = true := fun k hk z => by have y := (kwp345.2 k (by omega)).mpr z; omega
              have hft := cFt_of ppp345 up359 (w := 3) rfl (by decide)
              rw [ssp345] at hft
              have h80 := c80 q356
              rw [ssp354, ssp345] at h80
              exact tw_iret rfl ⟨ggp359, Or.inr ⟨rfl, _, pE_0y (fun z => q344 ((sgn_k kp343 40 (by decide)).mpr z)) hnw hrm h80, hft⟩⟩
          · try dsimp only [tvI_i, tvJ_j, tvR_r] at q355
            have q355i := zeqi (Y := (-1)) (by decide) q355
            exact absurd q355 (zoN9 (by have := (rM_r (rB_le (T := T) hpn) hrm).2.2; omega))
        · have ggp354 := cFr_t ggp345 gp354
          have hrm := p354
          rw [ssp345] at hrm
          refine tw_istore rfl ?_
          refine tw_iload rfl rfl ?_
          refine tw_push rfl ?_
          refine tw_ic_ne rfl (fun z => absurd z (by decide)) (fun _ => ?_)
          refine tw_push rfl ?_
          have hi9 : 12 ≤ ip345.toInt := by have z := q353; exact z
          have hnw : ∀ k, k < 12 → ¬ rW T n (rB T n (cs h).1) (rWd k) = true := fun k hk z => by have y := (kwp345.2 k (by omega)).mpr z; omega
          exact tw_iret rfl ⟨ggp354, Or.inr ⟨rfl, _, pE_0m (fun z => q344 ((sgn_k kp343 40 (by decide)).mpr z)) hnw hrm, up354⟩⟩
      · try dsimp only [tvI_i, tvJ_j, tvR_r] at q353
        refine tw_aload rfl rfl ?_
        refine tw_virt0 rfl (f_countOne hG hX (ggp345).1 ppp345 ((cFr_T ggp345).trans hT) ((cFr_n ggp345).trans hN)) (fun w9 hp360 p360 => ?_)
        obtain ⟨gp360, ⟨rfl, p360, ppp360, t3p360⟩ | ⟨rfl, xp360, p360, up360⟩⟩ := p360
        · have ggp360 := cFr_t ggp345 gp360
          have kwb := kwp345.1
          have hk12 : rW T n (rB T n (cs h).1) (rWd ip345.toInt.toNat) = true := (kwp345.2 ip345.toInt.toNat (by omega)).mp (by omega)
          have hEb : (rB T n (cs h).1) < rE T n (rB T n (cs h).1) := by have z := rE_ge (T := T) (n := n) (p := (rB T n (cs h).1) + 1); rw [← rE_y (rW_l (by omega) hk12)] at z; omega
          refine tw_if_eq rfl (fun z => absurd z (by decide)) (fun _ => ?_)
          refine tw_aload rfl rfl ?_
          refine tw_iload rfl rfl ?_
          refine tw_virt1 rfl (f_takeWord hG hX (ggp360).1 ppp360 ((cFr_T ggp360).trans hT) ((cFr_n ggp360).trans hN) (i := ip345) (k := ip345.toInt.toNat) (E := rE T n (rB T n (cs h).1)) (by have := kwp345.1; omega) (by omega) (by rw [t3p360]; exact eep345) (by rw [(rC_y p360).2]; show (cs hp345).1 < _; rw [ssp345]; exact hEb) (rE_le (rB_le hpn))) (fun wp361 hp361 p361 => ?_)
          obtain ⟨gp361, rfl, ssp361, ppp361⟩ := p361
          have ggp361 := cFr_t ggp360 gp361
          refine tw_if_eq rfl (fun z => absurd z (by decide)) (fun _ => ?_)
          refine tw_push rfl ?_
          refine tw_goto rfl ?_
          obtain ⟨hcn, hce⟩ := rC_y p360
          rw [ssp345] at hcn
          refine tw_iret rfl ⟨ggp361, Or.inl ⟨rfl, ?_, ppp361⟩⟩
          rw [ssp361, hce, ssp345]
          exact pE_0w (by omega) hk12 hcn
        · have ggp360 := cFr_t ggp345 gp360
          have kwb := kwp345.1
          have hk12 : rW T n (rB T n (cs h).1) (rWd ip345.toInt.toNat) = true := (kwp345.2 ip345.toInt.toNat (by omega)).mp (by omega)
          have hEb : (rB T n (cs h).1) < rE T n (rB T n (cs h).1) := by have z := rE_ge (T := T) (n := n) (p := (rB T n (cs h).1) + 1); rw [← rE_y (rW_l (by omega) hk12)] at z; omega
          refine tw_if_eq rfl (fun _ => ?_) (fun z => absurd z (by decide))
          refine tw_push rfl ?_
          obtain ⟨o1, o2⟩ := rC_n p360
          rw [ssp345] at o1 o2
          subst o2
          exact tw_iret rfl ⟨ggp360, Or.inr ⟨rfl, _, pE_0x (k := ip345.toInt.toNat) (by omega) hk12 o1, up360⟩⟩
  · try dsimp only [tvI_i, tvJ_j, tvR_r] at q344
    have q344i := zeqi (Y := 40) (by decide) q344
    refine tw_iload rfl rfl ?_
    refine tw_push rfl ?_
    refine tw_ic_ne rfl (fun q362 => ?_) (fun q362 => ?_)
    · try dsimp only [tvI_i, tvJ_j, tvR_r] at q362
      have q362i := zneq (Y := 10) (by decide) q362
      refine tw_aload rfl rfl ?_
      refine tw_virt0 rfl (f_countOne hG hX (ggp343).1 ppp343 ((cFr_T ggp343).trans hT) ((cFr_n ggp343).trans hN)) (fun w9 hp363 p363 => ?_)
      obtain ⟨gp363, ⟨rfl, p363, ppp363, t3p363⟩ | ⟨rfl, xp363, p363, up363⟩⟩ := p363
      · have ggp363 := cFr_t ggp343 gp363
        refine tw_if_ne rfl (fun _ => ?_) (fun z => absurd z (by decide))
        refine tw_aload rfl rfl ?_
        refine tw_dup rfl ?_
        refine tw_getS rfl (hi_44_2 ggp363.1) ?_
        refine tw_push rfl ?_
        refine tw_iadd rfl ?_
        refine tw_put rfl (fun f364 => ?_)
        refine tG_set f364 (hw_44_2 f364 (ggp363).1) (fun hf364 ef364 => ?_)
        try dsimp only [tvI_i] at ef364
        have gf364 := cFr_s ggp363 ef364 (by decide)
        obtain ⟨hcn, hce⟩ := rC_y p363
        have hw := (sgn_k kp343 40 (by decide)).mp q344
        have hlf364 : (cs hp363).1 < n := by rw [hce]; show (cs hp343).1 < n; rw [ssp343]; exact hw.1
        obtain ⟨pf364, sf364⟩ := cInc ppp363 hlf364 ((cFr_n ggp363).trans hN) ef364
        rw [hce, ssp343] at sf364
        refine tw_aload rfl rfl ?_
        refine tw_iload rfl rfl ?_
        refine tw_push rfl ?_
        refine tw_iadd rfl ?_
        refine tw_virt1p rfl (IH 3 83 (by decide) _ _ _ (d + 1) _ (gf364).1 pf364 ((cFr_T gf364).trans hT) ((cFr_n gf364).trans hN) (zd1 hx hd) (by omega)) (fun w9 hp365 p365 => ?_)
        obtain ⟨gp365, ⟨rfl, p365, ppp365⟩ | ⟨rfl, xp365, p365, up365⟩⟩ := p365
        · have ggp365 := cFr_t gf364 gp365
          refine tw_if_eq rfl (fun z => absurd z (by decide)) (fun _ => ?_)
          refine tw_aload rfl rfl ?_
          refine tw_push rfl ?_
          refine tw_virt1 rfl (f_takeSign hG hX (ggp365).1 ppp365 ((cFr_T ggp365).trans hT) ((cFr_n ggp365).trans hN) (y := 41) (by decide)) (fun w9 hp366 p366 => ?_)
          obtain ⟨gp366, ⟨rfl, p366, ppp366⟩ | ⟨rfl, xp366, p366, up366⟩⟩ := p366
          · have ggp366 := cFr_t ggp365 gp366
            refine tw_if_eq rfl (fun z => absurd z (by decide)) (fun _ => ?_)
            refine tw_push rfl ?_
            refine tw_goto rfl ?_
            have hw9 := ((sgn_k kp343 40 (by decide)).mp q344)
            have hd10 : d ≠ 10 := fun z => q362 (Int32.toInt_inj.mp (by rw [hx, z]; rfl))
            rw [ssp343] at hcn
            rw [sf364] at p365
            exact tw_iret rfl ⟨ggp366, Or.inl ⟨rfl, pE_0d hw9 hd10 hcn p365 p366, ppp366⟩⟩
          · have ggp366 := cFr_t ggp365 gp366
            refine tw_if_eq rfl (fun _ => ?_) (fun z => absurd z (by decide))
            refine tw_push rfl ?_
            have hw9 := ((sgn_k kp343 40 (by decide)).mp q344)
            have hd10 : d ≠ 10 := fun z => q362 (Int32.toInt_inj.mp (by rw [hx, z]; rfl))
            rw [ssp343] at hcn
            rw [sf364] at p365
            exact tw_iret rfl ⟨ggp366, Or.inr ⟨rfl, _, pE_0d hw9 hd10 hcn p365 p366, up366⟩⟩
        · have ggp365 := cFr_t gf364 gp365
          refine tw_if_eq rfl (fun _ => ?_) (fun z => absurd z (by decide))
          refine tw_push rfl ?_
          have hw9 := ((sgn_k kp343 40 (by decide)).mp q344)
          have hd10 : d ≠ 10 := fun z => q362 (Int32.toInt_inj.mp (by rw [hx, z]; rfl))
          rw [ssp343] at hcn
          rw [sf364] at p365
          exact tw_iret rfl ⟨ggp365, Or.inr ⟨rfl, _, pE_0c hw9 hd10 hcn p365, up365⟩⟩
      · have ggp363 := cFr_t ggp343 gp363
        refine tw_if_ne rfl (fun z => absurd z (by decide)) (fun _ => ?_)
        refine tw_push rfl ?_
        have hw9 := ((sgn_k kp343 40 (by decide)).mp q344)
        have hd10 : d ≠ 10 := fun z => q362 (Int32.toInt_inj.mp (by rw [hx, z]; rfl))
        obtain ⟨o1, o2⟩ := rC_n p363
        rw [ssp343] at o1 o2
        subst o2
        exact tw_iret rfl ⟨ggp363, Or.inr ⟨rfl, _, pE_0b hw9 hd10 o1, up363⟩⟩
    · try dsimp only [tvI_i, tvJ_j, tvR_r] at q362
      have q362i := zeqi (Y := 10) (by decide) q362
      refine tw_aload rfl rfl ?_
      refine tw_aload rfl rfl ?_
      refine tw_getS rfl (hi_44_2 ggp343.1) ?_
      refine tw_push rfl ?_
      refine tw_virt2 rfl (f_refuse hG hX (ggp343).1 ppp343 ((cFr_T ggp343).trans hT) ((cFr_n ggp343).trans hN)) (fun wp367 hp367 p367 => ?_)
      obtain ⟨gp367, rfl, up367⟩ := p367
      have ggp367 := cFr_t ggp343 gp367
      have hw9 := ((sgn_k kp343 40 (by decide)).mp q344)
      have hd10 : d = 10 := by have z : x.toInt = 10 := congrArg Int32.toInt q362; omega
      have hft := cFt_of ppp343 up367 (w := 2) rfl (by decide)
      rw [ssp343] at hft
      exact tw_iret rfl ⟨ggp367, Or.inr ⟨rfl, _, pE_0a hw9 hd10, hft⟩⟩
theorem wlen_k : (rWd 18).length = 3 ∧ (rWd 17).length = 2 ∧ (rWd 19).length = 3 ∧ (rWd 16).length = 2 := by decide +kernel
theorem f_readTerm {G : zG} (hG : G.1 = zProg) (hX : G.2.1 = ztx) {dp : Nat} (IH : cIH G dp) {h : zH} {T : Nat → Int32} {n : Nat} (hs : tSh h) (hp : cP h) (hT : tA h 45 = T) (hN : cn h = n) {x : Int32} {d : Nat} (hx : x.toInt = d) (hd : d ≤ 10) : tCp zTt G (dp + 1) 84 [.ref 44, .int x] h (cR T n 1 d h) := by
  refine tCp_in (by rw [hG]; rfl) ?_
  have g0 := cFr_r hs
  have hpn : (cs h).1 ≤ n := by rw [← hN]; exact cP_le hp
  have c129 : (12 : Int32).toInt = 12 := rfl
  have c4009 : (400 : Int32).toInt = 400 := rfl
  have c109 : (10 : Int32).toInt = 10 := rfl
  refine tw_aload rfl rfl ?_
  refine tw_iload rfl rfl ?_
  refine tw_virt1p rfl (IH 0 85 (by decide) _ _ _ d _ (g0).1 hp ((cFr_T g0).trans hT) ((cFr_n g0).trans hN) hx hd) (fun w9 hp368 p368 => ?_)
  obtain ⟨gp368, ⟨rfl, p368, ppp368⟩ | ⟨rfl, xp368, p368, up368⟩⟩ := p368
  · have ggp368 := cFr_t g0 gp368
    refine tw_if_ne rfl (fun _ => ?_) (fun z => absurd z (by decide))
    refine tw_push rfl ?_
    refine tw_istore rfl ?_
    refine tG_loop (zW_mono zTt G dp) (zW_conj zTt G dp) (V := fun pc L st h9 _ _ => pc = 12 ∧ st = [] ∧ ∃ (h1 : zH) (k : Nat) (y : Int32), h1 = h9 ∧ y.toInt = k ∧ k ≤ (cs h1).1 ∧ cFr h h1 ∧ cP h1 ∧ (∀ r, pE T n 2 d (cs h1) r → pE T n 1 d (cs h) r) ∧ L = [some (.ref 44), some (.int x), some (.int y)]) ?_ (⟨rfl, rfl, _, 0, _, rfl, rfl, Nat.zero_le _, ggp368, ppp368, fun r z => pE_q (by decide) p368 z, rfl⟩)
    rintro _ _ _ _ _ _ ⟨rfl, rfl, h1, k, y, rfl, hy, hk, g1, p1, hR, rfl⟩
    refine tw_iload rfl rfl ?_
    refine tw_push rfl ?_
    refine tw_ic_ge rfl (fun q369 => ?_) (fun q369 => ?_)
    · try dsimp only [tvI_i, tvJ_j, tvR_r] at q369
      refine tw_push rfl ?_
      have h4 : 400 ≤ (cs h1).1 := by omega
      have h5 := cP_400 p1
      rw [((cFr_n g1).trans hN)] at h5
      have h6 := rB_400 (T := T) (show n ≤ (cs h1).1 by omega)
      have h7 := pE_2n (T := T) (n := n) (d := d) (s := cs h1) (c400 (T := T) h4 (by have := cP_le p1; rw [((cFr_n g1).trans hN)] at this; exact this) h5)
      rw [h6] at h7
      exact tw_iret rfl ⟨g1, Or.inl ⟨rfl, hR _ h7, p1⟩⟩
    · try dsimp only [tvI_i, tvJ_j, tvR_r] at q369
      refine tw_aload rfl rfl ?_
      refine tw_virt0 rfl (f_signHere hG hX (g1).1 p1 ((cFr_T g1).trans hT) ((cFr_n g1).trans hN)) (fun wp370 hp370 p370 => ?_)
      obtain ⟨gp370, ppp370, ssp370, t3p370, cp370, rfl, kp370⟩ := p370
      have ggp370 := cFr_t g1 gp370
      refine tw_push rfl ?_
      refine tw_ic_ne rfl (fun q371 => ?_) (fun q371 => ?_)
      · try dsimp only [tvI_i, tvJ_j, tvR_r] at q371
        have q371i := zneq (Y := 42) (by decide) q371
        refine tw_push rfl ?_
        have h7 := pE_2n (T := T) (n := n) (d := d) (s := cs h1) (fun z => q371 ((sgn_k kp370 42 (by decide)).mpr z))
        rw [← ssp370] at h7
        exact tw_iret rfl ⟨ggp370, Or.inl ⟨rfl, hR _ h7, ppp370⟩⟩
      · try dsimp only [tvI_i, tvJ_j, tvR_r] at q371
        have q371i := zeqi (Y := 42) (by decide) q371
        refine tw_aload rfl rfl ?_
        refine tw_dup rfl ?_
        refine tw_getS rfl (hi_44_2 ggp370.1) ?_
        refine tw_push rfl ?_
        refine tw_iadd rfl ?_
        refine tw_put rfl (fun f372 => ?_)
        refine tG_set f372 (hw_44_2 f372 (ggp370).1) (fun hf372 ef372 => ?_)
        try dsimp only [tvI_i] at ef372
        have gf372 := cFr_s ggp370 ef372 (by decide)
        have hwf372 := ((sgn_k kp370 42 (by decide)).mp q371)
        have hlf372 : (cs hp370).1 < n := by rw [ssp370]; exact hwf372.1
        obtain ⟨pf372, sf372⟩ := cInc ppp370 hlf372 ((cFr_n ggp370).trans hN) ef372
        rw [ssp370] at sf372
        refine tw_aload rfl rfl ?_
        refine tw_iload rfl rfl ?_
        refine tw_virt1p rfl (IH 0 85 (by decide) _ _ _ d _ (gf372).1 pf372 ((cFr_T gf372).trans hT) ((cFr_n gf372).trans hN) hx hd) (fun w9 hp373 p373 => ?_)
        obtain ⟨gp373, ⟨rfl, p373, ppp373⟩ | ⟨rfl, xp373, p373, up373⟩⟩ := p373
        · have ggp373 := cFr_t gf372 gp373
          refine tw_if_ne rfl (fun _ => ?_) (fun z => absurd z (by decide))
          refine tw_aload rfl rfl ?_
          refine tw_push rfl ?_
          refine tw_virt1 rfl (f_putCode hG hX (ggp373).1 ppp373 ((cFr_T ggp373).trans hT) ((cFr_n ggp373).trans hN) (cHc ppp373 (by have z := cPe pf372 ((cFr_n gf372).trans hN) p373; have z2 := cP_len p1; have z3 := rB_ge (T := T) (n := n) (p := (cs h1).1); obtain ⟨z4, z5, z6⟩ := z; rw [sf372] at z4 z6; have z4 : (rB T n (cs h1).1) + 1 ≤ (cs hp373).1 := z4; have z6 : (rB T n (cs h1).1) + 1 + (cs hp373).2.2.length ≤ (cs hp373).1 + (cs h1).2.2.length := z6; omega))) (fun wp374 hp374 p374 => ?_)
          obtain ⟨gp374, rfl, ssp374, ppp374⟩ := p374
          have ggp374 := cFr_t ggp373 gp374
          refine tw_iinc rfl rfl ?_
          refine tw_goto rfl ?_
          have z := cPe pf372 ((cFr_n gf372).trans hN) p373
          have z3 := rB_ge (T := T) (n := n) (p := (cs h1).1)
          obtain ⟨z4, z5, z6⟩ := z
          have hon := p373
          rw [sf372] at z4 hon
          have z4 : (rB T n (cs h1).1) + 1 ≤ (cs hp373).1 := z4
          exact tG_cut (zW_mono zTt G dp) (Or.inr ⟨rfl, rfl, _, k + 1, _, rfl, zincL hy q369, (by rw [ssp374]; show k + 1 ≤ (cs hp373).1; omega), ggp374, ppp374, fun r w => hR r (pE_2y hwf372 hon (by rw [ssp374] at w; exact w)), rfl⟩)
        · have ggp373 := cFr_t gf372 gp373
          refine tw_if_ne rfl (fun z => absurd z (by decide)) (fun _ => ?_)
          refine tw_push rfl ?_
          have hoff := p373
          rw [sf372] at hoff
          exact tw_iret rfl ⟨ggp373, Or.inr ⟨rfl, _, hR _ (pE_2f hwf372 hoff), up373⟩⟩
  · have ggp368 := cFr_t g0 gp368
    refine tw_if_ne rfl (fun z => absurd z (by decide)) (fun _ => ?_)
    refine tw_push rfl ?_
    exact tw_iret rfl ⟨ggp368, Or.inr ⟨rfl, _, pE_qf (c := 2) (by decide) p368, up368⟩⟩
theorem f_readSum {G : zG} (hG : G.1 = zProg) (hX : G.2.1 = ztx) {dp : Nat} (IH : cIH G dp) {h : zH} {T : Nat → Int32} {n : Nat} (hs : tSh h) (hp : cP h) (hT : tA h 45 = T) (hN : cn h = n) {x : Int32} {d : Nat} (hx : x.toInt = d) (hd : d ≤ 10) : tCp zTt G (dp + 1) 83 [.ref 44, .int x] h (cR T n 3 d h) := by
  refine tCp_in (by rw [hG]; rfl) ?_
  have g0 := cFr_r hs
  have hpn : (cs h).1 ≤ n := by rw [← hN]; exact cP_le hp
  have c129 : (12 : Int32).toInt = 12 := rfl
  have c4009 : (400 : Int32).toInt = 400 := rfl
  have c109 : (10 : Int32).toInt = 10 := rfl
  refine tw_aload rfl rfl ?_
  refine tw_iload rfl rfl ?_
  refine tw_virt1p rfl (IH 1 84 (by decide) _ _ _ d _ (g0).1 hp ((cFr_T g0).trans hT) ((cFr_n g0).trans hN) hx hd) (fun w9 hp375 p375 => ?_)
  obtain ⟨gp375, ⟨rfl, p375, ppp375⟩ | ⟨rfl, xp375, p375, up375⟩⟩ := p375
  · have ggp375 := cFr_t g0 gp375
    refine tw_if_ne rfl (fun _ => ?_) (fun z => absurd z (by decide))
    refine tw_push rfl ?_
    refine tw_istore rfl ?_
    refine tG_loop (zW_mono zTt G dp) (zW_conj zTt G dp) (V := fun pc L st h9 _ _ => pc = 12 ∧ st = [] ∧ ∃ (h1 : zH) (k : Nat) (y : Int32) (v3 : Option Value), h1 = h9 ∧ y.toInt = k ∧ k ≤ (cs h1).1 ∧ cFr h h1 ∧ cP h1 ∧ (∀ r, pE T n 4 d (cs h1) r → pE T n 3 d (cs h) r) ∧ L = [some (.ref 44), some (.int x), some (.int y), v3]) ?_ (⟨rfl, rfl, _, 0, _, _, rfl, rfl, Nat.zero_le _, ggp375, ppp375, fun r z => pE_q (by decide) p375 z, rfl⟩)
    rintro _ _ _ _ _ _ ⟨rfl, rfl, h1, k, y, v3, rfl, hy, hk, g1, p1, hR, rfl⟩
    refine tw_iload rfl rfl ?_
    refine tw_push rfl ?_
    refine tw_ic_ge rfl (fun q376 => ?_) (fun q376 => ?_)
    · try dsimp only [tvI_i, tvJ_j, tvR_r] at q376
      refine tw_push rfl ?_
      have h4 : 400 ≤ (cs h1).1 := by omega
      have h5 := cP_400 p1
      rw [((cFr_n g1).trans hN)] at h5
      have h6 := rB_400 (T := T) (show n ≤ (cs h1).1 by omega)
      have h7 := pE_4n (T := T) (n := n) (d := d) (s := cs h1) (c400 (T := T) h4 (by have := cP_le p1; rw [((cFr_n g1).trans hN)] at this; exact this) h5) (c400 (T := T) h4 (by have := cP_le p1; rw [((cFr_n g1).trans hN)] at this; exact this) h5)
      rw [h6] at h7
      exact tw_iret rfl ⟨g1, Or.inl ⟨rfl, hR _ h7, p1⟩⟩
    · try dsimp only [tvI_i, tvJ_j, tvR_r] at q376
      refine tw_aload rfl rfl ?_
      refine tw_virt0 rfl (f_signHere hG hX (g1).1 p1 ((cFr_T g1).trans hT) ((cFr_n g1).trans hN)) (fun wp377 hp377 p377 => ?_)
      obtain ⟨gp377, ppp377, ssp377, t3p377, cp377, rfl, kp377⟩ := p377
      have ggp377 := cFr_t g1 gp377
      refine tw_istore rfl ?_
      refine tw_iload rfl rfl ?_
      refine tw_push rfl ?_
      refine tw_ic_eq rfl (fun q378 => ?_) (fun q378 => ?_)
      · try dsimp only [tvI_i, tvJ_j, tvR_r] at q378
        have q378i := zeqi (Y := 43) (by decide) q378
        refine tw_aload rfl rfl ?_
        refine tw_dup rfl ?_
        refine tw_getS rfl (hi_44_2 ggp377.1) ?_
        refine tw_push rfl ?_
        refine tw_iadd rfl ?_
        refine tw_put rfl (fun f379 => ?_)
        refine tG_set f379 (hw_44_2 f379 (ggp377).1) (fun hf379 ef379 => ?_)
        try dsimp only [tvI_i] at ef379
        have gf379 := cFr_s ggp377 ef379 (by decide)
        have hwf379 := ((sgn_k kp377 43 (by decide)).mp q378)
        have hlf379 : (cs hp377).1 < n := by rw [ssp377]; exact hwf379.1
        obtain ⟨pf379, sf379⟩ := cInc ppp377 hlf379 ((cFr_n ggp377).trans hN) ef379
        rw [ssp377] at sf379
        refine tw_aload rfl rfl ?_
        refine tw_iload rfl rfl ?_
        refine tw_virt1p rfl (IH 1 84 (by decide) _ _ _ d _ (gf379).1 pf379 ((cFr_T gf379).trans hT) ((cFr_n gf379).trans hN) hx hd) (fun w9 hp380 p380 => ?_)
        obtain ⟨gp380, ⟨rfl, p380, ppp380⟩ | ⟨rfl, xp380, p380, up380⟩⟩ := p380
        · have ggp380 := cFr_t gf379 gp380
          refine tw_if_ne rfl (fun _ => ?_) (fun z => absurd z (by decide))
          refine tw_aload rfl rfl ?_
          refine tw_iload rfl rfl ?_
          refine tw_push rfl ?_
          refine tw_ic_ne rfl (fun q381 => ?_) (fun q381 => ?_)
          · try dsimp only [tvI_i, tvJ_j, tvR_r] at q381
            have q381i := zneq (Y := 43) (by decide) q381
            exact absurd q378 q381
          · try dsimp only [tvI_i, tvJ_j, tvR_r] at q381
            have q381i := zeqi (Y := 43) (by decide) q381
            refine tw_push rfl ?_
            refine tw_goto rfl ?_
            refine tw_virt1 rfl (f_putCode hG hX (ggp380).1 ppp380 ((cFr_T ggp380).trans hT) ((cFr_n ggp380).trans hN) (cHc ppp380 (by have z := cPe pf379 ((cFr_n gf379).trans hN) p380; have z2 := cP_len p1; have z3 := rB_ge (T := T) (n := n) (p := (cs h1).1); obtain ⟨z4, z5, z6⟩ := z; rw [sf379] at z4 z6; have z4 : (rB T n (cs h1).1) + 1 ≤ (cs hp380).1 := z4; have z6 : (rB T n (cs h1).1) + 1 + (cs hp380).2.2.length ≤ (cs hp380).1 + (cs h1).2.2.length := z6; omega))) (fun wp382 hp382 p382 => ?_)
            obtain ⟨gp382, rfl, ssp382, ppp382⟩ := p382
            have ggp382 := cFr_t ggp380 gp382
            refine tw_iinc rfl rfl ?_
            refine tw_goto rfl ?_
            have z := cPe pf379 ((cFr_n gf379).trans hN) p380
            have z3 := rB_ge (T := T) (n := n) (p := (cs h1).1)
            obtain ⟨z4, z5, z6⟩ := z
            have hon := p380
            rw [sf379] at z4 hon
            have z4 : (rB T n (cs h1).1) + 1 ≤ (cs hp380).1 := z4
            exact tG_cut (zW_mono zTt G dp) (Or.inr ⟨rfl, rfl, _, k + 1, _, _, rfl, zincL hy q376, (by rw [ssp382]; show k + 1 ≤ (cs hp380).1; omega), ggp382, ppp382, fun r w => hR r (pE_4p hwf379 hon (by rw [ssp382] at w; exact w)), rfl⟩)
        · have ggp380 := cFr_t gf379 gp380
          refine tw_if_ne rfl (fun z => absurd z (by decide)) (fun _ => ?_)
          refine tw_push rfl ?_
          have hoff := p380
          rw [sf379] at hoff
          exact tw_iret rfl ⟨ggp380, Or.inr ⟨rfl, _, hR _ (pE_4pf hwf379 hoff), up380⟩⟩
      · try dsimp only [tvI_i, tvJ_j, tvR_r] at q378
        have q378i := zneq (Y := 43) (by decide) q378
        refine tw_iload rfl rfl ?_
        refine tw_push rfl ?_
        refine tw_ic_eq rfl (fun q383 => ?_) (fun q383 => ?_)
        · try dsimp only [tvI_i, tvJ_j, tvR_r] at q383
          have q383i := zeqi (Y := 45) (by decide) q383
          refine tw_aload rfl rfl ?_
          refine tw_dup rfl ?_
          refine tw_getS rfl (hi_44_2 ggp377.1) ?_
          refine tw_push rfl ?_
          refine tw_iadd rfl ?_
          refine tw_put rfl (fun f384 => ?_)
          refine tG_set f384 (hw_44_2 f384 (ggp377).1) (fun hf384 ef384 => ?_)
          try dsimp only [tvI_i] at ef384
          have gf384 := cFr_s ggp377 ef384 (by decide)
          have hwf384 := ((sgn_k kp377 45 (by decide)).mp q383)
          have hlf384 : (cs hp377).1 < n := by rw [ssp377]; exact hwf384.1
          obtain ⟨pf384, sf384⟩ := cInc ppp377 hlf384 ((cFr_n ggp377).trans hN) ef384
          rw [ssp377] at sf384
          refine tw_aload rfl rfl ?_
          refine tw_iload rfl rfl ?_
          refine tw_virt1p rfl (IH 1 84 (by decide) _ _ _ d _ (gf384).1 pf384 ((cFr_T gf384).trans hT) ((cFr_n gf384).trans hN) hx hd) (fun w9 hp385 p385 => ?_)
          obtain ⟨gp385, ⟨rfl, p385, ppp385⟩ | ⟨rfl, xp385, p385, up385⟩⟩ := p385
          · have ggp385 := cFr_t gf384 gp385
            refine tw_if_ne rfl (fun _ => ?_) (fun z => absurd z (by decide))
            refine tw_aload rfl rfl ?_
            refine tw_iload rfl rfl ?_
            refine tw_push rfl ?_
            refine tw_ic_ne rfl (fun q386 => ?_) (fun q386 => ?_)
            · try dsimp only [tvI_i, tvJ_j, tvR_r] at q386
              have q386i := zneq (Y := 43) (by decide) q386
              refine tw_push rfl ?_
              refine tw_virt1 rfl (f_putCode hG hX (ggp385).1 ppp385 ((cFr_T ggp385).trans hT) ((cFr_n ggp385).trans hN) (cHc ppp385 (by have z := cPe pf384 ((cFr_n gf384).trans hN) p385; have z2 := cP_len p1; have z3 := rB_ge (T := T) (n := n) (p := (cs h1).1); obtain ⟨z4, z5, z6⟩ := z; rw [sf384] at z4 z6; have z4 : (rB T n (cs h1).1) + 1 ≤ (cs hp385).1 := z4; have z6 : (rB T n (cs h1).1) + 1 + (cs hp385).2.2.length ≤ (cs hp385).1 + (cs h1).2.2.length := z6; omega))) (fun wp387 hp387 p387 => ?_)
              obtain ⟨gp387, rfl, ssp387, ppp387⟩ := p387
              have ggp387 := cFr_t ggp385 gp387
              refine tw_iinc rfl rfl ?_
              refine tw_goto rfl ?_
              have z := cPe pf384 ((cFr_n gf384).trans hN) p385
              have z3 := rB_ge (T := T) (n := n) (p := (cs h1).1)
              obtain ⟨z4, z5, z6⟩ := z
              have hon := p385
              rw [sf384] at z4 hon
              have z4 : (rB T n (cs h1).1) + 1 ≤ (cs hp385).1 := z4
              exact tG_cut (zW_mono zTt G dp) (Or.inr ⟨rfl, rfl, _, k + 1, _, _, rfl, zincL hy q376, (by rw [ssp387]; show k + 1 ≤ (cs hp385).1; omega), ggp387, ppp387, fun r w => hR r (pE_4m hwf384 hon (by rw [ssp387] at w; exact w)), rfl⟩)
            · try dsimp only [tvI_i, tvJ_j, tvR_r] at q386
              have q386i := zeqi (Y := 43) (by decide) q386
              exact absurd q386 q378
          · have ggp385 := cFr_t gf384 gp385
            refine tw_if_ne rfl (fun z => absurd z (by decide)) (fun _ => ?_)
            refine tw_push rfl ?_
            have hoff := p385
            rw [sf384] at hoff
            exact tw_iret rfl ⟨ggp385, Or.inr ⟨rfl, _, hR _ (pE_4mf hwf384 hoff), up385⟩⟩
        · try dsimp only [tvI_i, tvJ_j, tvR_r] at q383
          have q383i := zneq (Y := 45) (by decide) q383
          refine tw_goto rfl ?_
          refine tw_push rfl ?_
          have h7 := pE_4n (T := T) (n := n) (d := d) (s := cs h1) (fun z => q378 ((sgn_k kp377 43 (by decide)).mpr z)) (fun z => q383 ((sgn_k kp377 45 (by decide)).mpr z))
          rw [← ssp377] at h7
          exact tw_iret rfl ⟨ggp377, Or.inl ⟨rfl, hR _ h7, ppp377⟩⟩
  · have ggp375 := cFr_t g0 gp375
    refine tw_if_ne rfl (fun z => absurd z (by decide)) (fun _ => ?_)
    refine tw_push rfl ?_
    exact tw_iret rfl ⟨ggp375, Or.inr ⟨rfl, _, pE_qf (c := 4) (by decide) p375, up375⟩⟩
theorem f_readPart {G : zG} (hG : G.1 = zProg) (hX : G.2.1 = ztx) {dp : Nat} (IH : cIH G dp) {h : zH} {T : Nat → Int32} {n : Nat} (hs : tSh h) (hp : cP h) (hT : tA h 45 = T) (hN : cn h = n) {x : Int32} {d : Nat} (hx : x.toInt = d) (hd : d ≤ 10) : tCp zTt G (dp + 1) 79 [.ref 44, .int x] h (cR T n 7 d h) := by
  refine tCp_in (by rw [hG]; rfl) ?_
  have g0 := cFr_r hs
  have hpn : (cs h).1 ≤ n := by rw [← hN]; exact cP_le hp
  have c129 : (12 : Int32).toInt = 12 := rfl
  have c4009 : (400 : Int32).toInt = 400 := rfl
  have c109 : (10 : Int32).toInt = 10 := rfl
  refine tw_aload rfl rfl ?_
  refine tw_iload rfl rfl ?_
  refine tw_virt1p rfl (IH 6 80 (by decide) _ _ _ d _ (g0).1 hp ((cFr_T g0).trans hT) ((cFr_n g0).trans hN) hx hd) (fun w9 hp388 p388 => ?_)
  obtain ⟨gp388, ⟨rfl, p388, ppp388⟩ | ⟨rfl, xp388, p388, up388⟩⟩ := p388
  · have ggp388 := cFr_t g0 gp388
    refine tw_if_ne rfl (fun _ => ?_) (fun z => absurd z (by decide))
    refine tw_push rfl ?_
    refine tw_istore rfl ?_
    refine tG_loop (zW_mono zTt G dp) (zW_conj zTt G dp) (V := fun pc L st h9 _ _ => pc = 12 ∧ st = [] ∧ ∃ (h1 : zH) (k : Nat) (y : Int32), h1 = h9 ∧ y.toInt = k ∧ k ≤ (cs h1).1 ∧ cFr h h1 ∧ cP h1 ∧ (∀ r, pE T n 8 d (cs h1) r → pE T n 7 d (cs h) r) ∧ L = [some (.ref 44), some (.int x), some (.int y)]) ?_ (⟨rfl, rfl, _, 0, _, rfl, rfl, Nat.zero_le _, ggp388, ppp388, fun r z => pE_q (by decide) p388 z, rfl⟩)
    rintro _ _ _ _ _ _ ⟨rfl, rfl, h1, k, y, rfl, hy, hk, g1, p1, hR, rfl⟩
    refine tw_iload rfl rfl ?_
    refine tw_push rfl ?_
    refine tw_ic_ge rfl (fun q389 => ?_) (fun q389 => ?_)
    · try dsimp only [tvI_i, tvJ_j, tvR_r] at q389
      refine tw_push rfl ?_
      have h4 : 400 ≤ (cs h1).1 := by omega
      have h5 := cP_400 p1
      rw [((cFr_n g1).trans hN)] at h5
      have h6 := rB_400 (T := T) (show n ≤ (cs h1).1 by omega)
      have h7 := pE_8n (T := T) (n := n) (d := d) (s := cs h1) (w400 (by decide) (by rw [h6]; omega))
      rw [h6] at h7
      exact tw_iret rfl ⟨g1, Or.inl ⟨rfl, hR _ h7, p1⟩⟩
    · try dsimp only [tvI_i, tvJ_j, tvR_r] at q389
      refine tw_aload rfl rfl ?_
      refine tw_virt0 rfl (f_wordHere hG hX (g1).1 p1 ((cFr_T g1).trans hT) ((cFr_n g1).trans hN)) (fun wp390 hp390 p390 => ?_)
      obtain ⟨gp390, ppp390, ssp390, eep390, ip390, rfl, kwp390⟩ := p390
      have ggp390 := cFr_t g1 gp390
      refine tw_push rfl ?_
      refine tw_ic_ne rfl (fun q391 => ?_) (fun q391 => ?_)
      · try dsimp only [tvI_i, tvJ_j, tvR_r] at q391
        have q391i := zneq (Y := 18) (by decide) q391
        refine tw_push rfl ?_
        have h7 := pE_8n (T := T) (n := n) (d := d) (s := cs h1) (fun z => q391 ((wrd_k (k := 18) kwp390 (by decide) (K := 18) rfl).mpr z))
        rw [← ssp390] at h7
        exact tw_iret rfl ⟨ggp390, Or.inl ⟨rfl, hR _ h7, ppp390⟩⟩
      · try dsimp only [tvI_i, tvJ_j, tvR_r] at q391
        have q391i := zeqi (Y := 18) (by decide) q391
        refine tw_aload rfl rfl ?_
        refine tw_aload rfl rfl ?_
        refine tw_getS rfl (hi_44_3 ggp390.1) ?_
        refine tw_put rfl (fun f392 => ?_)
        refine tG_set f392 (hw_44_2 f392 (ggp390).1) (fun hf392 ef392 => ?_)
        try dsimp only [tvI_i] at ef392
        have gf392 := cFr_s ggp390 ef392 (by decide)
        have hwf392 := ((wrd_k (k := 18) kwp390 (by decide) (K := 18) rfl).mp q391)
        have h9wf392 : rE T n (rB T n (cs h1).1) = (rB T n (cs h1).1) + 3 := by rw [rW_e hwf392, wlen_k.1]
        rw [h9wf392] at eep390
        have hp1n : (cs h1).1 ≤ n := by rw [← ((cFr_n g1).trans hN)]; exact cP_le p1
        have hr9f392 := rE_le (T := T) (rB_le (T := T) hp1n)
        rw [h9wf392] at hr9f392
        obtain ⟨pf392, sf392⟩ := cTo ppp390 ((cFr_n ggp390).trans hN) ef392 eep390 (by rw [ssp390]; exact Nat.le_add_right _ _) hr9f392
        rw [ssp390] at sf392
        refine tw_aload rfl rfl ?_
        refine tw_iload rfl rfl ?_
        refine tw_virt1p rfl (IH 6 80 (by decide) _ _ _ d _ (gf392).1 pf392 ((cFr_T gf392).trans hT) ((cFr_n gf392).trans hN) hx hd) (fun w9 hp393 p393 => ?_)
        obtain ⟨gp393, ⟨rfl, p393, ppp393⟩ | ⟨rfl, xp393, p393, up393⟩⟩ := p393
        · have ggp393 := cFr_t gf392 gp393
          refine tw_if_ne rfl (fun _ => ?_) (fun z => absurd z (by decide))
          refine tw_aload rfl rfl ?_
          refine tw_push rfl ?_
          refine tw_virt1 rfl (f_putCode hG hX (ggp393).1 ppp393 ((cFr_T ggp393).trans hT) ((cFr_n ggp393).trans hN) (cHc ppp393 (by have z := cPe pf392 ((cFr_n gf392).trans hN) p393; have z2 := cP_len p1; have z3 := rB_ge (T := T) (n := n) (p := (cs h1).1); obtain ⟨z4, z5, z6⟩ := z; rw [sf392] at z4 z6; have z4 : (rB T n (cs h1).1) + 3 ≤ (cs hp393).1 := z4; have z6 : (rB T n (cs h1).1) + 3 + (cs hp393).2.2.length ≤ (cs hp393).1 + (cs h1).2.2.length := z6; omega))) (fun wp394 hp394 p394 => ?_)
          obtain ⟨gp394, rfl, ssp394, ppp394⟩ := p394
          have ggp394 := cFr_t ggp393 gp394
          refine tw_iinc rfl rfl ?_
          refine tw_goto rfl ?_
          have z := cPe pf392 ((cFr_n gf392).trans hN) p393
          have z3 := rB_ge (T := T) (n := n) (p := (cs h1).1)
          obtain ⟨z4, z5, z6⟩ := z
          have hon := p393
          rw [sf392] at z4 hon
          have z4 : (rB T n (cs h1).1) + 3 ≤ (cs hp393).1 := z4
          exact tG_cut (zW_mono zTt G dp) (Or.inr ⟨rfl, rfl, _, k + 1, _, rfl, zincL hy q389, (by rw [ssp394]; show k + 1 ≤ (cs hp393).1; omega), ggp394, ppp394, fun r w => hR r (pE_8y hwf392 hon (by rw [ssp394] at w; exact w)), rfl⟩)
        · have ggp393 := cFr_t gf392 gp393
          refine tw_if_ne rfl (fun z => absurd z (by decide)) (fun _ => ?_)
          refine tw_push rfl ?_
          have hoff := p393
          rw [sf392] at hoff
          exact tw_iret rfl ⟨ggp393, Or.inr ⟨rfl, _, hR _ (pE_8f hwf392 hoff), up393⟩⟩
  · have ggp388 := cFr_t g0 gp388
    refine tw_if_ne rfl (fun z => absurd z (by decide)) (fun _ => ?_)
    refine tw_push rfl ?_
    exact tw_iret rfl ⟨ggp388, Or.inr ⟨rfl, _, pE_qf (c := 8) (by decide) p388, up388⟩⟩
theorem f_readTest {G : zG} (hG : G.1 = zProg) (hX : G.2.1 = ztx) {dp : Nat} (IH : cIH G dp) {h : zH} {T : Nat → Int32} {n : Nat} (hs : tSh h) (hp : cP h) (hT : tA h 45 = T) (hN : cn h = n) {x : Int32} {d : Nat} (hx : x.toInt = d) (hd : d ≤ 10) : tCp zTt G (dp + 1) 78 [.ref 44, .int x] h (cR T n 9 d h) := by
  refine tCp_in (by rw [hG]; rfl) ?_
  have g0 := cFr_r hs
  have hpn : (cs h).1 ≤ n := by rw [← hN]; exact cP_le hp
  have c129 : (12 : Int32).toInt = 12 := rfl
  have c4009 : (400 : Int32).toInt = 400 := rfl
  have c109 : (10 : Int32).toInt = 10 := rfl
  refine tw_aload rfl rfl ?_
  refine tw_iload rfl rfl ?_
  refine tw_virt1p rfl (IH 7 79 (by decide) _ _ _ d _ (g0).1 hp ((cFr_T g0).trans hT) ((cFr_n g0).trans hN) hx hd) (fun w9 hp395 p395 => ?_)
  obtain ⟨gp395, ⟨rfl, p395, ppp395⟩ | ⟨rfl, xp395, p395, up395⟩⟩ := p395
  · have ggp395 := cFr_t g0 gp395
    refine tw_if_ne rfl (fun _ => ?_) (fun z => absurd z (by decide))
    refine tw_push rfl ?_
    refine tw_istore rfl ?_
    refine tG_loop (zW_mono zTt G dp) (zW_conj zTt G dp) (V := fun pc L st h9 _ _ => pc = 12 ∧ st = [] ∧ ∃ (h1 : zH) (k : Nat) (y : Int32), h1 = h9 ∧ y.toInt = k ∧ k ≤ (cs h1).1 ∧ cFr h h1 ∧ cP h1 ∧ (∀ r, pE T n 10 d (cs h1) r → pE T n 9 d (cs h) r) ∧ L = [some (.ref 44), some (.int x), some (.int y)]) ?_ (⟨rfl, rfl, _, 0, _, rfl, rfl, Nat.zero_le _, ggp395, ppp395, fun r z => pE_q (by decide) p395 z, rfl⟩)
    rintro _ _ _ _ _ _ ⟨rfl, rfl, h1, k, y, rfl, hy, hk, g1, p1, hR, rfl⟩
    refine tw_iload rfl rfl ?_
    refine tw_push rfl ?_
    refine tw_ic_ge rfl (fun q396 => ?_) (fun q396 => ?_)
    · try dsimp only [tvI_i, tvJ_j, tvR_r] at q396
      refine tw_push rfl ?_
      have h4 : 400 ≤ (cs h1).1 := by omega
      have h5 := cP_400 p1
      rw [((cFr_n g1).trans hN)] at h5
      have h6 := rB_400 (T := T) (show n ≤ (cs h1).1 by omega)
      have h7 := pE_10n (T := T) (n := n) (d := d) (s := cs h1) (w400 (by decide) (by rw [h6]; omega))
      rw [h6] at h7
      exact tw_iret rfl ⟨g1, Or.inl ⟨rfl, hR _ h7, p1⟩⟩
    · try dsimp only [tvI_i, tvJ_j, tvR_r] at q396
      refine tw_aload rfl rfl ?_
      refine tw_virt0 rfl (f_wordHere hG hX (g1).1 p1 ((cFr_T g1).trans hT) ((cFr_n g1).trans hN)) (fun wp397 hp397 p397 => ?_)
      obtain ⟨gp397, ppp397, ssp397, eep397, ip397, rfl, kwp397⟩ := p397
      have ggp397 := cFr_t g1 gp397
      refine tw_push rfl ?_
      refine tw_ic_ne rfl (fun q398 => ?_) (fun q398 => ?_)
      · try dsimp only [tvI_i, tvJ_j, tvR_r] at q398
        have q398i := zneq (Y := 17) (by decide) q398
        refine tw_push rfl ?_
        have h7 := pE_10n (T := T) (n := n) (d := d) (s := cs h1) (fun z => q398 ((wrd_k (k := 17) kwp397 (by decide) (K := 17) rfl).mpr z))
        rw [← ssp397] at h7
        exact tw_iret rfl ⟨ggp397, Or.inl ⟨rfl, hR _ h7, ppp397⟩⟩
      · try dsimp only [tvI_i, tvJ_j, tvR_r] at q398
        have q398i := zeqi (Y := 17) (by decide) q398
        refine tw_aload rfl rfl ?_
        refine tw_aload rfl rfl ?_
        refine tw_getS rfl (hi_44_3 ggp397.1) ?_
        refine tw_put rfl (fun f399 => ?_)
        refine tG_set f399 (hw_44_2 f399 (ggp397).1) (fun hf399 ef399 => ?_)
        try dsimp only [tvI_i] at ef399
        have gf399 := cFr_s ggp397 ef399 (by decide)
        have hwf399 := ((wrd_k (k := 17) kwp397 (by decide) (K := 17) rfl).mp q398)
        have h9wf399 : rE T n (rB T n (cs h1).1) = (rB T n (cs h1).1) + 2 := by rw [rW_e hwf399, wlen_k.2.1]
        rw [h9wf399] at eep397
        have hp1n : (cs h1).1 ≤ n := by rw [← ((cFr_n g1).trans hN)]; exact cP_le p1
        have hr9f399 := rE_le (T := T) (rB_le (T := T) hp1n)
        rw [h9wf399] at hr9f399
        obtain ⟨pf399, sf399⟩ := cTo ppp397 ((cFr_n ggp397).trans hN) ef399 eep397 (by rw [ssp397]; exact Nat.le_add_right _ _) hr9f399
        rw [ssp397] at sf399
        refine tw_aload rfl rfl ?_
        refine tw_iload rfl rfl ?_
        refine tw_virt1p rfl (IH 7 79 (by decide) _ _ _ d _ (gf399).1 pf399 ((cFr_T gf399).trans hT) ((cFr_n gf399).trans hN) hx hd) (fun w9 hp400 p400 => ?_)
        obtain ⟨gp400, ⟨rfl, p400, ppp400⟩ | ⟨rfl, xp400, p400, up400⟩⟩ := p400
        · have ggp400 := cFr_t gf399 gp400
          refine tw_if_ne rfl (fun _ => ?_) (fun z => absurd z (by decide))
          refine tw_aload rfl rfl ?_
          refine tw_push rfl ?_
          refine tw_virt1 rfl (f_putCode hG hX (ggp400).1 ppp400 ((cFr_T ggp400).trans hT) ((cFr_n ggp400).trans hN) (cHc ppp400 (by have z := cPe pf399 ((cFr_n gf399).trans hN) p400; have z2 := cP_len p1; have z3 := rB_ge (T := T) (n := n) (p := (cs h1).1); obtain ⟨z4, z5, z6⟩ := z; rw [sf399] at z4 z6; have z4 : (rB T n (cs h1).1) + 2 ≤ (cs hp400).1 := z4; have z6 : (rB T n (cs h1).1) + 2 + (cs hp400).2.2.length ≤ (cs hp400).1 + (cs h1).2.2.length := z6; omega))) (fun wp401 hp401 p401 => ?_)
          obtain ⟨gp401, rfl, ssp401, ppp401⟩ := p401
          have ggp401 := cFr_t ggp400 gp401
          refine tw_iinc rfl rfl ?_
          refine tw_goto rfl ?_
          have z := cPe pf399 ((cFr_n gf399).trans hN) p400
          have z3 := rB_ge (T := T) (n := n) (p := (cs h1).1)
          obtain ⟨z4, z5, z6⟩ := z
          have hon := p400
          rw [sf399] at z4 hon
          have z4 : (rB T n (cs h1).1) + 2 ≤ (cs hp400).1 := z4
          exact tG_cut (zW_mono zTt G dp) (Or.inr ⟨rfl, rfl, _, k + 1, _, rfl, zincL hy q396, (by rw [ssp401]; show k + 1 ≤ (cs hp400).1; omega), ggp401, ppp401, fun r w => hR r (pE_10y hwf399 hon (by rw [ssp401] at w; exact w)), rfl⟩)
        · have ggp400 := cFr_t gf399 gp400
          refine tw_if_ne rfl (fun z => absurd z (by decide)) (fun _ => ?_)
          refine tw_push rfl ?_
          have hoff := p400
          rw [sf399] at hoff
          exact tw_iret rfl ⟨ggp400, Or.inr ⟨rfl, _, hR _ (pE_10f hwf399 hoff), up400⟩⟩
  · have ggp395 := cFr_t g0 gp395
    refine tw_if_ne rfl (fun z => absurd z (by decide)) (fun _ => ?_)
    refine tw_push rfl ?_
    exact tw_iret rfl ⟨ggp395, Or.inr ⟨rfl, _, pE_qf (c := 10) (by decide) p395, up395⟩⟩
theorem f_readComparison {G : zG} (hG : G.1 = zProg) (hX : G.2.1 = ztx) {dp : Nat} (IH : cIH G dp) {h : zH} {T : Nat → Int32} {n : Nat} (hs : tSh h) (hp : cP h) (hT : tA h 45 = T) (hN : cn h = n) {x : Int32} {d : Nat} (hx : x.toInt = d) (hd : d ≤ 10) : tCp zTt G (dp + 1) 81 [.ref 44, .int x] h (cR T n 5 d h) := by
  refine tCp_in (by rw [hG]; rfl) ?_
  have g0 := cFr_r hs
  have hpn : (cs h).1 ≤ n := by rw [← hN]; exact cP_le hp
  have c129 : (12 : Int32).toInt = 12 := rfl
  have c4009 : (400 : Int32).toInt = 400 := rfl
  have c109 : (10 : Int32).toInt = 10 := rfl
  refine tw_aload rfl rfl ?_
  refine tw_iload rfl rfl ?_
  refine tw_virt1p rfl (IH 3 83 (by decide) _ _ _ d _ (g0).1 hp ((cFr_T g0).trans hT) ((cFr_n g0).trans hN) hx hd) (fun w9 hp402 p402 => ?_)
  obtain ⟨gp402, ⟨rfl, p402, ppp402⟩ | ⟨rfl, xp402, p402, up402⟩⟩ := p402
  · have ggp402 := cFr_t g0 gp402
    refine tw_if_ne rfl (fun _ => ?_) (fun z => absurd z (by decide))
    refine tw_aload rfl rfl ?_
    refine tw_virt0 rfl (f_comparisonHere hG hX (ggp402).1 ppp402 ((cFr_T ggp402).trans hT) ((cFr_n ggp402).trans hN)) (fun w9 hp403 p403 => ?_)
    obtain ⟨gp403, ⟨vp403, p403, c8p403, rfl, ssp403, ppp403⟩ | ⟨rfl, xp403, up403, p403⟩⟩ := p403
    · have ggp403 := cFr_t ggp402 gp403
      refine tw_istore rfl ?_
      refine tw_iload rfl rfl ?_
      refine tw_push rfl ?_
      refine tw_ic_eq rfl (fun q404 => ?_) (fun q404 => ?_)
      · try dsimp only [tvI_i, tvJ_j, tvR_r] at q404
        have q404i := zeqi (Y := (-1)) (by decide) q404
        exact absurd q404 (zoN9 (by have := (rCm_r p403).2.1; omega))
      · try dsimp only [tvI_i, tvJ_j, tvR_r] at q404
        have q404i := zneq (Y := (-1)) (by decide) q404
        refine tw_aload rfl rfl ?_
        refine tw_iload rfl rfl ?_
        refine tw_virt1p rfl (IH 3 83 (by decide) _ _ _ d _ (ggp403).1 ppp403 ((cFr_T ggp403).trans hT) ((cFr_n ggp403).trans hN) hx hd) (fun w9 hp405 p405 => ?_)
        obtain ⟨gp405, ⟨rfl, p405, ppp405⟩ | ⟨rfl, xp405, p405, up405⟩⟩ := p405
        · have ggp405 := cFr_t ggp403 gp405
          refine tw_if_ne rfl (fun _ => ?_) (fun z => absurd z (by decide))
          refine tw_aload rfl rfl ?_
          refine tw_iload rfl rfl ?_
          refine tw_virt1 rfl (f_putCode hG hX (ggp405).1 ppp405 ((cFr_T ggp405).trans hT) ((cFr_n ggp405).trans hN) (cHc ppp405 (by have z := cPe ppp403 ((cFr_n ggp403).trans hN) p405; have z1 := cP_len ppp402; have z3 := rB_ge (T := T) (n := n) (p := (cs hp402).1); have z7 := (rCm_r p403).2.2; obtain ⟨z4, z5, z6⟩ := z; rw [ssp403] at z4 z6; have z4 : vp403.2 ≤ (cs hp405).1 := z4; have z6 : vp403.2 + (cs hp405).2.2.length ≤ (cs hp405).1 + (cs hp402).2.2.length := z6; omega))) (fun wp406 hp406 p406 => ?_)
          obtain ⟨gp406, rfl, ssp406, ppp406⟩ := p406
          have ggp406 := cFr_t ggp405 gp406
          refine tw_push rfl ?_
          have ho := p405
          rw [ssp403] at ho
          refine tw_iret rfl ⟨ggp406, Or.inl ⟨rfl, ?_, ppp406⟩⟩
          rw [ssp406]
          show pE T n 5 d (cs h) (.inr (rU (Int32.ofNat vp403.1).toNatClampNeg _))
          rw [zoN (v := vp403.1) (by have := (rCm_r p403).2.1; omega)]
          exact pE_5e p402 p403 c8p403 ho
        · have ggp405 := cFr_t ggp403 gp405
          refine tw_if_ne rfl (fun z => absurd z (by decide)) (fun _ => ?_)
          refine tw_push rfl ?_
          have ho := p405
          rw [ssp403] at ho
          exact tw_iret rfl ⟨ggp405, Or.inr ⟨rfl, _, pE_5d p402 p403 c8p403 ho, up405⟩⟩
    · have ggp403 := cFr_t ggp402 gp403
      refine tw_istore rfl ?_
      refine tw_iload rfl rfl ?_
      refine tw_push rfl ?_
      refine tw_ic_eq rfl (fun _ => ?_) (fun z => absurd z (by decide))
      refine tw_push rfl ?_
      rcases p403 with ⟨a1, rfl⟩ | ⟨q9, a1, a2, rfl⟩
      · exact tw_iret rfl ⟨ggp403, Or.inr ⟨rfl, _, pE_5b p402 a1, up403⟩⟩
      · exact tw_iret rfl ⟨ggp403, Or.inr ⟨rfl, _, pE_5c p402 a1 a2, up403⟩⟩
  · have ggp402 := cFr_t g0 gp402
    refine tw_if_ne rfl (fun z => absurd z (by decide)) (fun _ => ?_)
    refine tw_push rfl ?_
    exact tw_iret rfl ⟨ggp402, Or.inr ⟨rfl, _, pE_5a p402, up402⟩⟩
theorem f_readFact {G : zG} (hG : G.1 = zProg) (hX : G.2.1 = ztx) {dp : Nat} (IH : cIH G dp) {h : zH} {T : Nat → Int32} {n : Nat} (hs : tSh h) (hp : cP h) (hT : tA h 45 = T) (hN : cn h = n) {x : Int32} {d : Nat} (hx : x.toInt = d) (hd : d ≤ 10) : tCp zTt G (dp + 1) 80 [.ref 44, .int x] h (cR T n 6 d h) := by
  refine tCp_in (by rw [hG]; rfl) ?_
  have g0 := cFr_r hs
  have hpn : (cs h).1 ≤ n := by rw [← hN]; exact cP_le hp
  have c129 : (12 : Int32).toInt = 12 := rfl
  have c4009 : (400 : Int32).toInt = 400 := rfl
  have c109 : (10 : Int32).toInt = 10 := rfl
  refine tw_aload rfl rfl ?_
  refine tw_virt0 rfl (f_wordHere hG hX (g0).1 hp ((cFr_T g0).trans hT) ((cFr_n g0).trans hN)) (fun wp407 hp407 p407 => ?_)
  obtain ⟨gp407, ppp407, ssp407, eep407, ip407, rfl, kwp407⟩ := p407
  have ggp407 := cFr_t g0 gp407
  refine tw_push rfl ?_
  refine tw_ic_ne rfl (fun q408 => ?_) (fun q408 => ?_)
  · try dsimp only [tvI_i, tvJ_j, tvR_r] at q408
    have q408i := zneq (Y := 19) (by decide) q408
    refine tw_push rfl ?_
    refine tw_istore rfl ?_
    refine tw_aload rfl rfl ?_
    refine tw_virt0 rfl (f_signHere hG hX (ggp407).1 ppp407 ((cFr_T ggp407).trans hT) ((cFr_n ggp407).trans hN)) (fun wp409 hp409 p409 => ?_)
    obtain ⟨gp409, ppp409, ssp409, t3p409, cp409, rfl, kp409⟩ := p409
    have ggp409 := cFr_t ggp407 gp409
    refine tw_push rfl ?_
    refine tw_ic_ne rfl (fun q410 => ?_) (fun q410 => ?_)
    · try dsimp only [tvI_i, tvJ_j, tvR_r] at q410
      have q410i := zneq (Y := 91) (by decide) q410
      refine tw_push rfl ?_
      refine tw_istore rfl ?_
      refine tw_iload rfl rfl ?_
      refine tw_if_ne rfl (fun z => absurd z (by decide)) (fun _ => ?_)
      refine tw_iload rfl rfl ?_
      refine tw_if_ne rfl (fun z => absurd z (by decide)) (fun _ => ?_)
      refine tw_aload rfl rfl ?_
      refine tw_iload rfl rfl ?_
      refine tw_virt1p rfl (IH 5 81 (by decide) _ _ _ d _ (ggp409).1 ppp409 ((cFr_T ggp409).trans hT) ((cFr_n ggp409).trans hN) hx hd) (fun w9 hp411 p411 => ?_)
      obtain ⟨gp411, ⟨rfl, p411, ppp411⟩ | ⟨rfl, xp411, p411, up411⟩⟩ := p411
      · have ggp411 := cFr_t ggp409 gp411
        have hK := (sgn_k kp409 91 (by decide))
        rw [ssp407, show (rA (rB T n (cs h).1) (cs h)).1 = (rB T n (cs h).1) from rfl, rB_2] at hK
        have hss : cs hp409 = rA (rB T n (cs h).1) (cs h) := by rw [ssp409, ssp407]; show rA (rB T n (rB T n (cs h).1)) _ = _; rw [rB_2]; rfl
        have ho := p411
        rw [hss] at ho
        exact tw_iret rfl ⟨ggp411, Or.inl ⟨rfl, (pE_6h (fun z => q408 ((wrd_k (k := 19) kwp407 (by decide) (K := 19) rfl).mpr z)) (fun z => q410 (hK.mpr z)) ho), ppp411⟩⟩
      · have ggp411 := cFr_t ggp409 gp411
        have hK := (sgn_k kp409 91 (by decide))
        rw [ssp407, show (rA (rB T n (cs h).1) (cs h)).1 = (rB T n (cs h).1) from rfl, rB_2] at hK
        have hss : cs hp409 = rA (rB T n (cs h).1) (cs h) := by rw [ssp409, ssp407]; show rA (rB T n (rB T n (cs h).1)) _ = _; rw [rB_2]; rfl
        have ho := p411
        rw [hss] at ho
        exact tw_iret rfl ⟨ggp411, Or.inr ⟨rfl, _, (pE_6h (fun z => q408 ((wrd_k (k := 19) kwp407 (by decide) (K := 19) rfl).mpr z)) (fun z => q410 (hK.mpr z)) ho), up411⟩⟩
    · try dsimp only [tvI_i, tvJ_j, tvR_r] at q410
      have q410i := zeqi (Y := 91) (by decide) q410
      refine tw_push rfl ?_
      refine tw_goto rfl ?_
      refine tw_istore rfl ?_
      refine tw_iload rfl rfl ?_
      refine tw_if_ne rfl (fun z => absurd z (by decide)) (fun _ => ?_)
      refine tw_iload rfl rfl ?_
      refine tw_if_ne rfl (fun _ => ?_) (fun z => absurd z (by decide))
      refine tw_iload rfl rfl ?_
      refine tw_push rfl ?_
      refine tw_ic_ne rfl (fun q412 => ?_) (fun q412 => ?_)
      · try dsimp only [tvI_i, tvJ_j, tvR_r] at q412
        have q412i := zneq (Y := 10) (by decide) q412
        refine tw_iload rfl rfl ?_
        refine tw_if_eq rfl (fun z => absurd z (by decide)) (fun _ => ?_)
        refine tw_aload rfl rfl ?_
        refine tw_dup rfl ?_
        refine tw_getS rfl (hi_44_2 ggp409.1) ?_
        refine tw_push rfl ?_
        refine tw_iadd rfl ?_
        refine tw_put rfl (fun f413 => ?_)
        refine tG_set f413 (hw_44_2 f413 (ggp409).1) (fun hf413 ef413 => ?_)
        try dsimp only [tvI_i] at ef413
        have gf413 := cFr_s ggp409 ef413 (by decide)
        have hw9 : (rB T n (cs h).1) < n ∧ T (rB T n (cs h).1) = 91 := by have z := (sgn_k kp409 91 (by decide)).mp q410; rw [ssp407] at z; rw [show (rA (rB T n (cs h).1) (cs h)).1 = (rB T n (cs h).1) from rfl, rB_2] at z; exact z
        have hlf413 : (cs hp409).1 < n := by rw [ssp409, ssp407]; show rB T n (rB T n (cs h).1) < n; rw [rB_2]; exact hw9.1
        obtain ⟨pf413, sf413⟩ := cInc ppp409 hlf413 ((cFr_n ggp409).trans hN) ef413
        rw [ssp409, ssp407] at sf413
        have sf413 : cs hf413 = rA ((rB T n (cs h).1) + 1) (cs h) := by rw [sf413]; show rA (rB T n (rB T n (cs h).1) + 1) _ = _; rw [rB_2]; rfl
        refine tw_aload rfl rfl ?_
        refine tw_iload rfl rfl ?_
        refine tw_push rfl ?_
        refine tw_iadd rfl ?_
        refine tw_virt1p rfl (IH 9 78 (by decide) _ _ _ (d + 1) _ (gf413).1 pf413 ((cFr_T gf413).trans hT) ((cFr_n gf413).trans hN) (zd1 hx hd) (by omega)) (fun w9 hp414 p414 => ?_)
        obtain ⟨gp414, ⟨rfl, p414, ppp414⟩ | ⟨rfl, xp414, p414, up414⟩⟩ := p414
        · have ggp414 := cFr_t gf413 gp414
          refine tw_if_eq rfl (fun z => absurd z (by decide)) (fun _ => ?_)
          refine tw_aload rfl rfl ?_
          refine tw_push rfl ?_
          refine tw_virt1 rfl (f_takeSign hG hX (ggp414).1 ppp414 ((cFr_T ggp414).trans hT) ((cFr_n ggp414).trans hN) (y := 93) (by decide)) (fun w9 hp415 p415 => ?_)
          obtain ⟨gp415, ⟨rfl, p415, ppp415⟩ | ⟨rfl, xp415, p415, up415⟩⟩ := p415
          · have ggp415 := cFr_t ggp414 gp415
            refine tw_if_eq rfl (fun z => absurd z (by decide)) (fun _ => ?_)
            refine tw_push rfl ?_
            refine tw_goto rfl ?_
            have hd10 : d ≠ 10 := fun z => q412 (Int32.toInt_inj.mp (by rw [hx, z]; rfl))
            have ho := p414
            rw [sf413] at ho
            exact tw_iret rfl ⟨ggp415, Or.inl ⟨rfl, pE_6g hw9 hd10 ho p415, ppp415⟩⟩
          · have ggp415 := cFr_t ggp414 gp415
            refine tw_if_eq rfl (fun _ => ?_) (fun z => absurd z (by decide))
            refine tw_push rfl ?_
            have hd10 : d ≠ 10 := fun z => q412 (Int32.toInt_inj.mp (by rw [hx, z]; rfl))
            have ho := p414
            rw [sf413] at ho
            exact tw_iret rfl ⟨ggp415, Or.inr ⟨rfl, _, pE_6g hw9 hd10 ho p415, up415⟩⟩
        · have ggp414 := cFr_t gf413 gp414
          refine tw_if_eq rfl (fun _ => ?_) (fun z => absurd z (by decide))
          refine tw_push rfl ?_
          have hd10 : d ≠ 10 := fun z => q412 (Int32.toInt_inj.mp (by rw [hx, z]; rfl))
          have ho := p414
          rw [sf413] at ho
          exact tw_iret rfl ⟨ggp414, Or.inr ⟨rfl, _, pE_6e hw9 hd10 ho, up414⟩⟩
      · try dsimp only [tvI_i, tvJ_j, tvR_r] at q412
        have q412i := zeqi (Y := 10) (by decide) q412
        refine tw_aload rfl rfl ?_
        refine tw_aload rfl rfl ?_
        refine tw_getS rfl (hi_44_2 ggp409.1) ?_
        refine tw_push rfl ?_
        refine tw_virt2 rfl (f_refuse hG hX (ggp409).1 ppp409 ((cFr_T ggp409).trans hT) ((cFr_n ggp409).trans hN)) (fun wp416 hp416 p416 => ?_)
        obtain ⟨gp416, rfl, up416⟩ := p416
        have ggp416 := cFr_t ggp409 gp416
        have hd10 : d = 10 := by have z : x.toInt = 10 := congrArg Int32.toInt q412; omega
        have hss : cs hp409 = rA (rB T n (cs h).1) (cs h) := by rw [ssp409, ssp407]; show rA (rB T n (rB T n (cs h).1)) _ = _; rw [rB_2]; rfl
        have hft := cFt_of ppp409 up416 (w := 2) rfl (by decide)
        rw [hss] at hft
        have hK := (sgn_k kp409 91 (by decide))
        rw [ssp407, show (rA (rB T n (cs h).1) (cs h)).1 = (rB T n (cs h).1) from rfl, rB_2] at hK
        exact tw_iret rfl ⟨ggp416, Or.inr ⟨rfl, _, pE_6d (hK.mp q410) hd10, hft⟩⟩
  · try dsimp only [tvI_i, tvJ_j, tvR_r] at q408
    have q408i := zeqi (Y := 19) (by decide) q408
    refine tw_push rfl ?_
    refine tw_goto rfl ?_
    refine tw_istore rfl ?_
    refine tw_aload rfl rfl ?_
    refine tw_virt0 rfl (f_signHere hG hX (ggp407).1 ppp407 ((cFr_T ggp407).trans hT) ((cFr_n ggp407).trans hN)) (fun wp417 hp417 p417 => ?_)
    obtain ⟨gp417, ppp417, ssp417, t3p417, cp417, rfl, kp417⟩ := p417
    have ggp417 := cFr_t ggp407 gp417
    refine tw_push rfl ?_
    refine tw_ic_ne rfl (fun q418 => ?_) (fun q418 => ?_)
    · try dsimp only [tvI_i, tvJ_j, tvR_r] at q418
      have q418i := zneq (Y := 91) (by decide) q418
      refine tw_push rfl ?_
      refine tw_istore rfl ?_
      refine tw_iload rfl rfl ?_
      refine tw_if_ne rfl (fun _ => ?_) (fun z => absurd z (by decide))
      refine tw_iload rfl rfl ?_
      refine tw_push rfl ?_
      refine tw_ic_ne rfl (fun q419 => ?_) (fun q419 => ?_)
      · try dsimp only [tvI_i, tvJ_j, tvR_r] at q419
        have q419i := zneq (Y := 10) (by decide) q419
        refine tw_iload rfl rfl ?_
        refine tw_if_eq rfl (fun _ => ?_) (fun z => absurd z (by decide))
        refine tw_aload rfl rfl ?_
        refine tw_aload rfl rfl ?_
        refine tw_getS rfl (hi_44_3 ggp417.1) ?_
        refine tw_put rfl (fun f420 => ?_)
        refine tG_set f420 (hw_44_2 f420 (ggp417).1) (fun hf420 ef420 => ?_)
        try dsimp only [tvI_i] at ef420
        have gf420 := cFr_s ggp417 ef420 (by decide)
        have hw9 := (wrd_k (k := 19) kwp407 (by decide) (K := 19) rfl).mp q408
        have h9w : rE T n (rB T n (cs h).1) = (rB T n (cs h).1) + 3 := by rw [rW_e hw9, wlen_k.2.2.1]
        have hr9 := rE_le (T := T) (rB_le (T := T) hpn)
        rw [h9w] at hr9 eep407
        obtain ⟨pf420, sf420⟩ := cTo ppp417 ((cFr_n ggp417).trans hN) ef420 (by rw [t3p417]; exact eep407) (by rw [ssp417, ssp407]; show rB T n (rB T n (cs h).1) ≤ _; rw [rB_2]; exact Nat.le_add_right _ _) hr9
        rw [ssp417, ssp407] at sf420
        have sf420 : cs hf420 = rA ((rB T n (cs h).1) + 3) (cs h) := sf420
        refine tw_aload rfl rfl ?_
        refine tw_iload rfl rfl ?_
        refine tw_push rfl ?_
        refine tw_iadd rfl ?_
        refine tw_virt1p rfl (IH 6 80 (by decide) _ _ _ (d + 1) _ (gf420).1 pf420 ((cFr_T gf420).trans hT) ((cFr_n gf420).trans hN) (zd1 hx hd) (by omega)) (fun w9 hp421 p421 => ?_)
        obtain ⟨gp421, ⟨rfl, p421, ppp421⟩ | ⟨rfl, xp421, p421, up421⟩⟩ := p421
        · have ggp421 := cFr_t gf420 gp421
          refine tw_if_ne rfl (fun _ => ?_) (fun z => absurd z (by decide))
          refine tw_aload rfl rfl ?_
          refine tw_push rfl ?_
          refine tw_virt1 rfl (f_putCode hG hX (ggp421).1 ppp421 ((cFr_T ggp421).trans hT) ((cFr_n ggp421).trans hN) (cHc ppp421 (by have z := cPe pf420 ((cFr_n gf420).trans hN) p421; have z2 := cP_len hp; have z3 := rB_ge (T := T) (n := n) (p := (cs h).1); obtain ⟨z4, z5, z6⟩ := z; rw [sf420] at z4 z6; have z4 : (rB T n (cs h).1) + 3 ≤ (cs hp421).1 := z4; have z6 : (rB T n (cs h).1) + 3 + (cs hp421).2.2.length ≤ (cs hp421).1 + (cs h).2.2.length := z6; omega))) (fun wp422 hp422 p422 => ?_)
          obtain ⟨gp422, rfl, ssp422, ppp422⟩ := p422
          have ggp422 := cFr_t ggp421 gp422
          refine tw_push rfl ?_
          have hd10 : d ≠ 10 := fun z => q419 (Int32.toInt_inj.mp (by rw [hx, z]; rfl))
          have ho := p421
          rw [sf420] at ho
          refine tw_iret rfl ⟨ggp422, Or.inl ⟨rfl, ?_, ppp422⟩⟩
          rw [ssp422]
          exact pE_6c hw9 hd10 ho
        · have ggp421 := cFr_t gf420 gp421
          refine tw_if_ne rfl (fun z => absurd z (by decide)) (fun _ => ?_)
          refine tw_push rfl ?_
          have hd10 : d ≠ 10 := fun z => q419 (Int32.toInt_inj.mp (by rw [hx, z]; rfl))
          have ho := p421
          rw [sf420] at ho
          exact tw_iret rfl ⟨ggp421, Or.inr ⟨rfl, _, pE_6b hw9 hd10 ho, up421⟩⟩
      · try dsimp only [tvI_i, tvJ_j, tvR_r] at q419
        have q419i := zeqi (Y := 10) (by decide) q419
        refine tw_aload rfl rfl ?_
        refine tw_aload rfl rfl ?_
        refine tw_getS rfl (hi_44_2 ggp417.1) ?_
        refine tw_push rfl ?_
        refine tw_virt2 rfl (f_refuse hG hX (ggp417).1 ppp417 ((cFr_T ggp417).trans hT) ((cFr_n ggp417).trans hN)) (fun wp423 hp423 p423 => ?_)
        obtain ⟨gp423, rfl, up423⟩ := p423
        have ggp423 := cFr_t ggp417 gp423
        have hd10 : d = 10 := by have z : x.toInt = 10 := congrArg Int32.toInt q419; omega
        have hss : cs hp417 = rA (rB T n (cs h).1) (cs h) := by rw [ssp417, ssp407]; show rA (rB T n (rB T n (cs h).1)) _ = _; rw [rB_2]; rfl
        have hft := cFt_of ppp417 up423 (w := 2) rfl (by decide)
        rw [hss] at hft
        have hw9 := (wrd_k (k := 19) kwp407 (by decide) (K := 19) rfl).mp q408
        exact tw_iret rfl ⟨ggp423, Or.inr ⟨rfl, _, pE_6a hw9 hd10, hft⟩⟩
    · try dsimp only [tvI_i, tvJ_j, tvR_r] at q418
      have q418i := zeqi (Y := 91) (by decide) q418
      have hw9 := (wrd_k (k := 19) kwp407 (by decide) (K := 19) rfl).mp q408
      have z := (sgn_k kp417 91 (by decide)).mp q418
      rw [ssp407, show (rA (rB T n (cs h).1) (cs h)).1 = (rB T n (cs h).1) from rfl, rB_2] at z
      exact absurd hw9 (no_91 z (by decide))
theorem f_rec {G : zG} (hG : G.1 = zProg) (hX : G.2.1 = ztx) : ∀ dp, cIH G dp
  | 0 => fun m j hm h T n d x hs hp hT hN hx hd z => z.elim
  | dp + 1 => by
    have IH := f_rec hG hX dp
    intro m j hm h T n d x hs hp hT hN hx hd
    have hm : (m, j) = (0, 85) ∨ (m, j) = (1, 84) ∨ (m, j) = (3, 83) ∨ (m, j) = (5, 81) ∨ (m, j) = (6, 80) ∨ (m, j) = (7, 79) ∨ (m, j) = (9, 78) := by
      unfold cML at hm
      simpa using hm
    rcases hm with e | e | e | e | e | e | e <;> cases e
    · exact f_readValue hG hX IH hs hp hT hN hx hd
    · exact f_readTerm hG hX IH hs hp hT hN hx hd
    · exact f_readSum hG hX IH hs hp hT hN hx hd
    · exact f_readComparison hG hX IH hs hp hT hN hx hd
    · exact f_readFact hG hX IH hs hp hT hN hx hd
    · exact f_readPart hG hX IH hs hp hT hN hx hd
    · exact f_readTest hG hX IH hs hp hT hN hx hd
theorem tC_rec {G : zG} (hG : G.1 = zProg) (hX : G.2.1 = ztx) {m j : Nat} (hm : (m, j) ∈ cML) {h : zH} {T : Nat → Int32} {n d : Nat} {x : Int32} (hs : tSh h) (hp : cP h) (hT : tA h 45 = T) (hN : cn h = n) (hx : x.toInt = d) (hd : d ≤ 10) : tC zTt G j [.ref 44, .int x] h (cR T n m d h) := fun dp => f_rec hG hX dp m j hm h T n d x hs hp hT hN hx hd
/-! clauses, and a whole rule -/
noncomputable abbrev rCt : Type := Nat × Nat × Nat × Nat
noncomputable def rCl3 (T : Nat → Int32) (n k th f0 : Nat) (s2 : rS) (r : Nat ⊕ (rS × rCt)) : Prop :=
  (rW T n (rB T n s2.1) (rWd 16) = true ∧ ((∃ e, pE T n 9 0 (rA (rB T n s2.1 + 2) s2) (.inl e) ∧ r = .inl e) ∨ ∃ s3, pE T n 9 0 (rA (rB T n s2.1 + 2) s2) (.inr s3) ∧ r = .inr (s3, th, f0, s2.2.2.length, s3.2.2.length)))
  ∨ (¬ rW T n (rB T n s2.1) (rWd 16) = true ∧ k = 15 ∧ r = .inl (1 + 8 * rB T n s2.1 + 0))
  ∨ (¬ rW T n (rB T n s2.1) (rWd 16) = true ∧ k ≠ 15 ∧ r = .inr (rA (rB T n s2.1) s2, th, f0, s2.2.2.length, s2.2.2.length))
noncomputable def rCl2 (T : Nat → Int32) (n k th : Nat) (s1 : rS) (r : Nat ⊕ (rS × rCt)) : Prop :=
  (k = 15 ∧ rCl3 T n k th s1.2.2.length s1 r) ∨ (k ≠ 15 ∧ ((∃ e, pE T n 3 0 s1 (.inl e) ∧ r = .inl e) ∨ ∃ s2, pE T n 3 0 s1 (.inr s2) ∧ rCl3 T n k th s1.2.2.length s2 r))
noncomputable def rCl1 (T : Nat → Int32) (n k : Nat) (s0 : rS) (r : Nat ⊕ (rS × rCt)) : Prop :=
  (k = 12 ∧ ((∃ e, rM T n 2 s0.1 = .inl e ∧ r = .inl e) ∨ ∃ q, rM T n 2 s0.1 = .inr q ∧ rCl2 T n k q.2 (rA q.1 s0) r)) ∨ (k ≠ 12 ∧ rCl2 T n k k s0 r)
noncomputable def rCl (T : Nat → Int32) (n c : Nat) (s : rS) (r : Nat ⊕ (rS × rCt)) : Prop :=
  ((∀ k, 12 ≤ k → k ≤ 15 → ¬ rW T n (rB T n s.1) (rWd k) = true) ∧ r = .inl (1 + 8 * rB T n s.1 + 0))
  ∨ (∃ k, 12 ≤ k ∧ k ≤ 15 ∧ rW T n (rB T n s.1) (rWd k) = true ∧ ((c = 12 ∧ r = .inl (1 + 8 * rB T n s.1 + 4)) ∨ (c ≠ 12 ∧ rCl1 T n k (rA (rE T n (rB T n s.1)) s) r)))
noncomputable def rRu (T : Nat → Int32) (n : Nat) : Nat → rS → List rCt → Nat ⊕ (rS × List rCt) → Prop
  | 0, _, _, _ => False
  | f + 1, s, cl, r => (∃ e, rCl T n cl.length s (.inl e) ∧ r = .inl e) ∨ ∃ s1 c, rCl T n cl.length s (.inr (s1, c)) ∧ ((¬ rB T n s1.1 < n ∧ r = .inr (rA (rB T n s1.1) s1, cl ++ [c])) ∨ ((rB T n s1.1 < n ∧ T (rB T n s1.1) = 59) ∧ rRu T n f (rA (rB T n s1.1 + 1) s1) (cl ++ [c]) r) ∨ ((rB T n s1.1 < n ∧ ¬ T (rB T n s1.1) = 59) ∧ r = .inl (1 + 8 * rB T n s1.1 + 0)))
noncomputable def cCl (h : zH) : List rCt := (List.range (tvI (tF h 44 7)).toNatClampNeg).map (fun i => ((tA h 47 (4 * i)).toNatClampNeg, (tA h 47 (4 * i + 1)).toNatClampNeg, (tA h 47 (4 * i + 2)).toNatClampNeg, (tA h 47 (4 * i + 3)).toNatClampNeg))
noncomputable def cFq (h h2 : zH) : Prop := tSh h2 ∧ (∀ p b, ¬ (p = 44 ∧ (b = 2 ∨ b = 3 ∨ b = 5 ∨ b = 7 ∨ b = 8 ∨ b = 9)) → tF h2 p b = tF h p b) ∧ (∀ p, p ≠ 46 → p ≠ 47 → tA h2 p = tA h p) ∧ tN h2 = tN h
noncomputable def cQ (h : zH) : Prop := 0 ≤ (tvI (tF h 44 7)).toInt ∧ (tvI (tF h 44 7)).toInt ≤ 12 ∧ tN h 47 = 48
section RQ
variable {h h1 h2 : zH}
theorem cFq_f (k : cFr h h2) : cFq h h2 := ⟨k.1, fun p b z => k.2.1 p b (fun w => z ⟨w.1, by omega⟩), fun p z _ => k.2.2.1 p z, k.2.2.2⟩
theorem cFq_t (a : cFq h h1) (k : cFq h1 h2) : cFq h h2 := ⟨k.1, fun p q z => (k.2.1 p q z).trans (a.2.1 p q z), fun p z w => (k.2.2.1 p z w).trans (a.2.2.1 p z w), k.2.2.2.trans a.2.2.2⟩
theorem cFr_7 (k : cFr h h2) : tF h2 44 7 = tF h 44 7 := k.2.1 44 7 (by decide)
theorem cCl_f (k : cFr h h2) : cCl h2 = cCl h := by
  unfold cCl
  rw [cFr_7 k, k.2.2.1 47 (by decide)]
theorem cQ_f (k : cFr h h2) (q : cQ h) : cQ h2 := by
  unfold cQ
  rw [cFr_7 k, k.2.2.2]
  exact q
theorem cCl_len : (cCl h).length = (tvI (tF h 44 7)).toNatClampNeg := by unfold cCl; rw [List.length_map, List.length_range]
theorem cFq_T (a : cFq h h1) : tA h1 45 = tA h 45 := a.2.2.1 45 (by decide) (by decide)
theorem cFq_n (a : cFq h h1) : cn h1 = cn h := by
  unfold cn
  rw [a.2.1 44 1 (by decide)]
/-- a clause is kept -/
theorem cKp_of {a b c : Int32} {k1 k2 k3 k4 : Nat} (hs : tSh h) (q : cQ h) (h12 : (tvI (tF h 44 7)).toInt < 12) {i0 i1 i2 i3 : Int32} (e0 : i0.toInt = 4 * (tvI (tF h 44 7)).toInt) (e1 : i1.toInt = 4 * (tvI (tF h 44 7)).toInt + 1) (e2 : i2.toInt = 4 * (tvI (tF h 44 7)).toInt + 2) (e3 : i3.toInt = 4 * (tvI (tF h 44 7)).toInt + 3)
  {g1 g2 g3 g4 : zH} (d1 : g1 = tSA h 47 i0.toNatClampNeg a) (f1 : tIn h 47 k1 i0) (d2 : g2 = tSA g1 47 i1.toNatClampNeg b) (f2 : tIn g1 47 k2 i1) (d3 : g3 = tSA g2 47 i2.toNatClampNeg c) (f3 : tIn g2 47 k3 i2) {x5 : Int32} (h5 : x5 = tvI (tF h 44 5)) (d4 : g4 = tSA g3 47 i3.toNatClampNeg x5) (f4 : tIn g3 47 k4 i3) {x7 : Int32} (h7 : x7 = tvI (tF h 44 7) + 1) (f5 : tFd g4 44 7) :
  cFq h (tSF g4 44 7 (.int x7)) ∧ cCl (tSF g4 44 7 (.int x7)) = cCl h ++ [(a.toNatClampNeg, b.toNatClampNeg, c.toNatClampNeg, (tvI (tF h 44 5)).toNatClampNeg)] ∧ cQ (tSF g4 44 7 (.int x7)) ∧ cs (tSF g4 44 7 (.int x7)) = cs h ∧ (∀ b, b ≠ 7 → tF (tSF g4 44 7 (.int x7)) 44 b = tF h 44 b) ∧ tA (tSF g4 44 7 (.int x7)) 45 = tA h 45 := by
  subst h5 h7
  have F4 : tF g4 = tF h := by rw [d4, tF_tSA, d3, tF_tSA, d2, tF_tSA, d1, tF_tSA]
  have N4 : tN g4 = tN h := by rw [d4, tN_tSA, d3, tN_tSA, d2, tN_tSA, d1, tN_tSA]
  have A4 : ∀ p, p ≠ 47 → tA g4 p = tA h p := fun p hp => by rw [d4, tA_nz hp, d3, tA_nz hp, d2, tA_nz hp, d1, tA_nz hp]
  have hs4 := tSh_F F4 hs
  have e := cSet_of f5 (hw_44_7 (x := tvI (tF h 44 7) + 1) f5 hs4)
  have n0 : i0.toNatClampNeg = 4 * (tvI (tF h 44 7)).toNatClampNeg := by rw [zclE, zclE]; have := q.1; omega
  have n1 : i1.toNatClampNeg = 4 * (tvI (tF h 44 7)).toNatClampNeg + 1 := by rw [zclE, zclE]; have := q.1; omega
  have n2 : i2.toNatClampNeg = 4 * (tvI (tF h 44 7)).toNatClampNeg + 2 := by rw [zclE, zclE]; have := q.1; omega
  have n3 : i3.toNatClampNeg = 4 * (tvI (tF h 44 7)).toNatClampNeg + 3 := by rw [zclE, zclE]; have := q.1; omega
  have A47 : ∀ i, tA g4 47 i = if i = i3.toNatClampNeg then tvI (tF h 44 5) else if i = i2.toNatClampNeg then c else if i = i1.toNatClampNeg then b else if i = i0.toNatClampNeg then a else tA h 47 i := by
    intro i
    rw [d4, tA_tSA f4.cell, d3, tA_tSA f3.cell, d2, tA_tSA f2.cell, d1, tA_tSA f1.cell]
    simp only [true_and]
  generalize tSF g4 44 7 (.int (tvI (tF h 44 7) + 1)) = h3 at e
  have hF : ∀ b, b ≠ 7 → tF h3 44 b = tF h 44 b := fun b hb => (e.2.2.1 44 b (fun z => hb z.2)).trans (by rw [F4])
  have i7 : (tvI (tF h 44 7) + 1).toInt = (tvI (tF h 44 7)).toInt + 1 := zj1 (y := 12) q.1 h12
  have i7n : (tvI (tF h 44 7) + 1).toNatClampNeg = (tvI (tF h 44 7)).toNatClampNeg + 1 := zj1n (y := 12) q.1 h12
  refine ⟨⟨e.1, fun p b z => (e.2.2.1 p b (fun w => z ⟨w.1, by omega⟩)).trans (by rw [F4]), fun p _ z => (congrFun e.2.2.2.1 p).trans (A4 p z), e.2.2.2.2.trans N4⟩, ?_, ⟨?_, ?_, ?_⟩, ?_, hF, (congrFun e.2.2.2.1 45).trans (A4 45 (by decide))⟩
  · unfold cCl
    rw [cI_x e, i7n, List.range_succ, List.map_append, e.2.2.2.1]
    refine congr (congrArg HAppend.hAppend (List.map_congr_left (fun i hi => ?_))) ?_
    · have hi := List.mem_range.mp hi
      rw [A47, A47, A47, A47, n0, n1, n2, n3]
      rw [if_neg (by omega), if_neg (by omega), if_neg (by omega), if_neg (by omega), if_neg (by omega), if_neg (by omega), if_neg (by omega), if_neg (by omega), if_neg (by omega), if_neg (by omega), if_neg (by omega), if_neg (by omega), if_neg (by omega), if_neg (by omega), if_neg (by omega), if_neg (by omega)]
    · show [((tA g4 47 (4 * (tvI (tF h 44 7)).toNatClampNeg)).toNatClampNeg, (tA g4 47 (4 * (tvI (tF h 44 7)).toNatClampNeg + 1)).toNatClampNeg, (tA g4 47 (4 * (tvI (tF h 44 7)).toNatClampNeg + 2)).toNatClampNeg, (tA g4 47 (4 * (tvI (tF h 44 7)).toNatClampNeg + 3)).toNatClampNeg)] = _
      rw [A47, A47, A47, A47, n0, n1, n2, n3]
      rw [if_neg (by omega), if_neg (by omega), if_neg (by omega), if_pos rfl, if_neg (by omega), if_neg (by omega), if_pos rfl, if_neg (by omega), if_pos rfl, if_pos rfl]
  · rw [cI_x e, i7]; have := q.1; omega
  · rw [cI_x e, i7]; omega
  · rw [e.2.2.2.2, N4]; exact q.2.2
  · unfold cs cCo
    rw [hF 2 (by decide), hF 8 (by decide), hF 5 (by decide), e.2.2.2.1, A4 46 (by decide)]
theorem cP_q (p : cP h) (hF : ∀ b, b ≠ 7 → tF h2 44 b = tF h 44 b) (hT : tA h2 45 = tA h 45) (hN : tN h2 = tN h) : cP h2 := by
  unfold cP
  rw [hF 2 (by decide), hF 1 (by decide), hF 8 (by decide), hF 5 (by decide), hF 9 (by decide), hT, hN]
  exact p
theorem zm4 {x : Int32} (h0 : 0 ≤ x.toInt) (h1 : x.toInt ≤ 12) : (x * 4).toInt = 4 * x.toInt := by
  rw [Int32.toInt_mul, show (4 : Int32).toInt = 4 from rfl]
  exact (Int.bmod_eq_of_le (by show (-2147483648 : Int) ≤ x.toInt * 4; omega) (by show x.toInt * 4 < (2147483648 : Int); omega)).trans (by omega)
theorem zm4a {x y : Int32} {Y : Int} (h0 : 0 ≤ x.toInt) (h1 : x.toInt ≤ 12) (hy : y.toInt = Y) (hY : 0 ≤ Y ∧ Y ≤ 10) : (x * 4 + y).toInt = 4 * x.toInt + Y := by
  rw [Int32.toInt_add, zm4 h0 h1, hy]
  exact Int.bmod_eq_of_le (by show (-2147483648 : Int) ≤ 4 * x.toInt + Y; omega) (by show 4 * x.toInt + Y < (2147483648 : Int); omega)
theorem c12 (q : cQ h) : (cCl h).length = 12 ↔ tvI (tF h 44 7) = 12 := by
  rw [cCl_len, zclE]
  have := q.1
  constructor
  · intro z
    refine Int32.toInt_inj.mp ?_
    show _ = (12 : Int)
    omega
  · intro z
    rw [z]; rfl
end RQ
theorem f_keepClause {G : zG} (hG : G.1 = zProg) (hX : G.2.1 = ztx) {h : zH} {T : Nat → Int32} {n : Nat} (hs : tSh h) (hp : cP h) (hT : tA h 45 = T) (hN : cn h = n) {a b c : Int32} (hq : cQ h) (h12 : (tvI (tF h 44 7)).toInt < 12) : tC zTt G 77 [.ref 44, .int a, .int b, .int c] h (fun w h2 => w = none ∧ cFq h h2 ∧ cCl h2 = cCl h ++ [(a.toNatClampNeg, b.toNatClampNeg, c.toNatClampNeg, (tvI (tF h 44 5)).toNatClampNeg)] ∧ cQ h2 ∧ cs h2 = cs h ∧ cP h2) := by
  refine tC_in (by rw [hG]; rfl) (fun dp => ?_)
  have g0 := cFr_r hs
  have hpn : (cs h).1 ≤ n := by rw [← hN]; exact cP_le hp
  refine tw_aload rfl rfl ?_
  refine tw_getS rfl (hi_44_7 hs) ?_
  refine tw_push rfl ?_
  refine tw_imul rfl ?_
  refine tw_istore rfl ?_
  refine tw_iload rfl rfl ?_
  refine tw_push rfl ?_
  refine tw_iadd rfl ?_
  refine tw_aload rfl rfl ?_
  refine tw_getS rfl (hs_44_6 hs) ?_
  refine tw_alen rfl ?_
  refine tw_ic_le rfl (fun q424 => ?_) (fun q424 => ?_)
  · try dsimp only [tvI_i, tvJ_j, tvR_r] at q424
    refine tw_aload rfl rfl ?_
    refine tw_getS rfl (hs_44_6 hs) ?_
    refine tw_iload rfl rfl ?_
    refine tw_iload rfl rfl ?_
    refine tw_iast rfl (fun f425 => ?_)
    refine tw_aload rfl rfl ?_
    refine tw_getS rfl (hs_44_6 (tSh_SA hs)) ?_
    refine tw_iload rfl rfl ?_
    refine tw_push rfl ?_
    refine tw_iadd rfl ?_
    refine tw_iload rfl rfl ?_
    refine tw_iast rfl (fun f426 => ?_)
    refine tw_aload rfl rfl ?_
    refine tw_getS rfl (hs_44_6 (tSh_SA (tSh_SA hs))) ?_
    refine tw_iload rfl rfl ?_
    refine tw_push rfl ?_
    refine tw_iadd rfl ?_
    refine tw_iload rfl rfl ?_
    refine tw_iast rfl (fun f427 => ?_)
    refine tw_aload rfl rfl ?_
    refine tw_getS rfl (hs_44_6 (tSh_SA (tSh_SA (tSh_SA hs)))) ?_
    refine tw_iload rfl rfl ?_
    refine tw_push rfl ?_
    refine tw_iadd rfl ?_
    refine tw_aload rfl rfl ?_
    refine tw_getS rfl (tF_a (tF_a (tF_a (hi_44_5 hs)))) ?_
    refine tw_iast rfl (fun f428 => ?_)
    refine tw_aload rfl rfl ?_
    refine tw_dup rfl ?_
    refine tw_getS rfl (tF_a (tF_a (tF_a (tF_a (hi_44_7 hs))))) ?_
    refine tw_push rfl ?_
    refine tw_iadd rfl ?_
    refine tw_put rfl (fun f429 => ?_)
    refine tw_vret rfl ?_
    refine (fun K => ⟨rfl, K.1, K.2.1, K.2.2.1, K.2.2.2.1, cP_q hp K.2.2.2.2.1 K.2.2.2.2.2 K.1.2.2.2⟩ : _ → _) (cKp_of hs hq h12 (zm4 hq.1 hq.2.1) (zm4a hq.1 hq.2.1 rfl (by decide)) (zm4a hq.1 hq.2.1 rfl (by decide)) (zm4a hq.1 hq.2.1 rfl (by decide)) rfl f425 rfl f426 rfl f427 rfl rfl f428 rfl f429)
  · try dsimp only [tvI_i, tvJ_j, tvR_r] at q424
    have e9 : (Int32.ofNat (tN h 47)).toInt = 48 := by rw [hq.2.2]; rfl
    have e8 := zm4a (y := 4) (Y := 4) hq.1 hq.2.1 rfl (by decide)
    have z := q424
    exfalso
    have e7 : (tvI (tF h 44 7) * 4 + 4).toInt ≤ 48 := by omega
    first | omega | exact absurd z (by omega) | (rw [e9] at z; omega)
theorem f_readClause {G : zG} (hG : G.1 = zProg) (hX : G.2.1 = ztx) {h : zH} {T : Nat → Int32} {n : Nat} (hs : tSh h) (hp : cP h) (hT : tA h 45 = T) (hN : cn h = n) (hq : cQ h) : tC zTt G 76 [.ref 44] h (fun w h2 => cFq h h2 ∧ cQ h2 ∧ ((w = some (.int 1) ∧ ∃ c, rCl T n (cCl h).length (cs h) (.inr (cs h2, c)) ∧ cCl h2 = cCl h ++ [c] ∧ cP h2) ∨ (w = some (.int 0) ∧ ∃ e, rCl T n (cCl h).length (cs h) (.inl e) ∧ cFt h2 e))) := by
  refine tC_in (by rw [hG]; rfl) (fun dp => ?_)
  have g0 := cFr_r hs
  have hpn : (cs h).1 ≤ n := by rw [← hN]; exact cP_le hp
  have c129 : (12 : Int32).toInt = 12 := rfl
  have c159 : (15 : Int32).toInt = 15 := rfl
  refine tw_aload rfl rfl ?_
  refine tw_virt0 rfl (f_wordHere hG hX (g0).1 hp ((cFr_T g0).trans hT) ((cFr_n g0).trans hN)) (fun wp430 hp430 p430 => ?_)
  obtain ⟨gp430, ppp430, ssp430, eep430, ip430, rfl, kwp430⟩ := p430
  have ggp430 := cFr_t g0 gp430
  refine tw_istore rfl ?_
  refine tw_iload rfl rfl ?_
  refine tw_push rfl ?_
  refine tw_ic_lt rfl (fun q431 => ?_) (fun q431 => ?_)
  · try dsimp only [tvI_i, tvJ_j, tvR_r] at q431
    refine tw_aload rfl rfl ?_
    refine tw_aload rfl rfl ?_
    refine tw_getS rfl (hi_44_2 ggp430.1) ?_
    refine tw_push rfl ?_
    refine tw_virt2 rfl (f_refuse hG hX (ggp430).1 ppp430 ((cFr_T ggp430).trans hT) ((cFr_n ggp430).trans hN)) (fun wp432 hp432 p432 => ?_)
    obtain ⟨gp432, rfl, up432⟩ := p432
    have ggp432 := cFr_t ggp430 gp432
    have kwb := kwp430.1
    have hft := cFt_of ppp430 up432 (w := 0) rfl (by decide)
    rw [ssp430] at hft
    have z0 := q431
    exact tw_iret rfl ⟨cFq_f ggp432, cQ_f ggp432 hq, Or.inr ⟨rfl, _, Or.inl ⟨fun k h1 h2 z => by have y := (kwp430.2 k (by omega)).mpr z; omega, rfl⟩, hft⟩⟩
  · try dsimp only [tvI_i, tvJ_j, tvR_r] at q431
    refine tw_iload rfl rfl ?_
    refine tw_push rfl ?_
    refine tw_ic_le rfl (fun q433 => ?_) (fun q433 => ?_)
    · try dsimp only [tvI_i, tvJ_j, tvR_r] at q433
      refine tw_aload rfl rfl ?_
      refine tw_getS rfl (hi_44_7 ggp430.1) ?_
      refine tw_push rfl ?_
      refine tw_ic_ne rfl (fun q434 => ?_) (fun q434 => ?_)
      · try dsimp only [tvI_i, tvJ_j, tvR_r] at q434
        have q434i := zneq (Y := 12) (by decide) q434
        refine tw_aload rfl rfl ?_
        refine tw_aload rfl rfl ?_
        refine tw_getS rfl (hi_44_3 ggp430.1) ?_
        refine tw_put rfl (fun f435 => ?_)
        refine tG_set f435 (hw_44_2 f435 (ggp430).1) (fun hf435 ef435 => ?_)
        try dsimp only [tvI_i] at ef435
        have gf435 := cFr_s ggp430 ef435 (by decide)
        have kwb := kwp430.1
        have hk1 : 12 ≤ ip430.toInt := by have z := q431; omega
        have hk2 : ip430.toInt ≤ 15 := by have z := q433; omega
        have hkw : rW T n (rB T n (cs h).1) (rWd ip430.toInt.toNat) = true := (kwp430.2 ip430.toInt.toNat (by omega)).mp (by omega)
        have hc12 : (cCl h).length ≠ 12 := fun z => q434 ((congrArg tvI (cFr_7 ggp430)).trans ((c12 hq).mp z))
        have hlt12 : (tvI (tF h 44 7)).toInt < 12 := by have a := hq.2.1; have b : (tvI (tF h 44 7)).toInt ≠ 12 := fun z => q434 ((congrArg tvI (cFr_7 ggp430)).trans (Int32.toInt_inj.mp z)); omega
        obtain ⟨pf435, sf435⟩ := cTo ppp430 ((cFr_n ggp430).trans hN) ef435 eep430 (by rw [ssp430]; exact rE_ge) (rE_le (rB_le hpn))
        have sf435 : cs hf435 = rA (rE T n (rB T n (cs h).1)) (cs h) := by rw [sf435, ssp430]; rfl
        refine tw_iload rfl rfl ?_
        refine tw_push rfl ?_
        refine tw_ic_ne rfl (fun q436 => ?_) (fun q436 => ?_)
        · try dsimp only [tvI_i, tvJ_j, tvR_r] at q436
          have q436i := zneq (Y := 15) (by decide) q436
          refine tw_push rfl ?_
          refine tw_istore rfl ?_
          refine tw_iload rfl rfl ?_
          refine tw_push rfl ?_
          refine tw_ic_ne rfl (fun q437 => ?_) (fun q437 => ?_)
          · try dsimp only [tvI_i, tvJ_j, tvR_r] at q437
            have q437i := zneq (Y := 12) (by decide) q437
            refine tw_aload rfl rfl ?_
            refine tw_getS rfl (hi_44_5 (gf435).1) ?_
            refine tw_istore rfl ?_
            refine tw_iload rfl rfl ?_
            refine tw_if_ne rfl (fun z => absurd z (by decide)) (fun _ => ?_)
            refine tw_aload rfl rfl ?_
            refine tw_push rfl ?_
            refine tw_virt1 rfl (tC_rec hG hX (m := 3) (d := 0) (by decide) (gf435).1 pf435 ((cFr_T gf435).trans hT) ((cFr_n gf435).trans hN) rfl (by decide)) (fun w9 hp438 p438 => ?_)
            obtain ⟨gp438, ⟨rfl, p438, ppp438⟩ | ⟨rfl, xp438, p438, up438⟩⟩ := p438
            · have ggp438 := cFr_t gf435 gp438
              refine tw_if_ne rfl (fun _ => ?_) (fun z => absurd z (by decide))
              refine tw_aload rfl rfl ?_
              refine tw_getS rfl (hi_44_5 ggp438.1) ?_
              refine tw_istore rfl ?_
              refine tw_aload rfl rfl ?_
              refine tw_virt0 rfl (f_wordHere hG hX (ggp438).1 ppp438 ((cFr_T ggp438).trans hT) ((cFr_n ggp438).trans hN)) (fun wp439 hp439 p439 => ?_)
              obtain ⟨gp439, ppp439, ssp439, eep439, ip439, rfl, kwp439⟩ := p439
              have ggp439 := cFr_t ggp438 gp439
              refine tw_push rfl ?_
              refine tw_ic_ne rfl (fun q440 => ?_) (fun q440 => ?_)
              · try dsimp only [tvI_i, tvJ_j, tvR_r] at q440
                have q440i := zneq (Y := 16) (by decide) q440
                refine tw_iload rfl rfl ?_
                refine tw_if_eq rfl (fun _ => ?_) (fun z => absurd z (by decide))
                refine tw_aload rfl rfl ?_
                refine tw_iload rfl rfl ?_
                refine tw_iload rfl rfl ?_
                refine tw_iload rfl rfl ?_
                refine tw_virt3 rfl (f_keepClause hG hX (ggp439).1 ppp439 ((cFr_T ggp439).trans hT) ((cFr_n ggp439).trans hN) (cQ_f ggp439 hq) (by have := cFr_7 ggp439; rw [this]; exact hlt12)) (fun wp441 hp441 p441 => ?_)
                obtain ⟨rfl, gqp441, clp441, qqp441, ssp441, ppp441⟩ := p441
                refine tw_push rfl ?_
                have hk15 : ip430.toInt.toNat ≠ 15 := by have z := q436i; omega
                have hk12 : ip430.toInt.toNat ≠ 12 := by have z := q437i; omega
                have hx1 := sf435
                have ho := p438
                rw [hx1] at ho
                have hnw : ¬ rW T n (rB T n (cs hp438).1) (rWd 16) = true := fun z => q440 ((wrd_k (k := 16) kwp439 (by decide) (K := 16) rfl).mpr z)
                have hc3 : rCl3 T n ip430.toInt.toNat (ip430.toInt.toNat) (rA (rE T n (rB T n (cs h).1)) (cs h)).2.2.length (cs hp438) (.inr (cs hp439, ip430.toInt.toNat, (rA (rE T n (rB T n (cs h).1)) (cs h)).2.2.length, (cs hp438).2.2.length, (cs hp439).2.2.length)) := Or.inr (Or.inr ⟨hnw, hk15, by rw [ssp439]; rfl⟩)
                have hthv : (ip430).toNatClampNeg = ip430.toInt.toNat := rfl
                have hclk : cCl hp441 = cCl h ++ [(ip430.toInt.toNat, (rA (rE T n (rB T n (cs h).1)) (cs h)).2.2.length, (cs hp438).2.2.length, (cs hp439).2.2.length)] := by
                  rw [clp441, cCl_f ggp439, ← hx1, show (cs hf435).2.2.length = _ from cCo_len, show (cs hp439).2.2.length = _ from cCo_len, show (cs hp438).2.2.length = _ from cCo_len]
                  exact congrArg (fun z => cCl h ++ [(z, _, _, _)]) hthv
                have hcz : rCl T n (cCl h).length (cs h) (.inr (cs hp441, ip430.toInt.toNat, (rA (rE T n (rB T n (cs h).1)) (cs h)).2.2.length, (cs hp438).2.2.length, (cs hp439).2.2.length)) := by rw [ssp441]; exact Or.inr ⟨ip430.toInt.toNat, by omega, by omega, hkw, Or.inr ⟨hc12, Or.inr ⟨hk12, Or.inr ⟨hk15, Or.inr ⟨_, ho, hc3⟩⟩⟩⟩⟩
                exact tw_iret rfl ⟨cFq_t (cFq_f ggp439) gqp441, qqp441, Or.inl ⟨rfl, _, hcz, hclk, ppp441⟩⟩
              · try dsimp only [tvI_i, tvJ_j, tvR_r] at q440
                have q440i := zeqi (Y := 16) (by decide) q440
                refine tw_aload rfl rfl ?_
                refine tw_aload rfl rfl ?_
                refine tw_getS rfl (hi_44_3 ggp439.1) ?_
                refine tw_put rfl (fun f442 => ?_)
                refine tG_set f442 (hw_44_2 f442 (ggp439).1) (fun hf442 ef442 => ?_)
                try dsimp only [tvI_i] at ef442
                have gf442 := cFr_s ggp439 ef442 (by decide)
                have hw16 := (wrd_k (k := 16) kwp439 (by decide) (K := 16) rfl).mp q440
                have h9w : rE T n (rB T n (cs hp438).1) = rB T n (cs hp438).1 + 2 := by rw [rW_e hw16, wlen_k.2.2.2]
                have hyn : (cs hp438).1 ≤ n := by rw [← ((cFr_n ggp438).trans hN)]; exact cP_le ppp438
                have hr9 := rE_le (T := T) (rB_le (T := T) hyn)
                rw [h9w] at hr9 eep439
                obtain ⟨pf442, sf442⟩ := cTo ppp439 ((cFr_n ggp439).trans hN) ef442 eep439 (by rw [ssp439]; exact Nat.le_add_right _ _) hr9
                have sf442 : cs hf442 = rA (rB T n (cs hp438).1 + 2) (cs hp438) := by rw [sf442, ssp439]; rfl
                refine tw_aload rfl rfl ?_
                refine tw_push rfl ?_
                refine tw_virt1 rfl (tC_rec hG hX (m := 9) (d := 0) (by decide) (gf442).1 pf442 ((cFr_T gf442).trans hT) ((cFr_n gf442).trans hN) rfl (by decide)) (fun w9 hp443 p443 => ?_)
                obtain ⟨gp443, ⟨rfl, p443, ppp443⟩ | ⟨rfl, xp443, p443, up443⟩⟩ := p443
                · have ggp443 := cFr_t gf442 gp443
                  refine tw_if_ne rfl (fun _ => ?_) (fun z => absurd z (by decide))
                  refine tw_aload rfl rfl ?_
                  refine tw_iload rfl rfl ?_
                  refine tw_iload rfl rfl ?_
                  refine tw_iload rfl rfl ?_
                  refine tw_virt3 rfl (f_keepClause hG hX (ggp443).1 ppp443 ((cFr_T ggp443).trans hT) ((cFr_n ggp443).trans hN) (cQ_f ggp443 hq) (by have := cFr_7 ggp443; rw [this]; exact hlt12)) (fun wp444 hp444 p444 => ?_)
                  obtain ⟨rfl, gqp444, clp444, qqp444, ssp444, ppp444⟩ := p444
                  refine tw_push rfl ?_
                  have hk15 : ip430.toInt.toNat ≠ 15 := by have z := q436i; omega
                  have hk12 : ip430.toInt.toNat ≠ 12 := by have z := q437i; omega
                  have hx1 := sf435
                  have ho := p438
                  rw [hx1] at ho
                  have ht := p443
                  rw [sf442] at ht
                  have hc3 : rCl3 T n ip430.toInt.toNat (ip430.toInt.toNat) (rA (rE T n (rB T n (cs h).1)) (cs h)).2.2.length (cs hp438) (.inr (cs hp443, ip430.toInt.toNat, (rA (rE T n (rB T n (cs h).1)) (cs h)).2.2.length, (cs hp438).2.2.length, (cs hp443).2.2.length)) := Or.inl ⟨hw16, Or.inr ⟨_, ht, rfl⟩⟩
                  have hthv : (ip430).toNatClampNeg = ip430.toInt.toNat := rfl
                  have hclk : cCl hp444 = cCl h ++ [(ip430.toInt.toNat, (rA (rE T n (rB T n (cs h).1)) (cs h)).2.2.length, (cs hp438).2.2.length, (cs hp443).2.2.length)] := by
                    rw [clp444, cCl_f ggp443, ← hx1, show (cs hf435).2.2.length = _ from cCo_len, show (cs hp443).2.2.length = _ from cCo_len, show (cs hp438).2.2.length = _ from cCo_len]
                    exact congrArg (fun z => cCl h ++ [(z, _, _, _)]) hthv
                  have hcz : rCl T n (cCl h).length (cs h) (.inr (cs hp444, ip430.toInt.toNat, (rA (rE T n (rB T n (cs h).1)) (cs h)).2.2.length, (cs hp438).2.2.length, (cs hp443).2.2.length)) := by rw [ssp444]; exact Or.inr ⟨ip430.toInt.toNat, by omega, by omega, hkw, Or.inr ⟨hc12, Or.inr ⟨hk12, Or.inr ⟨hk15, Or.inr ⟨_, ho, hc3⟩⟩⟩⟩⟩
                  exact tw_iret rfl ⟨cFq_t (cFq_f ggp443) gqp444, qqp444, Or.inl ⟨rfl, _, hcz, hclk, ppp444⟩⟩
                · have ggp443 := cFr_t gf442 gp443
                  refine tw_if_ne rfl (fun z => absurd z (by decide)) (fun _ => ?_)
                  refine tw_push rfl ?_
                  have hk15 : ip430.toInt.toNat ≠ 15 := by have z := q436i; omega
                  have hk12 : ip430.toInt.toNat ≠ 12 := by have z := q437i; omega
                  have hx1 := sf435
                  have ho := p438
                  rw [hx1] at ho
                  have ht := p443
                  rw [sf442] at ht
                  have hc3 : rCl3 T n ip430.toInt.toNat (ip430.toInt.toNat) (rA (rE T n (rB T n (cs h).1)) (cs h)).2.2.length (cs hp438) (.inl _) := Or.inl ⟨hw16, Or.inl ⟨_, ht, rfl⟩⟩
                  exact tw_iret rfl ⟨cFq_f ggp443, cQ_f ggp443 hq, Or.inr ⟨rfl, _, Or.inr ⟨ip430.toInt.toNat, by omega, by omega, hkw, Or.inr ⟨hc12, Or.inr ⟨hk12, Or.inr ⟨hk15, Or.inr ⟨_, ho, hc3⟩⟩⟩⟩⟩, up443⟩⟩
            · have ggp438 := cFr_t gf435 gp438
              refine tw_if_ne rfl (fun z => absurd z (by decide)) (fun _ => ?_)
              refine tw_push rfl ?_
              have hk15 : ip430.toInt.toNat ≠ 15 := by have z := q436i; omega
              have hk12 : ip430.toInt.toNat ≠ 12 := by have z := q437i; omega
              have hx1 := sf435
              have ho := p438
              rw [hx1] at ho
              exact tw_iret rfl ⟨cFq_f ggp438, cQ_f ggp438 hq, Or.inr ⟨rfl, _, Or.inr ⟨ip430.toInt.toNat, by omega, by omega, hkw, Or.inr ⟨hc12, Or.inr ⟨hk12, Or.inr ⟨hk15, Or.inl ⟨_, ho, rfl⟩⟩⟩⟩⟩, up438⟩⟩
          · try dsimp only [tvI_i, tvJ_j, tvR_r] at q437
            have q437i := zeqi (Y := 12) (by decide) q437
            refine tw_aload rfl rfl ?_
            refine tw_push rfl ?_
            refine tw_virt1 rfl (f_numberHere hG hX (gf435).1 pf435 ((cFr_T gf435).trans hT) ((cFr_n gf435).trans hN) (m := 2) (M := 2) rfl (by decide)) (fun w9 hp445 p445 => ?_)
            obtain ⟨gp445, ⟨vp445, p445, rfl, ssp445, ppp445⟩ | ⟨xp445, p445, rfl, up445⟩⟩ := p445
            · have ggp445 := cFr_t gf435 gp445
              refine tw_istore rfl ?_
              refine tw_iload rfl rfl ?_
              refine tw_push rfl ?_
              refine tw_ic_ne rfl (fun q446 => ?_) (fun q446 => ?_)
              · try dsimp only [tvI_i, tvJ_j, tvR_r] at q446
                have q446i := zneq (Y := (-1)) (by decide) q446
                refine tw_aload rfl rfl ?_
                refine tw_getS rfl (hi_44_5 ggp445.1) ?_
                refine tw_istore rfl ?_
                refine tw_iload rfl rfl ?_
                refine tw_if_ne rfl (fun z => absurd z (by decide)) (fun _ => ?_)
                refine tw_aload rfl rfl ?_
                refine tw_push rfl ?_
                refine tw_virt1 rfl (tC_rec hG hX (m := 3) (d := 0) (by decide) (ggp445).1 ppp445 ((cFr_T ggp445).trans hT) ((cFr_n ggp445).trans hN) rfl (by decide)) (fun w9 hp447 p447 => ?_)
                obtain ⟨gp447, ⟨rfl, p447, ppp447⟩ | ⟨rfl, xp447, p447, up447⟩⟩ := p447
                · have ggp447 := cFr_t ggp445 gp447
                  refine tw_if_ne rfl (fun _ => ?_) (fun z => absurd z (by decide))
                  refine tw_aload rfl rfl ?_
                  refine tw_getS rfl (hi_44_5 ggp447.1) ?_
                  refine tw_istore rfl ?_
                  refine tw_aload rfl rfl ?_
                  refine tw_virt0 rfl (f_wordHere hG hX (ggp447).1 ppp447 ((cFr_T ggp447).trans hT) ((cFr_n ggp447).trans hN)) (fun wp448 hp448 p448 => ?_)
                  obtain ⟨gp448, ppp448, ssp448, eep448, ip448, rfl, kwp448⟩ := p448
                  have ggp448 := cFr_t ggp447 gp448
                  refine tw_push rfl ?_
                  refine tw_ic_ne rfl (fun q449 => ?_) (fun q449 => ?_)
                  · try dsimp only [tvI_i, tvJ_j, tvR_r] at q449
                    have q449i := zneq (Y := 16) (by decide) q449
                    refine tw_iload rfl rfl ?_
                    refine tw_if_eq rfl (fun _ => ?_) (fun z => absurd z (by decide))
                    refine tw_aload rfl rfl ?_
                    refine tw_iload rfl rfl ?_
                    refine tw_iload rfl rfl ?_
                    refine tw_iload rfl rfl ?_
                    refine tw_virt3 rfl (f_keepClause hG hX (ggp448).1 ppp448 ((cFr_T ggp448).trans hT) ((cFr_n ggp448).trans hN) (cQ_f ggp448 hq) (by have := cFr_7 ggp448; rw [this]; exact hlt12)) (fun wp450 hp450 p450 => ?_)
                    obtain ⟨rfl, gqp450, clp450, qqp450, ssp450, ppp450⟩ := p450
                    refine tw_push rfl ?_
                    have hk15 : ip430.toInt.toNat ≠ 15 := by have z := q436i; omega
                    have hk12 : ip430.toInt.toNat = 12 := by have z := q437i; omega
                    have hrm := p445
                    rw [sf435] at hrm
                    have hx1 : cs hp445 = rA vp445.1 (rA (rE T n (rB T n (cs h).1)) (cs h)) := by rw [ssp445, sf435]
                    have ho := p447
                    rw [hx1] at ho
                    have hnw : ¬ rW T n (rB T n (cs hp447).1) (rWd 16) = true := fun z => q449 ((wrd_k (k := 16) kwp448 (by decide) (K := 16) rfl).mpr z)
                    have hc3 : rCl3 T n ip430.toInt.toNat (vp445.2) (rA vp445.1 (rA (rE T n (rB T n (cs h).1)) (cs h))).2.2.length (cs hp447) (.inr (cs hp448, vp445.2, (rA vp445.1 (rA (rE T n (rB T n (cs h).1)) (cs h))).2.2.length, (cs hp447).2.2.length, (cs hp448).2.2.length)) := Or.inr (Or.inr ⟨hnw, hk15, by rw [ssp448]; rfl⟩)
                    have hthv : (Int32.ofNat vp445.2).toNatClampNeg = vp445.2 := zoN (by have := (rM_r (rE_le (rB_le hpn)) hrm).2.2; omega)
                    have hclk : cCl hp450 = cCl h ++ [(vp445.2, (rA vp445.1 (rA (rE T n (rB T n (cs h).1)) (cs h))).2.2.length, (cs hp447).2.2.length, (cs hp448).2.2.length)] := by
                      rw [clp450, cCl_f ggp448, ← hx1, show (cs hp445).2.2.length = _ from cCo_len, show (cs hp448).2.2.length = _ from cCo_len, show (cs hp447).2.2.length = _ from cCo_len]
                      exact congrArg (fun z => cCl h ++ [(z, _, _, _)]) hthv
                    have hcz : rCl T n (cCl h).length (cs h) (.inr (cs hp450, vp445.2, (rA vp445.1 (rA (rE T n (rB T n (cs h).1)) (cs h))).2.2.length, (cs hp447).2.2.length, (cs hp448).2.2.length)) := by rw [ssp450]; exact Or.inr ⟨ip430.toInt.toNat, by omega, by omega, hkw, Or.inr ⟨hc12, Or.inl ⟨hk12, Or.inr ⟨vp445, hrm, Or.inr ⟨hk15, Or.inr ⟨_, ho, hc3⟩⟩⟩⟩⟩⟩
                    exact tw_iret rfl ⟨cFq_t (cFq_f ggp448) gqp450, qqp450, Or.inl ⟨rfl, _, hcz, hclk, ppp450⟩⟩
                  · try dsimp only [tvI_i, tvJ_j, tvR_r] at q449
                    have q449i := zeqi (Y := 16) (by decide) q449
                    refine tw_aload rfl rfl ?_
                    refine tw_aload rfl rfl ?_
                    refine tw_getS rfl (hi_44_3 ggp448.1) ?_
                    refine tw_put rfl (fun f451 => ?_)
                    refine tG_set f451 (hw_44_2 f451 (ggp448).1) (fun hf451 ef451 => ?_)
                    try dsimp only [tvI_i] at ef451
                    have gf451 := cFr_s ggp448 ef451 (by decide)
                    have hw16 := (wrd_k (k := 16) kwp448 (by decide) (K := 16) rfl).mp q449
                    have h9w : rE T n (rB T n (cs hp447).1) = rB T n (cs hp447).1 + 2 := by rw [rW_e hw16, wlen_k.2.2.2]
                    have hyn : (cs hp447).1 ≤ n := by rw [← ((cFr_n ggp447).trans hN)]; exact cP_le ppp447
                    have hr9 := rE_le (T := T) (rB_le (T := T) hyn)
                    rw [h9w] at hr9 eep448
                    obtain ⟨pf451, sf451⟩ := cTo ppp448 ((cFr_n ggp448).trans hN) ef451 eep448 (by rw [ssp448]; exact Nat.le_add_right _ _) hr9
                    have sf451 : cs hf451 = rA (rB T n (cs hp447).1 + 2) (cs hp447) := by rw [sf451, ssp448]; rfl
                    refine tw_aload rfl rfl ?_
                    refine tw_push rfl ?_
                    refine tw_virt1 rfl (tC_rec hG hX (m := 9) (d := 0) (by decide) (gf451).1 pf451 ((cFr_T gf451).trans hT) ((cFr_n gf451).trans hN) rfl (by decide)) (fun w9 hp452 p452 => ?_)
                    obtain ⟨gp452, ⟨rfl, p452, ppp452⟩ | ⟨rfl, xp452, p452, up452⟩⟩ := p452
                    · have ggp452 := cFr_t gf451 gp452
                      refine tw_if_ne rfl (fun _ => ?_) (fun z => absurd z (by decide))
                      refine tw_aload rfl rfl ?_
                      refine tw_iload rfl rfl ?_
                      refine tw_iload rfl rfl ?_
                      refine tw_iload rfl rfl ?_
                      refine tw_virt3 rfl (f_keepClause hG hX (ggp452).1 ppp452 ((cFr_T ggp452).trans hT) ((cFr_n ggp452).trans hN) (cQ_f ggp452 hq) (by have := cFr_7 ggp452; rw [this]; exact hlt12)) (fun wp453 hp453 p453 => ?_)
                      obtain ⟨rfl, gqp453, clp453, qqp453, ssp453, ppp453⟩ := p453
                      refine tw_push rfl ?_
                      have hk15 : ip430.toInt.toNat ≠ 15 := by have z := q436i; omega
                      have hk12 : ip430.toInt.toNat = 12 := by have z := q437i; omega
                      have hrm := p445
                      rw [sf435] at hrm
                      have hx1 : cs hp445 = rA vp445.1 (rA (rE T n (rB T n (cs h).1)) (cs h)) := by rw [ssp445, sf435]
                      have ho := p447
                      rw [hx1] at ho
                      have ht := p452
                      rw [sf451] at ht
                      have hc3 : rCl3 T n ip430.toInt.toNat (vp445.2) (rA vp445.1 (rA (rE T n (rB T n (cs h).1)) (cs h))).2.2.length (cs hp447) (.inr (cs hp452, vp445.2, (rA vp445.1 (rA (rE T n (rB T n (cs h).1)) (cs h))).2.2.length, (cs hp447).2.2.length, (cs hp452).2.2.length)) := Or.inl ⟨hw16, Or.inr ⟨_, ht, rfl⟩⟩
                      have hthv : (Int32.ofNat vp445.2).toNatClampNeg = vp445.2 := zoN (by have := (rM_r (rE_le (rB_le hpn)) hrm).2.2; omega)
                      have hclk : cCl hp453 = cCl h ++ [(vp445.2, (rA vp445.1 (rA (rE T n (rB T n (cs h).1)) (cs h))).2.2.length, (cs hp447).2.2.length, (cs hp452).2.2.length)] := by
                        rw [clp453, cCl_f ggp452, ← hx1, show (cs hp445).2.2.length = _ from cCo_len, show (cs hp452).2.2.length = _ from cCo_len, show (cs hp447).2.2.length = _ from cCo_len]
                        exact congrArg (fun z => cCl h ++ [(z, _, _, _)]) hthv
                      have hcz : rCl T n (cCl h).length (cs h) (.inr (cs hp453, vp445.2, (rA vp445.1 (rA (rE T n (rB T n (cs h).1)) (cs h))).2.2.length, (cs hp447).2.2.length, (cs hp452).2.2.length)) := by rw [ssp453]; exact Or.inr ⟨ip430.toInt.toNat, by omega, by omega, hkw, Or.inr ⟨hc12, Or.inl ⟨hk12, Or.inr ⟨vp445, hrm, Or.inr ⟨hk15, Or.inr ⟨_, ho, hc3⟩⟩⟩⟩⟩⟩
                      exact tw_iret rfl ⟨cFq_t (cFq_f ggp452) gqp453, qqp453, Or.inl ⟨rfl, _, hcz, hclk, ppp453⟩⟩
                    · have ggp452 := cFr_t gf451 gp452
                      refine tw_if_ne rfl (fun z => absurd z (by decide)) (fun _ => ?_)
                      refine tw_push rfl ?_
                      have hk15 : ip430.toInt.toNat ≠ 15 := by have z := q436i; omega
                      have hk12 : ip430.toInt.toNat = 12 := by have z := q437i; omega
                      have hrm := p445
                      rw [sf435] at hrm
                      have hx1 : cs hp445 = rA vp445.1 (rA (rE T n (rB T n (cs h).1)) (cs h)) := by rw [ssp445, sf435]
                      have ho := p447
                      rw [hx1] at ho
                      have ht := p452
                      rw [sf451] at ht
                      have hc3 : rCl3 T n ip430.toInt.toNat (vp445.2) (rA vp445.1 (rA (rE T n (rB T n (cs h).1)) (cs h))).2.2.length (cs hp447) (.inl _) := Or.inl ⟨hw16, Or.inl ⟨_, ht, rfl⟩⟩
                      exact tw_iret rfl ⟨cFq_f ggp452, cQ_f ggp452 hq, Or.inr ⟨rfl, _, Or.inr ⟨ip430.toInt.toNat, by omega, by omega, hkw, Or.inr ⟨hc12, Or.inl ⟨hk12, Or.inr ⟨vp445, hrm, Or.inr ⟨hk15, Or.inr ⟨_, ho, hc3⟩⟩⟩⟩⟩⟩, up452⟩⟩
                · have ggp447 := cFr_t ggp445 gp447
                  refine tw_if_ne rfl (fun z => absurd z (by decide)) (fun _ => ?_)
                  refine tw_push rfl ?_
                  have hk15 : ip430.toInt.toNat ≠ 15 := by have z := q436i; omega
                  have hk12 : ip430.toInt.toNat = 12 := by have z := q437i; omega
                  have hrm := p445
                  rw [sf435] at hrm
                  have hx1 : cs hp445 = rA vp445.1 (rA (rE T n (rB T n (cs h).1)) (cs h)) := by rw [ssp445, sf435]
                  have ho := p447
                  rw [hx1] at ho
                  exact tw_iret rfl ⟨cFq_f ggp447, cQ_f ggp447 hq, Or.inr ⟨rfl, _, Or.inr ⟨ip430.toInt.toNat, by omega, by omega, hkw, Or.inr ⟨hc12, Or.inl ⟨hk12, Or.inr ⟨vp445, hrm, Or.inr ⟨hk15, Or.inl ⟨_, ho, rfl⟩⟩⟩⟩⟩⟩, up447⟩⟩
              · try dsimp only [tvI_i, tvJ_j, tvR_r] at q446
                have q446i := zeqi (Y := (-1)) (by decide) q446
                exact absurd q446 (zoN9 (by have := (rM_r (rE_le (rB_le hpn)) (by have y := p445; rw [sf435] at y; exact y)).2.2; omega))
            · have ggp445 := cFr_t gf435 gp445
              refine tw_istore rfl ?_
              refine tw_iload rfl rfl ?_
              refine tw_push rfl ?_
              refine tw_ic_ne rfl (fun z => absurd z (by decide)) (fun _ => ?_)
              refine tw_push rfl ?_
              have hk15 : ip430.toInt.toNat ≠ 15 := by have z := q436i; omega
              have hk12 : ip430.toInt.toNat = 12 := by have z := q437i; omega
              have hrm := p445
              rw [sf435] at hrm
              exact tw_iret rfl ⟨cFq_f ggp445, cQ_f ggp445 hq, Or.inr ⟨rfl, _, Or.inr ⟨ip430.toInt.toNat, by omega, by omega, hkw, Or.inr ⟨hc12, Or.inl ⟨hk12, Or.inl ⟨_, hrm, rfl⟩⟩⟩⟩, up445⟩⟩
        · try dsimp only [tvI_i, tvJ_j, tvR_r] at q436
          have q436i := zeqi (Y := 15) (by decide) q436
          refine tw_push rfl ?_
          refine tw_goto rfl ?_
          refine tw_istore rfl ?_
          refine tw_iload rfl rfl ?_
          refine tw_push rfl ?_
          refine tw_ic_ne rfl (fun q454 => ?_) (fun q454 => ?_)
          · try dsimp only [tvI_i, tvJ_j, tvR_r] at q454
            have q454i := zneq (Y := 12) (by decide) q454
            refine tw_aload rfl rfl ?_
            refine tw_getS rfl (hi_44_5 (gf435).1) ?_
            refine tw_istore rfl ?_
            refine tw_iload rfl rfl ?_
            refine tw_if_ne rfl (fun _ => ?_) (fun z => absurd z (by decide))
            refine tw_aload rfl rfl ?_
            refine tw_getS rfl (hi_44_5 (gf435).1) ?_
            refine tw_istore rfl ?_
            refine tw_aload rfl rfl ?_
            refine tw_virt0 rfl (f_wordHere hG hX (gf435).1 pf435 ((cFr_T gf435).trans hT) ((cFr_n gf435).trans hN)) (fun wp455 hp455 p455 => ?_)
            obtain ⟨gp455, ppp455, ssp455, eep455, ip455, rfl, kwp455⟩ := p455
            have ggp455 := cFr_t gf435 gp455
            refine tw_push rfl ?_
            refine tw_ic_ne rfl (fun q456 => ?_) (fun q456 => ?_)
            · try dsimp only [tvI_i, tvJ_j, tvR_r] at q456
              have q456i := zneq (Y := 16) (by decide) q456
              refine tw_iload rfl rfl ?_
              refine tw_if_eq rfl (fun z => absurd z (by decide)) (fun _ => ?_)
              refine tw_aload rfl rfl ?_
              refine tw_aload rfl rfl ?_
              refine tw_getS rfl (hi_44_2 ggp455.1) ?_
              refine tw_push rfl ?_
              refine tw_virt2 rfl (f_refuse hG hX (ggp455).1 ppp455 ((cFr_T ggp455).trans hT) ((cFr_n ggp455).trans hN)) (fun wp457 hp457 p457 => ?_)
              obtain ⟨gp457, rfl, up457⟩ := p457
              have ggp457 := cFr_t ggp455 gp457
              have hk15 : ip430.toInt.toNat = 15 := by have z := q436i; omega
              have hk12 : ip430.toInt.toNat ≠ 12 := by omega
              have hx1 := sf435
              have hy1 := hx1
              have hnw : ¬ rW T n (rB T n (cs hf435).1) (rWd 16) = true := fun z => q456 ((wrd_k (k := 16) kwp455 (by decide) (K := 16) rfl).mpr z)
              have hft := cFt_of ppp455 up457 (w := 0) rfl (by decide)
              rw [ssp455, hx1] at hft
              rw [hx1] at hnw
              have hc3 : rCl3 T n ip430.toInt.toNat (ip430.toInt.toNat) (rA (rE T n (rB T n (cs h).1)) (cs h)).2.2.length (rA (rE T n (rB T n (cs h).1)) (cs h)) (.inl (1 + 8 * rB T n (rA (rE T n (rB T n (cs h).1)) (cs h)).1 + 0)) := Or.inr (Or.inl ⟨hnw, hk15, rfl⟩)
              have hft2 : cFt hp457 (1 + 8 * rB T n (rA (rE T n (rB T n (cs h).1)) (cs h)).1 + 0) := hft
              exact tw_iret rfl ⟨cFq_f ggp457, cQ_f ggp457 hq, Or.inr ⟨rfl, _, Or.inr ⟨ip430.toInt.toNat, by omega, by omega, hkw, Or.inr ⟨hc12, Or.inr ⟨hk12, Or.inl ⟨hk15, hc3⟩⟩⟩⟩, hft2⟩⟩
            · try dsimp only [tvI_i, tvJ_j, tvR_r] at q456
              have q456i := zeqi (Y := 16) (by decide) q456
              refine tw_aload rfl rfl ?_
              refine tw_aload rfl rfl ?_
              refine tw_getS rfl (hi_44_3 ggp455.1) ?_
              refine tw_put rfl (fun f458 => ?_)
              refine tG_set f458 (hw_44_2 f458 (ggp455).1) (fun hf458 ef458 => ?_)
              try dsimp only [tvI_i] at ef458
              have gf458 := cFr_s ggp455 ef458 (by decide)
              have hw16 := (wrd_k (k := 16) kwp455 (by decide) (K := 16) rfl).mp q456
              have h9w : rE T n (rB T n (cs hf435).1) = rB T n (cs hf435).1 + 2 := by rw [rW_e hw16, wlen_k.2.2.2]
              have hyn : (cs hf435).1 ≤ n := by rw [← ((cFr_n gf435).trans hN)]; exact cP_le pf435
              have hr9 := rE_le (T := T) (rB_le (T := T) hyn)
              rw [h9w] at hr9 eep455
              obtain ⟨pf458, sf458⟩ := cTo ppp455 ((cFr_n ggp455).trans hN) ef458 eep455 (by rw [ssp455]; exact Nat.le_add_right _ _) hr9
              have sf458 : cs hf458 = rA (rB T n (cs hf435).1 + 2) (cs hf435) := by rw [sf458, ssp455]; rfl
              refine tw_aload rfl rfl ?_
              refine tw_push rfl ?_
              refine tw_virt1 rfl (tC_rec hG hX (m := 9) (d := 0) (by decide) (gf458).1 pf458 ((cFr_T gf458).trans hT) ((cFr_n gf458).trans hN) rfl (by decide)) (fun w9 hp459 p459 => ?_)
              obtain ⟨gp459, ⟨rfl, p459, ppp459⟩ | ⟨rfl, xp459, p459, up459⟩⟩ := p459
              · have ggp459 := cFr_t gf458 gp459
                refine tw_if_ne rfl (fun _ => ?_) (fun z => absurd z (by decide))
                refine tw_aload rfl rfl ?_
                refine tw_iload rfl rfl ?_
                refine tw_iload rfl rfl ?_
                refine tw_iload rfl rfl ?_
                refine tw_virt3 rfl (f_keepClause hG hX (ggp459).1 ppp459 ((cFr_T ggp459).trans hT) ((cFr_n ggp459).trans hN) (cQ_f ggp459 hq) (by have := cFr_7 ggp459; rw [this]; exact hlt12)) (fun wp460 hp460 p460 => ?_)
                obtain ⟨rfl, gqp460, clp460, qqp460, ssp460, ppp460⟩ := p460
                refine tw_push rfl ?_
                have hk15 : ip430.toInt.toNat = 15 := by have z := q436i; omega
                have hk12 : ip430.toInt.toNat ≠ 12 := by omega
                have hx1 := sf435
                have hy1 := hx1
                rw [hx1] at hw16
                have ht := p459
                rw [sf458, hx1] at ht
                have hc3 : rCl3 T n ip430.toInt.toNat (ip430.toInt.toNat) (rA (rE T n (rB T n (cs h).1)) (cs h)).2.2.length (rA (rE T n (rB T n (cs h).1)) (cs h)) (.inr (cs hp459, ip430.toInt.toNat, (rA (rE T n (rB T n (cs h).1)) (cs h)).2.2.length, (rA (rE T n (rB T n (cs h).1)) (cs h)).2.2.length, (cs hp459).2.2.length)) := Or.inl ⟨hw16, Or.inr ⟨_, ht, rfl⟩⟩
                have hthv : (ip430).toNatClampNeg = ip430.toInt.toNat := rfl
                have hclk : cCl hp460 = cCl h ++ [(ip430.toInt.toNat, (rA (rE T n (rB T n (cs h).1)) (cs h)).2.2.length, (rA (rE T n (rB T n (cs h).1)) (cs h)).2.2.length, (cs hp459).2.2.length)] := by
                  rw [clp460, cCl_f ggp459, ← hx1, show (cs hf435).2.2.length = _ from cCo_len, show (cs hp459).2.2.length = _ from cCo_len]
                  exact congrArg (fun z => cCl h ++ [(z, _, _, _)]) hthv
                have hcz : rCl T n (cCl h).length (cs h) (.inr (cs hp460, ip430.toInt.toNat, (rA (rE T n (rB T n (cs h).1)) (cs h)).2.2.length, (rA (rE T n (rB T n (cs h).1)) (cs h)).2.2.length, (cs hp459).2.2.length)) := by rw [ssp460]; exact Or.inr ⟨ip430.toInt.toNat, by omega, by omega, hkw, Or.inr ⟨hc12, Or.inr ⟨hk12, Or.inl ⟨hk15, hc3⟩⟩⟩⟩
                exact tw_iret rfl ⟨cFq_t (cFq_f ggp459) gqp460, qqp460, Or.inl ⟨rfl, _, hcz, hclk, ppp460⟩⟩
              · have ggp459 := cFr_t gf458 gp459
                refine tw_if_ne rfl (fun z => absurd z (by decide)) (fun _ => ?_)
                refine tw_push rfl ?_
                have hk15 : ip430.toInt.toNat = 15 := by have z := q436i; omega
                have hk12 : ip430.toInt.toNat ≠ 12 := by omega
                have hx1 := sf435
                have hy1 := hx1
                rw [hx1] at hw16
                have ht := p459
                rw [sf458, hx1] at ht
                have hc3 : rCl3 T n ip430.toInt.toNat (ip430.toInt.toNat) (rA (rE T n (rB T n (cs h).1)) (cs h)).2.2.length (rA (rE T n (rB T n (cs h).1)) (cs h)) (.inl _) := Or.inl ⟨hw16, Or.inl ⟨_, ht, rfl⟩⟩
                exact tw_iret rfl ⟨cFq_f ggp459, cQ_f ggp459 hq, Or.inr ⟨rfl, _, Or.inr ⟨ip430.toInt.toNat, by omega, by omega, hkw, Or.inr ⟨hc12, Or.inr ⟨hk12, Or.inl ⟨hk15, hc3⟩⟩⟩⟩, up459⟩⟩
          · try dsimp only [tvI_i, tvJ_j, tvR_r] at q454
            have q454i := zeqi (Y := 12) (by decide) q454
            exact absurd (q436.symm.trans q454) (by decide)
      · try dsimp only [tvI_i, tvJ_j, tvR_r] at q434
        have q434i := zeqi (Y := 12) (by decide) q434
        refine tw_aload rfl rfl ?_
        refine tw_aload rfl rfl ?_
        refine tw_getS rfl (hi_44_2 ggp430.1) ?_
        refine tw_push rfl ?_
        refine tw_virt2 rfl (f_refuse hG hX (ggp430).1 ppp430 ((cFr_T ggp430).trans hT) ((cFr_n ggp430).trans hN)) (fun wp461 hp461 p461 => ?_)
        obtain ⟨gp461, rfl, up461⟩ := p461
        have ggp461 := cFr_t ggp430 gp461
        have kwb := kwp430.1
        have hk1 : 12 ≤ ip430.toInt := by have z := q431; omega
        have hk2 : ip430.toInt ≤ 15 := by have z := q433; omega
        have hkw : rW T n (rB T n (cs h).1) (rWd ip430.toInt.toNat) = true := (kwp430.2 ip430.toInt.toNat (by omega)).mp (by omega)
        have hft := cFt_of ppp430 up461 (w := 4) rfl (by decide)
        rw [ssp430] at hft
        have h12 : (cCl h).length = 12 := (c12 hq).mpr ((congrArg tvI (cFr_7 ggp430)).symm.trans q434)
        exact tw_iret rfl ⟨cFq_f ggp461, cQ_f ggp461 hq, Or.inr ⟨rfl, _, Or.inr ⟨ip430.toInt.toNat, by omega, by omega, hkw, Or.inl ⟨h12, rfl⟩⟩, hft⟩⟩
    · try dsimp only [tvI_i, tvJ_j, tvR_r] at q433
      refine tw_aload rfl rfl ?_
      refine tw_aload rfl rfl ?_
      refine tw_getS rfl (hi_44_2 ggp430.1) ?_
      refine tw_push rfl ?_
      refine tw_virt2 rfl (f_refuse hG hX (ggp430).1 ppp430 ((cFr_T ggp430).trans hT) ((cFr_n ggp430).trans hN)) (fun wp462 hp462 p462 => ?_)
      obtain ⟨gp462, rfl, up462⟩ := p462
      have ggp462 := cFr_t ggp430 gp462
      have kwb := kwp430.1
      have hft := cFt_of ppp430 up462 (w := 0) rfl (by decide)
      rw [ssp430] at hft
      have z0 := q431
      have z1 := q433
      exact tw_iret rfl ⟨cFq_f ggp462, cQ_f ggp462 hq, Or.inr ⟨rfl, _, Or.inl ⟨fun k h1 h2 z => by have y := (kwp430.2 k (by omega)).mpr z; omega, rfl⟩, hft⟩⟩
theorem cRst {h a b c d e : zH} (hs : tSh h) (hl : 0 ≤ (tvI (tF h 44 1)).toInt ∧ (tvI (tF h 44 1)).toInt ≤ 400) (hT : ∀ i, i < 400 → -128 ≤ (tA h 45 i).toInt ∧ (tA h 45 i).toInt ≤ 127) (h46 : tN h 46 = 400) (h47 : tN h 47 = 48) (e2 : cSet 2 0 h a) (e5 : cSet 5 0 a b) (e7 : cSet 7 0 b c) (e8 : cSet 8 0 c d) (e9 : cSet 9 (-1) d e) : cFq h e ∧ cs e = (0, 0, []) ∧ cCl e = [] ∧ cP e ∧ cQ e := by
  have F : ∀ p q, ¬ (p = 44 ∧ (q = 2 ∨ q = 3 ∨ q = 5 ∨ q = 7 ∨ q = 8 ∨ q = 9)) → tF e p q = tF h p q := fun p q z =>
    (e9.2.2.1 p q (fun w => z ⟨w.1, by omega⟩)).trans ((e8.2.2.1 p q (fun w => z ⟨w.1, by omega⟩)).trans ((e7.2.2.1 p q (fun w => z ⟨w.1, by omega⟩)).trans ((e5.2.2.1 p q (fun w => z ⟨w.1, by omega⟩)).trans (e2.2.2.1 p q (fun w => z ⟨w.1, by omega⟩)))))
  have A : tA e = tA h := e9.2.2.2.1.trans (e8.2.2.2.1.trans (e7.2.2.2.1.trans (e5.2.2.2.1.trans e2.2.2.2.1)))
  have N : tN e = tN h := e9.2.2.2.2.trans (e8.2.2.2.2.trans (e7.2.2.2.2.trans (e5.2.2.2.2.trans e2.2.2.2.2)))
  have f8 : tF e 44 8 = .int 0 := (e9.2.2.1 44 8 (by decide)).trans e8.2.1
  have f7 : tF e 44 7 = .int 0 := (e9.2.2.1 44 7 (by decide)).trans ((e8.2.2.1 44 7 (by decide)).trans e7.2.1)
  have f5 : tF e 44 5 = .int 0 := (e9.2.2.1 44 5 (by decide)).trans ((e8.2.2.1 44 5 (by decide)).trans ((e7.2.2.1 44 5 (by decide)).trans e5.2.1))
  have f2 : tF e 44 2 = .int 0 := (e9.2.2.1 44 2 (by decide)).trans ((e8.2.2.1 44 2 (by decide)).trans ((e7.2.2.1 44 2 (by decide)).trans ((e5.2.2.1 44 2 (by decide)).trans e2.2.1)))
  have f1 : tF e 44 1 = tF h 44 1 := F 44 1 (by decide)
  refine ⟨⟨e9.1, F, fun p _ _ => congrFun A p, N⟩, ?_, ?_, ⟨?_, ?_, ?_, ?_, ?_, e9.2.1⟩, ⟨?_, ?_, ?_⟩⟩
  · unfold cs cCo
    rw [f2, f8, f5]
    rfl
  · unfold cCl
    rw [f7]
    rfl
  · rw [f2, f1]
    refine ⟨by decide, ?_, hl.2⟩
    show (0 : Int) ≤ _
    exact hl.1
  · rw [f8]; decide
  · rw [f5, f2]; decide
  · rw [A]; exact hT
  · rw [N]; exact h46
  · rw [f7]; decide
  · rw [f7]; decide
  · rw [N]; exact h47
theorem cFtv {h : zH} {e : Nat} (u : cFt h e) : tF h 44 9 = .int (Int32.ofNat e) := u
theorem rTon {T : Nat → Int32} {n : Nat} {c : Int32} {s s2 : rS} (h : rT T n c s = some (.inr s2)) : (rB T n s.1 < n ∧ T (rB T n s.1) = c) ∧ s2 = rA (rB T n s.1 + 1) s := by
  unfold rT at h
  by_cases z : rB T n s.1 < n ∧ T (rB T n s.1) = c
  · rw [if_pos z] at h; cases h; exact ⟨z, rfl⟩
  · rw [if_neg z] at h; cases h
theorem rToff {T : Nat → Int32} {n e : Nat} {c : Int32} {s : rS} (h : rT T n c s = some (.inl e)) : ¬ (rB T n s.1 < n ∧ T (rB T n s.1) = c) ∧ e = 1 + 8 * rB T n s.1 + 0 := by
  unfold rT at h
  by_cases z : rB T n s.1 < n ∧ T (rB T n s.1) = c
  · rw [if_pos z] at h; cases h
  · rw [if_neg z] at h; cases h; exact ⟨z, rfl⟩
theorem rCl_12 {T : Nat → Int32} {n c : Nat} {s : rS} {x : rS × rCt} (h : rCl T n c s (.inr x)) : c ≠ 12 := by
  rcases h with ⟨-, h⟩ | ⟨k, -, -, -, ⟨-, h⟩ | ⟨h, -⟩⟩
  · cases h
  · cases h
  · exact h
theorem f_readRule {G : zG} (hG : G.1 = zProg) (hX : G.2.1 = ztx) {h : zH} {T : Nat → Int32} {n : Nat} (hs : tSh h) (hT : tA h 45 = T) (hN : cn h = n) (hl : 0 ≤ (tvI (tF h 44 1)).toInt ∧ (tvI (tF h 44 1)).toInt ≤ 400) (hT9 : ∀ i, i < 400 → -128 ≤ (tA h 45 i).toInt ∧ (tA h 45 i).toInt ≤ 127) (h46 : tN h 46 = 400) (h47 : tN h 47 = 48) : tC zTt G 75 [.ref 44] h (fun w h2 => cFq h h2 ∧ ((∃ f, rRu T n f (0, 0, []) [] (.inr (cs h2, cCl h2)) ∧ w = some (.int (-1)) ∧ cP h2 ∧ cQ h2) ∨ ∃ e f, rRu T n f (0, 0, []) [] (.inl e) ∧ w = some (.int (Int32.ofNat e)))) := by
  refine tC_in (by rw [hG]; rfl) (fun dp => ?_)
  refine tw_aload rfl rfl ?_
  refine tw_push rfl ?_
  refine tw_put rfl (fun f463 => ?_)
  refine tG_set f463 (hw_44_2 f463 hs) (fun hf463 ef463 => ?_)
  try dsimp only [tvI_i] at ef463
  refine tw_aload rfl rfl ?_
  refine tw_push rfl ?_
  refine tw_put rfl (fun f464 => ?_)
  refine tG_set f464 (hw_44_5 f464 ef463.1) (fun hf464 ef464 => ?_)
  try dsimp only [tvI_i] at ef464
  refine tw_aload rfl rfl ?_
  refine tw_push rfl ?_
  refine tw_put rfl (fun f465 => ?_)
  refine tG_set f465 (hw_44_7 f465 ef464.1) (fun hf465 ef465 => ?_)
  try dsimp only [tvI_i] at ef465
  refine tw_aload rfl rfl ?_
  refine tw_push rfl ?_
  refine tw_put rfl (fun f466 => ?_)
  refine tG_set f466 (hw_44_8 f466 ef465.1) (fun hf466 ef466 => ?_)
  try dsimp only [tvI_i] at ef466
  refine tw_aload rfl rfl ?_
  refine tw_push rfl ?_
  refine tw_put rfl (fun f467 => ?_)
  refine tG_set f467 (hw_44_9 f467 ef466.1) (fun hf467 ef467 => ?_)
  try dsimp only [tvI_i] at ef467
  refine tw_push rfl ?_
  refine tw_istore rfl ?_
  refine tG_loop (zW_mono zTt G dp) (zW_conj zTt G dp) (V := fun pc L st h9 _ _ => pc = 27 ∧ st = [] ∧ ∃ (h1 : zH) (k : Nat) (x : Int32), h1 = h9 ∧ x.toInt = k ∧ cFq h h1 ∧ cP h1 ∧ cQ h1 ∧ (cCl h1).length = k ∧ (∀ r, (∃ f, rRu T n f (cs h1) (cCl h1) r) → ∃ f, rRu T n f (0, 0, []) [] r) ∧ L = [some (.ref 44), some (.int x)]) ?_ (⟨rfl, rfl, _, 0, 0, rfl, rfl, (cRst hs hl hT9 h46 h47 ef463 ef464 ef465 ef466 ef467).1, (cRst hs hl hT9 h46 h47 ef463 ef464 ef465 ef466 ef467).2.2.2.1, (cRst hs hl hT9 h46 h47 ef463 ef464 ef465 ef466 ef467).2.2.2.2, (by rw [(cRst hs hl hT9 h46 h47 ef463 ef464 ef465 ef466 ef467).2.2.1]; rfl), (fun r z => by rw [(cRst hs hl hT9 h46 h47 ef463 ef464 ef465 ef466 ef467).2.1, (cRst hs hl hT9 h46 h47 ef463 ef464 ef465 ef466 ef467).2.2.1] at z; exact z), rfl⟩)
  rintro _ _ _ _ _ _ ⟨rfl, rfl, h1, k, x, rfl, hx, gF, p1, q1, hk, hR, rfl⟩
  have g1 := cFr_r gF.1
  refine tw_iload rfl rfl ?_
  refine tw_push rfl ?_
  refine tw_ic_gt rfl (fun q468 => ?_) (fun q468 => ?_)
  · try dsimp only [tvI_i, tvJ_j, tvR_r] at q468
    refine tw_aload rfl rfl ?_
    refine tw_getS rfl (hi_44_9 g1.1) ?_
    exfalso
    have := q1.1
    have := q1.2.1
    rw [cCl_len, zclE] at hk
    have c129 : (12 : Int32).toInt = 12 := rfl
    have z := q468
    omega
  · try dsimp only [tvI_i, tvJ_j, tvR_r] at q468
    refine tw_aload rfl rfl ?_
    refine tw_virt0 rfl (f_readClause hG hX g1.1 p1 ((cFq_T gF).trans hT) ((cFq_n gF).trans hN) q1) (fun w9 hp469 p469 => ?_)
    obtain ⟨gqp469, qqp469, ⟨rfl, cp469, p469, clp469, ppp469⟩ | ⟨rfl, xp469, p469, up469⟩⟩ := p469
    · have gzp469 := cFr_r gqp469.1
      refine tw_if_eq rfl (fun z => absurd z (by decide)) (fun _ => ?_)
      refine tw_aload rfl rfl ?_
      refine tw_virt0 rfl (f_signHere hG hX (gzp469).1 ppp469 ((cFq_T (cFq_t gF gqp469)).trans hT) ((cFq_n (cFq_t gF gqp469)).trans hN)) (fun wp470 hp470 p470 => ?_)
      obtain ⟨gp470, ppp470, ssp470, t3p470, cp470, rfl, kp470⟩ := p470
      have ggp470 := cFr_t gzp469 gp470
      refine tw_push rfl ?_
      refine tw_ic_eq rfl (fun q471 => ?_) (fun q471 => ?_)
      · try dsimp only [tvI_i, tvJ_j, tvR_r] at q471
        have q471i := zeqi (Y := (-1)) (by decide) q471
        refine tw_aload rfl rfl ?_
        refine tw_getS rfl (hi_44_9 ggp470.1) ?_
        have hne : ¬ rB T n (cs hp469).1 < n := kp470.2.mp q471
        obtain ⟨f9, z⟩ := hR _ ⟨1, Or.inr ⟨_, _, p469, Or.inl ⟨hne, rfl⟩⟩⟩
        have hcc : cCl hp470 = cCl h1 ++ [cp469] := (cCl_f gp470).trans clp469
        rw [← hcc, ← ssp470] at z
        exact tw_iret rfl ⟨cFq_t (cFq_t gF gqp469) (cFq_f gp470), Or.inl ⟨f9, z, by rw [ppp470.2.2.2.2.2]; rfl, ppp470, cQ_f gp470 qqp469⟩⟩
      · try dsimp only [tvI_i, tvJ_j, tvR_r] at q471
        have q471i := zneq (Y := (-1)) (by decide) q471
        refine tw_aload rfl rfl ?_
        refine tw_push rfl ?_
        refine tw_virt1 rfl (f_takeSign hG hX (ggp470).1 ppp470 ((cFr_T ggp470).trans ((cFq_T (cFq_t gF gqp469)).trans hT)) ((cFr_n ggp470).trans ((cFq_n (cFq_t gF gqp469)).trans hN)) (y := 59) (by decide)) (fun w9 hp472 p472 => ?_)
        obtain ⟨gp472, ⟨rfl, p472, ppp472⟩ | ⟨rfl, xp472, p472, up472⟩⟩ := p472
        · have ggp472 := cFr_t ggp470 gp472
          refine tw_if_ne rfl (fun _ => ?_) (fun z => absurd z (by decide))
          refine tw_iinc rfl rfl ?_
          refine tw_goto rfl ?_
          have hcl : (cCl h1).length < 12 := by have z := rCl_12 (T := T) p469; have y := q1; rw [cCl_len, zclE] at *; have := q1.1; have := q1.2.1; omega
          have hts := rTon p472
          rw [ssp470, show (rA (rB T n (cs hp469).1) (cs hp469)).1 = rB T n (cs hp469).1 from rfl, rB_2] at hts
          have hcc : cCl hp472 = cCl h1 ++ [cp469] := (cCl_f (cFr_t (cFr_t (cFr_r gqp469.1) gp470) gp472)).trans clp469
          refine tG_cut (zW_mono zTt G dp) (Or.inr ⟨rfl, rfl, _, k + 1, x + 1, rfl, zincN hx (by omega), cFq_t (cFq_t gF gqp469) (cFq_f (cFr_t gp470 gp472)), ppp472, cQ_f (cFr_t gp470 gp472) qqp469, (by rw [hcc, List.length_append, hk]; rfl), (fun r z => ?_), rfl⟩)
          rw [hcc, hts.2] at z
          obtain ⟨f9, z⟩ := z
          exact hR r ⟨f9 + 1, Or.inr ⟨_, _, p469, Or.inr (Or.inl ⟨hts.1, z⟩)⟩⟩
        · have ggp472 := cFr_t ggp470 gp472
          refine tw_if_ne rfl (fun z => absurd z (by decide)) (fun _ => ?_)
          refine tw_goto rfl ?_
          refine tw_aload rfl rfl ?_
          refine tw_getS rfl (hi_44_9 ggp472.1) ?_
          have hts := rToff p472
          rw [ssp470, show (rA (rB T n (cs hp469).1) (cs hp469)).1 = rB T n (cs hp469).1 from rfl, rB_2] at hts
          have hlt : rB T n (cs hp469).1 < n := Classical.byContradiction (fun z => q471 (kp470.2.mpr z))
          obtain ⟨f9, z⟩ := hR _ ⟨1, Or.inr ⟨_, _, p469, Or.inr (Or.inr ⟨⟨hlt, fun z => hts.1 ⟨hlt, z⟩⟩, rfl⟩)⟩⟩
          exact tw_iret rfl ⟨cFq_t (cFq_t gF gqp469) (cFq_f (cFr_t gp470 gp472)), Or.inr ⟨_, f9, z, by rw [cFtv up472, hts.2]; rfl⟩⟩
    · refine tw_if_eq rfl (fun _ => ?_) (fun z => absurd z (by decide))
      refine tw_aload rfl rfl ?_
      refine tw_getS rfl (hi_44_9 gqp469.1) ?_
      obtain ⟨f9, z⟩ := hR _ ⟨1, Or.inl ⟨_, p469, rfl⟩⟩
      exact tw_iret rfl ⟨cFq_t gF gqp469, Or.inr ⟨_, f9, z, by rw [cFtv up469]; rfl⟩⟩
/-! the reader with a pile, as it stands in the object 111 -/
noncomputable def mCode (s v : Nat) : Nat := if s = 0 then v else if s = 1 then (if v < 12 then 100000 + v else 200000 + v) else if s = 2 then 100102 else if s = 3 then 100100 else if s = 4 then 100101 else if s = 10 then 100110 else if s = 11 then 100109 else if s = 12 then 100108 else 100098 + s
theorem mCode_1 {v : Nat} (h : v < 12) : mCode 1 v = 100000 + v := by
  show (if v < 12 then 100000 + v else 200000 + v) = _
  rw [if_pos h]
noncomputable def mEn (h : zH) : List Nat := (List.range (tvI (tF h 111 31)).toNatClampNeg).map (fun i => mCode (tA h 133 (500 * (tvI (tF h 111 30)).toNatClampNeg + i)).toNatClampNeg (tA h 134 (500 * (tvI (tF h 111 30)).toNatClampNeg + i)).toNatClampNeg)
noncomputable def mSk (h : zH) : List Nat := ((List.range (tvI (tF h 111 34)).toNatClampNeg).map (fun i => (tA h 142 i).toNatClampNeg)).reverse
noncomputable def ms (h : zH) : rS := ((tvI (tF h 111 28)).toNatClampNeg, (tvI (tF h 111 33)).toNatClampNeg, mEn h)
noncomputable abbrev mn (h : zH) : Nat := (tvI (tF h 111 27)).toNatClampNeg
noncomputable def mFs (b : Nat) : Prop := b = 28 ∨ b = 29 ∨ b = 31 ∨ b = 32 ∨ b = 33 ∨ b = 34
/-- what is told of the rules before stays -/
noncomputable def mLo (h h2 : zH) : Prop := ∀ q, q < 500 * (tvI (tF h 111 30)).toNatClampNeg → tA h2 133 q = tA h 133 q ∧ tA h2 134 q = tA h 134 q
theorem mLo_r {h : zH} : mLo h h := fun _ _ => ⟨rfl, rfl⟩
theorem mLo_t {h h1 h2 : zH} (e : tF h1 111 30 = tF h 111 30) (a : mLo h h1) (k : mLo h1 h2) : mLo h h2 := fun q hq =>
  have y := k q (by rw [e]; exact hq)
  ⟨y.1.trans (a q hq).1, y.2.trans (a q hq).2⟩
theorem mLo_A {h h1 h2 : zH} (e : tA h2 = tA h1) (a : mLo h h1) : mLo h h2 := fun q hq => by rw [e]; exact a q hq
theorem mLo_p {h h2 : zH} (a : tA h2 133 = tA h 133) (b : tA h2 134 = tA h 134) : mLo h h2 := fun q _ => ⟨by rw [a], by rw [b]⟩
noncomputable def mFr (h h2 : zH) : Prop := tSh h2 ∧ (∀ p b, ¬ (p = 111 ∧ mFs b) → tF h2 p b = tF h p b) ∧ (∀ p, p ≠ 133 → p ≠ 134 → p ≠ 142 → tA h2 p = tA h p) ∧ tN h2 = tN h ∧ mLo h h2
/-- no fault so far -/
noncomputable def mP (h : zH) : Prop := tF h 111 29 = .int 0 ∧ (0 ≤ (tvI (tF h 111 28)).toInt ∧ (tvI (tF h 111 28)).toInt ≤ (tvI (tF h 111 27)).toInt ∧ (tvI (tF h 111 27)).toInt ≤ 400) ∧ (0 ≤ (tvI (tF h 111 33)).toInt ∧ (tvI (tF h 111 33)).toInt ≤ 80) ∧ (0 ≤ (tvI (tF h 111 31)).toInt ∧ (tvI (tF h 111 31)).toInt ≤ 100000) ∧ 0 ≤ (tvI (tF h 111 34)).toInt ∧ (0 ≤ (tvI (tF h 111 30)).toInt ∧ (tvI (tF h 111 30)).toInt ≤ 10) ∧ (∀ i, i < tN h 142 → 0 ≤ (tA h 142 i).toInt) ∧ (∀ i : Nat, i = i) ∧ tN h 133 ≤ 100000 ∧ tN h 142 ≤ 100000
noncomputable def mD (h : zH) : Prop := (tvI (tF h 111 32)).toInt = mDp (mSk h)
noncomputable def mSet (b : Nat) (X : Int32) (h h3 : zH) : Prop := tSh h3 ∧ tF h3 111 b = .int X ∧ (∀ p q, ¬ (p = 111 ∧ q = b) → tF h3 p q = tF h p q) ∧ tA h3 = tA h ∧ tN h3 = tN h
/-- a fault stands -/
noncomputable def mFt (h : zH) (e : Nat) : Prop := tF h 111 29 = .int (Int32.ofNat e) ∧ 0 < e ∧ e < 100000
section MF
variable {h h1 h2 h3 : zH} {b e : Nat} {X : Int32}
theorem mSet_of (hf : tFd h 111 b) (hs : tSh (tSF h 111 b (.int X))) : mSet b X h (tSF h 111 b (.int X)) := ⟨hs, tF_same hf, fun _ _ hn => tF_nz hn, tA_tSF _ _ _ _, tN_tSF _ _ _ _⟩
theorem tG_setm {tt : zT} {G : zG} {cd : zK} {bc bs : Nat} {rt : Option FieldType} {M : zM} {Q : zQ} {Z : zX} {f : Bool} {pc : Nat} {L : zL} {st : List Value} {c n : Nat} (hf : tFd h 111 b) (hs : tSh (tSF h 111 b (.int X))) (k : ∀ h3, mSet b X h h3 → tG tt G cd bc bs rt M Q Z f pc L st h3 c n) : tG tt G cd bc bs rt M Q Z f pc L st (tSF h 111 b (.int X)) c n := k _ (mSet_of hf hs)
theorem mFr_r (hs : tSh h) : mFr h h := ⟨hs, fun _ _ _ => rfl, fun _ _ _ _ => rfl, rfl, mLo_r⟩
theorem mFr_t (a : mFr h h1) (k : mFr h1 h2) : mFr h h2 := ⟨k.1, fun p q z => (k.2.1 p q z).trans (a.2.1 p q z), fun p z w y => (k.2.2.1 p z w y).trans (a.2.2.1 p z w y), k.2.2.2.1.trans a.2.2.2.1, mLo_t (a.2.1 111 30 (fun z => by have z := z.2; unfold mFs at z; omega)) a.2.2.2.2 k.2.2.2.2⟩
theorem mFr_s (a : mFr h h1) (k : mSet b X h1 h2) (hb : mFs b) : mFr h h2 := ⟨k.1, fun p q z => (k.2.2.1 p q (fun w => z ⟨w.1, w.2.symm ▸ hb⟩)).trans (a.2.1 p q z), fun p z w y => (congrFun k.2.2.2.1 p).trans (a.2.2.1 p z w y), k.2.2.2.2.trans a.2.2.2.1, mLo_A k.2.2.2.1 a.2.2.2.2⟩
theorem nFs {q : Nat} (h : q = 27 ∨ q = 30 ∨ q = 1 ∨ q = 46 ∨ q = 47) : ¬ ((111 : Nat) = 111 ∧ mFs q) := fun z => by
  have z := z.2
  unfold mFs at z
  omega
theorem mFr_T (a : mFr h h1) : tA h1 132 = tA h 132 := a.2.2.1 132 (by decide) (by decide) (by decide)
theorem mFr_27 (a : mFr h h1) : tF h1 111 27 = tF h 111 27 := a.2.1 111 27 (nFs (by decide))
theorem mFr_30 (a : mFr h h1) : tF h1 111 30 = tF h 111 30 := a.2.1 111 30 (nFs (by decide))
theorem mFr_n (a : mFr h h1) : mn h1 = mn h := by unfold mn; rw [mFr_27 a]
theorem mFr_46 (a : mFr h h1) : tF h1 111 46 = tF h 111 46 := a.2.1 111 46 (nFs (by decide))
theorem mFr_47 (a : mFr h h1) : tF h1 111 47 = tF h 111 47 := a.2.1 111 47 (nFs (by decide))
theorem mI_x (k : mSet b X h h3) : tvI (tF h3 111 b) = X := congrArg tvI k.2.1
theorem mI_o {q : Nat} (k : mSet b X h h3) (hq : q ≠ b) : tF h3 111 q = tF h 111 q := k.2.2.1 111 q (fun z => hq z.2)
theorem mEn_o (k : mSet b X h h3) (h1 : b ≠ 31) (h2 : b ≠ 30) : mEn h3 = mEn h := by
  unfold mEn
  rw [mI_o k (fun z => h1 z.symm), mI_o k (fun z => h2 z.symm), k.2.2.2.1]
theorem mSk_o (k : mSet b X h h3) (h1 : b ≠ 34) : mSk h3 = mSk h := by
  unfold mSk
  rw [mI_o k (fun z => h1 z.symm), k.2.2.2.1]
theorem mSk_len : (mSk h).length = (tvI (tF h 111 34)).toNatClampNeg := by unfold mSk; rw [List.length_reverse, List.length_map, List.length_range]
/-- the fault stays over other fields -/
theorem mFt_s (k : mFt h e) (s : mSet b X h h3) (hb : b ≠ 29) : mFt h3 e := ⟨(mI_o s (fun z => hb z.symm)).trans k.1, k.2⟩
theorem mFt_n (k : mFt h e) : ¬ tvI (tF h 111 29) = 0 := by
  rw [k.1]
  intro z
  have z : Int32.ofNat e = 0 := z
  have y := zofI (e := e) (by have := k.2; omega)
  rw [z] at y
  have : ((0 : Int32)).toInt = 0 := rfl
  have := k.2
  omega
theorem mP_0 (p : mP h) : tvI (tF h 111 29) = 0 := by rw [p.1]; rfl
theorem mPl (p : mP h) : (tvI (tF h 111 28)).toInt = ((ms h).1 : Int) := by
  show _ = ((tvI (tF h 111 28)).toNatClampNeg : Int)
  rw [zclE]
  have := p.2.1
  omega
theorem mNl {n : Nat} (p : mP h) (hn : mn h = n) : (tvI (tF h 111 27)).toInt = (n : Int) := by
  rw [← hn]
  show _ = ((tvI (tF h 111 27)).toNatClampNeg : Int)
  rw [zclE]
  have := p.2.1
  omega
theorem mCl (p : mP h) : (tvI (tF h 111 33)).toInt = ((ms h).2.1 : Int) := by
  show _ = ((tvI (tF h 111 33)).toNatClampNeg : Int)
  rw [zclE]
  have := p.2.2.1
  omega
theorem mPle {n : Nat} (p : mP h) (hn : mn h = n) : (ms h).1 ≤ n := by
  have := mPl p
  have := mNl p hn
  have := p.2.1
  omega
/-- the place was set -/
theorem mTo {n v : Nat} (p : mP h) (hn : mn h = n) (s : mSet 28 X h h3) (hx : X.toInt = v) (hv : v ≤ n) : mP h3 ∧ ms h3 = rA v (ms h) ∧ mSk h3 = mSk h := by
  have e1 := mNl p hn
  obtain ⟨a, b, c, d, e, g, i, j, t1, t2⟩ := p
  have NN : tN h3 = tN h := s.2.2.2.2
  refine ⟨⟨(mI_o s (by decide)).trans a, ?_, ?_, ?_, ?_, ?_, ?_, ?_, by rw [NN]; exact t1, by rw [NN]; exact t2⟩, ?_, mSk_o s (by decide)⟩
  · rw [mI_x s, mI_o s (by decide)]; omega
  · rw [mI_o s (by decide)]; exact c
  · rw [mI_o s (by decide)]; exact d
  · rw [mI_o s (by decide)]; exact e
  · rw [mI_o s (by decide)]; exact g
  · rw [s.2.2.2.1, s.2.2.2.2]; exact i
  · exact j
  · unfold ms
    rw [mI_x s, mI_o s (by decide), mEn_o s (by decide) (by decide), zof_cl hx]
    rfl
/-- one more is counted -/
theorem mCnt (p : mP h) (h8 : (ms h).2.1 ≠ 80) (s : mSet 33 (tvI (tF h 111 33) + 1) h h3) : mP h3 ∧ ms h3 = ((ms h).1, (ms h).2.1 + 1, (ms h).2.2) ∧ mSk h3 = mSk h := by
  have e1 := mCl p
  have e2 : (tvI (tF h 111 33) + 1).toInt = (((ms h).2.1 + 1 : Nat) : Int) := zincN e1 (by have := p.2.2.1; omega)
  obtain ⟨a, b, c, d, e, g, i, j, t1, t2⟩ := p
  have NN : tN h3 = tN h := s.2.2.2.2
  refine ⟨⟨(mI_o s (by decide)).trans a, ?_, ?_, ?_, ?_, ?_, ?_, ?_, by rw [NN]; exact t1, by rw [NN]; exact t2⟩, ?_, mSk_o s (by decide)⟩
  · rw [mI_o s (by decide), mI_o s (by decide)]; exact b
  · rw [mI_x s]; omega
  · rw [mI_o s (by decide)]; exact d
  · rw [mI_o s (by decide)]; exact e
  · rw [mI_o s (by decide)]; exact g
  · rw [s.2.2.2.1, s.2.2.2.2]; exact i
  · exact j
  · unfold ms
    rw [mI_x s, mI_o s (by decide), mEn_o s (by decide) (by decide), zof_cl e2]
    rfl
theorem mSte (p : mP h) (s : mSet 46 X h h3) : mP h3 ∧ ms h3 = ms h ∧ mSk h3 = mSk h := by
  obtain ⟨a, b, c, d, e, g, i, j, t1, t2⟩ := p
  have e1 := mEn_o s (by decide) (by decide)
  have e2 := mSk_o s (by decide)
  have NN : tN h3 = tN h := s.2.2.2.2
  refine ⟨⟨(mI_o s (by decide)).trans a, ?_, ?_, ?_, ?_, ?_, ?_, ?_, by rw [NN]; exact t1, by rw [NN]; exact t2⟩, ?_, e2⟩
  · rw [mI_o s (by decide), mI_o s (by decide)]; exact b
  · rw [mI_o s (by decide)]; exact c
  · rw [mI_o s (by decide)]; exact d
  · rw [mI_o s (by decide)]; exact e
  · rw [mI_o s (by decide)]; exact g
  · rw [s.2.2.2.1, s.2.2.2.2]; exact i
  · exact j
  · unfold ms
    rw [mI_o s (by decide), mI_o s (by decide), e1]
/-- a fault is set -/
theorem mFt_of {a y : Int32} {k w : Nat} (s : mSet 29 (1 + 8 * a + y) h h3) (ha : a.toInt = k) (hk : k ≤ 400) (hy : y.toInt = w) (hw : w ≤ 7) : mFt h3 (1 + 8 * k + w) := ⟨by rw [s.2.1, zfa ha hk hy hw], by omega, by omega⟩
/-- the top, and off with it: the depth follows by the caller -/
theorem mSk_top (hk : 0 < (tvI (tF h 111 34)).toNatClampNeg) : mSk h = (tA h 142 ((tvI (tF h 111 34)).toNatClampNeg - 1)).toNatClampNeg :: ((List.range ((tvI (tF h 111 34)).toNatClampNeg - 1)).map (fun i => (tA h 142 i).toNatClampNeg)).reverse := by
  unfold mSk
  obtain ⟨k, e⟩ : ∃ k, (tvI (tF h 111 34)).toNatClampNeg = k + 1 := ⟨_, (Nat.sub_add_cancel hk).symm⟩
  rw [e, List.range_succ, List.map_append, List.reverse_append]
  rfl
theorem mSk_nil (hk : (tvI (tF h 111 34)).toNatClampNeg = 0) : mSk h = [] := by
  unfold mSk
  rw [hk]
  rfl
theorem mD_o (k : mSet b X h h3) (h1 : b ≠ 32) (h2 : b ≠ 34) (d : mD h) : mD h3 := by
  unfold mD
  rw [mI_o k (fun z => h1 z.symm), mSk_o k h2]
  exact d
theorem mSk_pop (p : mP h) (hne : mSk h ≠ []) (s : mSet 34 (tvI (tF h 111 34) - 1) h h3) : mP h3 ∧ mSk h3 = (mSk h).tail ∧ ms h3 = ms h ∧ tF h3 111 32 = tF h 111 32 := by
  have hk : 0 < (tvI (tF h 111 34)).toNatClampNeg := by
    rcases Nat.eq_zero_or_pos (tvI (tF h 111 34)).toNatClampNeg with z | z
    · exact absurd (mSk_nil z) hne
    · exact z
  have e0 : (tvI (tF h 111 34)).toInt = ((tvI (tF h 111 34)).toNatClampNeg : Int) := by rw [zclE]; have := p.2.2.2.2.1; omega
  have e1 : (tvI (tF h 111 34) - 1).toInt = (tvI (tF h 111 34)).toInt - 1 := zsub1 p.2.2.2.2.1
  have e2 : (tvI (tF h 111 34) - 1).toNatClampNeg = (tvI (tF h 111 34)).toNatClampNeg - 1 := by rw [zclE, e1]; omega
  obtain ⟨a, b, c, d, e, g, i, j, t1, t2⟩ := p
  have NN : tN h3 = tN h := s.2.2.2.2
  refine ⟨⟨(mI_o s (by decide)).trans a, ?_, ?_, ?_, ?_, ?_, ?_, ?_, by rw [NN]; exact t1, by rw [NN]; exact t2⟩, ?_, ?_, mI_o s (by decide)⟩
  · rw [mI_o s (by decide), mI_o s (by decide)]; exact b
  · rw [mI_o s (by decide)]; exact c
  · rw [mI_o s (by decide)]; exact d
  · rw [mI_x s, e1]; omega
  · rw [mI_o s (by decide)]; exact g
  · rw [s.2.2.2.1, s.2.2.2.2]; exact i
  · exact j
  · rw [mSk_top hk]
    unfold mSk
    rw [mI_x s, e2, s.2.2.2.1]
    rfl
  · unfold ms
    rw [mI_o s (by decide), mI_o s (by decide), mEn_o s (by decide) (by decide)]
/-- the depth goes down by one -/
theorem mDn (p : mP h) (s : mSet 32 (tvI (tF h 111 32) - 1) h h3) {k : Nat} (hd : (tvI (tF h 111 32)).toInt = ((k + 1 : Nat) : Int)) (hk : k = mDp (mSk h)) : mP h3 ∧ mSk h3 = mSk h ∧ ms h3 = ms h ∧ mD h3 := by
  have e1 : (tvI (tF h 111 32) - 1).toInt = (tvI (tF h 111 32)).toInt - 1 := zsub1 (by omega)
  have e2 := mSk_o s (by decide)
  obtain ⟨a, b, c, d, e, g, i, j, t1, t2⟩ := p
  have NN : tN h3 = tN h := s.2.2.2.2
  refine ⟨⟨(mI_o s (by decide)).trans a, ?_, ?_, ?_, ?_, ?_, ?_, ?_, by rw [NN]; exact t1, by rw [NN]; exact t2⟩, e2, ?_, ?_⟩
  · rw [mI_o s (by decide), mI_o s (by decide)]; exact b
  · rw [mI_o s (by decide)]; exact c
  · rw [mI_o s (by decide)]; exact d
  · rw [mI_o s (by decide)]; exact e
  · rw [mI_o s (by decide)]; exact g
  · rw [s.2.2.2.1, s.2.2.2.2]; exact i
  · exact j
  · unfold ms
    rw [mI_o s (by decide), mI_o s (by decide), mEn_o s (by decide) (by decide)]
  · unfold mD
    rw [mI_x s, e1, e2, hd, hk]
    omega
theorem mUp (p : mP h) (s : mSet 32 (tvI (tF h 111 32) + 1) h h3) {k : Nat} (hd : (tvI (tF h 111 32)).toInt = (k : Int)) (hk : k ≤ 1000) : mP h3 ∧ mSk h3 = mSk h ∧ ms h3 = ms h ∧ (tvI (tF h3 111 32)).toInt = ((k + 1 : Nat) : Int) := by
  have e1 := zincN hd (by omega)
  have e2 := mSk_o s (by decide)
  obtain ⟨a, b, c, d, e, g, i, j, t1, t2⟩ := p
  have NN : tN h3 = tN h := s.2.2.2.2
  refine ⟨⟨(mI_o s (by decide)).trans a, ?_, ?_, ?_, ?_, ?_, ?_, ?_, by rw [NN]; exact t1, by rw [NN]; exact t2⟩, e2, ?_, ?_⟩
  · rw [mI_o s (by decide), mI_o s (by decide)]; exact b
  · rw [mI_o s (by decide)]; exact c
  · rw [mI_o s (by decide)]; exact d
  · rw [mI_o s (by decide)]; exact e
  · rw [mI_o s (by decide)]; exact g
  · rw [s.2.2.2.1, s.2.2.2.2]; exact i
  · exact j
  · unfold ms
    rw [mI_o s (by decide), mI_o s (by decide), mEn_o s (by decide) (by decide)]
  · rw [mI_x s, e1]
/-- laid on the pile -/
theorem mPush {x : Int32} {kd : Nat} (hs : tSh h) (p : mP h) (hx : 0 ≤ x.toInt) (hf : tIn h 142 kd (tvI (tF h 111 34))) (hf2 : tFd (tSA h 142 (tvI (tF h 111 34)).toNatClampNeg x) 111 34) : mFr h (tSF (tSA h 142 (tvI (tF h 111 34)).toNatClampNeg x) 111 34 (.int (tvI (tF h 111 34) + 1))) ∧ mP (tSF (tSA h 142 (tvI (tF h 111 34)).toNatClampNeg x) 111 34 (.int (tvI (tF h 111 34) + 1))) ∧ mSk (tSF (tSA h 142 (tvI (tF h 111 34)).toNatClampNeg x) 111 34 (.int (tvI (tF h 111 34) + 1))) = x.toNatClampNeg :: mSk h ∧ ms (tSF (tSA h 142 (tvI (tF h 111 34)).toNatClampNeg x) 111 34 (.int (tvI (tF h 111 34) + 1))) = ms h ∧ tF (tSF (tSA h 142 (tvI (tF h 111 34)).toNatClampNeg x) 111 34 (.int (tvI (tF h 111 34) + 1))) 111 32 = tF h 111 32 := by
  have hw := hw_111_34 (x := tvI (tF h 111 34) + 1) hf2 (tSh_SA hs)
  have e := mSet_of hf2 hw
  generalize tSF (tSA h 142 (tvI (tF h 111 34)).toNatClampNeg x) 111 34 (.int (tvI (tF h 111 34) + 1)) = h3 at e
  have hF : ∀ b, b ≠ 34 → tF h3 111 b = tF h 111 b := fun b hb => (mI_o e hb).trans (by rw [tF_tSA])
  have h34 : tvI (tF h3 111 34) = tvI (tF h 111 34) + 1 := mI_x e
  have hA : tA h3 = fun p q => if p = 142 ∧ q = (tvI (tF h 111 34)).toNatClampNeg then x else tA h p q := e.2.2.2.1.trans (tA_tSA hf.cell _ _)
  have hr := hf.rg
  have e0 : (tvI (tF h 111 34)).toInt = ((tvI (tF h 111 34)).toNatClampNeg : Int) := by rw [zclE]; omega
  have hl := p.2.2.2.2.2.2.2.2.2
  have e1 := zincN e0 (by omega)
  have e2 : (tvI (tF h 111 34) + 1).toNatClampNeg = (tvI (tF h 111 34)).toNatClampNeg + 1 := zof_cl e1
  have hE : ∀ p, p ≠ 142 → tA h3 p = tA h p := fun p hp => by rw [hA]; funext q; exact if_neg (fun w => hp w.1)
  obtain ⟨a, b, c, d, e9, g, i, j, t1, t2⟩ := p
  have NN : tN h3 = tN h := e.2.2.2.2.trans (tN_tSA _ _ _ _)
  refine ⟨⟨e.1, fun p q z => (e.2.2.1 p q (fun w => z ⟨w.1, by unfold mFs; omega⟩)).trans (by rw [tF_tSA]), fun p _ _ z => hE p z, NN, mLo_p (hE 133 (by decide)) (hE 134 (by decide))⟩, ⟨(hF 29 (by decide)).trans a, ?_, ?_, ?_, ?_, ?_, ?_, ?_, by rw [NN]; exact t1, by rw [NN]; exact t2⟩, ?_, ?_, hF 32 (by decide)⟩
  · rw [hF 28 (by decide), hF 27 (by decide)]; exact b
  · rw [hF 33 (by decide)]; exact c
  · rw [hF 31 (by decide)]; exact d
  · rw [h34, e1]; omega
  · rw [hF 30 (by decide)]; exact g
  · intro q hq
    rw [NN] at hq
    rw [hA]
    show 0 ≤ (if 142 = 142 ∧ q = _ then x else tA h 142 q : Int32).toInt
    by_cases z : q = (tvI (tF h 111 34)).toNatClampNeg
    · rw [if_pos ⟨rfl, z⟩]; exact hx
    · rw [if_neg (fun w => z w.2)]; exact i q hq
  · exact j
  · unfold mSk
    rw [h34, e2, List.range_succ, List.map_append, List.reverse_append, hA]
    show [(if 142 = 142 ∧ (tvI (tF h 111 34)).toNatClampNeg = (tvI (tF h 111 34)).toNatClampNeg then x else _ : Int32).toNatClampNeg] ++ _ = _
    rw [if_pos ⟨rfl, rfl⟩]
    refine congrArg (fun z => x.toNatClampNeg :: z) (congrArg List.reverse (List.map_congr_left (fun i hi => ?_)))
    have hi := List.mem_range.mp hi
    show (if 142 = 142 ∧ i = _ then x else tA h 142 i : Int32).toNatClampNeg = _
    rw [if_neg (fun z => by omega)]
  · unfold ms mEn
    rw [hF 28 (by decide), hF 33 (by decide), hF 31 (by decide), hF 30 (by decide), hE 133 (by decide), hE 134 (by decide)]
/-- told on -/
theorem mEnt {s v : Int32} {k1 k2 : Nat} {i1 i2 : Int32} (hs : tSh h) (p : mP h) (h0 : 0 ≤ s.toInt ∧ 0 ≤ v.toInt) (hi1 : i1 = 500 * tvI (tF h 111 30) + tvI (tF h 111 31)) (hi2 : i2 = 500 * tvI (tF h 111 30) + tvI (tF h 111 31)) (f1 : tIn h 133 k1 i1) (f2 : tIn (tSA h 133 i1.toNatClampNeg s) 134 k2 i2) (f3 : tFd (tSA (tSA h 133 i1.toNatClampNeg s) 134 i2.toNatClampNeg v) 111 31) : mFr h (tSF (tSA (tSA h 133 i1.toNatClampNeg s) 134 i2.toNatClampNeg v) 111 31 (.int (tvI (tF h 111 31) + 1))) ∧ mP (tSF (tSA (tSA h 133 i1.toNatClampNeg s) 134 i2.toNatClampNeg v) 111 31 (.int (tvI (tF h 111 31) + 1))) ∧ mSk (tSF (tSA (tSA h 133 i1.toNatClampNeg s) 134 i2.toNatClampNeg v) 111 31 (.int (tvI (tF h 111 31) + 1))) = mSk h ∧ ms (tSF (tSA (tSA h 133 i1.toNatClampNeg s) 134 i2.toNatClampNeg v) 111 31 (.int (tvI (tF h 111 31) + 1))) = rU (mCode s.toNatClampNeg v.toNatClampNeg) (ms h) ∧ tF (tSF (tSA (tSA h 133 i1.toNatClampNeg s) 134 i2.toNatClampNeg v) 111 31 (.int (tvI (tF h 111 31) + 1))) 111 32 = tF h 111 32 := by
  have hw := hw_111_31 (x := tvI (tF h 111 31) + 1) f3 (tSh_SA (tSh_SA hs))
  have e := mSet_of f3 hw
  have hr := f1.rg
  generalize tSF (tSA (tSA h 133 i1.toNatClampNeg s) 134 i2.toNatClampNeg v) 111 31 (.int (tvI (tF h 111 31) + 1)) = h3 at e
  have hF : ∀ b, b ≠ 31 → tF h3 111 b = tF h 111 b := fun b hb => (mI_o e hb).trans (by rw [tF_tSA, tF_tSA])
  have h31 : tvI (tF h3 111 31) = tvI (tF h 111 31) + 1 := mI_x e
  have hA : tA h3 = fun p q => if p = 134 ∧ q = i2.toNatClampNeg then v else if p = 133 ∧ q = i1.toNatClampNeg then s else tA h p q := e.2.2.2.1.trans ((tA_tSA f2.cell _ _).trans (by rw [tA_tSA f1.cell]))
  obtain ⟨a, b, c, d, e9, g, i, j, t1, t2⟩ := p
  have n1 : (500 * tvI (tF h 111 30)).toInt = 500 * (tvI (tF h 111 30)).toInt := by
    rw [Int32.toInt_mul, show (500 : Int32).toInt = 500 from rfl]
    exact Int.bmod_eq_of_le (by show (-2147483648 : Int) ≤ 500 * (tvI (tF h 111 30)).toInt; omega) (by show 500 * (tvI (tF h 111 30)).toInt < (2147483648 : Int); omega)
  have n2 : i1.toInt = 500 * (tvI (tF h 111 30)).toInt + (tvI (tF h 111 31)).toInt := by
    rw [hi1, Int32.toInt_add, n1]
    exact Int.bmod_eq_of_le (by show (-2147483648 : Int) ≤ 500 * (tvI (tF h 111 30)).toInt + (tvI (tF h 111 31)).toInt; omega) (by show 500 * (tvI (tF h 111 30)).toInt + (tvI (tF h 111 31)).toInt < (2147483648 : Int); omega)
  have n3 : i1.toNatClampNeg = 500 * (tvI (tF h 111 30)).toNatClampNeg + (tvI (tF h 111 31)).toNatClampNeg := by
    rw [zclE, zclE, zclE, n2]
    omega
  have n4 : i2 = i1 := hi2.trans hi1.symm
  have e0 : (tvI (tF h 111 31)).toInt = ((tvI (tF h 111 31)).toNatClampNeg : Int) := by rw [zclE]; omega
  have e1 := zincN e0 (by omega)
  have e2 : (tvI (tF h 111 31) + 1).toNatClampNeg = (tvI (tF h 111 31)).toNatClampNeg + 1 := zof_cl e1
  have hE : ∀ p, p ≠ 133 → p ≠ 134 → tA h3 p = tA h p := fun p hp hq => by
    rw [hA]; funext q
    show (if p = 134 ∧ q = _ then v else if p = 133 ∧ q = _ then s else tA h p q) = _
    rw [if_neg (fun w => hq w.1), if_neg (fun w => hp w.1)]
  have hS : tA h3 133 = fun q => if q = i1.toNatClampNeg then s else tA h 133 q := by
    rw [hA]; funext q
    show (if 133 = 134 ∧ q = _ then v else if 133 = 133 ∧ q = _ then s else tA h 133 q) = _
    rw [if_neg (fun w => absurd w.1 (by decide))]
    by_cases z : q = i1.toNatClampNeg
    · rw [if_pos ⟨rfl, z⟩, if_pos z]
    · rw [if_neg (fun w => z w.2), if_neg z]
  have hV : tA h3 134 = fun q => if q = i1.toNatClampNeg then v else tA h 134 q := by
    rw [hA]; funext q
    show (if 134 = 134 ∧ q = i2.toNatClampNeg then v else if 134 = 133 ∧ q = _ then s else tA h 134 q) = _
    rw [n4]
    by_cases z : q = i1.toNatClampNeg
    · rw [if_pos ⟨rfl, z⟩, if_pos z]
    · rw [if_neg (fun w => z w.2), if_neg z, if_neg (fun w => absurd w.1 (by decide))]
  have NN : tN h3 = tN h := e.2.2.2.2.trans ((tN_tSA _ _ _ _).trans (tN_tSA _ _ _ _))
  refine ⟨⟨e.1, fun p q z => (e.2.2.1 p q (fun w => z ⟨w.1, by unfold mFs; omega⟩)).trans (by rw [tF_tSA, tF_tSA]), fun p z y _ => hE p z y, NN, fun q hq => ⟨by rw [hS]; exact if_neg (by rw [n3]; omega), by rw [hV]; exact if_neg (by rw [n3]; omega)⟩⟩, ⟨(hF 29 (by decide)).trans a, ?_, ?_, ?_, ?_, ?_, ?_, ?_, by rw [NN]; exact t1, by rw [NN]; exact t2⟩, ?_, ?_, hF 32 (by decide)⟩
  · rw [hF 28 (by decide), hF 27 (by decide)]; exact b
  · rw [hF 33 (by decide)]; exact c
  · rw [h31, e1]; constructor <;> omega
  · rw [hF 34 (by decide)]; exact e9
  · rw [hF 30 (by decide)]; exact g
  · rw [hE 142 (by decide) (by decide), NN]; exact i
  · exact j
  · unfold mSk
    rw [hF 34 (by decide), hE 142 (by decide) (by decide)]
  · unfold ms rU mEn
    rw [hF 28 (by decide), hF 33 (by decide), hF 30 (by decide), h31, e2, List.range_succ, List.map_append, hS, hV]
    refine Prod.ext rfl (Prod.ext rfl ?_)
    show List.map _ _ ++ [mCode _ _] = List.map _ _ ++ [_]
    refine congr (congrArg HAppend.hAppend (List.map_congr_left (fun i hi => ?_))) ?_
    · have hi := List.mem_range.mp hi
      dsimp only
      rw [if_neg (by rw [n3]; omega), if_neg (by rw [n3]; omega)]
    · show [mCode (if _ = i1.toNatClampNeg then s else _ : Int32).toNatClampNeg (if _ = i1.toNatClampNeg then v else _ : Int32).toNatClampNeg] = _
      rw [if_pos n3.symm, if_pos n3.symm]
/-- a whole step's frame -/
noncomputable def mFq (h h2 : zH) : Prop := tSh h2 ∧ (∀ p b, ¬ (p = 111 ∧ (mFs b ∨ b = 46)) → tF h2 p b = tF h p b) ∧ (∀ p, p ≠ 133 → p ≠ 134 → p ≠ 142 → tA h2 p = tA h p) ∧ tN h2 = tN h ∧ mLo h h2
theorem mFq_f (k : mFr h h2) : mFq h h2 := ⟨k.1, fun p b z => k.2.1 p b (fun w => z ⟨w.1, Or.inl w.2⟩), k.2.2.1, k.2.2.2⟩
theorem mFq_t (a : mFq h h1) (k : mFq h1 h2) : mFq h h2 := ⟨k.1, fun p q z => (k.2.1 p q z).trans (a.2.1 p q z), fun p z w y => (k.2.2.1 p z w y).trans (a.2.2.1 p z w y), k.2.2.2.1.trans a.2.2.2.1, mLo_t (a.2.1 111 30 (fun z => by have z := z.2; unfold mFs at z; omega)) a.2.2.2.2 k.2.2.2.2⟩
theorem mFq_s (a : mFq h h1) (k : mSet b X h1 h2) (hb : mFs b ∨ b = 46) : mFq h h2 := ⟨k.1, fun p q z => (k.2.2.1 p q (fun w => z ⟨w.1, w.2.symm ▸ hb⟩)).trans (a.2.1 p q z), fun p z w y => (congrFun k.2.2.2.1 p).trans (a.2.2.1 p z w y), k.2.2.2.2.trans a.2.2.2.1, mLo_A k.2.2.2.1 a.2.2.2.2⟩
theorem mFq_T (a : mFq h h1) : tA h1 132 = tA h 132 := a.2.2.1 132 (by decide) (by decide) (by decide)
theorem mFq_n (a : mFq h h1) : mn h1 = mn h := by
  unfold mn
  rw [a.2.1 111 27 (fun z => by have z := z.2; unfold mFs at z; omega)]
noncomputable def mFw (h h2 : zH) : Prop := tSh h2 ∧ (∀ p b, ¬ (p = 111 ∧ (mFs b ∨ b = 46 ∨ b = 47)) → tF h2 p b = tF h p b) ∧ (∀ p, p ≠ 133 → p ≠ 134 → p ≠ 142 → tA h2 p = tA h p) ∧ tN h2 = tN h ∧ mLo h h2
theorem mFw_q (k : mFq h h2) : mFw h h2 := ⟨k.1, fun p b z => k.2.1 p b (fun w => z ⟨w.1, w.2.elim Or.inl (fun y => Or.inr (Or.inl y))⟩), k.2.2.1, k.2.2.2⟩
theorem mFw_t (a : mFw h h1) (k : mFw h1 h2) : mFw h h2 := ⟨k.1, fun p q z => (k.2.1 p q z).trans (a.2.1 p q z), fun p z w y => (k.2.2.1 p z w y).trans (a.2.2.1 p z w y), k.2.2.2.1.trans a.2.2.2.1, mLo_t (a.2.1 111 30 (fun z => by have z := z.2; unfold mFs at z; omega)) a.2.2.2.2 k.2.2.2.2⟩
theorem mFw_s (a : mFw h h1) (k : mSet b X h1 h2) (hb : mFs b ∨ b = 46 ∨ b = 47) : mFw h h2 := ⟨k.1, fun p q z => (k.2.2.1 p q (fun w => z ⟨w.1, w.2.symm ▸ hb⟩)).trans (a.2.1 p q z), fun p z w y => (congrFun k.2.2.2.1 p).trans (a.2.2.1 p z w y), k.2.2.2.2.trans a.2.2.2.1, mLo_A k.2.2.2.1 a.2.2.2.2⟩
theorem mFw_T (a : mFw h h1) : tA h1 132 = tA h 132 := a.2.2.1 132 (by decide) (by decide) (by decide)
theorem mFw_i {q : Nat} (a : mFw h h1) (hq : ¬ (mFs q ∨ q = 46 ∨ q = 47)) : tF h1 111 q = tF h 111 q := a.2.1 111 q (fun z => hq z.2)
theorem mFq_47 (a : mFq h h1) : tF h1 111 47 = tF h 111 47 := a.2.1 111 47 (fun z => by have z := z.2; unfold mFs at z; omega)
theorem mFw_27 (a : mFw h h1) : tF h1 111 27 = tF h 111 27 := mFw_i a (fun z => by unfold mFs at z; omega)
theorem mFw_n (a : mFw h h1) : mn h1 = mn h := by
  unfold mn
  rw [mFw_27 a]
noncomputable def stN (x : Int32) : Nat := if x.toInt < 0 then 99 else x.toInt.toNat
noncomputable def mst (h : zH) : rMs := (stN (tvI (tF h 111 46)), mSk h, ms h)
end MF
/-- a byte, or -1 behind the end -/
noncomputable def sgm (T : Nat → Int32) (n p : Nat) (c : Int32) : Prop := (p < n ∧ c = T p) ∨ (¬ p < n ∧ c = -1)
theorem sgm_k {T : Nat → Int32} {n p : Nat} {c : Int32} (s : sgm T n p c) (k : Int32) (hk : 0 ≤ k.toInt) : c = k ↔ p < n ∧ T p = k := by
  rcases s with ⟨a, rfl⟩ | ⟨a, rfl⟩
  · exact ⟨fun z => ⟨a, z⟩, fun z => z.2⟩
  · exact ⟨fun z => by rw [← z] at hk; exact absurd hk (by decide), fun z => absurd z.1 a⟩
theorem sgm_d {T : Nat → Int32} {n p : Nat} {c : Int32} (s : sgm T n p c) : (48 ≤ c.toInt ∧ c.toInt ≤ 57) ↔ (p < n ∧ 48 ≤ (T p).toInt ∧ (T p).toInt ≤ 57) := by
  rcases s with ⟨a, rfl⟩ | ⟨a, rfl⟩
  · exact ⟨fun z => ⟨a, z⟩, fun z => z.2⟩
  · have : ((-1 : Int32)).toInt = -1 := by decide
    exact ⟨fun z => by omega, fun z => absurd z.1 a⟩
theorem mpos {h : zH} (hf : 0 ≤ (tvI (tF h 111 28)).toInt ∧ 0 ≤ (tvI (tF h 111 27)).toInt) : ((tvI (tF h 111 28)).toInt < (tvI (tF h 111 27)).toInt) ↔ (ms h).1 < mn h := by
  show _ ↔ (tvI (tF h 111 28)).toNatClampNeg < (tvI (tF h 111 27)).toNatClampNeg
  rw [zclE, zclE]
  omega
theorem g_sign {G : zG} (hG : G.1 = zProg) (hX : G.2.1 = ztx) {h : zH} {T : Nat → Int32} {n : Nat} (hs : tSh h) (hT : tA h 132 = T) (hN : mn h = n) (h0 : 0 ≤ (tvI (tF h 111 28)).toInt ∧ 0 ≤ (tvI (tF h 111 27)).toInt) : tC zTt G 202 [.ref 111] h (fun w h2 => (∃ c, w = some (.int c) ∧ sgm T n (ms h).1 c) ∧ h = h2) := by
  refine tC_in (by rw [hG]; rfl) (fun dp => ?_)
  have g0 := mFr_r hs
  refine tw_aload rfl rfl ?_
  refine tw_getS rfl (hi_111_28 hs) ?_
  refine tw_aload rfl rfl ?_
  refine tw_getS rfl (hi_111_27 hs) ?_
  refine tw_ic_ge rfl (fun q473 => ?_) (fun q473 => ?_)
  · try dsimp only [tvI_i, tvJ_j, tvR_r] at q473
    refine tw_push rfl ?_
    exact tw_iret rfl ⟨⟨_, rfl, Or.inr ⟨fun z => absurd ((mpos h0).mpr (by rw [hN]; exact z)) (Int.not_lt.mpr q473), rfl⟩⟩, rfl⟩
  · try dsimp only [tvI_i, tvJ_j, tvR_r] at q473
    refine tw_aload rfl rfl ?_
    refine tw_getS rfl (hs_111_35 hs) ?_
    refine tw_aload rfl rfl ?_
    refine tw_getS rfl (hi_111_28 hs) ?_
    refine tw_bald rfl (fun f474 => ?_)
    refine tw_goto rfl ?_
    exact tw_iret rfl ⟨⟨_, rfl, Or.inl ⟨by rw [← hN]; exact (mpos h0).mp q473, congrFun hT _⟩⟩, rfl⟩
theorem g_isDigit {G : zG} (hG : G.1 = zProg) {h : zH} {c : Int32} : tC zTt G 204 [.int c] h (fun w h2 => tBo (48 ≤ c.toInt ∧ c.toInt ≤ 57) w ∧ h = h2) := by
  refine tC_in (by rw [hG]; rfl) (fun dp => ?_)
  refine tw_iload rfl rfl ?_
  refine tw_push rfl ?_
  refine tw_ic_lt rfl (fun q475 => ?_) (fun q475 => ?_)
  · try dsimp only [tvI_i, tvJ_j, tvR_r] at q475
    refine tw_push rfl ?_
    have c489 : (48 : Int32).toInt = 48 := rfl
    have c579 : (57 : Int32).toInt = 57 := rfl
    exact tw_iret rfl ⟨Or.inr ⟨by omega, rfl⟩, rfl⟩
  · try dsimp only [tvI_i, tvJ_j, tvR_r] at q475
    refine tw_iload rfl rfl ?_
    refine tw_push rfl ?_
    refine tw_ic_gt rfl (fun q476 => ?_) (fun q476 => ?_)
    · try dsimp only [tvI_i, tvJ_j, tvR_r] at q476
      refine tw_push rfl ?_
      have c489 : (48 : Int32).toInt = 48 := rfl
      have c579 : (57 : Int32).toInt = 57 := rfl
      exact tw_iret rfl ⟨Or.inr ⟨by omega, rfl⟩, rfl⟩
    · try dsimp only [tvI_i, tvJ_j, tvR_r] at q476
      refine tw_push rfl ?_
      refine tw_goto rfl ?_
      have c489 : (48 : Int32).toInt = 48 := rfl
      have c579 : (57 : Int32).toInt = 57 := rfl
      exact tw_iret rfl ⟨Or.inl ⟨by omega, rfl⟩, rfl⟩
theorem g_blanks {G : zG} (hG : G.1 = zProg) (hX : G.2.1 = ztx) {h : zH} {T : Nat → Int32} {n : Nat} (hs : tSh h) (hp : mP h) (hT : tA h 132 = T) (hN : mn h = n)  : tC zTt G 203 [.ref 111] h (fun w h2 => w = none ∧ mFr h h2 ∧ mP h2 ∧ ms h2 = rA (rB T n (ms h).1) (ms h) ∧ mSk h2 = mSk h ∧ tF h2 111 32 = tF h 111 32) := by
  refine tC_in (by rw [hG]; rfl) (fun dp => ?_)
  have g0 := mFr_r hs
  have hpn : (ms h).1 ≤ n := mPle hp hN
  refine tG_loop (zW_mono zTt G dp) (zW_conj zTt G dp) (V := fun pc L st h9 _ _ => pc = 0 ∧ st = [] ∧ ∃ h1, h1 = h9 ∧ mFr h h1 ∧ mP h1 ∧ (ms h1).2 = (ms h).2 ∧ mSk h1 = mSk h ∧ tF h1 111 32 = tF h 111 32 ∧ rB T n (ms h1).1 = rB T n (ms h).1 ∧ L = [some (.ref 111)]) ?_ (⟨rfl, rfl, _, rfl, g0, hp, rfl, rfl, rfl, rfl, rfl⟩)
  rintro _ _ _ _ _ _ ⟨rfl, rfl, h1, rfl, g1, p1, e1, e2, e3, e4, rfl⟩
  refine tw_aload rfl rfl ?_
  refine tw_virt0 rfl (g_sign hG hX (g1).1 ((mFr_T g1).trans hT) ((mFr_n g1).trans hN) ⟨p1.2.1.1, by have := p1.2.1; omega⟩) (fun wp477 hp477 p477 => ?_)
  obtain ⟨⟨cp477, rfl, kp477⟩, rfl⟩ := p477
  refine tw_push rfl ?_
  refine tw_ic_ne rfl (fun q478 => ?_) (fun q478 => ?_)
  · try dsimp only [tvI_i, tvJ_j, tvR_r] at q478
    have q478i := zneq (Y := 32) (by decide) q478
    have hb : (ms h1).1 = rB T n (ms h).1 := by rw [← e4, rB_n (fun z => q478 ((sgm_k kp477 32 (by decide)).mpr z))]
    exact tw_vret rfl ⟨rfl, g1, p1, Prod.ext hb e1, e2, e3⟩
  · try dsimp only [tvI_i, tvJ_j, tvR_r] at q478
    have q478i := zeqi (Y := 32) (by decide) q478
    refine tw_aload rfl rfl ?_
    refine tw_dup rfl ?_
    refine tw_getS rfl (hi_111_28 (g1).1) ?_
    refine tw_push rfl ?_
    refine tw_iadd rfl ?_
    refine tw_put rfl (fun f479 => ?_)
    refine tG_setm f479 (hw_111_28 f479 (g1).1) (fun hf479 ef479 => ?_)
    try dsimp only [tvI_i] at ef479
    have gf479 := mFr_s g1 ef479 (by unfold mFs; omega)
    have wf479 := (sgm_k kp477 32 (by decide)).mp q478
    obtain ⟨pf479, sf479, tf479⟩ := mTo p1 ((mFr_n g1).trans hN) ef479 (v := (ms h1).1 + 1) (zincN (mPl p1) (by have := mPle p1 ((mFr_n g1).trans hN); have := p1.2.1; have := mNl p1 ((mFr_n g1).trans hN); omega)) wf479.1
    refine tw_goto rfl ?_
    exact tG_cut (zW_mono zTt G dp) (Or.inr ⟨rfl, rfl, _, rfl, gf479, pf479, (by rw [sf479]; exact e1), tf479.trans e2, (mI_o ef479 (by decide)).trans e3, (by rw [sf479]; exact (rB_y wf479).symm.trans e4), rfl⟩)
theorem z_blanks {G : zG} (hG : G.1 = zProg) (hX : G.2.1 = ztx) {h : zH} {T : Nat → Int32} {n : Nat} (hs : tSh h) {ef : Nat} (hp : mFt h ef) (hT : tA h 132 = T) (hN : mn h = n) (h0 : 0 ≤ (tvI (tF h 111 28)).toInt ∧ 0 ≤ (tvI (tF h 111 27)).toInt) : tC zTt G 203 [.ref 111] h (fun w h2 => w = none ∧ mFr h h2 ∧ mFt h2 ef ∧ (0 ≤ (tvI (tF h2 111 28)).toInt ∧ 0 ≤ (tvI (tF h2 111 27)).toInt)) := by
  refine tC_in (by rw [hG]; rfl) (fun dp => ?_)
  have g0 := mFr_r hs
  refine tG_loop (zW_mono zTt G dp) (zW_conj zTt G dp) (V := fun pc L st h9 _ _ => pc = 0 ∧ st = [] ∧ ∃ h1, h1 = h9 ∧ mFr h h1 ∧ mFt h1 ef ∧ (0 ≤ (tvI (tF h1 111 28)).toInt ∧ 0 ≤ (tvI (tF h1 111 27)).toInt) ∧ L = [some (.ref 111)]) ?_ (⟨rfl, rfl, _, rfl, g0, hp, h0, rfl⟩)
  rintro _ _ _ _ _ _ ⟨rfl, rfl, h1, rfl, g1, z1, h0, rfl⟩
  refine tw_aload rfl rfl ?_
  refine tw_virt0 rfl (g_sign hG hX (g1).1 ((mFr_T g1).trans hT) ((mFr_n g1).trans hN) h0) (fun wp480 hp480 p480 => ?_)
  obtain ⟨⟨cp480, rfl, kp480⟩, rfl⟩ := p480
  refine tw_push rfl ?_
  refine tw_ic_ne rfl (fun q481 => ?_) (fun q481 => ?_)
  · try dsimp only [tvI_i, tvJ_j, tvR_r] at q481
    have q481i := zneq (Y := 32) (by decide) q481
    exact tw_vret rfl ⟨rfl, g1, z1, h0⟩
  · try dsimp only [tvI_i, tvJ_j, tvR_r] at q481
    have q481i := zeqi (Y := 32) (by decide) q481
    refine tw_aload rfl rfl ?_
    refine tw_dup rfl ?_
    refine tw_getS rfl (hi_111_28 (g1).1) ?_
    refine tw_push rfl ?_
    refine tw_iadd rfl ?_
    refine tw_put rfl (fun f482 => ?_)
    refine tG_setm f482 (hw_111_28 f482 (g1).1) (fun hf482 ef482 => ?_)
    try dsimp only [tvI_i] at ef482
    have gf482 := mFr_s g1 ef482 (by unfold mFs; omega)
    have zf482 := mFt_s z1 ef482 (by decide)
    have wf482 := (sgm_k kp480 32 (by decide)).mp q481
    have if482 : 0 ≤ (tvI (tF hf482 111 28)).toInt ∧ 0 ≤ (tvI (tF hf482 111 27)).toInt := by rw [mI_x ef482, mI_o ef482 (by decide)]; have y := (mpos h0).mpr (by rw [((mFr_n g1).trans hN)]; exact wf482.1); exact ⟨by rw [zj1 h0.1 y]; omega, h0.2⟩
    refine tw_goto rfl ?_
    exact tG_cut (zW_mono zTt G dp) (Or.inr ⟨rfl, rfl, _, rfl, gf482, zf482, if482, rfl⟩)
theorem g_fails {G : zG} (hG : G.1 = zProg) (hX : G.2.1 = ztx) {h : zH} {T : Nat → Int32} {n : Nat} (hs : tSh h) (hp : mP h) (hT : tA h 132 = T) (hN : mn h = n) {y a : Int32} {w b : Nat} (hw : y.toInt = w) (hw7 : w ≤ 7) (hb : a.toInt = b) (hb4 : b ≤ 400) : tC zTt G 201 [.ref 111, .int y, .int a] h (fun w9 h2 => w9 = none ∧ mFr h h2 ∧ mFt h2 (1 + 8 * b + w) ∧ tF h2 111 28 = tF h 111 28 ∧ tF h2 111 27 = tF h 111 27) := by
  refine tC_in (by rw [hG]; rfl) (fun dp => ?_)
  have g0 := mFr_r hs
  have hpn : (ms h).1 ≤ n := mPle hp hN
  refine tw_aload rfl rfl ?_
  refine tw_aload rfl rfl ?_
  refine tw_getS rfl (hi_111_29 hs) ?_
  refine tw_if_ne rfl (fun q483 => ?_) (fun q483 => ?_)
  · try dsimp only [tvI_i, tvJ_j, tvR_r] at q483
    have q483i := zneq (Y := 0) (by decide) q483
    refine tw_aload rfl rfl ?_
    refine tw_getS rfl (hi_111_29 hs) ?_
    refine tw_put rfl (fun f484 => ?_)
    refine tG_setm f484 (hw_111_29 f484 (g0).1) (fun hf484 ef484 => ?_)
    try dsimp only [tvI_i] at ef484
    have gf484 := mFr_s g0 ef484 (by unfold mFs; omega)
    exact absurd (mP_0 hp) q483
  · try dsimp only [tvI_i, tvJ_j, tvR_r] at q483
    have q483i := zeqi (Y := 0) (by decide) q483
    refine tw_push rfl ?_
    refine tw_push rfl ?_
    refine tw_iload rfl rfl ?_
    refine tw_imul rfl ?_
    refine tw_iadd rfl ?_
    refine tw_iload rfl rfl ?_
    refine tw_iadd rfl ?_
    refine tw_goto rfl ?_
    refine tw_put rfl (fun f485 => ?_)
    refine tG_setm f485 (hw_111_29 f485 (g0).1) (fun hf485 ef485 => ?_)
    try dsimp only [tvI_i] at ef485
    have gf485 := mFr_s g0 ef485 (by unfold mFs; omega)
    exact tw_vret rfl ⟨rfl, gf485, mFt_of ef485 hb hb4 hw hw7, mI_o ef485 (by decide), mI_o ef485 (by decide)⟩
theorem z_fails {G : zG} (hG : G.1 = zProg) (hX : G.2.1 = ztx) {h : zH} {T : Nat → Int32} {n : Nat} (hs : tSh h) {ef : Nat} (hp : mFt h ef) (hT : tA h 132 = T) (hN : mn h = n) {y a : Int32} : tC zTt G 201 [.ref 111, .int y, .int a] h (fun w9 h2 => w9 = none ∧ mFr h h2 ∧ mFt h2 ef ∧ tF h2 111 28 = tF h 111 28 ∧ tF h2 111 27 = tF h 111 27) := by
  refine tC_in (by rw [hG]; rfl) (fun dp => ?_)
  have g0 := mFr_r hs
  refine tw_aload rfl rfl ?_
  refine tw_aload rfl rfl ?_
  refine tw_getS rfl (hi_111_29 hs) ?_
  refine tw_if_ne rfl (fun q486 => ?_) (fun q486 => ?_)
  · try dsimp only [tvI_i, tvJ_j, tvR_r] at q486
    have q486i := zneq (Y := 0) (by decide) q486
    refine tw_aload rfl rfl ?_
    refine tw_getS rfl (hi_111_29 hs) ?_
    refine tw_put rfl (fun f487 => ?_)
    refine tG_setm f487 (hw_111_29 f487 (g0).1) (fun hf487 ef487 => ?_)
    try dsimp only [tvI_i] at ef487
    have gf487 := mFr_s g0 ef487 (by unfold mFs; omega)
    have hz : mFt hf487 ef := ⟨ef487.2.1.trans ((hi_111_29 hs).symm.trans hp.1), hp.2⟩
    exact tw_vret rfl ⟨rfl, gf487, hz, mI_o ef487 (by decide), mI_o ef487 (by decide)⟩
  · try dsimp only [tvI_i, tvJ_j, tvR_r] at q486
    have q486i := zeqi (Y := 0) (by decide) q486
    refine tw_push rfl ?_
    refine tw_push rfl ?_
    refine tw_iload rfl rfl ?_
    refine tw_imul rfl ?_
    refine tw_iadd rfl ?_
    refine tw_iload rfl rfl ?_
    refine tw_iadd rfl ?_
    refine tw_goto rfl ?_
    refine tw_put rfl (fun f488 => ?_)
    refine tG_setm f488 (hw_111_29 f488 (g0).1) (fun hf488 ef488 => ?_)
    try dsimp only [tvI_i] at ef488
    have gf488 := mFr_s g0 ef488 (by unfold mFs; omega)
    exact absurd q486 (mFt_n hp)
theorem mpos_k {h h2 : zH} (h0 : 0 ≤ (tvI (tF h 111 28)).toInt ∧ 0 ≤ (tvI (tF h 111 27)).toInt) (a : tF h2 111 28 = tF h 111 28) (b : tF h2 111 27 = tF h 111 27) : 0 ≤ (tvI (tF h2 111 28)).toInt ∧ 0 ≤ (tvI (tF h2 111 27)).toInt := by rw [a, b]; exact h0
theorem mpos_p {h : zH} (p : mP h) : 0 ≤ (tvI (tF h 111 28)).toInt ∧ 0 ≤ (tvI (tF h 111 27)).toInt := by have := p.2.1; exact ⟨by omega, by omega⟩
theorem m80 {h : zH} (p : mP h) (q : tvI (tF h 111 33) = 80) : (ms h).2.1 = 80 := by
  have e := mCl p
  rw [q] at e
  have : (80 : Int32).toInt = 80 := rfl
  omega
theorem mn80 {h : zH} (p : mP h) (q : ¬ tvI (tF h 111 33) = 80) : (ms h).2.1 ≠ 80 := by
  intro z
  have e := mCl p
  refine q (Int32.toInt_inj.mp ?_)
  have : (80 : Int32).toInt = 80 := rfl
  omega
theorem g_entry {G : zG} (hG : G.1 = zProg) (hX : G.2.1 = ztx) {h : zH} {T : Nat → Int32} {n : Nat} (hs : tSh h) (hp : mP h) (hT : tA h 132 = T) (hN : mn h = n) {s v : Int32} (hv : 0 ≤ s.toInt ∧ 0 ≤ v.toInt) : tC zTt G 206 [.ref 111, .int s, .int v] h (fun w h2 => w = none ∧ mFr h h2 ∧ mP h2 ∧ ms h2 = rU (mCode s.toNatClampNeg v.toNatClampNeg) (ms h) ∧ mSk h2 = mSk h ∧ tF h2 111 32 = tF h 111 32) := by
  refine tC_in (by rw [hG]; rfl) (fun dp => ?_)
  have g0 := mFr_r hs
  have hpn : (ms h).1 ≤ n := mPle hp hN
  refine tw_aload rfl rfl ?_
  refine tw_getS rfl (hi_111_29 hs) ?_
  refine tw_if_ne rfl (fun q489 => ?_) (fun q489 => ?_)
  · try dsimp only [tvI_i, tvJ_j, tvR_r] at q489
    have q489i := zneq (Y := 0) (by decide) q489
    exact absurd (mP_0 hp) q489
  · try dsimp only [tvI_i, tvJ_j, tvR_r] at q489
    have q489i := zeqi (Y := 0) (by decide) q489
    refine tw_aload rfl rfl ?_
    refine tw_getS rfl (hs_111_36 hs) ?_
    refine tw_push rfl ?_
    refine tw_aload rfl rfl ?_
    refine tw_getS rfl (hi_111_30 hs) ?_
    refine tw_imul rfl ?_
    refine tw_aload rfl rfl ?_
    refine tw_getS rfl (hi_111_31 hs) ?_
    refine tw_iadd rfl ?_
    refine tw_iload rfl rfl ?_
    refine tw_iast rfl (fun f490 => ?_)
    refine tw_aload rfl rfl ?_
    refine tw_getS rfl (hs_111_37 (tSh_SA hs)) ?_
    refine tw_push rfl ?_
    refine tw_aload rfl rfl ?_
    refine tw_getS rfl (tF_a (hi_111_30 hs)) ?_
    refine tw_imul rfl ?_
    refine tw_aload rfl rfl ?_
    refine tw_getS rfl (tF_a (hi_111_31 hs)) ?_
    refine tw_iadd rfl ?_
    refine tw_iload rfl rfl ?_
    refine tw_iast rfl (fun f491 => ?_)
    refine tw_aload rfl rfl ?_
    refine tw_dup rfl ?_
    refine tw_getS rfl (tF_a (tF_a (hi_111_31 hs))) ?_
    refine tw_push rfl ?_
    refine tw_iadd rfl ?_
    refine tw_put rfl (fun f492 => ?_)
    have K := mEnt (s := s) (v := v) hs hp hv rfl rfl f490 f491 f492
    exact tw_vret rfl ⟨rfl, K.1, K.2.1, K.2.2.2.1, K.2.2.1, K.2.2.2.2⟩
theorem z_entry {G : zG} (hG : G.1 = zProg) (hX : G.2.1 = ztx) {h : zH} {T : Nat → Int32} {n : Nat} (hs : tSh h) {ef : Nat} (hp : mFt h ef) (hT : tA h 132 = T) (hN : mn h = n) {s v : Int32} : tC zTt G 206 [.ref 111, .int s, .int v] h (fun w h2 => w = none ∧ h2 = h) := by
  refine tC_in (by rw [hG]; rfl) (fun dp => ?_)
  have g0 := mFr_r hs
  refine tw_aload rfl rfl ?_
  refine tw_getS rfl (hi_111_29 hs) ?_
  refine tw_if_ne rfl (fun q493 => ?_) (fun q493 => ?_)
  · try dsimp only [tvI_i, tvJ_j, tvR_r] at q493
    have q493i := zneq (Y := 0) (by decide) q493
    exact tw_vret rfl ⟨rfl, rfl⟩
  · try dsimp only [tvI_i, tvJ_j, tvR_r] at q493
    have q493i := zeqi (Y := 0) (by decide) q493
    refine tw_aload rfl rfl ?_
    refine tw_getS rfl (hs_111_36 hs) ?_
    refine tw_push rfl ?_
    refine tw_aload rfl rfl ?_
    refine tw_getS rfl (hi_111_30 hs) ?_
    refine tw_imul rfl ?_
    refine tw_aload rfl rfl ?_
    refine tw_getS rfl (hi_111_31 hs) ?_
    refine tw_iadd rfl ?_
    refine tw_iload rfl rfl ?_
    refine tw_iast rfl (fun f494 => ?_)
    refine tw_aload rfl rfl ?_
    refine tw_getS rfl (hs_111_37 (tSh_SA hs)) ?_
    refine tw_push rfl ?_
    refine tw_aload rfl rfl ?_
    refine tw_getS rfl (tF_a (hi_111_30 hs)) ?_
    refine tw_imul rfl ?_
    refine tw_aload rfl rfl ?_
    refine tw_getS rfl (tF_a (hi_111_31 hs)) ?_
    refine tw_iadd rfl ?_
    refine tw_iload rfl rfl ?_
    refine tw_iast rfl (fun f495 => ?_)
    refine tw_aload rfl rfl ?_
    refine tw_dup rfl ?_
    refine tw_getS rfl (tF_a (tF_a (hi_111_31 hs))) ?_
    refine tw_push rfl ?_
    refine tw_iadd rfl ?_
    refine tw_put rfl (fun f496 => ?_)
    exact absurd q493 (mFt_n hp)
theorem g_counts {G : zG} (hG : G.1 = zProg) (hX : G.2.1 = ztx) {h : zH} {T : Nat → Int32} {n : Nat} (hs : tSh h) (hp : mP h) (hT : tA h 132 = T) (hN : mn h = n) {a : Int32} {b : Nat} (hb : a.toInt = b) (hb4 : b ≤ 400) : tC zTt G 207 [.ref 111, .int a] h (fun w h2 => w = none ∧ mFr h h2 ∧ (((ms h).2.1 ≠ 80 ∧ mP h2 ∧ ms h2 = ((ms h).1, (ms h).2.1 + 1, (ms h).2.2) ∧ mSk h2 = mSk h ∧ tF h2 111 32 = tF h 111 32) ∨ ((ms h).2.1 = 80 ∧ mFt h2 (1 + 8 * b + 3))) ∧ tF h2 111 28 = tF h 111 28 ∧ tF h2 111 27 = tF h 111 27) := by
  refine tC_in (by rw [hG]; rfl) (fun dp => ?_)
  have g0 := mFr_r hs
  have hpn : (ms h).1 ≤ n := mPle hp hN
  refine tw_aload rfl rfl ?_
  refine tw_getS rfl (hi_111_33 hs) ?_
  refine tw_push rfl ?_
  refine tw_ic_ne rfl (fun q497 => ?_) (fun q497 => ?_)
  · try dsimp only [tvI_i, tvJ_j, tvR_r] at q497
    have q497i := zneq (Y := 80) (by decide) q497
    refine tw_aload rfl rfl ?_
    refine tw_dup rfl ?_
    refine tw_getS rfl (hi_111_33 hs) ?_
    refine tw_push rfl ?_
    refine tw_iadd rfl ?_
    refine tw_put rfl (fun f498 => ?_)
    refine tG_setm f498 (hw_111_33 f498 (g0).1) (fun hf498 ef498 => ?_)
    try dsimp only [tvI_i] at ef498
    have gf498 := mFr_s g0 ef498 (by unfold mFs; omega)
    obtain ⟨pf498, sf498, tf498⟩ := mCnt hp (mn80 hp q497) ef498
    exact tw_vret rfl ⟨rfl, gf498, Or.inl ⟨mn80 hp q497, pf498, sf498, tf498, mI_o ef498 (by decide)⟩, mI_o ef498 (by decide), mI_o ef498 (by decide)⟩
  · try dsimp only [tvI_i, tvJ_j, tvR_r] at q497
    have q497i := zeqi (Y := 80) (by decide) q497
    refine tw_aload rfl rfl ?_
    refine tw_push rfl ?_
    refine tw_iload rfl rfl ?_
    refine tw_virt2 rfl (g_fails hG hX (g0).1 hp ((mFr_T g0).trans hT) ((mFr_n g0).trans hN) (w := 3) (b := b) rfl (by decide) hb hb4) (fun wp499 hp499 p499 => ?_)
    obtain ⟨rfl, gp499, Fp499, ip499, jp499⟩ := p499
    have ggp499 := mFr_t g0 gp499
    refine tw_aload rfl rfl ?_
    refine tw_dup rfl ?_
    refine tw_getS rfl (hi_111_33 ggp499.1) ?_
    refine tw_push rfl ?_
    refine tw_iadd rfl ?_
    refine tw_put rfl (fun f500 => ?_)
    refine tG_setm f500 (hw_111_33 f500 (ggp499).1) (fun hf500 ef500 => ?_)
    try dsimp only [tvI_i] at ef500
    have gf500 := mFr_s ggp499 ef500 (by unfold mFs; omega)
    have zf500 := mFt_s Fp499 ef500 (by decide)
    exact tw_vret rfl ⟨rfl, gf500, Or.inr ⟨m80 hp q497, zf500⟩, (mI_o ef500 (by decide)).trans ip499, (mI_o ef500 (by decide)).trans jp499⟩
theorem z_counts {G : zG} (hG : G.1 = zProg) (hX : G.2.1 = ztx) {h : zH} {T : Nat → Int32} {n : Nat} (hs : tSh h) {ef : Nat} (hp : mFt h ef) (hT : tA h 132 = T) (hN : mn h = n) {a : Int32} : tC zTt G 207 [.ref 111, .int a] h (fun w h2 => w = none ∧ mFr h h2 ∧ mFt h2 ef ∧ tF h2 111 28 = tF h 111 28 ∧ tF h2 111 27 = tF h 111 27) := by
  refine tC_in (by rw [hG]; rfl) (fun dp => ?_)
  have g0 := mFr_r hs
  refine tw_aload rfl rfl ?_
  refine tw_getS rfl (hi_111_33 hs) ?_
  refine tw_push rfl ?_
  refine tw_ic_ne rfl (fun q501 => ?_) (fun q501 => ?_)
  · try dsimp only [tvI_i, tvJ_j, tvR_r] at q501
    have q501i := zneq (Y := 80) (by decide) q501
    refine tw_aload rfl rfl ?_
    refine tw_dup rfl ?_
    refine tw_getS rfl (hi_111_33 hs) ?_
    refine tw_push rfl ?_
    refine tw_iadd rfl ?_
    refine tw_put rfl (fun f502 => ?_)
    refine tG_setm f502 (hw_111_33 f502 (g0).1) (fun hf502 ef502 => ?_)
    try dsimp only [tvI_i] at ef502
    have gf502 := mFr_s g0 ef502 (by unfold mFs; omega)
    have zf502 := mFt_s hp ef502 (by decide)
    exact tw_vret rfl ⟨rfl, gf502, zf502, mI_o ef502 (by decide), mI_o ef502 (by decide)⟩
  · try dsimp only [tvI_i, tvJ_j, tvR_r] at q501
    have q501i := zeqi (Y := 80) (by decide) q501
    refine tw_aload rfl rfl ?_
    refine tw_push rfl ?_
    refine tw_iload rfl rfl ?_
    refine tw_virt2 rfl (z_fails hG hX (g0).1 hp ((mFr_T g0).trans hT) ((mFr_n g0).trans hN)) (fun wp503 hp503 p503 => ?_)
    obtain ⟨rfl, gp503, Fp503, ip503, jp503⟩ := p503
    have ggp503 := mFr_t g0 gp503
    refine tw_aload rfl rfl ?_
    refine tw_dup rfl ?_
    refine tw_getS rfl (hi_111_33 ggp503.1) ?_
    refine tw_push rfl ?_
    refine tw_iadd rfl ?_
    refine tw_put rfl (fun f504 => ?_)
    refine tG_setm f504 (hw_111_33 f504 (ggp503).1) (fun hf504 ef504 => ?_)
    try dsimp only [tvI_i] at ef504
    have gf504 := mFr_s ggp503 ef504 (by unfold mFs; omega)
    have zf504 := mFt_s Fp503 ef504 (by decide)
    exact tw_vret rfl ⟨rfl, gf504, zf504, (mI_o ef504 (by decide)).trans ip503, (mI_o ef504 (by decide)).trans jp503⟩
theorem g_opens {G : zG} (hG : G.1 = zProg) (hX : G.2.1 = ztx) {h : zH} {T : Nat → Int32} {n : Nat} (hs : tSh h) (hp : mP h) (hT : tA h 132 = T) (hN : mn h = n) {x : Int32} (hx0 : 0 ≤ x.toInt) : tC zTt G 208 [.ref 111, .int x] h (fun w h2 => w = none ∧ mFr h h2 ∧ mP h2 ∧ mSk h2 = x.toNatClampNeg :: mSk h ∧ ms h2 = ms h ∧ tF h2 111 32 = tF h 111 32) := by
  refine tC_in (by rw [hG]; rfl) (fun dp => ?_)
  have g0 := mFr_r hs
  have hpn : (ms h).1 ≤ n := mPle hp hN
  refine tw_aload rfl rfl ?_
  refine tw_getS rfl (hs_111_45 hs) ?_
  refine tw_aload rfl rfl ?_
  refine tw_getS rfl (hi_111_34 hs) ?_
  refine tw_iload rfl rfl ?_
  refine tw_iast rfl (fun f505 => ?_)
  refine tw_aload rfl rfl ?_
  refine tw_dup rfl ?_
  refine tw_getS rfl (tF_a (hi_111_34 hs)) ?_
  refine tw_push rfl ?_
  refine tw_iadd rfl ?_
  refine tw_put rfl (fun f506 => ?_)
  have K := mPush (x := x) hs hp hx0 f505 f506
  exact tw_vret rfl ⟨rfl, K.1, K.2.1, K.2.2.1, K.2.2.2.1, K.2.2.2.2⟩
theorem mPushz {h : zH} {x : Int32} {kd ef : Nat} (hs : tSh h) (z : mFt h ef) (hf : tIn h 142 kd (tvI (tF h 111 34))) (hf2 : tFd (tSA h 142 (tvI (tF h 111 34)).toNatClampNeg x) 111 34) : mFr h (tSF (tSA h 142 (tvI (tF h 111 34)).toNatClampNeg x) 111 34 (.int (tvI (tF h 111 34) + 1))) ∧ mFt (tSF (tSA h 142 (tvI (tF h 111 34)).toNatClampNeg x) 111 34 (.int (tvI (tF h 111 34) + 1))) ef ∧ tF (tSF (tSA h 142 (tvI (tF h 111 34)).toNatClampNeg x) 111 34 (.int (tvI (tF h 111 34) + 1))) 111 28 = tF h 111 28 ∧ tF (tSF (tSA h 142 (tvI (tF h 111 34)).toNatClampNeg x) 111 34 (.int (tvI (tF h 111 34) + 1))) 111 27 = tF h 111 27 := by
  have hw := hw_111_34 (x := tvI (tF h 111 34) + 1) hf2 (tSh_SA hs)
  have e := mSet_of hf2 hw
  generalize tSF (tSA h 142 (tvI (tF h 111 34)).toNatClampNeg x) 111 34 (.int (tvI (tF h 111 34) + 1)) = h3 at e
  have hF : ∀ b, b ≠ 34 → tF h3 111 b = tF h 111 b := fun b hb => (mI_o e hb).trans (by rw [tF_tSA])
  refine ⟨⟨e.1, fun p q z => (e.2.2.1 p q (fun w => z ⟨w.1, by unfold mFs; omega⟩)).trans (by rw [tF_tSA]), fun p _ _ y => (congrFun e.2.2.2.1 p).trans (tA_nz y), e.2.2.2.2.trans (tN_tSA _ _ _ _), mLo_p ((congrFun e.2.2.2.1 133).trans (tA_nz (by decide))) ((congrFun e.2.2.2.1 134).trans (tA_nz (by decide)))⟩, ⟨(hF 29 (by decide)).trans z.1, z.2⟩, hF 28 (by decide), hF 27 (by decide)⟩
theorem z_opens {G : zG} (hG : G.1 = zProg) (hX : G.2.1 = ztx) {h : zH} {T : Nat → Int32} {n : Nat} (hs : tSh h) {ef : Nat} (hp : mFt h ef) (hT : tA h 132 = T) (hN : mn h = n) {x : Int32} : tC zTt G 208 [.ref 111, .int x] h (fun w h2 => w = none ∧ mFr h h2 ∧ mFt h2 ef ∧ tF h2 111 28 = tF h 111 28 ∧ tF h2 111 27 = tF h 111 27) := by
  refine tC_in (by rw [hG]; rfl) (fun dp => ?_)
  have g0 := mFr_r hs
  refine tw_aload rfl rfl ?_
  refine tw_getS rfl (hs_111_45 hs) ?_
  refine tw_aload rfl rfl ?_
  refine tw_getS rfl (hi_111_34 hs) ?_
  refine tw_iload rfl rfl ?_
  refine tw_iast rfl (fun f507 => ?_)
  refine tw_aload rfl rfl ?_
  refine tw_dup rfl ?_
  refine tw_getS rfl (tF_a (hi_111_34 hs)) ?_
  refine tw_push rfl ?_
  refine tw_iadd rfl ?_
  refine tw_put rfl (fun f508 => ?_)
  have K := mPushz (x := x) hs hp f507 f508
  exact tw_vret rfl ⟨rfl, K.1, K.2.1, K.2.2.1, K.2.2.2⟩
theorem mD10 {h : zH} (d : mD h) : tvI (tF h 111 32) = 10 ↔ mDp (mSk h) = 10 := by
  have d : (tvI (tF h 111 32)).toInt = (mDp (mSk h) : Int) := d
  have e : (10 : Int32).toInt = 10 := rfl
  constructor
  · intro z
    rw [z] at d
    omega
  · intro z
    refine Int32.toInt_inj.mp ?_
    omega
theorem mDp_c {c : Nat} {S : List Nat} (h : c = 50 ∨ c = 10 ∨ c = 13) : mDp (c :: S) = mDp S + 1 := if_pos h
theorem mDp_e {c : Nat} {S : List Nat} (h : ¬ (c = 50 ∨ c = 10 ∨ c = 13)) : mDp (c :: S) = mDp S := if_neg h
theorem g_opensDeep {G : zG} (hG : G.1 = zProg) (hX : G.2.1 = ztx) {h : zH} {T : Nat → Int32} {n : Nat} (hs : tSh h) (hp : mP h) (hT : tA h 132 = T) (hN : mn h = n) {x a : Int32} {b : Nat} (hx0 : 0 ≤ x.toInt) (hx : x.toNatClampNeg = 50 ∨ x.toNatClampNeg = 10 ∨ x.toNatClampNeg = 13) (hb : a.toInt = b) (hb4 : b ≤ 400) (hD : mD h) (hd10 : mDp (mSk h) ≤ 1000) : tC zTt G 209 [.ref 111, .int x, .int a] h (fun w h2 => w = none ∧ mFr h h2 ∧ ((mDp (mSk h) ≠ 10 ∧ mP h2 ∧ mSk h2 = x.toNatClampNeg :: mSk h ∧ ms h2 = ms h ∧ mD h2) ∨ (mDp (mSk h) = 10 ∧ mFt h2 (1 + 8 * b + 2) ∧ tF h2 111 28 = tF h 111 28 ∧ tF h2 111 27 = tF h 111 27))) := by
  refine tC_in (by rw [hG]; rfl) (fun dp => ?_)
  have g0 := mFr_r hs
  have hpn : (ms h).1 ≤ n := mPle hp hN
  refine tw_aload rfl rfl ?_
  refine tw_getS rfl (hi_111_32 hs) ?_
  refine tw_push rfl ?_
  refine tw_ic_ne rfl (fun q509 => ?_) (fun q509 => ?_)
  · try dsimp only [tvI_i, tvJ_j, tvR_r] at q509
    have q509i := zneq (Y := 10) (by decide) q509
    refine tw_aload rfl rfl ?_
    refine tw_dup rfl ?_
    refine tw_getS rfl (hi_111_32 hs) ?_
    refine tw_push rfl ?_
    refine tw_iadd rfl ?_
    refine tw_put rfl (fun f510 => ?_)
    refine tG_setm f510 (hw_111_32 f510 (g0).1) (fun hf510 ef510 => ?_)
    try dsimp only [tvI_i] at ef510
    have gf510 := mFr_s g0 ef510 (by unfold mFs; omega)
    obtain ⟨pf510, tf510, sf510, df510⟩ := mUp hp ef510 hD hd10
    refine tw_aload rfl rfl ?_
    refine tw_iload rfl rfl ?_
    refine tw_virt1 rfl (g_opens hG hX (gf510).1 pf510 ((mFr_T gf510).trans hT) ((mFr_n gf510).trans hN) hx0) (fun wp511 hp511 p511 => ?_)
    obtain ⟨rfl, gp511, pp511e, tp511, sp511, dp511⟩ := p511
    have ggp511 := mFr_t gf510 gp511
    have hne : mDp (mSk h) ≠ 10 := fun z => q509 ((mD10 hD).mpr z)
    exact tw_vret rfl ⟨rfl, ggp511, Or.inl ⟨hne, pp511e, by rw [tp511, tf510], sp511.trans sf510, by unfold mD; rw [dp511, tp511, tf510, mDp_c hx]; exact df510⟩⟩
  · try dsimp only [tvI_i, tvJ_j, tvR_r] at q509
    have q509i := zeqi (Y := 10) (by decide) q509
    refine tw_aload rfl rfl ?_
    refine tw_push rfl ?_
    refine tw_iload rfl rfl ?_
    refine tw_virt2 rfl (g_fails hG hX (g0).1 hp ((mFr_T g0).trans hT) ((mFr_n g0).trans hN) (w := 2) (b := b) rfl (by decide) hb hb4) (fun wp512 hp512 p512 => ?_)
    obtain ⟨rfl, gp512, Fp512, ip512, jp512⟩ := p512
    have ggp512 := mFr_t g0 gp512
    refine tw_aload rfl rfl ?_
    refine tw_dup rfl ?_
    refine tw_getS rfl (hi_111_32 ggp512.1) ?_
    refine tw_push rfl ?_
    refine tw_iadd rfl ?_
    refine tw_put rfl (fun f513 => ?_)
    refine tG_setm f513 (hw_111_32 f513 (ggp512).1) (fun hf513 ef513 => ?_)
    try dsimp only [tvI_i] at ef513
    have gf513 := mFr_s ggp512 ef513 (by unfold mFs; omega)
    have zf513 := mFt_s Fp512 ef513 (by decide)
    refine tw_aload rfl rfl ?_
    refine tw_iload rfl rfl ?_
    refine tw_virt1 rfl (z_opens hG hX (gf513).1 zf513 ((mFr_T gf513).trans hT) ((mFr_n gf513).trans hN)) (fun wp514 hp514 p514 => ?_)
    obtain ⟨rfl, gp514, Fp514, ip514, jp514⟩ := p514
    have ggp514 := mFr_t gf513 gp514
    exact tw_vret rfl ⟨rfl, ggp514, Or.inr ⟨(mD10 hD).mp q509, Fp514, ip514.trans ((mI_o ef513 (by decide)).trans ip512), jp514.trans ((mI_o ef513 (by decide)).trans jp512)⟩⟩
noncomputable def tpm (S : List Nat) (c : Int32) : Prop := (S = [] ∧ c = -1) ∨ (S ≠ [] ∧ c.toInt = ((S.headD 0 : Nat) : Int))
theorem tpm_k {S : List Nat} {c : Int32} (t : tpm S c) {k : Int32} {K : Nat} (hk : k.toInt = K) (h0 : 0 < K) : c = k ↔ S.headD 0 = K := by
  rcases t with ⟨rfl, rfl⟩ | ⟨h, e⟩
  · have : ((-1 : Int32)).toInt = -1 := by decide
    exact ⟨fun z => by rw [← z] at hk; omega, fun z => by have z : 0 = K := z; omega⟩
  · exact ⟨fun z => by rw [z] at e; omega, fun z => Int32.toInt_inj.mp (by omega)⟩
theorem tpm_i {S : List Nat} {c : Int32} (t : tpm S c) (hc : 0 ≤ c.toInt) : S ≠ [] ∧ c.toInt = ((S.headD 0 : Nat) : Int) := by
  rcases t with ⟨rfl, rfl⟩ | t
  · exact absurd hc (by decide)
  · exact t
theorem tpm_e {S : List Nat} {c : Int32} (t : tpm S c) : c.toInt = ((S.headD 0 : Nat) : Int) ∨ (S.headD 0 = 0 ∧ c.toInt = -1) := by
  rcases t with ⟨rfl, rfl⟩ | t
  · exact Or.inr ⟨rfl, by decide⟩
  · exact Or.inl t.2
theorem g_top {G : zG} (hG : G.1 = zProg) (hX : G.2.1 = ztx) {h : zH} {T : Nat → Int32} {n : Nat} (hs : tSh h) (hp : mP h) (hT : tA h 132 = T) (hN : mn h = n)  : tC zTt G 210 [.ref 111] h (fun w h2 => (∃ c, w = some (.int c) ∧ tpm (mSk h) c) ∧ h = h2) := by
  refine tC_in (by rw [hG]; rfl) (fun dp => ?_)
  have g0 := mFr_r hs
  have hpn : (ms h).1 ≤ n := mPle hp hN
  refine tw_aload rfl rfl ?_
  refine tw_getS rfl (hi_111_34 hs) ?_
  refine tw_if_ne rfl (fun q515 => ?_) (fun q515 => ?_)
  · try dsimp only [tvI_i, tvJ_j, tvR_r] at q515
    have q515i := zneq (Y := 0) (by decide) q515
    refine tw_aload rfl rfl ?_
    refine tw_getS rfl (hs_111_45 hs) ?_
    refine tw_aload rfl rfl ?_
    refine tw_getS rfl (hi_111_34 hs) ?_
    refine tw_push rfl ?_
    refine tw_isub rfl ?_
    refine tw_iald rfl (fun f516 => ?_)
    have hk : 0 < (tvI (tF h 111 34)).toNatClampNeg := by rw [zclE]; have := hp.2.2.2.2.1; omega
    have e2 : (tvI (tF h 111 34) - 1).toNatClampNeg = (tvI (tF h 111 34)).toNatClampNeg - 1 := by rw [zclE, zclE, zsub1 hp.2.2.2.2.1]; omega
    refine tw_iret rfl ⟨⟨_, rfl, Or.inr ?_⟩, rfl⟩
    rw [mSk_top hk]
    refine ⟨List.cons_ne_nil _ _, ?_⟩
    show (tA h 142 (tvI (tF h 111 34) - 1).toNatClampNeg).toInt = _
    have hl9 : (tvI (tF h 111 34) - 1).toNatClampNeg < tN h 142 := f516.rg.2
    rw [e2] at hl9
    rw [e2]
    exact (zclx (hp.2.2.2.2.2.2.1 _ hl9)).symm
  · try dsimp only [tvI_i, tvJ_j, tvR_r] at q515
    have q515i := zeqi (Y := 0) (by decide) q515
    refine tw_push rfl ?_
    refine tw_goto rfl ?_
    exact tw_iret rfl ⟨⟨_, rfl, Or.inl ⟨mSk_nil (by rw [q515]; rfl), rfl⟩⟩, rfl⟩
theorem rQ_at {T : Nat → Int32} : ∀ (w : List Int32) (p k : Nat), rQ T p w = true → k < w.length → T (p + k) = w.getD k 0
  | c :: w, p, 0, h, _ => by
    have h : (decide (T p = c) && rQ T (p + 1) w) = true := h
    rw [Bool.and_eq_true] at h
    exact of_decide_eq_true h.1
  | c :: w, p, k + 1, h, hk => by
    have h : (decide (T p = c) && rQ T (p + 1) w) = true := h
    rw [Bool.and_eq_true] at h
    have z := rQ_at w (p + 1) k h.2 (by rw [List.length_cons] at hk; omega)
    rw [show p + 1 + k = p + (k + 1) by omega] at z
    exact z
theorem rQ_of {T : Nat → Int32} : ∀ (w : List Int32) (p : Nat), (∀ k, k < w.length → T (p + k) = w.getD k 0) → rQ T p w = true
  | [], _, _ => rfl
  | c :: w, p, h => by
    show (decide (T p = c) && rQ T (p + 1) w) = true
    rw [Bool.and_eq_true]
    refine ⟨decide_eq_true (h 0 (by rw [List.length_cons]; omega)), rQ_of w (p + 1) (fun k hk => ?_)⟩
    have z := h (k + 1) (by rw [List.length_cons]; omega)
    rw [show p + (k + 1) = p + 1 + k by omega] at z
    exact z
theorem mPz {h : zH} (h0 : 0 ≤ (tvI (tF h 111 28)).toInt) : (tvI (tF h 111 28)).toInt = ((ms h).1 : Int) := by
  show _ = ((tvI (tF h 111 28)).toNatClampNeg : Int)
  rw [zclE]
  omega
theorem mNz {h : zH} {n : Nat} (h0 : 0 ≤ (tvI (tF h 111 27)).toInt) (hN : mn h = n) : (tvI (tF h 111 27)).toInt = (n : Int) := by
  rw [← hN]
  show _ = ((tvI (tF h 111 27)).toNatClampNeg : Int)
  rw [zclE]
  omega
theorem zadN {x y : Int32} {a b : Nat} (hx : x.toInt = a) (hy : y.toInt = b) (ha : a ≤ 100000) (hb : b ≤ 100000) : (x + y).toInt = ((a + b : Nat) : Int) := by
  rw [Int32.toInt_add, hx, hy]
  exact (Int.bmod_eq_of_le (by show (-2147483648 : Int) ≤ (a : Int) + b; omega) (by show (a : Int) + b < (2147483648 : Int); omega)).trans (by omega)
theorem g_stands {G : zG} (hG : G.1 = zProg) (hX : G.2.1 = ztx) {h : zH} {T : Nat → Int32} {n : Nat} (hs : tSh h) (hT : tA h 132 = T) (hN : mn h = n) {q : Nat} (hq1 : (ztx q).length ≤ 200) (h0 : 0 ≤ (tvI (tF h 111 28)).toInt ∧ 0 ≤ (tvI (tF h 111 27)).toInt) (h4 : (tvI (tF h 111 28)).toInt ≤ 1000 ∧ (tvI (tF h 111 27)).toInt ≤ 400) : tC zTt G 205 [.ref 111, .retAddr q] h (fun w h2 => tBo (rW T n (ms h).1 (ztx q) = true) w ∧ h = h2) := by
  refine tC_in (by rw [hG]; rfl) (fun dp => ?_)
  have g0 := mFr_r hs
  have c979 : (97 : Int32).toInt = 97 := rfl
  have c1229 : (122 : Int32).toInt = 122 := rfl
  have hn4 := mNz h0.2 hN
  have hp4 := mPz h0.1
  refine tw_aload rfl rfl ?_
  refine tw_getS rfl (hi_111_28 hs) ?_
  refine tw_istore rfl ?_
  refine tG_loop (zW_mono zTt G dp) (zW_conj zTt G dp) (V := fun pc L st h9 _ _ => pc = 5 ∧ st = [] ∧ h = h9 ∧ ∃ (k : Nat) (x : Int32) (l3 l4 : Option Value), x.toInt = (((ms h).1 + k : Nat) : Int) ∧ rE T n ((ms h).1 + k) = rE T n (ms h).1 ∧ (ms h).1 + k ≤ 1400 ∧ L = [some (.ref 111), some (.retAddr q), some (.int x), l3, l4]) ?_ (⟨rfl, rfl, rfl, 0, _, _, _, mPz h0.1, rfl, by have := mPz h0.1; omega, rfl⟩)
  rintro _ _ _ _ _ _ ⟨rfl, rfl, rfl, k, x, l3, l4, hx, he, hk14, rfl⟩
  refine tw_iload rfl rfl ?_
  refine tw_aload rfl rfl ?_
  refine tw_getS rfl (hi_111_27 hs) ?_
  refine tw_ic_ge rfl (fun q517 => ?_) (fun q517 => ?_)
  · try dsimp only [tvI_i, tvJ_j, tvR_r] at q517
    refine tw_iload rfl rfl ?_
    refine tw_aload rfl rfl ?_
    refine tw_getS rfl (hi_111_28 hs) ?_
    refine tw_isub rfl ?_
    refine tw_aload rfl rfl ?_
    refine tw_tlen rfl ?_
    refine tw_ic_ne rfl (fun q518 => ?_) (fun q518 => ?_)
    · try dsimp only [tvI_i, tvJ_j, tvR_r] at q518
      have q518i := zneq rfl q518
      refine tw_push rfl ?_
      refine tw_istore rfl ?_
      refine tw_push rfl ?_
      refine tw_istore rfl ?_
      have hix : x.toNatClampNeg = (ms h).1 + k := zof_cl hx
      have hTx : tA h 132 x.toNatClampNeg = T ((ms h).1 + k) := by rw [hix, hT]
      have hnd : ¬ ((ms h).1 + k < n ∧ 97 ≤ (T ((ms h).1 + k)).toInt ∧ (T ((ms h).1 + k)).toInt ≤ 122) := by
        have z0 := q517
        try rw [hTx] at z1
        try rw [hTx] at z2
        omega
      have hE9 : rE T n (ms h).1 = (ms h).1 + k := he.symm.trans (rE_n hnd)
      have hsb : (x - tvI (tF h 111 28)).toInt = ((((ms h).1 + k : Nat) : Int)) - (((ms h).1 : Nat) : Int) := zsb hx (mPz h0.1) (by omega) (by omega)
      have hLn : (Int32.ofNat (G.2.1 q).length).toInt = ((ztx q).length : Int) := by rw [hX]; exact zofI (by omega)
      have hEL : x - tvI (tF h 111 28) = Int32.ofNat (G.2.1 q).length ↔ rE T n (ms h).1 = (ms h).1 + (ztx q).length := ⟨fun z => by rw [z, hLn] at hsb; omega, fun z => Int32.toInt_inj.mp (by rw [hsb, hLn]; omega)⟩
      refine tG_loop (zW_mono zTt G dp) (zW_conj zTt G dp) (V := fun pc L st h9 _ _ => pc = 63 ∧ st = [] ∧ h = h9 ∧ ∃ (j : Nat) (y is : Int32), y.toInt = j ∧ j ≤ (ztx q).length ∧ ((is = 1 ∧ rE T n (ms h).1 = (ms h).1 + (ztx q).length ∧ ∀ i, i < j → T ((ms h).1 + i) = (ztx q).getD i 0) ∨ (is = 0 ∧ ¬ rW T n (ms h).1 (ztx q) = true)) ∧ L = [some (.ref 111), some (.retAddr q), some (.int x), some (.int is), some (.int y)]) ?_ (⟨rfl, rfl, rfl, 0, 0, _, rfl, Nat.zero_le _, Or.inr ⟨rfl, fun z => q518 (hEL.mpr (rW_e z))⟩, rfl⟩)
      rintro _ _ _ _ _ _ ⟨rfl, rfl, rfl, j, y, is, hy, hjn, his, rfl⟩
      refine tw_iload rfl rfl ?_
      refine tw_aload rfl rfl ?_
      refine tw_tlen rfl ?_
      refine tw_ic_ge rfl (fun q519 => ?_) (fun q519 => ?_)
      · try dsimp only [tvI_i, tvJ_j, tvR_r] at q519
        refine tw_iload rfl rfl ?_
        have hlen : (Int32.ofNat (G.2.1 q).length).toInt = ((ztx q).length : Int) := by rw [hX]; exact zofI (by omega)
        have hj : j = (ztx q).length := by have z := q519; omega
        rcases his with ⟨e1, e2, e3⟩ | ⟨e1, e2⟩
        · exact tw_iret rfl ⟨Or.inl ⟨rW_i.mpr ⟨e2, rQ_of _ _ (fun k hk => e3 k (by omega))⟩, congrArg (fun z => some (Value.int z)) e1⟩, rfl⟩
        · exact tw_iret rfl ⟨Or.inr ⟨e2, congrArg (fun z => some (Value.int z)) e1⟩, rfl⟩
      · try dsimp only [tvI_i, tvJ_j, tvR_r] at q519
        refine tw_iload rfl rfl ?_
        refine tw_if_eq rfl (fun q520 => ?_) (fun q520 => ?_)
        · try dsimp only [tvI_i, tvJ_j, tvR_r] at q520
          have q520i := zeqi (Y := 0) (by decide) q520
          refine tw_iload rfl rfl ?_
          have hlen : (Int32.ofNat (G.2.1 q).length).toInt = ((ztx q).length : Int) := by rw [hX]; exact zofI (by omega)
          rcases his with ⟨e1, -, -⟩ | ⟨e1, e2⟩
          · exact absurd (e1.symm.trans q520) (by decide)
          · exact tw_iret rfl ⟨Or.inr ⟨e2, congrArg (fun z => some (Value.int z)) e1⟩, rfl⟩
        · try dsimp only [tvI_i, tvJ_j, tvR_r] at q520
          have q520i := zneq (Y := 0) (by decide) q520
          refine tw_aload rfl rfl ?_
          refine tw_getS rfl (hs_111_35 hs) ?_
          refine tw_aload rfl rfl ?_
          refine tw_getS rfl (hi_111_28 hs) ?_
          refine tw_iload rfl rfl ?_
          refine tw_iadd rfl ?_
          refine tw_bald rfl (fun f521 => ?_)
          refine tw_aload rfl rfl ?_
          refine tw_iload rfl rfl ?_
          refine tw_chr rfl (fun _ => ?_)
          refine tw_ic_ne rfl (fun q522 => ?_) (fun q522 => ?_)
          · try dsimp only [tvI_i, tvJ_j, tvR_r] at q522
            have q522i := zneq rfl q522
            refine tw_push rfl ?_
            refine tw_istore rfl ?_
            refine tw_iinc rfl rfl ?_
            refine tw_goto rfl ?_
            have hlen : (Int32.ofNat (G.2.1 q).length).toInt = ((ztx q).length : Int) := by rw [hX]; exact zofI (by omega)
            have hjl : j < (ztx q).length := by have z := q519; omega
            rcases his with ⟨e1, e2, e3⟩ | ⟨e1, -⟩
            rotate_left
            · exact absurd e1 q520
            have hpy : (tvI (tF h 111 28) + y).toNatClampNeg = (ms h).1 + j := zof_cl (zadN (mPz h0.1) hy (by omega) (by omega))
            have hTy : tA h 132 (tvI (tF h 111 28) + y).toNatClampNeg = T ((ms h).1 + j) := by rw [hpy, hT]
            have ec : (G.2.1 q).getD y.toNatClampNeg 0 = (ztx q).getD j 0 := by rw [hX, zof_cl hy]
            have hc : ¬ T ((ms h).1 + j) = (ztx q).getD j 0 := fun z => q522 (hTy.trans (z.trans ec.symm))
            exact tG_cut (zW_mono zTt G dp) (Or.inr ⟨rfl, rfl, rfl, j + 1, y + 1, _, zincN hy (by omega), by omega, Or.inr ⟨rfl, fun z => hc (rQ_at _ _ _ (rW_i.mp z).2 hjl)⟩, rfl⟩)
          · try dsimp only [tvI_i, tvJ_j, tvR_r] at q522
            have q522i := zeqi rfl q522
            refine tw_push rfl ?_
            refine tw_goto rfl ?_
            refine tw_istore rfl ?_
            refine tw_iinc rfl rfl ?_
            refine tw_goto rfl ?_
            have hlen : (Int32.ofNat (G.2.1 q).length).toInt = ((ztx q).length : Int) := by rw [hX]; exact zofI (by omega)
            have hjl : j < (ztx q).length := by have z := q519; omega
            rcases his with ⟨e1, e2, e3⟩ | ⟨e1, -⟩
            rotate_left
            · exact absurd e1 q520
            have hpy : (tvI (tF h 111 28) + y).toNatClampNeg = (ms h).1 + j := zof_cl (zadN (mPz h0.1) hy (by omega) (by omega))
            have hTy : tA h 132 (tvI (tF h 111 28) + y).toNatClampNeg = T ((ms h).1 + j) := by rw [hpy, hT]
            have ec : (G.2.1 q).getD y.toNatClampNeg 0 = (ztx q).getD j 0 := by rw [hX, zof_cl hy]
            have hc : T ((ms h).1 + j) = (ztx q).getD j 0 := hTy.symm.trans (q522.trans ec)
            exact tG_cut (zW_mono zTt G dp) (Or.inr ⟨rfl, rfl, rfl, j + 1, y + 1, _, zincN hy (by omega), by omega, Or.inl ⟨rfl, e2, fun i hi => (Classical.em (i = j)).elim (fun z => by rw [z]; exact hc) (fun z => e3 i (by omega))⟩, rfl⟩)
    · try dsimp only [tvI_i, tvJ_j, tvR_r] at q518
      have q518i := zeqi rfl q518
      refine tw_push rfl ?_
      refine tw_goto rfl ?_
      refine tw_istore rfl ?_
      refine tw_push rfl ?_
      refine tw_istore rfl ?_
      have hix : x.toNatClampNeg = (ms h).1 + k := zof_cl hx
      have hTx : tA h 132 x.toNatClampNeg = T ((ms h).1 + k) := by rw [hix, hT]
      have hnd : ¬ ((ms h).1 + k < n ∧ 97 ≤ (T ((ms h).1 + k)).toInt ∧ (T ((ms h).1 + k)).toInt ≤ 122) := by
        have z0 := q517
        try rw [hTx] at z1
        try rw [hTx] at z2
        omega
      have hE9 : rE T n (ms h).1 = (ms h).1 + k := he.symm.trans (rE_n hnd)
      have hsb : (x - tvI (tF h 111 28)).toInt = ((((ms h).1 + k : Nat) : Int)) - (((ms h).1 : Nat) : Int) := zsb hx (mPz h0.1) (by omega) (by omega)
      have hLn : (Int32.ofNat (G.2.1 q).length).toInt = ((ztx q).length : Int) := by rw [hX]; exact zofI (by omega)
      have hEL : x - tvI (tF h 111 28) = Int32.ofNat (G.2.1 q).length ↔ rE T n (ms h).1 = (ms h).1 + (ztx q).length := ⟨fun z => by rw [z, hLn] at hsb; omega, fun z => Int32.toInt_inj.mp (by rw [hsb, hLn]; omega)⟩
      refine tG_loop (zW_mono zTt G dp) (zW_conj zTt G dp) (V := fun pc L st h9 _ _ => pc = 63 ∧ st = [] ∧ h = h9 ∧ ∃ (j : Nat) (y is : Int32), y.toInt = j ∧ j ≤ (ztx q).length ∧ ((is = 1 ∧ rE T n (ms h).1 = (ms h).1 + (ztx q).length ∧ ∀ i, i < j → T ((ms h).1 + i) = (ztx q).getD i 0) ∨ (is = 0 ∧ ¬ rW T n (ms h).1 (ztx q) = true)) ∧ L = [some (.ref 111), some (.retAddr q), some (.int x), some (.int is), some (.int y)]) ?_ (⟨rfl, rfl, rfl, 0, 0, _, rfl, Nat.zero_le _, Or.inl ⟨rfl, hEL.mp q518, fun i hi => by omega⟩, rfl⟩)
      rintro _ _ _ _ _ _ ⟨rfl, rfl, rfl, j, y, is, hy, hjn, his, rfl⟩
      refine tw_iload rfl rfl ?_
      refine tw_aload rfl rfl ?_
      refine tw_tlen rfl ?_
      refine tw_ic_ge rfl (fun q523 => ?_) (fun q523 => ?_)
      · try dsimp only [tvI_i, tvJ_j, tvR_r] at q523
        refine tw_iload rfl rfl ?_
        have hlen : (Int32.ofNat (G.2.1 q).length).toInt = ((ztx q).length : Int) := by rw [hX]; exact zofI (by omega)
        have hj : j = (ztx q).length := by have z := q523; omega
        rcases his with ⟨e1, e2, e3⟩ | ⟨e1, e2⟩
        · exact tw_iret rfl ⟨Or.inl ⟨rW_i.mpr ⟨e2, rQ_of _ _ (fun k hk => e3 k (by omega))⟩, congrArg (fun z => some (Value.int z)) e1⟩, rfl⟩
        · exact tw_iret rfl ⟨Or.inr ⟨e2, congrArg (fun z => some (Value.int z)) e1⟩, rfl⟩
      · try dsimp only [tvI_i, tvJ_j, tvR_r] at q523
        refine tw_iload rfl rfl ?_
        refine tw_if_eq rfl (fun q524 => ?_) (fun q524 => ?_)
        · try dsimp only [tvI_i, tvJ_j, tvR_r] at q524
          have q524i := zeqi (Y := 0) (by decide) q524
          refine tw_iload rfl rfl ?_
          have hlen : (Int32.ofNat (G.2.1 q).length).toInt = ((ztx q).length : Int) := by rw [hX]; exact zofI (by omega)
          rcases his with ⟨e1, -, -⟩ | ⟨e1, e2⟩
          · exact absurd (e1.symm.trans q524) (by decide)
          · exact tw_iret rfl ⟨Or.inr ⟨e2, congrArg (fun z => some (Value.int z)) e1⟩, rfl⟩
        · try dsimp only [tvI_i, tvJ_j, tvR_r] at q524
          have q524i := zneq (Y := 0) (by decide) q524
          refine tw_aload rfl rfl ?_
          refine tw_getS rfl (hs_111_35 hs) ?_
          refine tw_aload rfl rfl ?_
          refine tw_getS rfl (hi_111_28 hs) ?_
          refine tw_iload rfl rfl ?_
          refine tw_iadd rfl ?_
          refine tw_bald rfl (fun f525 => ?_)
          refine tw_aload rfl rfl ?_
          refine tw_iload rfl rfl ?_
          refine tw_chr rfl (fun _ => ?_)
          refine tw_ic_ne rfl (fun q526 => ?_) (fun q526 => ?_)
          · try dsimp only [tvI_i, tvJ_j, tvR_r] at q526
            have q526i := zneq rfl q526
            refine tw_push rfl ?_
            refine tw_istore rfl ?_
            refine tw_iinc rfl rfl ?_
            refine tw_goto rfl ?_
            have hlen : (Int32.ofNat (G.2.1 q).length).toInt = ((ztx q).length : Int) := by rw [hX]; exact zofI (by omega)
            have hjl : j < (ztx q).length := by have z := q523; omega
            rcases his with ⟨e1, e2, e3⟩ | ⟨e1, -⟩
            rotate_left
            · exact absurd e1 q524
            have hpy : (tvI (tF h 111 28) + y).toNatClampNeg = (ms h).1 + j := zof_cl (zadN (mPz h0.1) hy (by omega) (by omega))
            have hTy : tA h 132 (tvI (tF h 111 28) + y).toNatClampNeg = T ((ms h).1 + j) := by rw [hpy, hT]
            have ec : (G.2.1 q).getD y.toNatClampNeg 0 = (ztx q).getD j 0 := by rw [hX, zof_cl hy]
            have hc : ¬ T ((ms h).1 + j) = (ztx q).getD j 0 := fun z => q526 (hTy.trans (z.trans ec.symm))
            exact tG_cut (zW_mono zTt G dp) (Or.inr ⟨rfl, rfl, rfl, j + 1, y + 1, _, zincN hy (by omega), by omega, Or.inr ⟨rfl, fun z => hc (rQ_at _ _ _ (rW_i.mp z).2 hjl)⟩, rfl⟩)
          · try dsimp only [tvI_i, tvJ_j, tvR_r] at q526
            have q526i := zeqi rfl q526
            refine tw_push rfl ?_
            refine tw_goto rfl ?_
            refine tw_istore rfl ?_
            refine tw_iinc rfl rfl ?_
            refine tw_goto rfl ?_
            have hlen : (Int32.ofNat (G.2.1 q).length).toInt = ((ztx q).length : Int) := by rw [hX]; exact zofI (by omega)
            have hjl : j < (ztx q).length := by have z := q523; omega
            rcases his with ⟨e1, e2, e3⟩ | ⟨e1, -⟩
            rotate_left
            · exact absurd e1 q524
            have hpy : (tvI (tF h 111 28) + y).toNatClampNeg = (ms h).1 + j := zof_cl (zadN (mPz h0.1) hy (by omega) (by omega))
            have hTy : tA h 132 (tvI (tF h 111 28) + y).toNatClampNeg = T ((ms h).1 + j) := by rw [hpy, hT]
            have ec : (G.2.1 q).getD y.toNatClampNeg 0 = (ztx q).getD j 0 := by rw [hX, zof_cl hy]
            have hc : T ((ms h).1 + j) = (ztx q).getD j 0 := hTy.symm.trans (q526.trans ec)
            exact tG_cut (zW_mono zTt G dp) (Or.inr ⟨rfl, rfl, rfl, j + 1, y + 1, _, zincN hy (by omega), by omega, Or.inl ⟨rfl, e2, fun i hi => (Classical.em (i = j)).elim (fun z => by rw [z]; exact hc) (fun z => e3 i (by omega))⟩, rfl⟩)
  · try dsimp only [tvI_i, tvJ_j, tvR_r] at q517
    refine tw_aload rfl rfl ?_
    refine tw_getS rfl (hs_111_35 hs) ?_
    refine tw_iload rfl rfl ?_
    refine tw_bald rfl (fun f527 => ?_)
    refine tw_push rfl ?_
    refine tw_ic_lt rfl (fun q528 => ?_) (fun q528 => ?_)
    · try dsimp only [tvI_i, tvJ_j, tvR_r] at q528
      refine tw_iload rfl rfl ?_
      refine tw_aload rfl rfl ?_
      refine tw_getS rfl (hi_111_28 hs) ?_
      refine tw_isub rfl ?_
      refine tw_aload rfl rfl ?_
      refine tw_tlen rfl ?_
      refine tw_ic_ne rfl (fun q529 => ?_) (fun q529 => ?_)
      · try dsimp only [tvI_i, tvJ_j, tvR_r] at q529
        have q529i := zneq rfl q529
        refine tw_push rfl ?_
        refine tw_istore rfl ?_
        refine tw_push rfl ?_
        refine tw_istore rfl ?_
        have hix : x.toNatClampNeg = (ms h).1 + k := zof_cl hx
        have hTx : tA h 132 x.toNatClampNeg = T ((ms h).1 + k) := by rw [hix, hT]
        have hnd : ¬ ((ms h).1 + k < n ∧ 97 ≤ (T ((ms h).1 + k)).toInt ∧ (T ((ms h).1 + k)).toInt ≤ 122) := by
          have z0 := q517
          have z1 := q528
          try rw [hTx] at z1
          try rw [hTx] at z2
          omega
        have hE9 : rE T n (ms h).1 = (ms h).1 + k := he.symm.trans (rE_n hnd)
        have hsb : (x - tvI (tF h 111 28)).toInt = ((((ms h).1 + k : Nat) : Int)) - (((ms h).1 : Nat) : Int) := zsb hx (mPz h0.1) (by omega) (by omega)
        have hLn : (Int32.ofNat (G.2.1 q).length).toInt = ((ztx q).length : Int) := by rw [hX]; exact zofI (by omega)
        have hEL : x - tvI (tF h 111 28) = Int32.ofNat (G.2.1 q).length ↔ rE T n (ms h).1 = (ms h).1 + (ztx q).length := ⟨fun z => by rw [z, hLn] at hsb; omega, fun z => Int32.toInt_inj.mp (by rw [hsb, hLn]; omega)⟩
        refine tG_loop (zW_mono zTt G dp) (zW_conj zTt G dp) (V := fun pc L st h9 _ _ => pc = 63 ∧ st = [] ∧ h = h9 ∧ ∃ (j : Nat) (y is : Int32), y.toInt = j ∧ j ≤ (ztx q).length ∧ ((is = 1 ∧ rE T n (ms h).1 = (ms h).1 + (ztx q).length ∧ ∀ i, i < j → T ((ms h).1 + i) = (ztx q).getD i 0) ∨ (is = 0 ∧ ¬ rW T n (ms h).1 (ztx q) = true)) ∧ L = [some (.ref 111), some (.retAddr q), some (.int x), some (.int is), some (.int y)]) ?_ (⟨rfl, rfl, rfl, 0, 0, _, rfl, Nat.zero_le _, Or.inr ⟨rfl, fun z => q529 (hEL.mpr (rW_e z))⟩, rfl⟩)
        rintro _ _ _ _ _ _ ⟨rfl, rfl, rfl, j, y, is, hy, hjn, his, rfl⟩
        refine tw_iload rfl rfl ?_
        refine tw_aload rfl rfl ?_
        refine tw_tlen rfl ?_
        refine tw_ic_ge rfl (fun q530 => ?_) (fun q530 => ?_)
        · try dsimp only [tvI_i, tvJ_j, tvR_r] at q530
          refine tw_iload rfl rfl ?_
          have hlen : (Int32.ofNat (G.2.1 q).length).toInt = ((ztx q).length : Int) := by rw [hX]; exact zofI (by omega)
          have hj : j = (ztx q).length := by have z := q530; omega
          rcases his with ⟨e1, e2, e3⟩ | ⟨e1, e2⟩
          · exact tw_iret rfl ⟨Or.inl ⟨rW_i.mpr ⟨e2, rQ_of _ _ (fun k hk => e3 k (by omega))⟩, congrArg (fun z => some (Value.int z)) e1⟩, rfl⟩
          · exact tw_iret rfl ⟨Or.inr ⟨e2, congrArg (fun z => some (Value.int z)) e1⟩, rfl⟩
        · try dsimp only [tvI_i, tvJ_j, tvR_r] at q530
          refine tw_iload rfl rfl ?_
          refine tw_if_eq rfl (fun q531 => ?_) (fun q531 => ?_)
          · try dsimp only [tvI_i, tvJ_j, tvR_r] at q531
            have q531i := zeqi (Y := 0) (by decide) q531
            refine tw_iload rfl rfl ?_
            have hlen : (Int32.ofNat (G.2.1 q).length).toInt = ((ztx q).length : Int) := by rw [hX]; exact zofI (by omega)
            rcases his with ⟨e1, -, -⟩ | ⟨e1, e2⟩
            · exact absurd (e1.symm.trans q531) (by decide)
            · exact tw_iret rfl ⟨Or.inr ⟨e2, congrArg (fun z => some (Value.int z)) e1⟩, rfl⟩
          · try dsimp only [tvI_i, tvJ_j, tvR_r] at q531
            have q531i := zneq (Y := 0) (by decide) q531
            refine tw_aload rfl rfl ?_
            refine tw_getS rfl (hs_111_35 hs) ?_
            refine tw_aload rfl rfl ?_
            refine tw_getS rfl (hi_111_28 hs) ?_
            refine tw_iload rfl rfl ?_
            refine tw_iadd rfl ?_
            refine tw_bald rfl (fun f532 => ?_)
            refine tw_aload rfl rfl ?_
            refine tw_iload rfl rfl ?_
            refine tw_chr rfl (fun _ => ?_)
            refine tw_ic_ne rfl (fun q533 => ?_) (fun q533 => ?_)
            · try dsimp only [tvI_i, tvJ_j, tvR_r] at q533
              have q533i := zneq rfl q533
              refine tw_push rfl ?_
              refine tw_istore rfl ?_
              refine tw_iinc rfl rfl ?_
              refine tw_goto rfl ?_
              have hlen : (Int32.ofNat (G.2.1 q).length).toInt = ((ztx q).length : Int) := by rw [hX]; exact zofI (by omega)
              have hjl : j < (ztx q).length := by have z := q530; omega
              rcases his with ⟨e1, e2, e3⟩ | ⟨e1, -⟩
              rotate_left
              · exact absurd e1 q531
              have hpy : (tvI (tF h 111 28) + y).toNatClampNeg = (ms h).1 + j := zof_cl (zadN (mPz h0.1) hy (by omega) (by omega))
              have hTy : tA h 132 (tvI (tF h 111 28) + y).toNatClampNeg = T ((ms h).1 + j) := by rw [hpy, hT]
              have ec : (G.2.1 q).getD y.toNatClampNeg 0 = (ztx q).getD j 0 := by rw [hX, zof_cl hy]
              have hc : ¬ T ((ms h).1 + j) = (ztx q).getD j 0 := fun z => q533 (hTy.trans (z.trans ec.symm))
              exact tG_cut (zW_mono zTt G dp) (Or.inr ⟨rfl, rfl, rfl, j + 1, y + 1, _, zincN hy (by omega), by omega, Or.inr ⟨rfl, fun z => hc (rQ_at _ _ _ (rW_i.mp z).2 hjl)⟩, rfl⟩)
            · try dsimp only [tvI_i, tvJ_j, tvR_r] at q533
              have q533i := zeqi rfl q533
              refine tw_push rfl ?_
              refine tw_goto rfl ?_
              refine tw_istore rfl ?_
              refine tw_iinc rfl rfl ?_
              refine tw_goto rfl ?_
              have hlen : (Int32.ofNat (G.2.1 q).length).toInt = ((ztx q).length : Int) := by rw [hX]; exact zofI (by omega)
              have hjl : j < (ztx q).length := by have z := q530; omega
              rcases his with ⟨e1, e2, e3⟩ | ⟨e1, -⟩
              rotate_left
              · exact absurd e1 q531
              have hpy : (tvI (tF h 111 28) + y).toNatClampNeg = (ms h).1 + j := zof_cl (zadN (mPz h0.1) hy (by omega) (by omega))
              have hTy : tA h 132 (tvI (tF h 111 28) + y).toNatClampNeg = T ((ms h).1 + j) := by rw [hpy, hT]
              have ec : (G.2.1 q).getD y.toNatClampNeg 0 = (ztx q).getD j 0 := by rw [hX, zof_cl hy]
              have hc : T ((ms h).1 + j) = (ztx q).getD j 0 := hTy.symm.trans (q533.trans ec)
              exact tG_cut (zW_mono zTt G dp) (Or.inr ⟨rfl, rfl, rfl, j + 1, y + 1, _, zincN hy (by omega), by omega, Or.inl ⟨rfl, e2, fun i hi => (Classical.em (i = j)).elim (fun z => by rw [z]; exact hc) (fun z => e3 i (by omega))⟩, rfl⟩)
      · try dsimp only [tvI_i, tvJ_j, tvR_r] at q529
        have q529i := zeqi rfl q529
        refine tw_push rfl ?_
        refine tw_goto rfl ?_
        refine tw_istore rfl ?_
        refine tw_push rfl ?_
        refine tw_istore rfl ?_
        have hix : x.toNatClampNeg = (ms h).1 + k := zof_cl hx
        have hTx : tA h 132 x.toNatClampNeg = T ((ms h).1 + k) := by rw [hix, hT]
        have hnd : ¬ ((ms h).1 + k < n ∧ 97 ≤ (T ((ms h).1 + k)).toInt ∧ (T ((ms h).1 + k)).toInt ≤ 122) := by
          have z0 := q517
          have z1 := q528
          try rw [hTx] at z1
          try rw [hTx] at z2
          omega
        have hE9 : rE T n (ms h).1 = (ms h).1 + k := he.symm.trans (rE_n hnd)
        have hsb : (x - tvI (tF h 111 28)).toInt = ((((ms h).1 + k : Nat) : Int)) - (((ms h).1 : Nat) : Int) := zsb hx (mPz h0.1) (by omega) (by omega)
        have hLn : (Int32.ofNat (G.2.1 q).length).toInt = ((ztx q).length : Int) := by rw [hX]; exact zofI (by omega)
        have hEL : x - tvI (tF h 111 28) = Int32.ofNat (G.2.1 q).length ↔ rE T n (ms h).1 = (ms h).1 + (ztx q).length := ⟨fun z => by rw [z, hLn] at hsb; omega, fun z => Int32.toInt_inj.mp (by rw [hsb, hLn]; omega)⟩
        refine tG_loop (zW_mono zTt G dp) (zW_conj zTt G dp) (V := fun pc L st h9 _ _ => pc = 63 ∧ st = [] ∧ h = h9 ∧ ∃ (j : Nat) (y is : Int32), y.toInt = j ∧ j ≤ (ztx q).length ∧ ((is = 1 ∧ rE T n (ms h).1 = (ms h).1 + (ztx q).length ∧ ∀ i, i < j → T ((ms h).1 + i) = (ztx q).getD i 0) ∨ (is = 0 ∧ ¬ rW T n (ms h).1 (ztx q) = true)) ∧ L = [some (.ref 111), some (.retAddr q), some (.int x), some (.int is), some (.int y)]) ?_ (⟨rfl, rfl, rfl, 0, 0, _, rfl, Nat.zero_le _, Or.inl ⟨rfl, hEL.mp q529, fun i hi => by omega⟩, rfl⟩)
        rintro _ _ _ _ _ _ ⟨rfl, rfl, rfl, j, y, is, hy, hjn, his, rfl⟩
        refine tw_iload rfl rfl ?_
        refine tw_aload rfl rfl ?_
        refine tw_tlen rfl ?_
        refine tw_ic_ge rfl (fun q534 => ?_) (fun q534 => ?_)
        · try dsimp only [tvI_i, tvJ_j, tvR_r] at q534
          refine tw_iload rfl rfl ?_
          have hlen : (Int32.ofNat (G.2.1 q).length).toInt = ((ztx q).length : Int) := by rw [hX]; exact zofI (by omega)
          have hj : j = (ztx q).length := by have z := q534; omega
          rcases his with ⟨e1, e2, e3⟩ | ⟨e1, e2⟩
          · exact tw_iret rfl ⟨Or.inl ⟨rW_i.mpr ⟨e2, rQ_of _ _ (fun k hk => e3 k (by omega))⟩, congrArg (fun z => some (Value.int z)) e1⟩, rfl⟩
          · exact tw_iret rfl ⟨Or.inr ⟨e2, congrArg (fun z => some (Value.int z)) e1⟩, rfl⟩
        · try dsimp only [tvI_i, tvJ_j, tvR_r] at q534
          refine tw_iload rfl rfl ?_
          refine tw_if_eq rfl (fun q535 => ?_) (fun q535 => ?_)
          · try dsimp only [tvI_i, tvJ_j, tvR_r] at q535
            have q535i := zeqi (Y := 0) (by decide) q535
            refine tw_iload rfl rfl ?_
            have hlen : (Int32.ofNat (G.2.1 q).length).toInt = ((ztx q).length : Int) := by rw [hX]; exact zofI (by omega)
            rcases his with ⟨e1, -, -⟩ | ⟨e1, e2⟩
            · exact absurd (e1.symm.trans q535) (by decide)
            · exact tw_iret rfl ⟨Or.inr ⟨e2, congrArg (fun z => some (Value.int z)) e1⟩, rfl⟩
          · try dsimp only [tvI_i, tvJ_j, tvR_r] at q535
            have q535i := zneq (Y := 0) (by decide) q535
            refine tw_aload rfl rfl ?_
            refine tw_getS rfl (hs_111_35 hs) ?_
            refine tw_aload rfl rfl ?_
            refine tw_getS rfl (hi_111_28 hs) ?_
            refine tw_iload rfl rfl ?_
            refine tw_iadd rfl ?_
            refine tw_bald rfl (fun f536 => ?_)
            refine tw_aload rfl rfl ?_
            refine tw_iload rfl rfl ?_
            refine tw_chr rfl (fun _ => ?_)
            refine tw_ic_ne rfl (fun q537 => ?_) (fun q537 => ?_)
            · try dsimp only [tvI_i, tvJ_j, tvR_r] at q537
              have q537i := zneq rfl q537
              refine tw_push rfl ?_
              refine tw_istore rfl ?_
              refine tw_iinc rfl rfl ?_
              refine tw_goto rfl ?_
              have hlen : (Int32.ofNat (G.2.1 q).length).toInt = ((ztx q).length : Int) := by rw [hX]; exact zofI (by omega)
              have hjl : j < (ztx q).length := by have z := q534; omega
              rcases his with ⟨e1, e2, e3⟩ | ⟨e1, -⟩
              rotate_left
              · exact absurd e1 q535
              have hpy : (tvI (tF h 111 28) + y).toNatClampNeg = (ms h).1 + j := zof_cl (zadN (mPz h0.1) hy (by omega) (by omega))
              have hTy : tA h 132 (tvI (tF h 111 28) + y).toNatClampNeg = T ((ms h).1 + j) := by rw [hpy, hT]
              have ec : (G.2.1 q).getD y.toNatClampNeg 0 = (ztx q).getD j 0 := by rw [hX, zof_cl hy]
              have hc : ¬ T ((ms h).1 + j) = (ztx q).getD j 0 := fun z => q537 (hTy.trans (z.trans ec.symm))
              exact tG_cut (zW_mono zTt G dp) (Or.inr ⟨rfl, rfl, rfl, j + 1, y + 1, _, zincN hy (by omega), by omega, Or.inr ⟨rfl, fun z => hc (rQ_at _ _ _ (rW_i.mp z).2 hjl)⟩, rfl⟩)
            · try dsimp only [tvI_i, tvJ_j, tvR_r] at q537
              have q537i := zeqi rfl q537
              refine tw_push rfl ?_
              refine tw_goto rfl ?_
              refine tw_istore rfl ?_
              refine tw_iinc rfl rfl ?_
              refine tw_goto rfl ?_
              have hlen : (Int32.ofNat (G.2.1 q).length).toInt = ((ztx q).length : Int) := by rw [hX]; exact zofI (by omega)
              have hjl : j < (ztx q).length := by have z := q534; omega
              rcases his with ⟨e1, e2, e3⟩ | ⟨e1, -⟩
              rotate_left
              · exact absurd e1 q535
              have hpy : (tvI (tF h 111 28) + y).toNatClampNeg = (ms h).1 + j := zof_cl (zadN (mPz h0.1) hy (by omega) (by omega))
              have hTy : tA h 132 (tvI (tF h 111 28) + y).toNatClampNeg = T ((ms h).1 + j) := by rw [hpy, hT]
              have ec : (G.2.1 q).getD y.toNatClampNeg 0 = (ztx q).getD j 0 := by rw [hX, zof_cl hy]
              have hc : T ((ms h).1 + j) = (ztx q).getD j 0 := hTy.symm.trans (q537.trans ec)
              exact tG_cut (zW_mono zTt G dp) (Or.inr ⟨rfl, rfl, rfl, j + 1, y + 1, _, zincN hy (by omega), by omega, Or.inl ⟨rfl, e2, fun i hi => (Classical.em (i = j)).elim (fun z => by rw [z]; exact hc) (fun z => e3 i (by omega))⟩, rfl⟩)
    · try dsimp only [tvI_i, tvJ_j, tvR_r] at q528
      refine tw_aload rfl rfl ?_
      refine tw_getS rfl (hs_111_35 hs) ?_
      refine tw_iload rfl rfl ?_
      refine tw_bald rfl (fun f538 => ?_)
      refine tw_push rfl ?_
      refine tw_ic_gt rfl (fun q539 => ?_) (fun q539 => ?_)
      · try dsimp only [tvI_i, tvJ_j, tvR_r] at q539
        refine tw_iload rfl rfl ?_
        refine tw_aload rfl rfl ?_
        refine tw_getS rfl (hi_111_28 hs) ?_
        refine tw_isub rfl ?_
        refine tw_aload rfl rfl ?_
        refine tw_tlen rfl ?_
        refine tw_ic_ne rfl (fun q540 => ?_) (fun q540 => ?_)
        · try dsimp only [tvI_i, tvJ_j, tvR_r] at q540
          have q540i := zneq rfl q540
          refine tw_push rfl ?_
          refine tw_istore rfl ?_
          refine tw_push rfl ?_
          refine tw_istore rfl ?_
          have hix : x.toNatClampNeg = (ms h).1 + k := zof_cl hx
          have hTx : tA h 132 x.toNatClampNeg = T ((ms h).1 + k) := by rw [hix, hT]
          have hnd : ¬ ((ms h).1 + k < n ∧ 97 ≤ (T ((ms h).1 + k)).toInt ∧ (T ((ms h).1 + k)).toInt ≤ 122) := by
            have z0 := q517
            have z1 := q528
            have z2 := q539
            try rw [hTx] at z1
            try rw [hTx] at z2
            omega
          have hE9 : rE T n (ms h).1 = (ms h).1 + k := he.symm.trans (rE_n hnd)
          have hsb : (x - tvI (tF h 111 28)).toInt = ((((ms h).1 + k : Nat) : Int)) - (((ms h).1 : Nat) : Int) := zsb hx (mPz h0.1) (by omega) (by omega)
          have hLn : (Int32.ofNat (G.2.1 q).length).toInt = ((ztx q).length : Int) := by rw [hX]; exact zofI (by omega)
          have hEL : x - tvI (tF h 111 28) = Int32.ofNat (G.2.1 q).length ↔ rE T n (ms h).1 = (ms h).1 + (ztx q).length := ⟨fun z => by rw [z, hLn] at hsb; omega, fun z => Int32.toInt_inj.mp (by rw [hsb, hLn]; omega)⟩
          refine tG_loop (zW_mono zTt G dp) (zW_conj zTt G dp) (V := fun pc L st h9 _ _ => pc = 63 ∧ st = [] ∧ h = h9 ∧ ∃ (j : Nat) (y is : Int32), y.toInt = j ∧ j ≤ (ztx q).length ∧ ((is = 1 ∧ rE T n (ms h).1 = (ms h).1 + (ztx q).length ∧ ∀ i, i < j → T ((ms h).1 + i) = (ztx q).getD i 0) ∨ (is = 0 ∧ ¬ rW T n (ms h).1 (ztx q) = true)) ∧ L = [some (.ref 111), some (.retAddr q), some (.int x), some (.int is), some (.int y)]) ?_ (⟨rfl, rfl, rfl, 0, 0, _, rfl, Nat.zero_le _, Or.inr ⟨rfl, fun z => q540 (hEL.mpr (rW_e z))⟩, rfl⟩)
          rintro _ _ _ _ _ _ ⟨rfl, rfl, rfl, j, y, is, hy, hjn, his, rfl⟩
          refine tw_iload rfl rfl ?_
          refine tw_aload rfl rfl ?_
          refine tw_tlen rfl ?_
          refine tw_ic_ge rfl (fun q541 => ?_) (fun q541 => ?_)
          · try dsimp only [tvI_i, tvJ_j, tvR_r] at q541
            refine tw_iload rfl rfl ?_
            have hlen : (Int32.ofNat (G.2.1 q).length).toInt = ((ztx q).length : Int) := by rw [hX]; exact zofI (by omega)
            have hj : j = (ztx q).length := by have z := q541; omega
            rcases his with ⟨e1, e2, e3⟩ | ⟨e1, e2⟩
            · exact tw_iret rfl ⟨Or.inl ⟨rW_i.mpr ⟨e2, rQ_of _ _ (fun k hk => e3 k (by omega))⟩, congrArg (fun z => some (Value.int z)) e1⟩, rfl⟩
            · exact tw_iret rfl ⟨Or.inr ⟨e2, congrArg (fun z => some (Value.int z)) e1⟩, rfl⟩
          · try dsimp only [tvI_i, tvJ_j, tvR_r] at q541
            refine tw_iload rfl rfl ?_
            refine tw_if_eq rfl (fun q542 => ?_) (fun q542 => ?_)
            · try dsimp only [tvI_i, tvJ_j, tvR_r] at q542
              have q542i := zeqi (Y := 0) (by decide) q542
              refine tw_iload rfl rfl ?_
              have hlen : (Int32.ofNat (G.2.1 q).length).toInt = ((ztx q).length : Int) := by rw [hX]; exact zofI (by omega)
              rcases his with ⟨e1, -, -⟩ | ⟨e1, e2⟩
              · exact absurd (e1.symm.trans q542) (by decide)
              · exact tw_iret rfl ⟨Or.inr ⟨e2, congrArg (fun z => some (Value.int z)) e1⟩, rfl⟩
            · try dsimp only [tvI_i, tvJ_j, tvR_r] at q542
              have q542i := zneq (Y := 0) (by decide) q542
              refine tw_aload rfl rfl ?_
              refine tw_getS rfl (hs_111_35 hs) ?_
              refine tw_aload rfl rfl ?_
              refine tw_getS rfl (hi_111_28 hs) ?_
              refine tw_iload rfl rfl ?_
              refine tw_iadd rfl ?_
              refine tw_bald rfl (fun f543 => ?_)
              refine tw_aload rfl rfl ?_
              refine tw_iload rfl rfl ?_
              refine tw_chr rfl (fun _ => ?_)
              refine tw_ic_ne rfl (fun q544 => ?_) (fun q544 => ?_)
              · try dsimp only [tvI_i, tvJ_j, tvR_r] at q544
                have q544i := zneq rfl q544
                refine tw_push rfl ?_
                refine tw_istore rfl ?_
                refine tw_iinc rfl rfl ?_
                refine tw_goto rfl ?_
                have hlen : (Int32.ofNat (G.2.1 q).length).toInt = ((ztx q).length : Int) := by rw [hX]; exact zofI (by omega)
                have hjl : j < (ztx q).length := by have z := q541; omega
                rcases his with ⟨e1, e2, e3⟩ | ⟨e1, -⟩
                rotate_left
                · exact absurd e1 q542
                have hpy : (tvI (tF h 111 28) + y).toNatClampNeg = (ms h).1 + j := zof_cl (zadN (mPz h0.1) hy (by omega) (by omega))
                have hTy : tA h 132 (tvI (tF h 111 28) + y).toNatClampNeg = T ((ms h).1 + j) := by rw [hpy, hT]
                have ec : (G.2.1 q).getD y.toNatClampNeg 0 = (ztx q).getD j 0 := by rw [hX, zof_cl hy]
                have hc : ¬ T ((ms h).1 + j) = (ztx q).getD j 0 := fun z => q544 (hTy.trans (z.trans ec.symm))
                exact tG_cut (zW_mono zTt G dp) (Or.inr ⟨rfl, rfl, rfl, j + 1, y + 1, _, zincN hy (by omega), by omega, Or.inr ⟨rfl, fun z => hc (rQ_at _ _ _ (rW_i.mp z).2 hjl)⟩, rfl⟩)
              · try dsimp only [tvI_i, tvJ_j, tvR_r] at q544
                have q544i := zeqi rfl q544
                refine tw_push rfl ?_
                refine tw_goto rfl ?_
                refine tw_istore rfl ?_
                refine tw_iinc rfl rfl ?_
                refine tw_goto rfl ?_
                have hlen : (Int32.ofNat (G.2.1 q).length).toInt = ((ztx q).length : Int) := by rw [hX]; exact zofI (by omega)
                have hjl : j < (ztx q).length := by have z := q541; omega
                rcases his with ⟨e1, e2, e3⟩ | ⟨e1, -⟩
                rotate_left
                · exact absurd e1 q542
                have hpy : (tvI (tF h 111 28) + y).toNatClampNeg = (ms h).1 + j := zof_cl (zadN (mPz h0.1) hy (by omega) (by omega))
                have hTy : tA h 132 (tvI (tF h 111 28) + y).toNatClampNeg = T ((ms h).1 + j) := by rw [hpy, hT]
                have ec : (G.2.1 q).getD y.toNatClampNeg 0 = (ztx q).getD j 0 := by rw [hX, zof_cl hy]
                have hc : T ((ms h).1 + j) = (ztx q).getD j 0 := hTy.symm.trans (q544.trans ec)
                exact tG_cut (zW_mono zTt G dp) (Or.inr ⟨rfl, rfl, rfl, j + 1, y + 1, _, zincN hy (by omega), by omega, Or.inl ⟨rfl, e2, fun i hi => (Classical.em (i = j)).elim (fun z => by rw [z]; exact hc) (fun z => e3 i (by omega))⟩, rfl⟩)
        · try dsimp only [tvI_i, tvJ_j, tvR_r] at q540
          have q540i := zeqi rfl q540
          refine tw_push rfl ?_
          refine tw_goto rfl ?_
          refine tw_istore rfl ?_
          refine tw_push rfl ?_
          refine tw_istore rfl ?_
          have hix : x.toNatClampNeg = (ms h).1 + k := zof_cl hx
          have hTx : tA h 132 x.toNatClampNeg = T ((ms h).1 + k) := by rw [hix, hT]
          have hnd : ¬ ((ms h).1 + k < n ∧ 97 ≤ (T ((ms h).1 + k)).toInt ∧ (T ((ms h).1 + k)).toInt ≤ 122) := by
            have z0 := q517
            have z1 := q528
            have z2 := q539
            try rw [hTx] at z1
            try rw [hTx] at z2
            omega
          have hE9 : rE T n (ms h).1 = (ms h).1 + k := he.symm.trans (rE_n hnd)
          have hsb : (x - tvI (tF h 111 28)).toInt = ((((ms h).1 + k : Nat) : Int)) - (((ms h).1 : Nat) : Int) := zsb hx (mPz h0.1) (by omega) (by omega)
          have hLn : (Int32.ofNat (G.2.1 q).length).toInt = ((ztx q).length : Int) := by rw [hX]; exact zofI (by omega)
          have hEL : x - tvI (tF h 111 28) = Int32.ofNat (G.2.1 q).length ↔ rE T n (ms h).1 = (ms h).1 + (ztx q).length := ⟨fun z => by rw [z, hLn] at hsb; omega, fun z => Int32.toInt_inj.mp (by rw [hsb, hLn]; omega)⟩
          refine tG_loop (zW_mono zTt G dp) (zW_conj zTt G dp) (V := fun pc L st h9 _ _ => pc = 63 ∧ st = [] ∧ h = h9 ∧ ∃ (j : Nat) (y is : Int32), y.toInt = j ∧ j ≤ (ztx q).length ∧ ((is = 1 ∧ rE T n (ms h).1 = (ms h).1 + (ztx q).length ∧ ∀ i, i < j → T ((ms h).1 + i) = (ztx q).getD i 0) ∨ (is = 0 ∧ ¬ rW T n (ms h).1 (ztx q) = true)) ∧ L = [some (.ref 111), some (.retAddr q), some (.int x), some (.int is), some (.int y)]) ?_ (⟨rfl, rfl, rfl, 0, 0, _, rfl, Nat.zero_le _, Or.inl ⟨rfl, hEL.mp q540, fun i hi => by omega⟩, rfl⟩)
          rintro _ _ _ _ _ _ ⟨rfl, rfl, rfl, j, y, is, hy, hjn, his, rfl⟩
          refine tw_iload rfl rfl ?_
          refine tw_aload rfl rfl ?_
          refine tw_tlen rfl ?_
          refine tw_ic_ge rfl (fun q545 => ?_) (fun q545 => ?_)
          · try dsimp only [tvI_i, tvJ_j, tvR_r] at q545
            refine tw_iload rfl rfl ?_
            have hlen : (Int32.ofNat (G.2.1 q).length).toInt = ((ztx q).length : Int) := by rw [hX]; exact zofI (by omega)
            have hj : j = (ztx q).length := by have z := q545; omega
            rcases his with ⟨e1, e2, e3⟩ | ⟨e1, e2⟩
            · exact tw_iret rfl ⟨Or.inl ⟨rW_i.mpr ⟨e2, rQ_of _ _ (fun k hk => e3 k (by omega))⟩, congrArg (fun z => some (Value.int z)) e1⟩, rfl⟩
            · exact tw_iret rfl ⟨Or.inr ⟨e2, congrArg (fun z => some (Value.int z)) e1⟩, rfl⟩
          · try dsimp only [tvI_i, tvJ_j, tvR_r] at q545
            refine tw_iload rfl rfl ?_
            refine tw_if_eq rfl (fun q546 => ?_) (fun q546 => ?_)
            · try dsimp only [tvI_i, tvJ_j, tvR_r] at q546
              have q546i := zeqi (Y := 0) (by decide) q546
              refine tw_iload rfl rfl ?_
              have hlen : (Int32.ofNat (G.2.1 q).length).toInt = ((ztx q).length : Int) := by rw [hX]; exact zofI (by omega)
              rcases his with ⟨e1, -, -⟩ | ⟨e1, e2⟩
              · exact absurd (e1.symm.trans q546) (by decide)
              · exact tw_iret rfl ⟨Or.inr ⟨e2, congrArg (fun z => some (Value.int z)) e1⟩, rfl⟩
            · try dsimp only [tvI_i, tvJ_j, tvR_r] at q546
              have q546i := zneq (Y := 0) (by decide) q546
              refine tw_aload rfl rfl ?_
              refine tw_getS rfl (hs_111_35 hs) ?_
              refine tw_aload rfl rfl ?_
              refine tw_getS rfl (hi_111_28 hs) ?_
              refine tw_iload rfl rfl ?_
              refine tw_iadd rfl ?_
              refine tw_bald rfl (fun f547 => ?_)
              refine tw_aload rfl rfl ?_
              refine tw_iload rfl rfl ?_
              refine tw_chr rfl (fun _ => ?_)
              refine tw_ic_ne rfl (fun q548 => ?_) (fun q548 => ?_)
              · try dsimp only [tvI_i, tvJ_j, tvR_r] at q548
                have q548i := zneq rfl q548
                refine tw_push rfl ?_
                refine tw_istore rfl ?_
                refine tw_iinc rfl rfl ?_
                refine tw_goto rfl ?_
                have hlen : (Int32.ofNat (G.2.1 q).length).toInt = ((ztx q).length : Int) := by rw [hX]; exact zofI (by omega)
                have hjl : j < (ztx q).length := by have z := q545; omega
                rcases his with ⟨e1, e2, e3⟩ | ⟨e1, -⟩
                rotate_left
                · exact absurd e1 q546
                have hpy : (tvI (tF h 111 28) + y).toNatClampNeg = (ms h).1 + j := zof_cl (zadN (mPz h0.1) hy (by omega) (by omega))
                have hTy : tA h 132 (tvI (tF h 111 28) + y).toNatClampNeg = T ((ms h).1 + j) := by rw [hpy, hT]
                have ec : (G.2.1 q).getD y.toNatClampNeg 0 = (ztx q).getD j 0 := by rw [hX, zof_cl hy]
                have hc : ¬ T ((ms h).1 + j) = (ztx q).getD j 0 := fun z => q548 (hTy.trans (z.trans ec.symm))
                exact tG_cut (zW_mono zTt G dp) (Or.inr ⟨rfl, rfl, rfl, j + 1, y + 1, _, zincN hy (by omega), by omega, Or.inr ⟨rfl, fun z => hc (rQ_at _ _ _ (rW_i.mp z).2 hjl)⟩, rfl⟩)
              · try dsimp only [tvI_i, tvJ_j, tvR_r] at q548
                have q548i := zeqi rfl q548
                refine tw_push rfl ?_
                refine tw_goto rfl ?_
                refine tw_istore rfl ?_
                refine tw_iinc rfl rfl ?_
                refine tw_goto rfl ?_
                have hlen : (Int32.ofNat (G.2.1 q).length).toInt = ((ztx q).length : Int) := by rw [hX]; exact zofI (by omega)
                have hjl : j < (ztx q).length := by have z := q545; omega
                rcases his with ⟨e1, e2, e3⟩ | ⟨e1, -⟩
                rotate_left
                · exact absurd e1 q546
                have hpy : (tvI (tF h 111 28) + y).toNatClampNeg = (ms h).1 + j := zof_cl (zadN (mPz h0.1) hy (by omega) (by omega))
                have hTy : tA h 132 (tvI (tF h 111 28) + y).toNatClampNeg = T ((ms h).1 + j) := by rw [hpy, hT]
                have ec : (G.2.1 q).getD y.toNatClampNeg 0 = (ztx q).getD j 0 := by rw [hX, zof_cl hy]
                have hc : T ((ms h).1 + j) = (ztx q).getD j 0 := hTy.symm.trans (q548.trans ec)
                exact tG_cut (zW_mono zTt G dp) (Or.inr ⟨rfl, rfl, rfl, j + 1, y + 1, _, zincN hy (by omega), by omega, Or.inl ⟨rfl, e2, fun i hi => (Classical.em (i = j)).elim (fun z => by rw [z]; exact hc) (fun z => e3 i (by omega))⟩, rfl⟩)
      · try dsimp only [tvI_i, tvJ_j, tvR_r] at q539
        refine tw_iinc rfl rfl ?_
        refine tw_goto rfl ?_
        have hix : x.toNatClampNeg = (ms h).1 + k := zof_cl hx
        have hTx : tA h 132 x.toNatClampNeg = T ((ms h).1 + k) := by rw [hix, hT]
        have z1 := q528
        have z2 := q539
        rw [hTx] at z1 z2
        have hlt : (ms h).1 + k < n := by omega
        exact tG_cut (zW_mono zTt G dp) (Or.inr ⟨rfl, rfl, rfl, k + 1, x + 1, _, _, zincL hx q517, (rE_y ⟨hlt, by omega, by omega⟩).symm.trans he, by omega, rfl⟩)
/-- places that bear reading, fault or not -/
noncomputable def mZp (h : zH) : Prop := (0 ≤ (tvI (tF h 111 28)).toInt ∧ 0 ≤ (tvI (tF h 111 27)).toInt) ∧ (tvI (tF h 111 28)).toInt ≤ 500 ∧ (tvI (tF h 111 27)).toInt ≤ 400
theorem mZp_k {h h2 : zH} (z : mZp h) (a : tF h2 111 28 = tF h 111 28) (b : tF h2 111 27 = tF h 111 27) : mZp h2 := by unfold mZp; rw [a, b]; exact z
theorem mZp_p {h : zH} (p : mP h) : mZp h := by have := p.2.1; exact ⟨⟨by omega, by omega⟩, by omega, by omega⟩
theorem mZp_s {h h3 : zH} {X : Int32} (z : mZp h) (s : mSet 28 X h h3) (hX : 0 ≤ X.toInt ∧ X.toInt ≤ 500) : mZp h3 := by
  unfold mZp
  rw [mI_x s, mI_o s (by decide)]
  exact ⟨⟨hX.1, z.1.2⟩, hX.2, z.2.2⟩
theorem mZp_o {h h3 : zH} {X : Int32} {b : Nat} (z : mZp h) (s : mSet b X h h3) (hb : b ≠ 28 ∧ b ≠ 27) : mZp h3 := mZp_k z (mI_o s (fun w => hb.1 w.symm)) (mI_o s (fun w => hb.2 w.symm))
theorem cNum2 {y t : Int32} {V Q : Nat} (hy : y.toInt = (V : Int)) (hV : V + 1 ≤ Q) (hQ : Q ≤ 10000) (ht : 48 ≤ t.toInt ∧ t.toInt ≤ 57) : (10 * y + t - 48).toInt = ((10 * V + (t.toInt - 48).toNat : Nat) : Int) ∧ 10 * V + (t.toInt - 48).toNat + 1 ≤ Q * 10 := by
  have h1 : (10 * y).toInt = 10 * V := by
    rw [Int32.toInt_mul, hy, show (10 : Int32).toInt = 10 from rfl]
    exact Int.bmod_eq_of_le (by show (-2147483648 : Int) ≤ 10 * (V : Int); omega) (by show 10 * (V : Int) < (2147483648 : Int); omega)
  have h2 : (10 * y + t).toInt = 10 * V + t.toInt := by
    rw [Int32.toInt_add, h1]
    exact Int.bmod_eq_of_le (by show (-2147483648 : Int) ≤ 10 * (V : Int) + t.toInt; omega) (by show 10 * (V : Int) + t.toInt < (2147483648 : Int); omega)
  refine ⟨?_, by omega⟩
  rw [Int32.toInt_sub, h2, show (48 : Int32).toInt = 48 from rfl]
  exact (Int.bmod_eq_of_le (by show (-2147483648 : Int) ≤ 10 * (V : Int) + t.toInt - 48; omega) (by show 10 * (V : Int) + t.toInt - 48 < (2147483648 : Int); omega)).trans (by omega)
theorem g_digits {G : zG} (hG : G.1 = zProg) (hX : G.2.1 = ztx) {h : zH} {T : Nat → Int32} {n : Nat} (hs : tSh h) (hp : mP h) (hT : tA h 132 = T) (hN : mn h = n) {m : Int32} {M : Nat} (hm : m.toInt = M) (hM : M ≤ 99999) (hB : rB T n (ms h).1 = (ms h).1) : tC zTt G 211 [.ref 111, .int m] h (fun w h2 => mFr h h2 ∧ ((∃ q, rM T n M (ms h).1 = .inr q ∧ w = some (.int (Int32.ofNat q.2)) ∧ mP h2 ∧ ms h2 = rA q.1 (ms h) ∧ mSk h2 = mSk h ∧ tF h2 111 32 = tF h 111 32) ∨ (∃ e x, rM T n M (ms h).1 = .inl e ∧ w = some (.int x) ∧ 0 ≤ x.toInt ∧ mFt h2 e ∧ mZp h2))) := by
  refine tC_in (by rw [hG]; rfl) (fun dp => ?_)
  have g0 := mFr_r hs
  have hpn : (ms h).1 ≤ n := mPle hp hN
  have c59 : (5 : Int32).toInt = 5 := rfl
  have hn4 : n ≤ 400 := by have a := mNl hp hN; have b := hp.2.1; omega
  refine tw_aload rfl rfl ?_
  refine tw_getS rfl (hi_111_28 hs) ?_
  refine tw_istore rfl ?_
  refine tw_aload rfl rfl ?_
  refine tw_virt0 rfl (g_sign hG hX (g0).1 ((mFr_T g0).trans hT) ((mFr_n g0).trans hN) ⟨hp.2.1.1, by have := hp.2.1; omega⟩) (fun wp549 hp549 p549 => ?_)
  obtain ⟨⟨cp549, rfl, kp549⟩, rfl⟩ := p549
  refine tw_stat1 rfl (g_isDigit hG) (fun w9 h9 p550 => ?_)
  obtain ⟨⟨p550, rfl⟩ | ⟨p550, rfl⟩, rfl⟩ := p550
  · try dsimp only [tvI_i, tvJ_j, tvR_r] at p550
    refine tw_if_ne rfl (fun _ => ?_) (fun z => absurd z (by decide))
    refine tw_push rfl ?_
    refine tw_istore rfl ?_
    refine tw_push rfl ?_
    refine tw_istore rfl ?_
    refine tG_loop (zW_mono zTt G dp) (zW_conj zTt G dp) (V := fun pc L st h9 _ _ => pc = 31 ∧ st = [] ∧ ∃ (h1 : zH) (k : Nat) (x y : Int32), h1 = h9 ∧ mFr h h1 ∧ mP h1 ∧ ms h1 = rA ((ms h).1 + k) (ms h) ∧ mSk h1 = mSk h ∧ tF h1 111 32 = tF h 111 32 ∧ (ms h).1 + k ≤ n ∧ rD T n ((ms h).1 + k) = rD T n (ms h).1 ∧ x.toInt = k ∧ y.toInt = ((rV T (ms h).1 (min k 5) : Nat) : Int) ∧ rV T (ms h).1 (min k 5) + 1 ≤ 10 ^ (min k 5) ∧ L = [some (.ref 111), some (.int m), some (.int (tvI (tF h 111 28))), some (.int x), some (.int y)]) ?_ (⟨rfl, rfl, _, 0, 0, 0, rfl, g0, hp, rfl, rfl, rfl, hpn, rfl, rfl, rfl, Nat.le_refl 1, rfl⟩)
    rintro _ _ _ _ _ _ ⟨rfl, rfl, h1, k, x, y, rfl, g1, p1, hms, hsk, h32, hkn, hrd, hx, hy, hyb, rfl⟩
    refine tw_aload rfl rfl ?_
    refine tw_virt0 rfl (g_sign hG hX (g1).1 ((mFr_T g1).trans hT) ((mFr_n g1).trans hN) ⟨p1.2.1.1, by have := p1.2.1; omega⟩) (fun wp551 hp551 p551 => ?_)
    obtain ⟨⟨cp551, rfl, kp551⟩, rfl⟩ := p551
    refine tw_stat1 rfl (g_isDigit hG) (fun w9 h9 p552 => ?_)
    obtain ⟨⟨p552, rfl⟩ | ⟨p552, rfl⟩, rfl⟩ := p552
    · try dsimp only [tvI_i, tvJ_j, tvR_r] at p552
      refine tw_if_eq rfl (fun z => absurd z (by decide)) (fun _ => ?_)
      refine tw_iload rfl rfl ?_
      refine tw_push rfl ?_
      refine tw_ic_ge rfl (fun q553 => ?_) (fun q553 => ?_)
      · try dsimp only [tvI_i, tvJ_j, tvR_r] at q553
        refine tw_iload rfl rfl ?_
        refine tw_istore rfl ?_
        refine tw_iinc rfl rfl ?_
        refine tw_aload rfl rfl ?_
        refine tw_dup rfl ?_
        refine tw_getS rfl (hi_111_28 (g1).1) ?_
        refine tw_push rfl ?_
        refine tw_iadd rfl ?_
        refine tw_put rfl (fun f554 => ?_)
        refine tG_setm f554 (hw_111_28 f554 (g1).1) (fun hf554 ef554 => ?_)
        try dsimp only [tvI_i] at ef554
        have gf554 := mFr_s g1 ef554 (by unfold mFs; omega)
        have wf554 := (sgm_d kp551).mp p552
        rw [hms] at wf554
        have wf554 : (ms h).1 + k < n ∧ 48 ≤ (T ((ms h).1 + k)).toInt ∧ (T ((ms h).1 + k)).toInt ≤ 57 := wf554
        obtain ⟨pf554, sf554, tf554⟩ := mTo p1 ((mFr_n g1).trans hN) ef554 (v := (ms h).1 + (k + 1)) (zincN (n := (ms h).1 + k) (by rw [mPl p1, hms]; rfl) (by omega)) wf554.1
        refine tw_goto rfl ?_
        have hd2 := (rD_y wf554).symm.trans hrd
        have hk5 : 5 ≤ k := by have z := q553; omega
        have hm5 : min k 5 = 5 := by omega
        have hm6 : min (k + 1) 5 = 5 := by omega
        rw [hm5] at hy hyb
        exact tG_cut (zW_mono zTt G dp) (Or.inr ⟨rfl, rfl, _, k + 1, _, _, rfl, gf554, pf554, (by rw [sf554, hms]; rfl), tf554.trans hsk, (mI_o ef554 (by decide)).trans h32, (by omega), hd2, zincN hx (by omega), (by rw [hm6]; exact hy), (by rw [hm6]; exact hyb), rfl⟩)
      · try dsimp only [tvI_i, tvJ_j, tvR_r] at q553
        refine tw_push rfl ?_
        refine tw_iload rfl rfl ?_
        refine tw_imul rfl ?_
        refine tw_aload rfl rfl ?_
        refine tw_virt0 rfl (g_sign hG hX (g1).1 ((mFr_T g1).trans hT) ((mFr_n g1).trans hN) ⟨p1.2.1.1, by have := p1.2.1; omega⟩) (fun wp555 hp555 p555 => ?_)
        obtain ⟨⟨cp555, rfl, kp555⟩, rfl⟩ := p555
        refine tw_iadd rfl ?_
        refine tw_push rfl ?_
        refine tw_isub rfl ?_
        refine tw_goto rfl ?_
        refine tw_istore rfl ?_
        refine tw_iinc rfl rfl ?_
        refine tw_aload rfl rfl ?_
        refine tw_dup rfl ?_
        refine tw_getS rfl (hi_111_28 (g1).1) ?_
        refine tw_push rfl ?_
        refine tw_iadd rfl ?_
        refine tw_put rfl (fun f556 => ?_)
        refine tG_setm f556 (hw_111_28 f556 (g1).1) (fun hf556 ef556 => ?_)
        try dsimp only [tvI_i] at ef556
        have gf556 := mFr_s g1 ef556 (by unfold mFs; omega)
        have wf556 := (sgm_d kp551).mp p552
        rw [hms] at wf556
        have wf556 : (ms h).1 + k < n ∧ 48 ≤ (T ((ms h).1 + k)).toInt ∧ (T ((ms h).1 + k)).toInt ≤ 57 := wf556
        obtain ⟨pf556, sf556, tf556⟩ := mTo p1 ((mFr_n g1).trans hN) ef556 (v := (ms h).1 + (k + 1)) (zincN (n := (ms h).1 + k) (by rw [mPl p1, hms]; rfl) (by omega)) wf556.1
        refine tw_goto rfl ?_
        have hd2 := (rD_y wf556).symm.trans hrd
        have hk5 : k < 5 := by have z := q553; omega
        have hm5 : min k 5 = k := by omega
        have hm6 : min (k + 1) 5 = k + 1 := by omega
        rw [hm5] at hy hyb
        have hc2 : cp555 = T ((ms h).1 + k) := kp555.elim (fun z => by rw [z.2, hms]; rfl) (fun z => absurd (by rw [hms]; exact wf556.1) z.1)
        have hq4 : 10 ^ k ≤ 10000 := Nat.pow_le_pow_right (n := 10) (by omega) (show k ≤ 4 by omega)
        have hnn := cNum2 hy hyb hq4 (t := T ((ms h).1 + k)) ⟨wf556.2.1, wf556.2.2⟩
        exact tG_cut (zW_mono zTt G dp) (Or.inr ⟨rfl, rfl, _, k + 1, _, _, rfl, gf556, pf556, (by rw [sf556, hms]; rfl), tf556.trans hsk, (mI_o ef556 (by decide)).trans h32, (by omega), hd2, zincN hx (by omega), (by rw [hm6]; show (10 * y + cp555 - 48).toInt = _; rw [hc2]; exact hnn.1), (by rw [hm6, Nat.pow_succ]; exact hnn.2), rfl⟩)
    · try dsimp only [tvI_i, tvJ_j, tvR_r] at p552
      refine tw_if_eq rfl (fun _ => ?_) (fun z => absurd z (by decide))
      refine tw_iload rfl rfl ?_
      refine tw_push rfl ?_
      refine tw_ic_gt rfl (fun q557 => ?_) (fun q557 => ?_)
      · try dsimp only [tvI_i, tvJ_j, tvR_r] at q557
        refine tw_aload rfl rfl ?_
        refine tw_push rfl ?_
        refine tw_iload rfl rfl ?_
        refine tw_virt2 rfl (g_fails hG hX (g1).1 p1 ((mFr_T g1).trans hT) ((mFr_n g1).trans hN) (w := 1) (b := (ms h).1) rfl (by decide) (mPl hp) (by omega)) (fun wp558 hp558 p558 => ?_)
        obtain ⟨rfl, gp558, Fp558, ip558, jp558⟩ := p558
        have ggp558 := mFr_t g1 gp558
        refine tw_iload rfl rfl ?_
        have w0 := (sgm_d kp549).mp p550
        have hge := rD_ge (T := T) (n := n) (p := (ms h).1 + 1)
        rw [← rD_y w0] at hge
        have hnd : rD T n ((ms h).1 + k) = (ms h).1 + k := rD_n (fun z => p552 ((sgm_d kp551).mpr (by rw [hms]; exact z)))
        have hrb : rD T n (ms h).1 = (ms h).1 + k := hrd.symm.trans hnd
        have hk0 : k ≠ 0 := by omega
        have z0 := q557
        have hyn : 0 ≤ y.toInt := by omega
        have hbig : 5 < k ∨ M < rV T (ms h).1 k := by
          rcases Nat.lt_or_ge 5 k with a | a
          · exact Or.inl a
          · rw [show min k 5 = k by omega] at hy; exact Or.inr (by omega)
        exact tw_iret rfl ⟨ggp558, Or.inr ⟨_, _, rM_b hB hrb hk0 hbig, rfl, hyn, Fp558, mZp_k (mZp_p p1) ip558 jp558⟩⟩
      · try dsimp only [tvI_i, tvJ_j, tvR_r] at q557
        refine tw_iload rfl rfl ?_
        refine tw_iload rfl rfl ?_
        refine tw_ic_le rfl (fun q559 => ?_) (fun q559 => ?_)
        · try dsimp only [tvI_i, tvJ_j, tvR_r] at q559
          refine tw_iload rfl rfl ?_
          have w0 := (sgm_d kp549).mp p550
          have hge := rD_ge (T := T) (n := n) (p := (ms h).1 + 1)
          rw [← rD_y w0] at hge
          have hnd : rD T n ((ms h).1 + k) = (ms h).1 + k := rD_n (fun z => p552 ((sgm_d kp551).mpr (by rw [hms]; exact z)))
          have hrb : rD T n (ms h).1 = (ms h).1 + k := hrd.symm.trans hnd
          have hk0 : k ≠ 0 := by omega
          have z0 := q557
          have z1 := q559
          have hyn : 0 ≤ y.toInt := by omega
          have hk5 : k ≤ 5 := by omega
          rw [show min k 5 = k by omega] at hy
          exact tw_iret rfl ⟨g1, Or.inl ⟨_, rM_c hB hrb hk0 (by omega), congrArg (fun z => some (Value.int z)) (zof hy), p1, hms, hsk, h32⟩⟩
        · try dsimp only [tvI_i, tvJ_j, tvR_r] at q559
          refine tw_aload rfl rfl ?_
          refine tw_push rfl ?_
          refine tw_iload rfl rfl ?_
          refine tw_virt2 rfl (g_fails hG hX (g1).1 p1 ((mFr_T g1).trans hT) ((mFr_n g1).trans hN) (w := 1) (b := (ms h).1) rfl (by decide) (mPl hp) (by omega)) (fun wp560 hp560 p560 => ?_)
          obtain ⟨rfl, gp560, Fp560, ip560, jp560⟩ := p560
          have ggp560 := mFr_t g1 gp560
          refine tw_iload rfl rfl ?_
          have w0 := (sgm_d kp549).mp p550
          have hge := rD_ge (T := T) (n := n) (p := (ms h).1 + 1)
          rw [← rD_y w0] at hge
          have hnd : rD T n ((ms h).1 + k) = (ms h).1 + k := rD_n (fun z => p552 ((sgm_d kp551).mpr (by rw [hms]; exact z)))
          have hrb : rD T n (ms h).1 = (ms h).1 + k := hrd.symm.trans hnd
          have hk0 : k ≠ 0 := by omega
          have z0 := q557
          have z1 := q559
          have hyn : 0 ≤ y.toInt := by omega
          have hbig : 5 < k ∨ M < rV T (ms h).1 k := by
            rcases Nat.lt_or_ge 5 k with a | a
            · exact Or.inl a
            · rw [show min k 5 = k by omega] at hy; exact Or.inr (by omega)
          exact tw_iret rfl ⟨ggp560, Or.inr ⟨_, _, rM_b hB hrb hk0 hbig, rfl, hyn, Fp560, mZp_k (mZp_p p1) ip560 jp560⟩⟩
  · try dsimp only [tvI_i, tvJ_j, tvR_r] at p550
    refine tw_if_ne rfl (fun z => absurd z (by decide)) (fun _ => ?_)
    refine tw_aload rfl rfl ?_
    refine tw_push rfl ?_
    refine tw_aload rfl rfl ?_
    refine tw_getS rfl (hi_111_28 (g0).1) ?_
    refine tw_virt2 rfl (g_fails hG hX (g0).1 hp ((mFr_T g0).trans hT) ((mFr_n g0).trans hN) (w := 0) (b := (ms h).1) rfl (by decide) (mPl hp) (by omega)) (fun wp561 hp561 p561 => ?_)
    obtain ⟨rfl, gp561, Fp561, ip561, jp561⟩ := p561
    have ggp561 := mFr_t g0 gp561
    refine tw_push rfl ?_
    have hnd : rD T n (ms h).1 = (ms h).1 := rD_n (fun z => p550 ((sgm_d kp549).mpr z))
    exact tw_iret rfl ⟨ggp561, Or.inr ⟨_, _, rM_a hB hnd, rfl, by decide, Fp561, mZp_k (mZp_p hp) ip561 jp561⟩⟩
theorem mhead {S : List Nat} {k : Nat} (h : S.headD 0 = k + 1) : S = (k + 1) :: S.tail := by
  cases S with
  | nil => cases h
  | cons x r => rw [show x = k + 1 from h]; rfl
theorem mT_y (r o : List Nat) : mT (102 :: r) o = mT r (o ++ [100102]) := if_pos rfl
theorem mN_y (r o : List Nat) : mN (10 :: r) o = mN r (o ++ [100110]) := if_pos rfl
theorem mA_y (r o : List Nat) : mA (11 :: r) o = mA r (o ++ [100109]) := if_pos rfl
theorem mO_y (r o : List Nat) : mO1 (12 :: r) o = mO1 r (o ++ [100108]) := if_pos rfl
theorem mP_y (r o : List Nat) : mPm (103 :: r) o = mPm r (o ++ [100100]) := if_pos rfl
theorem mM_y (r o : List Nat) : mPm (104 :: r) o = mPm r (o ++ [100101]) := (if_neg (by decide)).trans (if_pos rfl)
theorem mne {S : List Nat} {k : Nat} (h : S.headD 0 = k + 1) : S ≠ [] := fun z => by rw [z] at h; cases h
theorem g_makesProducts {G : zG} (hG : G.1 = zProg) (hX : G.2.1 = ztx) {h : zH} {T : Nat → Int32} {n : Nat} (hs : tSh h) (hp : mP h) (hT : tA h 132 = T) (hN : mn h = n)  : tC zTt G 214 [.ref 111] h (fun w h2 => w = none ∧ mFr h h2 ∧ mP h2 ∧ (ms h2).1 = (ms h).1 ∧ (ms h2).2.1 = (ms h).2.1 ∧ (mSk h2, (ms h2).2.2) = mT (mSk h) (ms h).2.2 ∧ tF h2 111 32 = tF h 111 32) := by
  refine tC_in (by rw [hG]; rfl) (fun dp => ?_)
  have g0 := mFr_r hs
  have hpn : (ms h).1 ≤ n := mPle hp hN
  refine tG_loop (zW_mono zTt G dp) (zW_conj zTt G dp) (V := fun pc L st h9 _ _ => pc = 0 ∧ st = [] ∧ ∃ h1, h1 = h9 ∧ mFr h h1 ∧ mP h1 ∧ (ms h1).1 = (ms h).1 ∧ (ms h1).2.1 = (ms h).2.1 ∧ mT (mSk h1) (ms h1).2.2 = mT (mSk h) (ms h).2.2 ∧ tF h1 111 32 = tF h 111 32 ∧ L = [some (.ref 111)]) ?_ (⟨rfl, rfl, _, rfl, g0, hp, rfl, rfl, rfl, rfl, rfl⟩)
  rintro _ _ _ _ _ _ ⟨rfl, rfl, h1, rfl, g1, p1, e1, e2, hL, h32, rfl⟩
  refine tw_aload rfl rfl ?_
  refine tw_virt0 rfl (g_top hG hX (g1).1 p1 ((mFr_T g1).trans hT) ((mFr_n g1).trans hN)) (fun wp562 hp562 p562 => ?_)
  obtain ⟨⟨cp562, rfl, Tp562⟩, rfl⟩ := p562
  refine tw_push rfl ?_
  refine tw_ic_ne rfl (fun q563 => ?_) (fun q563 => ?_)
  · try dsimp only [tvI_i, tvJ_j, tvR_r] at q563
    have q563i := zneq (Y := 102) (by decide) q563
    have hfin : (mSk h1, (ms h1).2.2) = mT (mSk h) (ms h).2.2 := by rw [← hL, mT_n (fun z => q563 ((tpm_k Tp562 (k := 102) (K := 102) rfl (by decide)).mpr z))]
    exact tw_vret rfl ⟨rfl, g1, p1, e1, e2, hfin, h32⟩
  · try dsimp only [tvI_i, tvJ_j, tvR_r] at q563
    have q563i := zeqi (Y := 102) (by decide) q563
    refine tw_aload rfl rfl ?_
    refine tw_push rfl ?_
    refine tw_push rfl ?_
    have hhd : (mSk h1).headD 0 = 102 := (tpm_k Tp562 (k := 102) (K := 102) rfl (by decide)).mp q563
    have hne := mne (k := 101) hhd
    have hst : mSk h1 = 102 :: (mSk h1).tail := mhead (k := 101) hhd
    refine tw_virt2 rfl (g_entry hG hX (g1).1 p1 ((mFr_T g1).trans hT) ((mFr_n g1).trans hN) ⟨by decide, by decide⟩) (fun wp564 hp564 p564 => ?_)
    obtain ⟨rfl, gp564, pp564e, sp564, tp564, dp564⟩ := p564
    have ggp564 := mFr_t g1 gp564
    refine tw_aload rfl rfl ?_
    refine tw_dup rfl ?_
    refine tw_getS rfl (hi_111_34 ggp564.1) ?_
    refine tw_push rfl ?_
    refine tw_isub rfl ?_
    refine tw_put rfl (fun f565 => ?_)
    refine tG_setm f565 (hw_111_34 f565 (ggp564).1) (fun hf565 ef565 => ?_)
    try dsimp only [tvI_i] at ef565
    have gf565 := mFr_s ggp564 ef565 (by unfold mFs; omega)
    have hnef565 : mSk hp564 ≠ [] := by rw [tp564]; exact hne
    obtain ⟨pf565, tf565, sf565, df565⟩ := mSk_pop pp564e hnef565 ef565
    refine tw_goto rfl ?_
    have hst : mSk h1 = 102 :: (mSk h1).tail := mhead (k := 101) hhd
    have hsp : mSk hf565 = (mSk h1).tail := by rw [tf565, tp564]
    have hms2 : ms hf565 = rU 100102 (ms h1) := by rw [sf565, sp564]; rfl
    have hlp : mT (mSk hf565) (ms hf565).2.2 = mT (mSk h) (ms h).2.2 := by rw [hsp, hms2, ← hL, hst]; exact (mT_y (mSk h1).tail _).symm
    exact tG_cut (zW_mono zTt G dp) (Or.inr ⟨rfl, rfl, _, rfl, gf565, pf565, by rw [hms2]; exact e1, by rw [hms2]; exact e2, hlp, df565.trans (dp564.trans h32), rfl⟩)
theorem g_makesNots {G : zG} (hG : G.1 = zProg) (hX : G.2.1 = ztx) {h : zH} {T : Nat → Int32} {n : Nat} (hs : tSh h) (hp : mP h) (hT : tA h 132 = T) (hN : mn h = n) (hD : mD h) : tC zTt G 219 [.ref 111] h (fun w h2 => w = none ∧ mFr h h2 ∧ mP h2 ∧ (ms h2).1 = (ms h).1 ∧ (ms h2).2.1 = (ms h).2.1 ∧ (mSk h2, (ms h2).2.2) = mN (mSk h) (ms h).2.2 ∧ mD h2) := by
  refine tC_in (by rw [hG]; rfl) (fun dp => ?_)
  have g0 := mFr_r hs
  have hpn : (ms h).1 ≤ n := mPle hp hN
  refine tG_loop (zW_mono zTt G dp) (zW_conj zTt G dp) (V := fun pc L st h9 _ _ => pc = 0 ∧ st = [] ∧ ∃ h1, h1 = h9 ∧ mFr h h1 ∧ mP h1 ∧ (ms h1).1 = (ms h).1 ∧ (ms h1).2.1 = (ms h).2.1 ∧ mN (mSk h1) (ms h1).2.2 = mN (mSk h) (ms h).2.2 ∧ mD h1 ∧ L = [some (.ref 111)]) ?_ (⟨rfl, rfl, _, rfl, g0, hp, rfl, rfl, rfl, hD, rfl⟩)
  rintro _ _ _ _ _ _ ⟨rfl, rfl, h1, rfl, g1, p1, e1, e2, hL, hDn, rfl⟩
  refine tw_aload rfl rfl ?_
  refine tw_virt0 rfl (g_top hG hX (g1).1 p1 ((mFr_T g1).trans hT) ((mFr_n g1).trans hN)) (fun wp566 hp566 p566 => ?_)
  obtain ⟨⟨cp566, rfl, Tp566⟩, rfl⟩ := p566
  refine tw_push rfl ?_
  refine tw_ic_ne rfl (fun q567 => ?_) (fun q567 => ?_)
  · try dsimp only [tvI_i, tvJ_j, tvR_r] at q567
    have q567i := zneq (Y := 10) (by decide) q567
    have hfin : (mSk h1, (ms h1).2.2) = mN (mSk h) (ms h).2.2 := by rw [← hL, mN_n (fun z => q567 ((tpm_k Tp566 (k := 10) (K := 10) rfl (by decide)).mpr z))]
    exact tw_vret rfl ⟨rfl, g1, p1, e1, e2, hfin, hDn⟩
  · try dsimp only [tvI_i, tvJ_j, tvR_r] at q567
    have q567i := zeqi (Y := 10) (by decide) q567
    refine tw_aload rfl rfl ?_
    refine tw_push rfl ?_
    refine tw_push rfl ?_
    have hhd : (mSk h1).headD 0 = 10 := (tpm_k Tp566 (k := 10) (K := 10) rfl (by decide)).mp q567
    have hne := mne (k := 9) hhd
    have hst : mSk h1 = 10 :: (mSk h1).tail := mhead (k := 9) hhd
    refine tw_virt2 rfl (g_entry hG hX (g1).1 p1 ((mFr_T g1).trans hT) ((mFr_n g1).trans hN) ⟨by decide, by decide⟩) (fun wp568 hp568 p568 => ?_)
    obtain ⟨rfl, gp568, pp568e, sp568, tp568, dp568⟩ := p568
    have ggp568 := mFr_t g1 gp568
    refine tw_aload rfl rfl ?_
    refine tw_dup rfl ?_
    refine tw_getS rfl (hi_111_34 ggp568.1) ?_
    refine tw_push rfl ?_
    refine tw_isub rfl ?_
    refine tw_put rfl (fun f569 => ?_)
    refine tG_setm f569 (hw_111_34 f569 (ggp568).1) (fun hf569 ef569 => ?_)
    try dsimp only [tvI_i] at ef569
    have gf569 := mFr_s ggp568 ef569 (by unfold mFs; omega)
    have hnef569 : mSk hp568 ≠ [] := by rw [tp568]; exact hne
    obtain ⟨pf569, tf569, sf569, df569⟩ := mSk_pop pp568e hnef569 ef569
    refine tw_aload rfl rfl ?_
    refine tw_dup rfl ?_
    refine tw_getS rfl (hi_111_32 (gf569).1) ?_
    refine tw_push rfl ?_
    refine tw_isub rfl ?_
    refine tw_put rfl (fun f570 => ?_)
    refine tG_setm f570 (hw_111_32 f570 (gf569).1) (fun hf570 ef570 => ?_)
    try dsimp only [tvI_i] at ef570
    have gf570 := mFr_s gf569 ef570 (by unfold mFs; omega)
    have hdf570 : (tvI (tF hf569 111 32)).toInt = ((mDp (mSk hf569) + 1 : Nat) : Int) := by
      rw [df569, dp568]
      refine (show (tvI (tF h1 111 32)).toInt = (mDp (mSk h1) : Int) from hDn).trans ?_
      rw [tf569, tp568]
      exact congrArg (fun z : Nat => (z : Int)) ((congrArg mDp hst).trans (mDp_c (by decide)))
    obtain ⟨pf570, tf570, sf570, ddf570⟩ := mDn pf569 ef570 hdf570 rfl
    refine tw_goto rfl ?_
    have hst : mSk h1 = 10 :: (mSk h1).tail := mhead (k := 9) hhd
    have hsp : mSk hf570 = (mSk h1).tail := by rw [tf570, tf569, tp568]
    have hms2 : ms hf570 = rU 100110 (ms h1) := by rw [sf570, sf569, sp568]; rfl
    have hlp : mN (mSk hf570) (ms hf570).2.2 = mN (mSk h) (ms h).2.2 := by rw [hsp, hms2, ← hL, hst]; exact (mN_y (mSk h1).tail _).symm
    exact tG_cut (zW_mono zTt G dp) (Or.inr ⟨rfl, rfl, _, rfl, gf570, pf570, by rw [hms2]; exact e1, by rw [hms2]; exact e2, hlp, ddf570, rfl⟩)
theorem g_makesAnds {G : zG} (hG : G.1 = zProg) (hX : G.2.1 = ztx) {h : zH} {T : Nat → Int32} {n : Nat} (hs : tSh h) (hp : mP h) (hT : tA h 132 = T) (hN : mn h = n)  : tC zTt G 220 [.ref 111] h (fun w h2 => w = none ∧ mFr h h2 ∧ mP h2 ∧ (ms h2).1 = (ms h).1 ∧ (ms h2).2.1 = (ms h).2.1 ∧ (mSk h2, (ms h2).2.2) = mA (mSk h) (ms h).2.2 ∧ tF h2 111 32 = tF h 111 32) := by
  refine tC_in (by rw [hG]; rfl) (fun dp => ?_)
  have g0 := mFr_r hs
  have hpn : (ms h).1 ≤ n := mPle hp hN
  refine tG_loop (zW_mono zTt G dp) (zW_conj zTt G dp) (V := fun pc L st h9 _ _ => pc = 0 ∧ st = [] ∧ ∃ h1, h1 = h9 ∧ mFr h h1 ∧ mP h1 ∧ (ms h1).1 = (ms h).1 ∧ (ms h1).2.1 = (ms h).2.1 ∧ mA (mSk h1) (ms h1).2.2 = mA (mSk h) (ms h).2.2 ∧ tF h1 111 32 = tF h 111 32 ∧ L = [some (.ref 111)]) ?_ (⟨rfl, rfl, _, rfl, g0, hp, rfl, rfl, rfl, rfl, rfl⟩)
  rintro _ _ _ _ _ _ ⟨rfl, rfl, h1, rfl, g1, p1, e1, e2, hL, h32, rfl⟩
  refine tw_aload rfl rfl ?_
  refine tw_virt0 rfl (g_top hG hX (g1).1 p1 ((mFr_T g1).trans hT) ((mFr_n g1).trans hN)) (fun wp571 hp571 p571 => ?_)
  obtain ⟨⟨cp571, rfl, Tp571⟩, rfl⟩ := p571
  refine tw_push rfl ?_
  refine tw_ic_ne rfl (fun q572 => ?_) (fun q572 => ?_)
  · try dsimp only [tvI_i, tvJ_j, tvR_r] at q572
    have q572i := zneq (Y := 11) (by decide) q572
    have hfin : (mSk h1, (ms h1).2.2) = mA (mSk h) (ms h).2.2 := by rw [← hL, mA_n (fun z => q572 ((tpm_k Tp571 (k := 11) (K := 11) rfl (by decide)).mpr z))]
    exact tw_vret rfl ⟨rfl, g1, p1, e1, e2, hfin, h32⟩
  · try dsimp only [tvI_i, tvJ_j, tvR_r] at q572
    have q572i := zeqi (Y := 11) (by decide) q572
    refine tw_aload rfl rfl ?_
    refine tw_push rfl ?_
    refine tw_push rfl ?_
    have hhd : (mSk h1).headD 0 = 11 := (tpm_k Tp571 (k := 11) (K := 11) rfl (by decide)).mp q572
    have hne := mne (k := 10) hhd
    have hst : mSk h1 = 11 :: (mSk h1).tail := mhead (k := 10) hhd
    refine tw_virt2 rfl (g_entry hG hX (g1).1 p1 ((mFr_T g1).trans hT) ((mFr_n g1).trans hN) ⟨by decide, by decide⟩) (fun wp573 hp573 p573 => ?_)
    obtain ⟨rfl, gp573, pp573e, sp573, tp573, dp573⟩ := p573
    have ggp573 := mFr_t g1 gp573
    refine tw_aload rfl rfl ?_
    refine tw_dup rfl ?_
    refine tw_getS rfl (hi_111_34 ggp573.1) ?_
    refine tw_push rfl ?_
    refine tw_isub rfl ?_
    refine tw_put rfl (fun f574 => ?_)
    refine tG_setm f574 (hw_111_34 f574 (ggp573).1) (fun hf574 ef574 => ?_)
    try dsimp only [tvI_i] at ef574
    have gf574 := mFr_s ggp573 ef574 (by unfold mFs; omega)
    have hnef574 : mSk hp573 ≠ [] := by rw [tp573]; exact hne
    obtain ⟨pf574, tf574, sf574, df574⟩ := mSk_pop pp573e hnef574 ef574
    refine tw_goto rfl ?_
    have hst : mSk h1 = 11 :: (mSk h1).tail := mhead (k := 10) hhd
    have hsp : mSk hf574 = (mSk h1).tail := by rw [tf574, tp573]
    have hms2 : ms hf574 = rU 100109 (ms h1) := by rw [sf574, sp573]; rfl
    have hlp : mA (mSk hf574) (ms hf574).2.2 = mA (mSk h) (ms h).2.2 := by rw [hsp, hms2, ← hL, hst]; exact (mA_y (mSk h1).tail _).symm
    exact tG_cut (zW_mono zTt G dp) (Or.inr ⟨rfl, rfl, _, rfl, gf574, pf574, by rw [hms2]; exact e1, by rw [hms2]; exact e2, hlp, df574.trans (dp573.trans h32), rfl⟩)
theorem g_makesSums {G : zG} (hG : G.1 = zProg) (hX : G.2.1 = ztx) {h : zH} {T : Nat → Int32} {n : Nat} (hs : tSh h) (hp : mP h) (hT : tA h 132 = T) (hN : mn h = n)  : tC zTt G 215 [.ref 111] h (fun w h2 => w = none ∧ mFr h h2 ∧ mP h2 ∧ (ms h2).1 = (ms h).1 ∧ (ms h2).2.1 = (ms h).2.1 ∧ (mSk h2, (ms h2).2.2) = mS (mSk h) (ms h).2.2 ∧ tF h2 111 32 = tF h 111 32) := by
  refine tC_in (by rw [hG]; rfl) (fun dp => ?_)
  have g0 := mFr_r hs
  have hpn : (ms h).1 ≤ n := mPle hp hN
  refine tw_aload rfl rfl ?_
  refine tw_virt0 rfl (g_makesProducts hG hX (g0).1 hp ((mFr_T g0).trans hT) ((mFr_n g0).trans hN)) (fun wp575 hp575 p575 => ?_)
  obtain ⟨rfl, gp575, pp575e, ap575, bp575, mp575, dp575⟩ := p575
  have ggp575 := mFr_t g0 gp575
  refine tG_loop (zW_mono zTt G dp) (zW_conj zTt G dp) (V := fun pc L st h9 _ _ => pc = 4 ∧ st = [] ∧ ∃ h1, h1 = h9 ∧ mFr h h1 ∧ mP h1 ∧ (ms h1).1 = (ms h).1 ∧ (ms h1).2.1 = (ms h).2.1 ∧ mPm (mSk h1) (ms h1).2.2 = mS (mSk h) (ms h).2.2 ∧ tF h1 111 32 = tF h 111 32 ∧ L = [some (.ref 111)]) ?_ (⟨rfl, rfl, _, rfl, ggp575, pp575e, ap575, bp575, (by unfold mS; rw [← mp575]), dp575, rfl⟩)
  rintro _ _ _ _ _ _ ⟨rfl, rfl, h1, rfl, g1, p1, e1, e2, hL, h32, rfl⟩
  refine tw_aload rfl rfl ?_
  refine tw_virt0 rfl (g_top hG hX (g1).1 p1 ((mFr_T g1).trans hT) ((mFr_n g1).trans hN)) (fun wp576 hp576 p576 => ?_)
  obtain ⟨⟨cp576, rfl, Tp576⟩, rfl⟩ := p576
  refine tw_push rfl ?_
  refine tw_ic_eq rfl (fun q577 => ?_) (fun q577 => ?_)
  · try dsimp only [tvI_i, tvJ_j, tvR_r] at q577
    have q577i := zeqi (Y := 103) (by decide) q577
    refine tw_aload rfl rfl ?_
    refine tw_aload rfl rfl ?_
    refine tw_virt0 rfl (g_top hG hX (g1).1 p1 ((mFr_T g1).trans hT) ((mFr_n g1).trans hN)) (fun wp578 hp578 p578 => ?_)
    obtain ⟨⟨cp578, rfl, Tp578⟩, rfl⟩ := p578
    refine tw_push rfl ?_
    refine tw_isub rfl ?_
    refine tw_push rfl ?_
    have hhd : (mSk h1).headD 0 = 103 := (tpm_k Tp576 (k := 103) (K := 103) rfl (by decide)).mp q577
    have hne := mne (k := 102) hhd
    have hst : mSk h1 = 103 :: (mSk h1).tail := mhead (k := 102) hhd
    have hc9 := (tpm_k Tp578 (k := 103) (K := 103) rfl (by decide)).mpr hhd
    subst hc9
    refine tw_virt2 rfl (g_entry hG hX (g1).1 p1 ((mFr_T g1).trans hT) ((mFr_n g1).trans hN) ⟨by decide, by decide⟩) (fun wp579 hp579 p579 => ?_)
    obtain ⟨rfl, gp579, pp579e, sp579, tp579, dp579⟩ := p579
    have ggp579 := mFr_t g1 gp579
    refine tw_aload rfl rfl ?_
    refine tw_dup rfl ?_
    refine tw_getS rfl (hi_111_34 ggp579.1) ?_
    refine tw_push rfl ?_
    refine tw_isub rfl ?_
    refine tw_put rfl (fun f580 => ?_)
    refine tG_setm f580 (hw_111_34 f580 (ggp579).1) (fun hf580 ef580 => ?_)
    try dsimp only [tvI_i] at ef580
    have gf580 := mFr_s ggp579 ef580 (by unfold mFs; omega)
    have hnef580 : mSk hp579 ≠ [] := by rw [tp579]; exact hne
    obtain ⟨pf580, tf580, sf580, df580⟩ := mSk_pop pp579e hnef580 ef580
    refine tw_goto rfl ?_
    have hst : mSk h1 = 103 :: (mSk h1).tail := mhead (k := 102) hhd
    have hsp : mSk hf580 = (mSk h1).tail := by rw [tf580, tp579]
    have hms2 : ms hf580 = rU 100100 (ms h1) := by rw [sf580, sp579]; rfl
    have hlp : mPm (mSk hf580) (ms hf580).2.2 = mS (mSk h) (ms h).2.2 := by rw [hsp, hms2, ← hL, hst]; exact (mP_y (mSk h1).tail _).symm
    exact tG_cut (zW_mono zTt G dp) (Or.inr ⟨rfl, rfl, _, rfl, gf580, pf580, by rw [hms2]; exact e1, by rw [hms2]; exact e2, hlp, df580.trans (dp579.trans h32), rfl⟩)
  · try dsimp only [tvI_i, tvJ_j, tvR_r] at q577
    have q577i := zneq (Y := 103) (by decide) q577
    refine tw_aload rfl rfl ?_
    refine tw_virt0 rfl (g_top hG hX (g1).1 p1 ((mFr_T g1).trans hT) ((mFr_n g1).trans hN)) (fun wp581 hp581 p581 => ?_)
    obtain ⟨⟨cp581, rfl, Tp581⟩, rfl⟩ := p581
    refine tw_push rfl ?_
    refine tw_ic_ne rfl (fun q582 => ?_) (fun q582 => ?_)
    · try dsimp only [tvI_i, tvJ_j, tvR_r] at q582
      have q582i := zneq (Y := 104) (by decide) q582
      have hfin : (mSk h1, (ms h1).2.2) = mS (mSk h) (ms h).2.2 := by rw [← hL, mPm_n (fun z => q577 ((tpm_k Tp576 (k := 103) (K := 103) rfl (by decide)).mpr z)) (fun z => q582 ((tpm_k Tp581 (k := 104) (K := 104) rfl (by decide)).mpr z))]
      exact tw_vret rfl ⟨rfl, g1, p1, e1, e2, hfin, h32⟩
    · try dsimp only [tvI_i, tvJ_j, tvR_r] at q582
      have q582i := zeqi (Y := 104) (by decide) q582
      refine tw_aload rfl rfl ?_
      refine tw_aload rfl rfl ?_
      refine tw_virt0 rfl (g_top hG hX (g1).1 p1 ((mFr_T g1).trans hT) ((mFr_n g1).trans hN)) (fun wp583 hp583 p583 => ?_)
      obtain ⟨⟨cp583, rfl, Tp583⟩, rfl⟩ := p583
      refine tw_push rfl ?_
      refine tw_isub rfl ?_
      refine tw_push rfl ?_
      have hhd : (mSk h1).headD 0 = 104 := (tpm_k Tp581 (k := 104) (K := 104) rfl (by decide)).mp q582
      have hne := mne (k := 103) hhd
      have hst : mSk h1 = 104 :: (mSk h1).tail := mhead (k := 103) hhd
      have hc9 := (tpm_k Tp583 (k := 104) (K := 104) rfl (by decide)).mpr hhd
      subst hc9
      refine tw_virt2 rfl (g_entry hG hX (g1).1 p1 ((mFr_T g1).trans hT) ((mFr_n g1).trans hN) ⟨by decide, by decide⟩) (fun wp584 hp584 p584 => ?_)
      obtain ⟨rfl, gp584, pp584e, sp584, tp584, dp584⟩ := p584
      have ggp584 := mFr_t g1 gp584
      refine tw_aload rfl rfl ?_
      refine tw_dup rfl ?_
      refine tw_getS rfl (hi_111_34 ggp584.1) ?_
      refine tw_push rfl ?_
      refine tw_isub rfl ?_
      refine tw_put rfl (fun f585 => ?_)
      refine tG_setm f585 (hw_111_34 f585 (ggp584).1) (fun hf585 ef585 => ?_)
      try dsimp only [tvI_i] at ef585
      have gf585 := mFr_s ggp584 ef585 (by unfold mFs; omega)
      have hnef585 : mSk hp584 ≠ [] := by rw [tp584]; exact hne
      obtain ⟨pf585, tf585, sf585, df585⟩ := mSk_pop pp584e hnef585 ef585
      refine tw_goto rfl ?_
      have hst : mSk h1 = 104 :: (mSk h1).tail := mhead (k := 103) hhd
      have hsp : mSk hf585 = (mSk h1).tail := by rw [tf585, tp584]
      have hms2 : ms hf585 = rU 100101 (ms h1) := by rw [sf585, sp584]; rfl
      have hlp : mPm (mSk hf585) (ms hf585).2.2 = mS (mSk h) (ms h).2.2 := by rw [hsp, hms2, ← hL, hst]; exact (mM_y (mSk h1).tail _).symm
      exact tG_cut (zW_mono zTt G dp) (Or.inr ⟨rfl, rfl, _, rfl, gf585, pf585, by rw [hms2]; exact e1, by rw [hms2]; exact e2, hlp, df585.trans (dp584.trans h32), rfl⟩)
theorem g_makesOrs {G : zG} (hG : G.1 = zProg) (hX : G.2.1 = ztx) {h : zH} {T : Nat → Int32} {n : Nat} (hs : tSh h) (hp : mP h) (hT : tA h 132 = T) (hN : mn h = n)  : tC zTt G 221 [.ref 111] h (fun w h2 => w = none ∧ mFr h h2 ∧ mP h2 ∧ (ms h2).1 = (ms h).1 ∧ (ms h2).2.1 = (ms h).2.1 ∧ (mSk h2, (ms h2).2.2) = mO (mSk h) (ms h).2.2 ∧ tF h2 111 32 = tF h 111 32) := by
  refine tC_in (by rw [hG]; rfl) (fun dp => ?_)
  have g0 := mFr_r hs
  have hpn : (ms h).1 ≤ n := mPle hp hN
  refine tw_aload rfl rfl ?_
  refine tw_virt0 rfl (g_makesAnds hG hX (g0).1 hp ((mFr_T g0).trans hT) ((mFr_n g0).trans hN)) (fun wp586 hp586 p586 => ?_)
  obtain ⟨rfl, gp586, pp586e, ap586, bp586, mp586, dp586⟩ := p586
  have ggp586 := mFr_t g0 gp586
  refine tG_loop (zW_mono zTt G dp) (zW_conj zTt G dp) (V := fun pc L st h9 _ _ => pc = 4 ∧ st = [] ∧ ∃ h1, h1 = h9 ∧ mFr h h1 ∧ mP h1 ∧ (ms h1).1 = (ms h).1 ∧ (ms h1).2.1 = (ms h).2.1 ∧ mO1 (mSk h1) (ms h1).2.2 = mO (mSk h) (ms h).2.2 ∧ tF h1 111 32 = tF h 111 32 ∧ L = [some (.ref 111)]) ?_ (⟨rfl, rfl, _, rfl, ggp586, pp586e, ap586, bp586, (by unfold mO; rw [← mp586]), dp586, rfl⟩)
  rintro _ _ _ _ _ _ ⟨rfl, rfl, h1, rfl, g1, p1, e1, e2, hL, h32, rfl⟩
  refine tw_aload rfl rfl ?_
  refine tw_virt0 rfl (g_top hG hX (g1).1 p1 ((mFr_T g1).trans hT) ((mFr_n g1).trans hN)) (fun wp587 hp587 p587 => ?_)
  obtain ⟨⟨cp587, rfl, Tp587⟩, rfl⟩ := p587
  refine tw_push rfl ?_
  refine tw_ic_ne rfl (fun q588 => ?_) (fun q588 => ?_)
  · try dsimp only [tvI_i, tvJ_j, tvR_r] at q588
    have q588i := zneq (Y := 12) (by decide) q588
    have hfin : (mSk h1, (ms h1).2.2) = mO (mSk h) (ms h).2.2 := by rw [← hL, mO1_n (fun z => q588 ((tpm_k Tp587 (k := 12) (K := 12) rfl (by decide)).mpr z))]
    exact tw_vret rfl ⟨rfl, g1, p1, e1, e2, hfin, h32⟩
  · try dsimp only [tvI_i, tvJ_j, tvR_r] at q588
    have q588i := zeqi (Y := 12) (by decide) q588
    refine tw_aload rfl rfl ?_
    refine tw_push rfl ?_
    refine tw_push rfl ?_
    have hhd : (mSk h1).headD 0 = 12 := (tpm_k Tp587 (k := 12) (K := 12) rfl (by decide)).mp q588
    have hne := mne (k := 11) hhd
    have hst : mSk h1 = 12 :: (mSk h1).tail := mhead (k := 11) hhd
    refine tw_virt2 rfl (g_entry hG hX (g1).1 p1 ((mFr_T g1).trans hT) ((mFr_n g1).trans hN) ⟨by decide, by decide⟩) (fun wp589 hp589 p589 => ?_)
    obtain ⟨rfl, gp589, pp589e, sp589, tp589, dp589⟩ := p589
    have ggp589 := mFr_t g1 gp589
    refine tw_aload rfl rfl ?_
    refine tw_dup rfl ?_
    refine tw_getS rfl (hi_111_34 ggp589.1) ?_
    refine tw_push rfl ?_
    refine tw_isub rfl ?_
    refine tw_put rfl (fun f590 => ?_)
    refine tG_setm f590 (hw_111_34 f590 (ggp589).1) (fun hf590 ef590 => ?_)
    try dsimp only [tvI_i] at ef590
    have gf590 := mFr_s ggp589 ef590 (by unfold mFs; omega)
    have hnef590 : mSk hp589 ≠ [] := by rw [tp589]; exact hne
    obtain ⟨pf590, tf590, sf590, df590⟩ := mSk_pop pp589e hnef590 ef590
    refine tw_goto rfl ?_
    have hst : mSk h1 = 12 :: (mSk h1).tail := mhead (k := 11) hhd
    have hsp : mSk hf590 = (mSk h1).tail := by rw [tf590, tp589]
    have hms2 : ms hf590 = rU 100108 (ms h1) := by rw [sf590, sp589]; rfl
    have hlp : mO1 (mSk hf590) (ms hf590).2.2 = mO (mSk h) (ms h).2.2 := by rw [hsp, hms2, ← hL, hst]; exact (mO_y (mSk h1).tail _).symm
    exact tG_cut (zW_mono zTt G dp) (Or.inr ⟨rfl, rfl, _, rfl, gf590, pf590, by rw [hms2]; exact e1, by rw [hms2]; exact e2, hlp, df590.trans (dp589.trans h32), rfl⟩)
theorem zp0 {x : Int32} {k : Nat} (h : x.toInt = k) : (x + 0).toInt = ((k + 0 : Nat) : Int) := by
  rw [Int32.toInt_add, show (0 : Int32).toInt = 0 from rfl, Int.add_zero, h]
  have := Int32.toInt_lt x
  exact Int.bmod_eq_of_le (by show (-2147483648 : Int) ≤ (k : Int); omega) (by show (k : Int) < (2147483648 : Int); omega)
theorem cmw {K : Int32} {k : Nat} (hk : K.toInt = (k : Int)) {C p : Nat} (h : k + 100098 = C) : K.toInt + 100098 = (((C, p) : Nat × Nat).1 : Int) := by
  show K.toInt + 100098 = (C : Int)
  rw [hk, ← h]
  omega
theorem zp1 {x : Int32} {k : Nat} (h : x.toInt = k) (hk : k ≤ 1000) : (x + 1).toInt = ((k + 1 : Nat) : Int) := zincN h (by omega)
theorem g_compares {G : zG} (hG : G.1 = zProg) (hX : G.2.1 = ztx) {h : zH} {T : Nat → Int32} {n : Nat} (hs : tSh h) (hp : mP h) (hT : tA h 132 = T) (hN : mn h = n)  : tC zTt G 212 [.ref 111] h (fun w h2 => mFr h h2 ∧ ((rCm T n (ms h).1 = none ∧ w = some (.int 0) ∧ h2 = h) ∨ (∃ q, rCm T n (ms h).1 = some q ∧ (((ms h).2.1 ≠ 80 ∧ (∃ x : Int32, w = some (.int x) ∧ x.toInt + 100098 = (q.1 : Int)) ∧ mP h2 ∧ ms h2 = (q.2, (ms h).2.1 + 1, (ms h).2.2) ∧ mSk h2 = mSk h ∧ tF h2 111 32 = tF h 111 32) ∨ ((ms h).2.1 = 80 ∧ ∃ x, w = some (.int x) ∧ 5 ≤ x.toInt ∧ x.toInt ≤ 9 ∧ mFt h2 (1 + 8 * (ms h).1 + 3) ∧ mZp h2))))) := by
  refine tC_in (by rw [hG]; rfl) (fun dp => ?_)
  have g0 := mFr_r hs
  have hpn : (ms h).1 ≤ n := mPle hp hN
  have hn4 : n ≤ 400 := by have a := mNl hp hN; have b := hp.2.1; omega
  refine tw_aload rfl rfl ?_
  refine tw_virt0 rfl (g_sign hG hX (g0).1 ((mFr_T g0).trans hT) ((mFr_n g0).trans hN) ⟨hp.2.1.1, by have := hp.2.1; omega⟩) (fun wp591 hp591 p591 => ?_)
  obtain ⟨⟨cp591, rfl, kp591⟩, rfl⟩ := p591
  refine tw_istore rfl ?_
  refine tw_iload rfl rfl ?_
  refine tw_push rfl ?_
  refine tw_ic_eq rfl (fun q592 => ?_) (fun q592 => ?_)
  · try dsimp only [tvI_i, tvJ_j, tvR_r] at q592
    have q592i := zeqi (Y := 60) (by decide) q592
    refine tw_aload rfl rfl ?_
    refine tw_aload rfl rfl ?_
    refine tw_getS rfl (hi_111_28 (g0).1) ?_
    refine tw_virt1 rfl (g_counts hG hX (g0).1 hp ((mFr_T g0).trans hT) ((mFr_n g0).trans hN) (b := (ms h).1) (mPl hp) (by omega)) (fun w9 hp593 p593 => ?_)
    obtain ⟨rfl, gp593, ⟨np593, pp593e, sp593, tp593, dp593⟩ | ⟨np593, Fp593⟩, ip593, jp593⟩ := p593
    · have ggp593 := mFr_t g0 gp593
      refine tw_aload rfl rfl ?_
      refine tw_dup rfl ?_
      refine tw_getS rfl (hi_111_28 ggp593.1) ?_
      refine tw_push rfl ?_
      refine tw_iadd rfl ?_
      refine tw_put rfl (fun f594 => ?_)
      refine tG_setm f594 (hw_111_28 f594 (ggp593).1) (fun hf594 ef594 => ?_)
      try dsimp only [tvI_i] at ef594
      have gf594 := mFr_s ggp593 ef594 (by unfold mFs; omega)
      have wf594 := (sgm_k kp591 60 (by decide)).mp q592
      obtain ⟨pf594, sf594, tf594⟩ := mTo pp593e ((mFr_n ggp593).trans hN) ef594 (v := (ms h).1 + 1) (zincN (n := (ms h).1) (by rw [mPl pp593e, sp593]) (by omega)) wf594.1
      rw [sp593] at sf594
      refine tw_iload rfl rfl ?_
      refine tw_push rfl ?_
      refine tw_ic_eq rfl (fun q595 => ?_) (fun q595 => ?_)
      · try dsimp only [tvI_i, tvJ_j, tvR_r] at q595
        have q595i := zeqi (Y := 61) (by decide) q595
        exact absurd (q592.symm.trans q595) (by decide)
      · try dsimp only [tvI_i, tvJ_j, tvR_r] at q595
        have q595i := zneq (Y := 61) (by decide) q595
        refine tw_aload rfl rfl ?_
        refine tw_virt0 rfl (g_sign hG hX (gf594).1 ((mFr_T gf594).trans hT) ((mFr_n gf594).trans hN) ⟨pf594.2.1.1, by have := pf594.2.1; omega⟩) (fun wp596 hp596 p596 => ?_)
        obtain ⟨⟨cp596, rfl, kp596⟩, rfl⟩ := p596
        refine tw_push rfl ?_
        refine tw_ic_ne rfl (fun q597 => ?_) (fun q597 => ?_)
        · try dsimp only [tvI_i, tvJ_j, tvR_r] at q597
          have q597i := zneq (Y := 61) (by decide) q597
          refine tw_push rfl ?_
          refine tw_istore rfl ?_
          refine tw_aload rfl rfl ?_
          refine tw_dup rfl ?_
          refine tw_getS rfl (hi_111_28 (gf594).1) ?_
          refine tw_iload rfl rfl ?_
          refine tw_if_eq rfl (fun _ => ?_) (fun z => absurd z (by decide))
          refine tw_push rfl ?_
          refine tw_iadd rfl ?_
          refine tw_put rfl (fun f598 => ?_)
          refine tG_setm f598 (hw_111_28 f598 (gf594).1) (fun hf598 ef598 => ?_)
          try dsimp only [tvI_i] at ef598
          have gf598 := mFr_s gf594 ef598 (by unfold mFs; omega)
          obtain ⟨pf598, sf598, tf598⟩ := mTo pf594 ((mFr_n gf594).trans hN) ef598 (v := (ms h).1 + 1 + 0) (zp0 (by rw [mPl pf594, sf594]; rfl)) (by have z := mPle pf594 ((mFr_n gf594).trans hN); rw [sf594] at z; exact z)
          rw [sf594] at sf598
          refine tw_iload rfl rfl ?_
          refine tw_push rfl ?_
          refine tw_ic_ne rfl (fun q599 => ?_) (fun q599 => ?_)
          · try dsimp only [tvI_i, tvJ_j, tvR_r] at q599
            have q599i := zneq (Y := 61) (by decide) q599
            refine tw_iload rfl rfl ?_
            refine tw_push rfl ?_
            refine tw_ic_ne rfl (fun q600 => ?_) (fun q600 => ?_)
            · try dsimp only [tvI_i, tvJ_j, tvR_r] at q600
              have q600i := zneq (Y := 60) (by decide) q600
              exact absurd q592 q600
            · try dsimp only [tvI_i, tvJ_j, tvR_r] at q600
              have q600i := zeqi (Y := 60) (by decide) q600
              refine tw_iload rfl rfl ?_
              refine tw_if_eq rfl (fun _ => ?_) (fun z => absurd z (by decide))
              refine tw_push rfl ?_
              refine tw_goto rfl ?_
              have w9 := (sgm_k kp591 60 (by decide)).mp q592
              have hk2 := sgm_k kp596 61 (by decide)
              rw [sf594] at hk2
              have hk2 : _ ↔ ((ms h).1 + 1 < n ∧ T ((ms h).1 + 1) = 61) := hk2
              have hq9 := (cm60 w9).trans (if_neg (fun z => q597 (hk2.mpr z)))
              exact tw_iret rfl ⟨gf598, Or.inr ⟨(100103, (ms h).1 + 1), hq9, Or.inl ⟨np593, ⟨5, rfl, cmw (k := 5) (C := 100103) rfl rfl⟩, pf598, sf598, tf598.trans (tf594.trans tp593), (mI_o ef598 (by decide)).trans ((mI_o ef594 (by decide)).trans dp593)⟩⟩⟩
          · try dsimp only [tvI_i, tvJ_j, tvR_r] at q599
            have q599i := zeqi (Y := 61) (by decide) q599
            exact absurd (q592.symm.trans q599) (by decide)
        · try dsimp only [tvI_i, tvJ_j, tvR_r] at q597
          have q597i := zeqi (Y := 61) (by decide) q597
          refine tw_push rfl ?_
          refine tw_goto rfl ?_
          refine tw_istore rfl ?_
          refine tw_aload rfl rfl ?_
          refine tw_dup rfl ?_
          refine tw_getS rfl (hi_111_28 (gf594).1) ?_
          refine tw_iload rfl rfl ?_
          refine tw_if_eq rfl (fun z => absurd z (by decide)) (fun _ => ?_)
          refine tw_push rfl ?_
          refine tw_goto rfl ?_
          refine tw_iadd rfl ?_
          refine tw_put rfl (fun f601 => ?_)
          refine tG_setm f601 (hw_111_28 f601 (gf594).1) (fun hf601 ef601 => ?_)
          try dsimp only [tvI_i] at ef601
          have gf601 := mFr_s gf594 ef601 (by unfold mFs; omega)
          have vf601 := (sgm_k kp596 61 (by decide)).mp q597
          rw [sf594] at vf601
          have vf601 : (ms h).1 + 1 < n ∧ T ((ms h).1 + 1) = 61 := vf601
          obtain ⟨pf601, sf601, tf601⟩ := mTo pf594 ((mFr_n gf594).trans hN) ef601 (v := (ms h).1 + 1 + 1) (zincN (n := (ms h).1 + 1) (by rw [mPl pf594, sf594]; rfl) (by omega)) (by omega)
          rw [sf594] at sf601
          refine tw_iload rfl rfl ?_
          refine tw_push rfl ?_
          refine tw_ic_ne rfl (fun q602 => ?_) (fun q602 => ?_)
          · try dsimp only [tvI_i, tvJ_j, tvR_r] at q602
            have q602i := zneq (Y := 61) (by decide) q602
            refine tw_iload rfl rfl ?_
            refine tw_push rfl ?_
            refine tw_ic_ne rfl (fun q603 => ?_) (fun q603 => ?_)
            · try dsimp only [tvI_i, tvJ_j, tvR_r] at q603
              have q603i := zneq (Y := 60) (by decide) q603
              exact absurd q592 q603
            · try dsimp only [tvI_i, tvJ_j, tvR_r] at q603
              have q603i := zeqi (Y := 60) (by decide) q603
              refine tw_iload rfl rfl ?_
              refine tw_if_eq rfl (fun z => absurd z (by decide)) (fun _ => ?_)
              refine tw_push rfl ?_
              refine tw_goto rfl ?_
              have w9 := (sgm_k kp591 60 (by decide)).mp q592
              have hk2 := sgm_k kp596 61 (by decide)
              rw [sf594] at hk2
              have hk2 : _ ↔ ((ms h).1 + 1 < n ∧ T ((ms h).1 + 1) = 61) := hk2
              have hq9 := (cm60 w9).trans (if_pos (hk2.mp q597))
              exact tw_iret rfl ⟨gf601, Or.inr ⟨(100104, (ms h).1 + 2), hq9, Or.inl ⟨np593, ⟨6, rfl, cmw (k := 6) (C := 100104) rfl rfl⟩, pf601, sf601, tf601.trans (tf594.trans tp593), (mI_o ef601 (by decide)).trans ((mI_o ef594 (by decide)).trans dp593)⟩⟩⟩
          · try dsimp only [tvI_i, tvJ_j, tvR_r] at q602
            have q602i := zeqi (Y := 61) (by decide) q602
            exact absurd (q592.symm.trans q602) (by decide)
    · have ggp593 := mFr_t g0 gp593
      refine tw_aload rfl rfl ?_
      refine tw_dup rfl ?_
      refine tw_getS rfl (hi_111_28 ggp593.1) ?_
      refine tw_push rfl ?_
      refine tw_iadd rfl ?_
      refine tw_put rfl (fun f604 => ?_)
      refine tG_setm f604 (hw_111_28 f604 (ggp593).1) (fun hf604 ef604 => ?_)
      try dsimp only [tvI_i] at ef604
      have gf604 := mFr_s ggp593 ef604 (by unfold mFs; omega)
      have zf604 := mFt_s Fp593 ef604 (by decide)
      have ZBf604 : mZp hp593 := mZp_k (mZp_p hp) ip593 jp593
      have yf604 : (tvI (tF hp593 111 28) + 1).toInt = (((ms h).1 + 1 : Nat) : Int) := zp1 (by rw [ip593]; exact mPl hp) (by omega)
      have Zf604 : mZp hf604 := mZp_s ZBf604 ef604 (by omega)
      refine tw_iload rfl rfl ?_
      refine tw_push rfl ?_
      refine tw_ic_eq rfl (fun q605 => ?_) (fun q605 => ?_)
      · try dsimp only [tvI_i, tvJ_j, tvR_r] at q605
        have q605i := zeqi (Y := 61) (by decide) q605
        exact absurd (q592.symm.trans q605) (by decide)
      · try dsimp only [tvI_i, tvJ_j, tvR_r] at q605
        have q605i := zneq (Y := 61) (by decide) q605
        refine tw_aload rfl rfl ?_
        refine tw_virt0 rfl (g_sign hG hX (gf604).1 ((mFr_T gf604).trans hT) ((mFr_n gf604).trans hN) Zf604.1) (fun wp606 hp606 p606 => ?_)
        obtain ⟨⟨cp606, rfl, kp606⟩, rfl⟩ := p606
        refine tw_push rfl ?_
        refine tw_ic_ne rfl (fun q607 => ?_) (fun q607 => ?_)
        · try dsimp only [tvI_i, tvJ_j, tvR_r] at q607
          have q607i := zneq (Y := 61) (by decide) q607
          refine tw_push rfl ?_
          refine tw_istore rfl ?_
          refine tw_aload rfl rfl ?_
          refine tw_dup rfl ?_
          refine tw_getS rfl (hi_111_28 (gf604).1) ?_
          refine tw_iload rfl rfl ?_
          refine tw_if_eq rfl (fun _ => ?_) (fun z => absurd z (by decide))
          refine tw_push rfl ?_
          refine tw_iadd rfl ?_
          refine tw_put rfl (fun f608 => ?_)
          refine tG_setm f608 (hw_111_28 f608 (gf604).1) (fun hf608 ef608 => ?_)
          try dsimp only [tvI_i] at ef608
          have gf608 := mFr_s gf604 ef608 (by unfold mFs; omega)
          have zf608 := mFt_s zf604 ef608 (by decide)
          have xf608 : (tvI (tF hf604 111 28)).toInt = (((ms h).1 + 1 : Nat) : Int) := by rw [mI_x ef604]; exact yf604
          have Zf608 : mZp hf608 := mZp_s Zf604 ef608 (by have y := zp0 xf608; omega)
          refine tw_iload rfl rfl ?_
          refine tw_push rfl ?_
          refine tw_ic_ne rfl (fun q609 => ?_) (fun q609 => ?_)
          · try dsimp only [tvI_i, tvJ_j, tvR_r] at q609
            have q609i := zneq (Y := 61) (by decide) q609
            refine tw_iload rfl rfl ?_
            refine tw_push rfl ?_
            refine tw_ic_ne rfl (fun q610 => ?_) (fun q610 => ?_)
            · try dsimp only [tvI_i, tvJ_j, tvR_r] at q610
              have q610i := zneq (Y := 60) (by decide) q610
              exact absurd q592 q610
            · try dsimp only [tvI_i, tvJ_j, tvR_r] at q610
              have q610i := zeqi (Y := 60) (by decide) q610
              refine tw_iload rfl rfl ?_
              refine tw_if_eq rfl (fun _ => ?_) (fun z => absurd z (by decide))
              refine tw_push rfl ?_
              refine tw_goto rfl ?_
              have w9 := (sgm_k kp591 60 (by decide)).mp q592
              obtain ⟨q9, hq9⟩ := cm_s (Or.inr (Or.inl w9))
              exact tw_iret rfl ⟨gf608, Or.inr ⟨q9, hq9, Or.inr ⟨np593, _, rfl, by decide, by decide, zf608, Zf608⟩⟩⟩
          · try dsimp only [tvI_i, tvJ_j, tvR_r] at q609
            have q609i := zeqi (Y := 61) (by decide) q609
            exact absurd (q592.symm.trans q609) (by decide)
        · try dsimp only [tvI_i, tvJ_j, tvR_r] at q607
          have q607i := zeqi (Y := 61) (by decide) q607
          refine tw_push rfl ?_
          refine tw_goto rfl ?_
          refine tw_istore rfl ?_
          refine tw_aload rfl rfl ?_
          refine tw_dup rfl ?_
          refine tw_getS rfl (hi_111_28 (gf604).1) ?_
          refine tw_iload rfl rfl ?_
          refine tw_if_eq rfl (fun z => absurd z (by decide)) (fun _ => ?_)
          refine tw_push rfl ?_
          refine tw_goto rfl ?_
          refine tw_iadd rfl ?_
          refine tw_put rfl (fun f611 => ?_)
          refine tG_setm f611 (hw_111_28 f611 (gf604).1) (fun hf611 ef611 => ?_)
          try dsimp only [tvI_i] at ef611
          have gf611 := mFr_s gf604 ef611 (by unfold mFs; omega)
          have zf611 := mFt_s zf604 ef611 (by decide)
          have xf611 : (tvI (tF hf604 111 28)).toInt = (((ms h).1 + 1 : Nat) : Int) := by rw [mI_x ef604]; exact yf604
          have Zf611 : mZp hf611 := mZp_s Zf604 ef611 (by have y := zp1 xf611 (by omega); omega)
          refine tw_iload rfl rfl ?_
          refine tw_push rfl ?_
          refine tw_ic_ne rfl (fun q612 => ?_) (fun q612 => ?_)
          · try dsimp only [tvI_i, tvJ_j, tvR_r] at q612
            have q612i := zneq (Y := 61) (by decide) q612
            refine tw_iload rfl rfl ?_
            refine tw_push rfl ?_
            refine tw_ic_ne rfl (fun q613 => ?_) (fun q613 => ?_)
            · try dsimp only [tvI_i, tvJ_j, tvR_r] at q613
              have q613i := zneq (Y := 60) (by decide) q613
              exact absurd q592 q613
            · try dsimp only [tvI_i, tvJ_j, tvR_r] at q613
              have q613i := zeqi (Y := 60) (by decide) q613
              refine tw_iload rfl rfl ?_
              refine tw_if_eq rfl (fun z => absurd z (by decide)) (fun _ => ?_)
              refine tw_push rfl ?_
              refine tw_goto rfl ?_
              have w9 := (sgm_k kp591 60 (by decide)).mp q592
              obtain ⟨q9, hq9⟩ := cm_s (Or.inr (Or.inl w9))
              exact tw_iret rfl ⟨gf611, Or.inr ⟨q9, hq9, Or.inr ⟨np593, _, rfl, by decide, by decide, zf611, Zf611⟩⟩⟩
          · try dsimp only [tvI_i, tvJ_j, tvR_r] at q612
            have q612i := zeqi (Y := 61) (by decide) q612
            exact absurd (q592.symm.trans q612) (by decide)
  · try dsimp only [tvI_i, tvJ_j, tvR_r] at q592
    have q592i := zneq (Y := 60) (by decide) q592
    refine tw_iload rfl rfl ?_
    refine tw_push rfl ?_
    refine tw_ic_eq rfl (fun q614 => ?_) (fun q614 => ?_)
    · try dsimp only [tvI_i, tvJ_j, tvR_r] at q614
      have q614i := zeqi (Y := 62) (by decide) q614
      refine tw_aload rfl rfl ?_
      refine tw_aload rfl rfl ?_
      refine tw_getS rfl (hi_111_28 (g0).1) ?_
      refine tw_virt1 rfl (g_counts hG hX (g0).1 hp ((mFr_T g0).trans hT) ((mFr_n g0).trans hN) (b := (ms h).1) (mPl hp) (by omega)) (fun w9 hp615 p615 => ?_)
      obtain ⟨rfl, gp615, ⟨np615, pp615e, sp615, tp615, dp615⟩ | ⟨np615, Fp615⟩, ip615, jp615⟩ := p615
      · have ggp615 := mFr_t g0 gp615
        refine tw_aload rfl rfl ?_
        refine tw_dup rfl ?_
        refine tw_getS rfl (hi_111_28 ggp615.1) ?_
        refine tw_push rfl ?_
        refine tw_iadd rfl ?_
        refine tw_put rfl (fun f616 => ?_)
        refine tG_setm f616 (hw_111_28 f616 (ggp615).1) (fun hf616 ef616 => ?_)
        try dsimp only [tvI_i] at ef616
        have gf616 := mFr_s ggp615 ef616 (by unfold mFs; omega)
        have wf616 := (sgm_k kp591 62 (by decide)).mp q614
        obtain ⟨pf616, sf616, tf616⟩ := mTo pp615e ((mFr_n ggp615).trans hN) ef616 (v := (ms h).1 + 1) (zincN (n := (ms h).1) (by rw [mPl pp615e, sp615]) (by omega)) wf616.1
        rw [sp615] at sf616
        refine tw_iload rfl rfl ?_
        refine tw_push rfl ?_
        refine tw_ic_eq rfl (fun q617 => ?_) (fun q617 => ?_)
        · try dsimp only [tvI_i, tvJ_j, tvR_r] at q617
          have q617i := zeqi (Y := 61) (by decide) q617
          exact absurd (q614.symm.trans q617) (by decide)
        · try dsimp only [tvI_i, tvJ_j, tvR_r] at q617
          have q617i := zneq (Y := 61) (by decide) q617
          refine tw_aload rfl rfl ?_
          refine tw_virt0 rfl (g_sign hG hX (gf616).1 ((mFr_T gf616).trans hT) ((mFr_n gf616).trans hN) ⟨pf616.2.1.1, by have := pf616.2.1; omega⟩) (fun wp618 hp618 p618 => ?_)
          obtain ⟨⟨cp618, rfl, kp618⟩, rfl⟩ := p618
          refine tw_push rfl ?_
          refine tw_ic_ne rfl (fun q619 => ?_) (fun q619 => ?_)
          · try dsimp only [tvI_i, tvJ_j, tvR_r] at q619
            have q619i := zneq (Y := 61) (by decide) q619
            refine tw_push rfl ?_
            refine tw_istore rfl ?_
            refine tw_aload rfl rfl ?_
            refine tw_dup rfl ?_
            refine tw_getS rfl (hi_111_28 (gf616).1) ?_
            refine tw_iload rfl rfl ?_
            refine tw_if_eq rfl (fun _ => ?_) (fun z => absurd z (by decide))
            refine tw_push rfl ?_
            refine tw_iadd rfl ?_
            refine tw_put rfl (fun f620 => ?_)
            refine tG_setm f620 (hw_111_28 f620 (gf616).1) (fun hf620 ef620 => ?_)
            try dsimp only [tvI_i] at ef620
            have gf620 := mFr_s gf616 ef620 (by unfold mFs; omega)
            obtain ⟨pf620, sf620, tf620⟩ := mTo pf616 ((mFr_n gf616).trans hN) ef620 (v := (ms h).1 + 1 + 0) (zp0 (by rw [mPl pf616, sf616]; rfl)) (by have z := mPle pf616 ((mFr_n gf616).trans hN); rw [sf616] at z; exact z)
            rw [sf616] at sf620
            refine tw_iload rfl rfl ?_
            refine tw_push rfl ?_
            refine tw_ic_ne rfl (fun q621 => ?_) (fun q621 => ?_)
            · try dsimp only [tvI_i, tvJ_j, tvR_r] at q621
              have q621i := zneq (Y := 61) (by decide) q621
              refine tw_iload rfl rfl ?_
              refine tw_push rfl ?_
              refine tw_ic_ne rfl (fun q622 => ?_) (fun q622 => ?_)
              · try dsimp only [tvI_i, tvJ_j, tvR_r] at q622
                have q622i := zneq (Y := 60) (by decide) q622
                refine tw_iload rfl rfl ?_
                refine tw_if_eq rfl (fun _ => ?_) (fun z => absurd z (by decide))
                refine tw_push rfl ?_
                have w9 := (sgm_k kp591 62 (by decide)).mp q614
                have hk2 := sgm_k kp618 61 (by decide)
                rw [sf616] at hk2
                have hk2 : _ ↔ ((ms h).1 + 1 < n ∧ T ((ms h).1 + 1) = 61) := hk2
                have hq9 := (cm62 w9).trans (if_neg (fun z => q619 (hk2.mpr z)))
                exact tw_iret rfl ⟨gf620, Or.inr ⟨(100107, (ms h).1 + 1), hq9, Or.inl ⟨np615, ⟨9, rfl, cmw (k := 9) (C := 100107) rfl rfl⟩, pf620, sf620, tf620.trans (tf616.trans tp615), (mI_o ef620 (by decide)).trans ((mI_o ef616 (by decide)).trans dp615)⟩⟩⟩
              · try dsimp only [tvI_i, tvJ_j, tvR_r] at q622
                have q622i := zeqi (Y := 60) (by decide) q622
                exact absurd (q614.symm.trans q622) (by decide)
            · try dsimp only [tvI_i, tvJ_j, tvR_r] at q621
              have q621i := zeqi (Y := 61) (by decide) q621
              exact absurd (q614.symm.trans q621) (by decide)
          · try dsimp only [tvI_i, tvJ_j, tvR_r] at q619
            have q619i := zeqi (Y := 61) (by decide) q619
            refine tw_push rfl ?_
            refine tw_goto rfl ?_
            refine tw_istore rfl ?_
            refine tw_aload rfl rfl ?_
            refine tw_dup rfl ?_
            refine tw_getS rfl (hi_111_28 (gf616).1) ?_
            refine tw_iload rfl rfl ?_
            refine tw_if_eq rfl (fun z => absurd z (by decide)) (fun _ => ?_)
            refine tw_push rfl ?_
            refine tw_goto rfl ?_
            refine tw_iadd rfl ?_
            refine tw_put rfl (fun f623 => ?_)
            refine tG_setm f623 (hw_111_28 f623 (gf616).1) (fun hf623 ef623 => ?_)
            try dsimp only [tvI_i] at ef623
            have gf623 := mFr_s gf616 ef623 (by unfold mFs; omega)
            have vf623 := (sgm_k kp618 61 (by decide)).mp q619
            rw [sf616] at vf623
            have vf623 : (ms h).1 + 1 < n ∧ T ((ms h).1 + 1) = 61 := vf623
            obtain ⟨pf623, sf623, tf623⟩ := mTo pf616 ((mFr_n gf616).trans hN) ef623 (v := (ms h).1 + 1 + 1) (zincN (n := (ms h).1 + 1) (by rw [mPl pf616, sf616]; rfl) (by omega)) (by omega)
            rw [sf616] at sf623
            refine tw_iload rfl rfl ?_
            refine tw_push rfl ?_
            refine tw_ic_ne rfl (fun q624 => ?_) (fun q624 => ?_)
            · try dsimp only [tvI_i, tvJ_j, tvR_r] at q624
              have q624i := zneq (Y := 61) (by decide) q624
              refine tw_iload rfl rfl ?_
              refine tw_push rfl ?_
              refine tw_ic_ne rfl (fun q625 => ?_) (fun q625 => ?_)
              · try dsimp only [tvI_i, tvJ_j, tvR_r] at q625
                have q625i := zneq (Y := 60) (by decide) q625
                refine tw_iload rfl rfl ?_
                refine tw_if_eq rfl (fun z => absurd z (by decide)) (fun _ => ?_)
                refine tw_push rfl ?_
                refine tw_goto rfl ?_
                have w9 := (sgm_k kp591 62 (by decide)).mp q614
                have hk2 := sgm_k kp618 61 (by decide)
                rw [sf616] at hk2
                have hk2 : _ ↔ ((ms h).1 + 1 < n ∧ T ((ms h).1 + 1) = 61) := hk2
                have hq9 := (cm62 w9).trans (if_pos (hk2.mp q619))
                exact tw_iret rfl ⟨gf623, Or.inr ⟨(100106, (ms h).1 + 2), hq9, Or.inl ⟨np615, ⟨8, rfl, cmw (k := 8) (C := 100106) rfl rfl⟩, pf623, sf623, tf623.trans (tf616.trans tp615), (mI_o ef623 (by decide)).trans ((mI_o ef616 (by decide)).trans dp615)⟩⟩⟩
              · try dsimp only [tvI_i, tvJ_j, tvR_r] at q625
                have q625i := zeqi (Y := 60) (by decide) q625
                exact absurd (q614.symm.trans q625) (by decide)
            · try dsimp only [tvI_i, tvJ_j, tvR_r] at q624
              have q624i := zeqi (Y := 61) (by decide) q624
              exact absurd (q614.symm.trans q624) (by decide)
      · have ggp615 := mFr_t g0 gp615
        refine tw_aload rfl rfl ?_
        refine tw_dup rfl ?_
        refine tw_getS rfl (hi_111_28 ggp615.1) ?_
        refine tw_push rfl ?_
        refine tw_iadd rfl ?_
        refine tw_put rfl (fun f626 => ?_)
        refine tG_setm f626 (hw_111_28 f626 (ggp615).1) (fun hf626 ef626 => ?_)
        try dsimp only [tvI_i] at ef626
        have gf626 := mFr_s ggp615 ef626 (by unfold mFs; omega)
        have zf626 := mFt_s Fp615 ef626 (by decide)
        have ZBf626 : mZp hp615 := mZp_k (mZp_p hp) ip615 jp615
        have yf626 : (tvI (tF hp615 111 28) + 1).toInt = (((ms h).1 + 1 : Nat) : Int) := zp1 (by rw [ip615]; exact mPl hp) (by omega)
        have Zf626 : mZp hf626 := mZp_s ZBf626 ef626 (by omega)
        refine tw_iload rfl rfl ?_
        refine tw_push rfl ?_
        refine tw_ic_eq rfl (fun q627 => ?_) (fun q627 => ?_)
        · try dsimp only [tvI_i, tvJ_j, tvR_r] at q627
          have q627i := zeqi (Y := 61) (by decide) q627
          exact absurd (q614.symm.trans q627) (by decide)
        · try dsimp only [tvI_i, tvJ_j, tvR_r] at q627
          have q627i := zneq (Y := 61) (by decide) q627
          refine tw_aload rfl rfl ?_
          refine tw_virt0 rfl (g_sign hG hX (gf626).1 ((mFr_T gf626).trans hT) ((mFr_n gf626).trans hN) Zf626.1) (fun wp628 hp628 p628 => ?_)
          obtain ⟨⟨cp628, rfl, kp628⟩, rfl⟩ := p628
          refine tw_push rfl ?_
          refine tw_ic_ne rfl (fun q629 => ?_) (fun q629 => ?_)
          · try dsimp only [tvI_i, tvJ_j, tvR_r] at q629
            have q629i := zneq (Y := 61) (by decide) q629
            refine tw_push rfl ?_
            refine tw_istore rfl ?_
            refine tw_aload rfl rfl ?_
            refine tw_dup rfl ?_
            refine tw_getS rfl (hi_111_28 (gf626).1) ?_
            refine tw_iload rfl rfl ?_
            refine tw_if_eq rfl (fun _ => ?_) (fun z => absurd z (by decide))
            refine tw_push rfl ?_
            refine tw_iadd rfl ?_
            refine tw_put rfl (fun f630 => ?_)
            refine tG_setm f630 (hw_111_28 f630 (gf626).1) (fun hf630 ef630 => ?_)
            try dsimp only [tvI_i] at ef630
            have gf630 := mFr_s gf626 ef630 (by unfold mFs; omega)
            have zf630 := mFt_s zf626 ef630 (by decide)
            have xf630 : (tvI (tF hf626 111 28)).toInt = (((ms h).1 + 1 : Nat) : Int) := by rw [mI_x ef626]; exact yf626
            have Zf630 : mZp hf630 := mZp_s Zf626 ef630 (by have y := zp0 xf630; omega)
            refine tw_iload rfl rfl ?_
            refine tw_push rfl ?_
            refine tw_ic_ne rfl (fun q631 => ?_) (fun q631 => ?_)
            · try dsimp only [tvI_i, tvJ_j, tvR_r] at q631
              have q631i := zneq (Y := 61) (by decide) q631
              refine tw_iload rfl rfl ?_
              refine tw_push rfl ?_
              refine tw_ic_ne rfl (fun q632 => ?_) (fun q632 => ?_)
              · try dsimp only [tvI_i, tvJ_j, tvR_r] at q632
                have q632i := zneq (Y := 60) (by decide) q632
                refine tw_iload rfl rfl ?_
                refine tw_if_eq rfl (fun _ => ?_) (fun z => absurd z (by decide))
                refine tw_push rfl ?_
                have w9 := (sgm_k kp591 62 (by decide)).mp q614
                obtain ⟨q9, hq9⟩ := cm_s (Or.inr (Or.inr w9))
                exact tw_iret rfl ⟨gf630, Or.inr ⟨q9, hq9, Or.inr ⟨np615, _, rfl, by decide, by decide, zf630, Zf630⟩⟩⟩
              · try dsimp only [tvI_i, tvJ_j, tvR_r] at q632
                have q632i := zeqi (Y := 60) (by decide) q632
                exact absurd (q614.symm.trans q632) (by decide)
            · try dsimp only [tvI_i, tvJ_j, tvR_r] at q631
              have q631i := zeqi (Y := 61) (by decide) q631
              exact absurd (q614.symm.trans q631) (by decide)
          · try dsimp only [tvI_i, tvJ_j, tvR_r] at q629
            have q629i := zeqi (Y := 61) (by decide) q629
            refine tw_push rfl ?_
            refine tw_goto rfl ?_
            refine tw_istore rfl ?_
            refine tw_aload rfl rfl ?_
            refine tw_dup rfl ?_
            refine tw_getS rfl (hi_111_28 (gf626).1) ?_
            refine tw_iload rfl rfl ?_
            refine tw_if_eq rfl (fun z => absurd z (by decide)) (fun _ => ?_)
            refine tw_push rfl ?_
            refine tw_goto rfl ?_
            refine tw_iadd rfl ?_
            refine tw_put rfl (fun f633 => ?_)
            refine tG_setm f633 (hw_111_28 f633 (gf626).1) (fun hf633 ef633 => ?_)
            try dsimp only [tvI_i] at ef633
            have gf633 := mFr_s gf626 ef633 (by unfold mFs; omega)
            have zf633 := mFt_s zf626 ef633 (by decide)
            have xf633 : (tvI (tF hf626 111 28)).toInt = (((ms h).1 + 1 : Nat) : Int) := by rw [mI_x ef626]; exact yf626
            have Zf633 : mZp hf633 := mZp_s Zf626 ef633 (by have y := zp1 xf633 (by omega); omega)
            refine tw_iload rfl rfl ?_
            refine tw_push rfl ?_
            refine tw_ic_ne rfl (fun q634 => ?_) (fun q634 => ?_)
            · try dsimp only [tvI_i, tvJ_j, tvR_r] at q634
              have q634i := zneq (Y := 61) (by decide) q634
              refine tw_iload rfl rfl ?_
              refine tw_push rfl ?_
              refine tw_ic_ne rfl (fun q635 => ?_) (fun q635 => ?_)
              · try dsimp only [tvI_i, tvJ_j, tvR_r] at q635
                have q635i := zneq (Y := 60) (by decide) q635
                refine tw_iload rfl rfl ?_
                refine tw_if_eq rfl (fun z => absurd z (by decide)) (fun _ => ?_)
                refine tw_push rfl ?_
                refine tw_goto rfl ?_
                have w9 := (sgm_k kp591 62 (by decide)).mp q614
                obtain ⟨q9, hq9⟩ := cm_s (Or.inr (Or.inr w9))
                exact tw_iret rfl ⟨gf633, Or.inr ⟨q9, hq9, Or.inr ⟨np615, _, rfl, by decide, by decide, zf633, Zf633⟩⟩⟩
              · try dsimp only [tvI_i, tvJ_j, tvR_r] at q635
                have q635i := zeqi (Y := 60) (by decide) q635
                exact absurd (q614.symm.trans q635) (by decide)
            · try dsimp only [tvI_i, tvJ_j, tvR_r] at q634
              have q634i := zeqi (Y := 61) (by decide) q634
              exact absurd (q614.symm.trans q634) (by decide)
    · try dsimp only [tvI_i, tvJ_j, tvR_r] at q614
      have q614i := zneq (Y := 62) (by decide) q614
      refine tw_iload rfl rfl ?_
      refine tw_push rfl ?_
      refine tw_ic_eq rfl (fun q636 => ?_) (fun q636 => ?_)
      · try dsimp only [tvI_i, tvJ_j, tvR_r] at q636
        have q636i := zeqi (Y := 61) (by decide) q636
        refine tw_aload rfl rfl ?_
        refine tw_aload rfl rfl ?_
        refine tw_getS rfl (hi_111_28 (g0).1) ?_
        refine tw_virt1 rfl (g_counts hG hX (g0).1 hp ((mFr_T g0).trans hT) ((mFr_n g0).trans hN) (b := (ms h).1) (mPl hp) (by omega)) (fun w9 hp637 p637 => ?_)
        obtain ⟨rfl, gp637, ⟨np637, pp637e, sp637, tp637, dp637⟩ | ⟨np637, Fp637⟩, ip637, jp637⟩ := p637
        · have ggp637 := mFr_t g0 gp637
          refine tw_aload rfl rfl ?_
          refine tw_dup rfl ?_
          refine tw_getS rfl (hi_111_28 ggp637.1) ?_
          refine tw_push rfl ?_
          refine tw_iadd rfl ?_
          refine tw_put rfl (fun f638 => ?_)
          refine tG_setm f638 (hw_111_28 f638 (ggp637).1) (fun hf638 ef638 => ?_)
          try dsimp only [tvI_i] at ef638
          have gf638 := mFr_s ggp637 ef638 (by unfold mFs; omega)
          have wf638 := (sgm_k kp591 61 (by decide)).mp q636
          obtain ⟨pf638, sf638, tf638⟩ := mTo pp637e ((mFr_n ggp637).trans hN) ef638 (v := (ms h).1 + 1) (zincN (n := (ms h).1) (by rw [mPl pp637e, sp637]) (by omega)) wf638.1
          rw [sp637] at sf638
          refine tw_iload rfl rfl ?_
          refine tw_push rfl ?_
          refine tw_ic_eq rfl (fun q639 => ?_) (fun q639 => ?_)
          · try dsimp only [tvI_i, tvJ_j, tvR_r] at q639
            have q639i := zeqi (Y := 61) (by decide) q639
            refine tw_push rfl ?_
            refine tw_istore rfl ?_
            refine tw_aload rfl rfl ?_
            refine tw_dup rfl ?_
            refine tw_getS rfl (hi_111_28 (gf638).1) ?_
            refine tw_iload rfl rfl ?_
            refine tw_if_eq rfl (fun _ => ?_) (fun z => absurd z (by decide))
            refine tw_push rfl ?_
            refine tw_iadd rfl ?_
            refine tw_put rfl (fun f640 => ?_)
            refine tG_setm f640 (hw_111_28 f640 (gf638).1) (fun hf640 ef640 => ?_)
            try dsimp only [tvI_i] at ef640
            have gf640 := mFr_s gf638 ef640 (by unfold mFs; omega)
            obtain ⟨pf640, sf640, tf640⟩ := mTo pf638 ((mFr_n gf638).trans hN) ef640 (v := (ms h).1 + 1 + 0) (zp0 (by rw [mPl pf638, sf638]; rfl)) (by have z := mPle pf638 ((mFr_n gf638).trans hN); rw [sf638] at z; exact z)
            rw [sf638] at sf640
            refine tw_iload rfl rfl ?_
            refine tw_push rfl ?_
            refine tw_ic_ne rfl (fun q641 => ?_) (fun q641 => ?_)
            · try dsimp only [tvI_i, tvJ_j, tvR_r] at q641
              have q641i := zneq (Y := 61) (by decide) q641
              exact absurd q636 q641
            · try dsimp only [tvI_i, tvJ_j, tvR_r] at q641
              have q641i := zeqi (Y := 61) (by decide) q641
              refine tw_push rfl ?_
              refine tw_goto rfl ?_
              have w9 := (sgm_k kp591 61 (by decide)).mp q636
              have hq9 := cm61 w9
              exact tw_iret rfl ⟨gf640, Or.inr ⟨(100105, (ms h).1 + 1), hq9, Or.inl ⟨np637, ⟨7, rfl, cmw (k := 7) (C := 100105) rfl rfl⟩, pf640, sf640, tf640.trans (tf638.trans tp637), (mI_o ef640 (by decide)).trans ((mI_o ef638 (by decide)).trans dp637)⟩⟩⟩
          · try dsimp only [tvI_i, tvJ_j, tvR_r] at q639
            have q639i := zneq (Y := 61) (by decide) q639
            exact absurd q636 q639
        · have ggp637 := mFr_t g0 gp637
          refine tw_aload rfl rfl ?_
          refine tw_dup rfl ?_
          refine tw_getS rfl (hi_111_28 ggp637.1) ?_
          refine tw_push rfl ?_
          refine tw_iadd rfl ?_
          refine tw_put rfl (fun f642 => ?_)
          refine tG_setm f642 (hw_111_28 f642 (ggp637).1) (fun hf642 ef642 => ?_)
          try dsimp only [tvI_i] at ef642
          have gf642 := mFr_s ggp637 ef642 (by unfold mFs; omega)
          have zf642 := mFt_s Fp637 ef642 (by decide)
          have ZBf642 : mZp hp637 := mZp_k (mZp_p hp) ip637 jp637
          have yf642 : (tvI (tF hp637 111 28) + 1).toInt = (((ms h).1 + 1 : Nat) : Int) := zp1 (by rw [ip637]; exact mPl hp) (by omega)
          have Zf642 : mZp hf642 := mZp_s ZBf642 ef642 (by omega)
          refine tw_iload rfl rfl ?_
          refine tw_push rfl ?_
          refine tw_ic_eq rfl (fun q643 => ?_) (fun q643 => ?_)
          · try dsimp only [tvI_i, tvJ_j, tvR_r] at q643
            have q643i := zeqi (Y := 61) (by decide) q643
            refine tw_push rfl ?_
            refine tw_istore rfl ?_
            refine tw_aload rfl rfl ?_
            refine tw_dup rfl ?_
            refine tw_getS rfl (hi_111_28 (gf642).1) ?_
            refine tw_iload rfl rfl ?_
            refine tw_if_eq rfl (fun _ => ?_) (fun z => absurd z (by decide))
            refine tw_push rfl ?_
            refine tw_iadd rfl ?_
            refine tw_put rfl (fun f644 => ?_)
            refine tG_setm f644 (hw_111_28 f644 (gf642).1) (fun hf644 ef644 => ?_)
            try dsimp only [tvI_i] at ef644
            have gf644 := mFr_s gf642 ef644 (by unfold mFs; omega)
            have zf644 := mFt_s zf642 ef644 (by decide)
            have xf644 : (tvI (tF hf642 111 28)).toInt = (((ms h).1 + 1 : Nat) : Int) := by rw [mI_x ef642]; exact yf642
            have Zf644 : mZp hf644 := mZp_s Zf642 ef644 (by have y := zp0 xf644; omega)
            refine tw_iload rfl rfl ?_
            refine tw_push rfl ?_
            refine tw_ic_ne rfl (fun q645 => ?_) (fun q645 => ?_)
            · try dsimp only [tvI_i, tvJ_j, tvR_r] at q645
              have q645i := zneq (Y := 61) (by decide) q645
              exact absurd q636 q645
            · try dsimp only [tvI_i, tvJ_j, tvR_r] at q645
              have q645i := zeqi (Y := 61) (by decide) q645
              refine tw_push rfl ?_
              refine tw_goto rfl ?_
              have w9 := (sgm_k kp591 61 (by decide)).mp q636
              obtain ⟨q9, hq9⟩ := cm_s (Or.inl w9)
              exact tw_iret rfl ⟨gf644, Or.inr ⟨q9, hq9, Or.inr ⟨np637, _, rfl, by decide, by decide, zf644, Zf644⟩⟩⟩
          · try dsimp only [tvI_i, tvJ_j, tvR_r] at q643
            have q643i := zneq (Y := 61) (by decide) q643
            exact absurd q636 q643
      · try dsimp only [tvI_i, tvJ_j, tvR_r] at q636
        have q636i := zneq (Y := 61) (by decide) q636
        refine tw_push rfl ?_
        exact tw_iret rfl ⟨g0, Or.inl ⟨cm_n (fun z => q636 ((sgm_k kp591 61 (by decide)).mpr z)) (fun z => q592 ((sgm_k kp591 60 (by decide)).mpr z)) (fun z => q614 ((sgm_k kp591 62 (by decide)).mpr z)), rfl, rfl⟩⟩
theorem rWd_lo : ∀ k, k < 16 → rWd k = ztx (k + 2) := by
  have a : (List.range 16).all (fun k => Nat.beq (rWn k) (k + 2)) = true := by decide +kernel
  intro k hk
  have e := Nat.eq_of_beq_eq_true (List.all_eq_true.mp a k (List.mem_range.mpr hk))
  unfold rWd
  rw [e]
theorem zl_lo : ∀ k, k < 16 → (ztx (k + 2)).length ≤ 200 ∧ 0 < (ztx (k + 2)).length := by
  have a : (List.range 16).all (fun k => decide ((ztx (k + 2)).length ≤ 200 ∧ 0 < (ztx (k + 2)).length)) = true := by decide +kernel
  intro k hk
  exact of_decide_eq_true (List.all_eq_true.mp a k (List.mem_range.mpr hk))
noncomputable def mOut (y : rMo) (h2 : zH) : Prop := match y with
  | .inl e => mFt h2 e ∧ mZp h2
  | .inr x => mP h2 ∧ mD h2 ∧ mst h2 = x
theorem mOut_l {y : rMo} {h2 : zH} {e : Nat} (hy : y = .inl e) (k : mFt h2 e) (z : mZp h2) : mOut y h2 := by rw [hy]; exact ⟨k, z⟩
theorem mOut_r {y : rMo} {h2 : zH} {x : rMs} (hy : y = .inr x) (k : mP h2) (d : mD h2) (z : mst h2 = x) : mOut y h2 := by rw [hy]; exact ⟨k, d, z⟩
theorem mD_k {h h2 : zH} (d : mD h) (a : mSk h2 = mSk h) (b : tF h2 111 32 = tF h 111 32) : mD h2 := by
  unfold mD
  rw [a, b]
  exact d
theorem g_wordOf {G : zG} (hG : G.1 = zProg) {h : zH} {x : Int32} {k : Nat} (hx : x.toInt = k) (hk : k < 12) : tC zTt G 199 [.int x] h (fun w h2 => w = some (.retAddr (k + 2)) ∧ h = h2) := by
  refine tC_in (by rw [hG]; rfl) (fun dp => ?_)
  refine tw_iload rfl rfl ?_
  refine tw_table rfl (fun q646 => ?_) (fun t9 q646a q646b q646c => ?_)
  · try dsimp only [tvI_i, tvJ_j, tvR_r] at q646
    refine tw_push rfl ?_
    try dsimp only [tvI_i] at q646
    have hk9 : k = 11 := by omega
    subst hk9
    exact tw_aret rfl ⟨rfl, rfl⟩
  · have q646d : (tvI (.int x)).toInt = 0 ∨ (tvI (.int x)).toInt = 1 ∨ (tvI (.int x)).toInt = 2 ∨ (tvI (.int x)).toInt = 3 ∨ (tvI (.int x)).toInt = 4 ∨ (tvI (.int x)).toInt = 5 ∨ (tvI (.int x)).toInt = 6 ∨ (tvI (.int x)).toInt = 7 ∨ (tvI (.int x)).toInt = 8 ∨ (tvI (.int x)).toInt = 9 ∨ (tvI (.int x)).toInt = 10 := by omega
    rcases q646d with q646 | q646 | q646 | q646 | q646 | q646 | q646 | q646 | q646 | q646 | q646
    · obtain rfl : t9 = 60 := by rw [q646] at q646c; exact Option.some.inj (q646c.symm.trans rfl)
      try dsimp only [tvI_i, tvJ_j, tvR_r] at q646
      refine tw_push rfl ?_
      try dsimp only [tvI_i] at q646
      have hk9 : k = 0 := by omega
      subst hk9
      exact tw_aret rfl ⟨rfl, rfl⟩
    · obtain rfl : t9 = 64 := by rw [q646] at q646c; exact Option.some.inj (q646c.symm.trans rfl)
      try dsimp only [tvI_i, tvJ_j, tvR_r] at q646
      refine tw_push rfl ?_
      try dsimp only [tvI_i] at q646
      have hk9 : k = 1 := by omega
      subst hk9
      exact tw_aret rfl ⟨rfl, rfl⟩
    · obtain rfl : t9 = 68 := by rw [q646] at q646c; exact Option.some.inj (q646c.symm.trans rfl)
      try dsimp only [tvI_i, tvJ_j, tvR_r] at q646
      refine tw_push rfl ?_
      try dsimp only [tvI_i] at q646
      have hk9 : k = 2 := by omega
      subst hk9
      exact tw_aret rfl ⟨rfl, rfl⟩
    · obtain rfl : t9 = 72 := by rw [q646] at q646c; exact Option.some.inj (q646c.symm.trans rfl)
      try dsimp only [tvI_i, tvJ_j, tvR_r] at q646
      refine tw_push rfl ?_
      try dsimp only [tvI_i] at q646
      have hk9 : k = 3 := by omega
      subst hk9
      exact tw_aret rfl ⟨rfl, rfl⟩
    · obtain rfl : t9 = 76 := by rw [q646] at q646c; exact Option.some.inj (q646c.symm.trans rfl)
      try dsimp only [tvI_i, tvJ_j, tvR_r] at q646
      refine tw_push rfl ?_
      try dsimp only [tvI_i] at q646
      have hk9 : k = 4 := by omega
      subst hk9
      exact tw_aret rfl ⟨rfl, rfl⟩
    · obtain rfl : t9 = 80 := by rw [q646] at q646c; exact Option.some.inj (q646c.symm.trans rfl)
      try dsimp only [tvI_i, tvJ_j, tvR_r] at q646
      refine tw_push rfl ?_
      try dsimp only [tvI_i] at q646
      have hk9 : k = 5 := by omega
      subst hk9
      exact tw_aret rfl ⟨rfl, rfl⟩
    · obtain rfl : t9 = 84 := by rw [q646] at q646c; exact Option.some.inj (q646c.symm.trans rfl)
      try dsimp only [tvI_i, tvJ_j, tvR_r] at q646
      refine tw_push rfl ?_
      try dsimp only [tvI_i] at q646
      have hk9 : k = 6 := by omega
      subst hk9
      exact tw_aret rfl ⟨rfl, rfl⟩
    · obtain rfl : t9 = 88 := by rw [q646] at q646c; exact Option.some.inj (q646c.symm.trans rfl)
      try dsimp only [tvI_i, tvJ_j, tvR_r] at q646
      refine tw_push rfl ?_
      try dsimp only [tvI_i] at q646
      have hk9 : k = 7 := by omega
      subst hk9
      exact tw_aret rfl ⟨rfl, rfl⟩
    · obtain rfl : t9 = 92 := by rw [q646] at q646c; exact Option.some.inj (q646c.symm.trans rfl)
      try dsimp only [tvI_i, tvJ_j, tvR_r] at q646
      refine tw_push rfl ?_
      try dsimp only [tvI_i] at q646
      have hk9 : k = 8 := by omega
      subst hk9
      exact tw_aret rfl ⟨rfl, rfl⟩
    · obtain rfl : t9 = 96 := by rw [q646] at q646c; exact Option.some.inj (q646c.symm.trans rfl)
      try dsimp only [tvI_i, tvJ_j, tvR_r] at q646
      refine tw_push rfl ?_
      try dsimp only [tvI_i] at q646
      have hk9 : k = 9 := by omega
      subst hk9
      exact tw_aret rfl ⟨rfl, rfl⟩
    · obtain rfl : t9 = 100 := by rw [q646] at q646c; exact Option.some.inj (q646c.symm.trans rfl)
      try dsimp only [tvI_i, tvJ_j, tvR_r] at q646
      refine tw_push rfl ?_
      try dsimp only [tvI_i] at q646
      have hk9 : k = 10 := by omega
      subst hk9
      exact tw_aret rfl ⟨rfl, rfl⟩
theorem g_thingName {G : zG} (hG : G.1 = zProg) {h : zH} {x : Int32} {k : Nat} (hx : x.toInt = k) (hk : k < 4) : tC zTt G 200 [.int x] h (fun w h2 => w = some (.retAddr (k + 14)) ∧ h = h2) := by
  refine tC_in (by rw [hG]; rfl) (fun dp => ?_)
  refine tw_iload rfl rfl ?_
  refine tw_table rfl (fun q647 => ?_) (fun t9 q647a q647b q647c => ?_)
  · try dsimp only [tvI_i, tvJ_j, tvR_r] at q647
    refine tw_push rfl ?_
    try dsimp only [tvI_i] at q647
    have hk9 : k = 3 := by omega
    subst hk9
    exact tw_aret rfl ⟨rfl, rfl⟩
  · have q647d : (tvI (.int x)).toInt = 0 ∨ (tvI (.int x)).toInt = 1 ∨ (tvI (.int x)).toInt = 2 := by omega
    rcases q647d with q647 | q647 | q647
    · obtain rfl : t9 = 28 := by rw [q647] at q647c; exact Option.some.inj (q647c.symm.trans rfl)
      try dsimp only [tvI_i, tvJ_j, tvR_r] at q647
      refine tw_push rfl ?_
      try dsimp only [tvI_i] at q647
      have hk9 : k = 0 := by omega
      subst hk9
      exact tw_aret rfl ⟨rfl, rfl⟩
    · obtain rfl : t9 = 32 := by rw [q647] at q647c; exact Option.some.inj (q647c.symm.trans rfl)
      try dsimp only [tvI_i, tvJ_j, tvR_r] at q647
      refine tw_push rfl ?_
      try dsimp only [tvI_i] at q647
      have hk9 : k = 1 := by omega
      subst hk9
      exact tw_aret rfl ⟨rfl, rfl⟩
    · obtain rfl : t9 = 36 := by rw [q647] at q647c; exact Option.some.inj (q647c.symm.trans rfl)
      try dsimp only [tvI_i, tvJ_j, tvR_r] at q647
      refine tw_push rfl ?_
      try dsimp only [tvI_i] at q647
      have hk9 : k = 2 := by omega
      subst hk9
      exact tw_aret rfl ⟨rfl, rfl⟩
theorem g_value {G : zG} (hG : G.1 = zProg) (hX : G.2.1 = ztx) {h : zH} {T : Nat → Int32} {n : Nat} (hs : tSh h) (hp : mP h) (hT : tA h 132 = T) (hN : mn h = n) (hD : mD h) (hd : mDp (mSk h) ≤ 1000) (h46s : tvI (tF h 111 46) = 1) : tC zTt G 213 [.ref 111] h (fun w h2 => w = none ∧ mFq h h2 ∧ mOut (mS1 T n (mSk h) (ms h)) h2) := by
  refine tC_in (by rw [hG]; rfl) (fun dp => ?_)
  have g0 := mFr_r hs
  have hpn : (ms h).1 ≤ n := mPle hp hN
  have c129 : (12 : Int32).toInt = 12 := rfl
  have hn4 : n ≤ 400 := by have a := mNl hp hN; have b := hp.2.1; omega
  refine tw_aload rfl rfl ?_
  refine tw_virt0 rfl (g_blanks hG hX (g0).1 hp ((mFr_T g0).trans hT) ((mFr_n g0).trans hN)) (fun wp648 hp648 p648 => ?_)
  obtain ⟨rfl, gp648, pp648e, sp648, tp648, dp648⟩ := p648
  have ggp648 := mFr_t g0 gp648
  refine tw_aload rfl rfl ?_
  refine tw_getS rfl (hi_111_28 ggp648.1) ?_
  refine tw_istore rfl ?_
  refine tw_aload rfl rfl ?_
  refine tw_virt0 rfl (g_sign hG hX (ggp648).1 ((mFr_T ggp648).trans hT) ((mFr_n ggp648).trans hN) ⟨pp648e.2.1.1, by have := pp648e.2.1; omega⟩) (fun wp649 hp649 p649 => ?_)
  obtain ⟨⟨cp649, rfl, kp649⟩, rfl⟩ := p649
  refine tw_push rfl ?_
  refine tw_ic_ne rfl (fun q650 => ?_) (fun q650 => ?_)
  · try dsimp only [tvI_i, tvJ_j, tvR_r] at q650
    have q650i := zneq (Y := 40) (by decide) q650
    refine tw_aload rfl rfl ?_
    refine tw_virt0 rfl (g_sign hG hX (ggp648).1 ((mFr_T ggp648).trans hT) ((mFr_n ggp648).trans hN) ⟨pp648e.2.1.1, by have := pp648e.2.1; omega⟩) (fun wp651 hp651 p651 => ?_)
    obtain ⟨⟨cp651, rfl, kp651⟩, rfl⟩ := p651
    refine tw_stat1 rfl (g_isDigit hG) (fun w9 h9 p652 => ?_)
    obtain ⟨⟨p652, rfl⟩ | ⟨p652, rfl⟩, rfl⟩ := p652
    · try dsimp only [tvI_i, tvJ_j, tvR_r] at p652
      refine tw_if_eq rfl (fun z => absurd z (by decide)) (fun _ => ?_)
      refine tw_aload rfl rfl ?_
      refine tw_push rfl ?_
      refine tw_virt1 rfl (g_digits hG hX (ggp648).1 pp648e ((mFr_T ggp648).trans hT) ((mFr_n ggp648).trans hN) (m := 99999) (M := 99999) rfl (by decide) (by rw [sp648]; exact rB_2)) (fun w9 hp653 p653 => ?_)
      obtain ⟨gp653, ⟨vp653, Np653, rfl, pp653e, sp653, tp653, dp653⟩ | ⟨ep653, xp653, Np653, rfl, x0p653, Fp653, Zp653⟩⟩ := p653
      · have ggp653 := mFr_t ggp648 gp653
        refine tw_istore rfl ?_
        refine tw_aload rfl rfl ?_
        refine tw_iload rfl rfl ?_
        refine tw_virt1 rfl (g_counts hG hX (ggp653).1 pp653e ((mFr_T ggp653).trans hT) ((mFr_n ggp653).trans hN) (b := (rB T n (ms h).1)) ((mPl pp648e).trans (by rw [sp648]; rfl)) (by have := rB_le (T := T) hpn; omega)) (fun w9 hp654 p654 => ?_)
        obtain ⟨rfl, gp654, ⟨np654, pp654e, sp654, tp654, dp654⟩ | ⟨np654, Fp654⟩, ip654, jp654⟩ := p654
        · have ggp654 := mFr_t ggp653 gp654
          refine tw_aload rfl rfl ?_
          refine tw_push rfl ?_
          refine tw_iload rfl rfl ?_
          refine tw_virt2 rfl (g_entry hG hX (ggp654).1 pp654e ((mFr_T ggp654).trans hT) ((mFr_n ggp654).trans hN) ⟨by decide, by show 0 ≤ (Int32.ofNat vp653.2).toInt; have z := Np653; rw [sp648] at z; have := (rM_r (rB_le hpn) z).2.2; rw [zofI (by omega)]; omega⟩) (fun wp655 hp655 p655 => ?_)
          obtain ⟨rfl, gp655, pp655e, sp655, tp655, dp655⟩ := p655
          have ggp655 := mFr_t ggp654 gp655
          refine tw_aload rfl rfl ?_
          refine tw_push rfl ?_
          refine tw_put rfl (fun f656 => ?_)
          refine tG_setm f656 (hw_111_46 f656 (ggp655).1) (fun hf656 ef656 => ?_)
          try dsimp only [tvI_i] at ef656
          have gf656 := mFq_s (mFq_f ggp655) ef656 (Or.inr rfl)
          obtain ⟨pf656, sf656, tf656⟩ := mSte pp655e ef656
          refine tw_goto rfl ?_
          have hdg := (sgm_d kp651).mp p652
          rw [sp648] at hdg
          have hk12 : rK12 T n (rB T n (ms h).1) = none := rK12_n (fun k hk z => by have y := rW_l (by omega) z; have y2 : _ ∧ _ := hdg.2; have y3 : T (rB T n (ms h).1) = T (rA (rB T n (ms h).1) (ms h)).1 := rfl; rw [← y3] at y2; omega)
          have hrm : rM T n 99999 (rB T n (ms h).1) = .inr vp653 := by have z := Np653; rw [sp648] at z; exact z
          have h80 : (ms h).2.1 ≠ 80 := by have z := np654; rw [sp653, sp648] at z; exact z
          have hsk : mSk hf656 = mSk h := by rw [tf656, tp655, tp654, tp653, tp648]
          have h32 : tF hf656 111 32 = tF h 111 32 := (mI_o ef656 (by decide)).trans (dp655.trans (dp654.trans (dp653.trans dp648)))
          have hms : ms hf656 = (vp653.1, (ms h).2.1 + 1, (ms h).2.2 ++ [vp653.2]) := by rw [sf656, sp655, sp654, sp653, sp648]; show (_, _, _ ++ [mCode 0 (Int32.ofNat vp653.2).toNatClampNeg]) = _; rw [zoN (by have := (rM_r (rB_le hpn) hrm).2.2; omega)]; rfl
          exact tw_vret rfl ⟨rfl, gf656, mOut_r (by unfold mS1; rw [if_neg (fun z => q650 ((by have y := sgm_k kp649 40 (by decide); rw [sp648] at y; exact y.mpr z))), hk12]; (try dsimp only); rw [hrm]; (try dsimp only); rw [if_neg h80]) pf656 (mD_k hD hsk h32) (by unfold mst; rw [mI_x ef656, hsk, hms]; rfl)⟩
        · have ggp654 := mFr_t ggp653 gp654
          refine tw_aload rfl rfl ?_
          refine tw_push rfl ?_
          refine tw_iload rfl rfl ?_
          refine tw_virt2 rfl (z_entry hG hX (ggp654).1 Fp654 ((mFr_T ggp654).trans hT) ((mFr_n ggp654).trans hN)) (fun wp657 hp657 p657 => ?_)
          obtain ⟨rfl, e9⟩ := p657
          obtain rfl := e9.symm
          refine tw_aload rfl rfl ?_
          refine tw_push rfl ?_
          refine tw_put rfl (fun f658 => ?_)
          refine tG_setm f658 (hw_111_46 f658 (ggp654).1) (fun hf658 ef658 => ?_)
          try dsimp only [tvI_i] at ef658
          have gf658 := mFq_s (mFq_f ggp654) ef658 (Or.inr rfl)
          have zf658 := mFt_s Fp654 ef658 (by decide)
          refine tw_goto rfl ?_
          have hdg := (sgm_d kp651).mp p652
          rw [sp648] at hdg
          have hk12 : rK12 T n (rB T n (ms h).1) = none := rK12_n (fun k hk z => by have y := rW_l (by omega) z; have y2 : _ ∧ _ := hdg.2; have y3 : T (rB T n (ms h).1) = T (rA (rB T n (ms h).1) (ms h)).1 := rfl; rw [← y3] at y2; omega)
          have hrm : rM T n 99999 (rB T n (ms h).1) = .inr vp653 := by have z := Np653; rw [sp648] at z; exact z
          have h80 : (ms h).2.1 = 80 := by have z := np654; rw [sp653, sp648] at z; exact z
          have Zfin : mZp hf658 := mZp_o (mZp_k (mZp_p pp653e) ip654 jp654) ef658 (by decide)
          exact tw_vret rfl ⟨rfl, gf658, mOut_l (by unfold mS1; rw [if_neg (fun z => q650 ((by have y := sgm_k kp649 40 (by decide); rw [sp648] at y; exact y.mpr z))), hk12]; (try dsimp only); rw [hrm]; (try dsimp only); rw [if_pos h80]) zf658 Zfin⟩
      · have ggp653 := mFr_t ggp648 gp653
        refine tw_istore rfl ?_
        refine tw_aload rfl rfl ?_
        refine tw_iload rfl rfl ?_
        refine tw_virt1 rfl (z_counts hG hX (ggp653).1 Fp653 ((mFr_T ggp653).trans hT) ((mFr_n ggp653).trans hN)) (fun w9 hp659 p659 => ?_)
        obtain ⟨rfl, gp659, Fp659, ip659, jp659⟩ := p659
        · have ggp659 := mFr_t ggp653 gp659
          refine tw_aload rfl rfl ?_
          refine tw_push rfl ?_
          refine tw_iload rfl rfl ?_
          refine tw_virt2 rfl (z_entry hG hX (ggp659).1 Fp659 ((mFr_T ggp659).trans hT) ((mFr_n ggp659).trans hN)) (fun wp660 hp660 p660 => ?_)
          obtain ⟨rfl, e9⟩ := p660
          obtain rfl := e9.symm
          refine tw_aload rfl rfl ?_
          refine tw_push rfl ?_
          refine tw_put rfl (fun f661 => ?_)
          refine tG_setm f661 (hw_111_46 f661 (ggp659).1) (fun hf661 ef661 => ?_)
          try dsimp only [tvI_i] at ef661
          have gf661 := mFq_s (mFq_f ggp659) ef661 (Or.inr rfl)
          have zf661 := mFt_s Fp659 ef661 (by decide)
          refine tw_goto rfl ?_
          have hdg := (sgm_d kp651).mp p652
          rw [sp648] at hdg
          have hk12 : rK12 T n (rB T n (ms h).1) = none := rK12_n (fun k hk z => by have y := rW_l (by omega) z; have y2 : _ ∧ _ := hdg.2; have y3 : T (rB T n (ms h).1) = T (rA (rB T n (ms h).1) (ms h)).1 := rfl; rw [← y3] at y2; omega)
          have hrm : rM T n 99999 (rB T n (ms h).1) = .inl ep653 := by have z := Np653; rw [sp648] at z; exact z
          have Zfin : mZp hf661 := mZp_o (mZp_k Zp653 ip659 jp659) ef661 (by decide)
          exact tw_vret rfl ⟨rfl, gf661, mOut_l (by unfold mS1; rw [if_neg (fun z => q650 ((by have y := sgm_k kp649 40 (by decide); rw [sp648] at y; exact y.mpr z))), hk12]; (try dsimp only); rw [hrm]) zf661 Zfin⟩
    · try dsimp only [tvI_i, tvJ_j, tvR_r] at p652
      refine tw_if_eq rfl (fun _ => ?_) (fun z => absurd z (by decide))
      refine tw_push rfl ?_
      refine tw_istore rfl ?_
      refine tG_loop (zW_mono zTt G dp) (zW_conj zTt G dp) (V := fun pc L st h9 _ _ => pc = 82 ∧ st = [] ∧ hp648 = h9 ∧ ∃ (k : Nat) (x : Int32), x.toInt = k ∧ k ≤ 12 ∧ (∀ i, i < k → ¬ rW T n (rB T n (ms h).1) (rWd i) = true) ∧ L = [some (.ref 111), some (.int (tvI (tF hp648 111 28))), some (.int x)]) ?_ (⟨rfl, rfl, rfl, 0, 0, rfl, by omega, fun i hi => by omega, rfl⟩)
      rintro _ _ _ _ _ _ ⟨rfl, rfl, rfl, k, x, hx, hk, hall, rfl⟩
      refine tw_iload rfl rfl ?_
      refine tw_push rfl ?_
      refine tw_ic_ge rfl (fun q662 => ?_) (fun q662 => ?_)
      · try dsimp only [tvI_i, tvJ_j, tvR_r] at q662
        refine tw_iload rfl rfl ?_
        refine tw_push rfl ?_
        refine tw_ic_ne rfl (fun q663 => ?_) (fun q663 => ?_)
        · try dsimp only [tvI_i, tvJ_j, tvR_r] at q663
          have q663i := zneq (Y := 12) (by decide) q663
          exact absurd (show x.toInt = 12 by have z := q662; omega) (fun z => q663i z)
        · try dsimp only [tvI_i, tvJ_j, tvR_r] at q663
          have q663i := zeqi (Y := 12) (by decide) q663
          refine tw_aload rfl rfl ?_
          refine tw_push rfl ?_
          refine tw_iload rfl rfl ?_
          refine tw_virt2 rfl (g_fails hG hX (ggp648).1 pp648e ((mFr_T ggp648).trans hT) ((mFr_n ggp648).trans hN) (w := 0) (b := (rB T n (ms h).1)) rfl (by decide) ((mPl pp648e).trans (by rw [sp648]; rfl)) (by have := rB_le (T := T) hpn; omega)) (fun wp664 hp664 p664 => ?_)
          obtain ⟨rfl, gp664, Fp664, ip664, jp664⟩ := p664
          have ggp664 := mFr_t ggp648 gp664
          refine tw_goto rfl ?_
          have hk12 : rK12 T n (rB T n (ms h).1) = none := rK12_n (fun i hi => hall i (by have z := q663; have z2 : x.toInt = 12 := q663i; omega))
          have hnd : rD T n (rB T n (ms h).1) = (rB T n (ms h).1) := rD_n (fun z => p652 (by have y := sgm_d kp651; rw [sp648] at y; exact y.mpr z))
          have hrm := rM_a (M := 99999) (T := T) (n := n) (p := (rB T n (ms h).1)) (b := (rB T n (ms h).1)) rB_2 hnd
          have Zfin : mZp hp664 := mZp_k (mZp_p pp648e) ip664 jp664
          exact tw_vret rfl ⟨rfl, mFq_f ggp664, mOut_l (by unfold mS1; rw [if_neg (fun z => q650 ((by have y := sgm_k kp649 40 (by decide); rw [sp648] at y; exact y.mpr z))), hk12]; (try dsimp only); rw [hrm]) Fp664 Zfin⟩
      · try dsimp only [tvI_i, tvJ_j, tvR_r] at q662
        refine tw_aload rfl rfl ?_
        refine tw_iload rfl rfl ?_
        refine tw_stat1 rfl (g_wordOf hG (k := k) hx (by omega)) (fun wp665 hp665 p665 => ?_)
        obtain ⟨rfl, rfl⟩ := p665
        refine tw_virt1 rfl (g_stands hG hX (ggp648).1 ((mFr_T ggp648).trans hT) ((mFr_n ggp648).trans hN) (q := (k + 2)) (zl_lo k (by omega)).1 ⟨pp648e.2.1.1, by have := pp648e.2.1; omega⟩ ⟨by have := pp648e.2.1; omega, pp648e.2.1.2.2⟩) (fun w9 h9 p666 => ?_)
        obtain ⟨⟨p666, rfl⟩ | ⟨p666, rfl⟩, rfl⟩ := p666
        · try dsimp only [tvI_i, tvJ_j, tvR_r] at p666
          refine tw_if_ne rfl (fun _ => ?_) (fun z => absurd z (by decide))
          refine tw_iload rfl rfl ?_
          refine tw_push rfl ?_
          refine tw_ic_ne rfl (fun q667 => ?_) (fun q667 => ?_)
          · try dsimp only [tvI_i, tvJ_j, tvR_r] at q667
            have q667i := zneq (Y := 12) (by decide) q667
            refine tw_aload rfl rfl ?_
            refine tw_iload rfl rfl ?_
            have hk11 : k < 12 := by have z := q662; omega
            have hwk : rW T n (rB T n (ms h).1) (rWd k) = true := by have z := p666; rw [sp648] at z; rw [rWd_lo k (by omega)]; exact z
            refine tw_virt1 rfl (g_counts hG hX (ggp648).1 pp648e ((mFr_T ggp648).trans hT) ((mFr_n ggp648).trans hN) (b := (rB T n (ms h).1)) ((mPl pp648e).trans (by rw [sp648]; rfl)) (by have := rB_le (T := T) hpn; omega)) (fun w9 hp668 p668 => ?_)
            obtain ⟨rfl, gp668, ⟨np668, pp668e, sp668, tp668, dp668⟩ | ⟨np668, Fp668⟩, ip668, jp668⟩ := p668
            · have ggp668 := mFr_t ggp648 gp668
              refine tw_aload rfl rfl ?_
              refine tw_push rfl ?_
              refine tw_iload rfl rfl ?_
              refine tw_virt2 rfl (g_entry hG hX (ggp668).1 pp668e ((mFr_T ggp668).trans hT) ((mFr_n ggp668).trans hN) ⟨by decide, by omega⟩) (fun wp669 hp669 p669 => ?_)
              obtain ⟨rfl, gp669, pp669e, sp669, tp669, dp669⟩ := p669
              have ggp669 := mFr_t ggp668 gp669
              refine tw_aload rfl rfl ?_
              refine tw_dup rfl ?_
              refine tw_getS rfl (hi_111_28 ggp669.1) ?_
              refine tw_iload rfl rfl ?_
              refine tw_stat1 rfl (g_wordOf hG (k := k) hx (by omega)) (fun wp670 hp670 p670 => ?_)
              obtain ⟨rfl, rfl⟩ := p670
              refine tw_tlen rfl ?_
              refine tw_iadd rfl ?_
              refine tw_put rfl (fun f671 => ?_)
              refine tG_setm f671 (hw_111_28 f671 (ggp669).1) (fun hf671 ef671 => ?_)
              try dsimp only [tvI_i] at ef671
              have gf671 := mFr_s ggp669 ef671 (by unfold mFs; omega)
              have hln : (Int32.ofNat (G.2.1 (k + 2)).length).toInt = ((ztx (k + 2)).length : Int) := by rw [hX]; exact zofI (by have := (zl_lo k (by omega)).1; omega)
              have hre : rE T n (rB T n (ms h).1) = (rB T n (ms h).1) + (ztx (k + 2)).length := by rw [rW_e hwk, rWd_lo k (by omega)]
              have hre2 := rE_le (T := T) (rB_le (T := T) hpn)
              obtain ⟨pf671, sf671, tf671⟩ := mTo pp669e ((mFr_n ggp669).trans hN) ef671 (v := (rB T n (ms h).1) + (ztx (k + 2)).length) (zadN (a := (rB T n (ms h).1)) (by rw [mPl pp669e, sp669, sp668, sp648]; rfl) hln (by omega) (by have := (zl_lo k (by omega)).1; omega)) (by omega)
              rw [sp669, sp668, sp648, ← hre] at sf671
              refine tw_aload rfl rfl ?_
              refine tw_push rfl ?_
              refine tw_put rfl (fun f672 => ?_)
              refine tG_setm f672 (hw_111_46 f672 (gf671).1) (fun hf672 ef672 => ?_)
              try dsimp only [tvI_i] at ef672
              have gf672 := mFq_s (mFq_f gf671) ef672 (Or.inr rfl)
              obtain ⟨pf672, sf672, tf672⟩ := mSte pf671 ef672
              have hk12 : rK12 T n (rB T n (ms h).1) = some k := rK12_i (by omega) hwk
              have h80 : (ms h).2.1 ≠ 80 := by have z := np668; rw [sp648] at z; exact z
              have hsk : mSk hf672 = mSk h := by rw [tf672, tf671, tp669, tp668, tp648]
              have h32 : tF hf672 111 32 = tF h 111 32 := (mI_o ef672 (by decide)).trans ((mI_o ef671 (by decide)).trans (dp669.trans (dp668.trans dp648)))
              have hms : ms hf672 = (rE T n (rB T n (ms h).1), (ms h).2.1 + 1, (ms h).2.2 ++ [100000 + k]) := by rw [sf672, sf671]; show (_, _, _ ++ [mCode 1 x.toNatClampNeg]) = _; rw [zof_cl hx, mCode_1 (by omega)]; rfl
              exact tw_vret rfl ⟨rfl, gf672, mOut_r (by unfold mS1; rw [if_neg (fun z => q650 ((by have y := sgm_k kp649 40 (by decide); rw [sp648] at y; exact y.mpr z))), hk12]; (try dsimp only); rw [if_neg h80]) pf672 (mD_k hD hsk h32) (by unfold mst; rw [mI_x ef672, hsk, hms]; rfl)⟩
            · have ggp668 := mFr_t ggp648 gp668
              refine tw_aload rfl rfl ?_
              refine tw_push rfl ?_
              refine tw_iload rfl rfl ?_
              refine tw_virt2 rfl (z_entry hG hX (ggp668).1 Fp668 ((mFr_T ggp668).trans hT) ((mFr_n ggp668).trans hN)) (fun wp673 hp673 p673 => ?_)
              obtain ⟨rfl, e9⟩ := p673
              obtain rfl := e9.symm
              refine tw_aload rfl rfl ?_
              refine tw_dup rfl ?_
              refine tw_getS rfl (hi_111_28 (ggp668).1) ?_
              refine tw_iload rfl rfl ?_
              refine tw_stat1 rfl (g_wordOf hG (k := k) hx (by omega)) (fun wp674 hp674 p674 => ?_)
              obtain ⟨rfl, rfl⟩ := p674
              refine tw_tlen rfl ?_
              refine tw_iadd rfl ?_
              refine tw_put rfl (fun f675 => ?_)
              refine tG_setm f675 (hw_111_28 f675 (ggp668).1) (fun hf675 ef675 => ?_)
              try dsimp only [tvI_i] at ef675
              have gf675 := mFr_s ggp668 ef675 (by unfold mFs; omega)
              have zf675 := mFt_s Fp668 ef675 (by decide)
              have Zbf675 : 0 ≤ (tvI (tF hp668 111 27)).toInt ∧ (tvI (tF hp668 111 27)).toInt ≤ 400 := by rw [show tF hp668 111 27 = tF h 111 27 from mFr_27 ggp668]; have := hp.2.1; omega
              have yf675 : (tvI (tF hp668 111 28)).toInt = (((rB T n (ms h).1) : Nat) : Int) := by rw [ip668, mPl pp648e, sp648]; rfl
              have hln : (Int32.ofNat (G.2.1 (k + 2)).length).toInt = ((ztx (k + 2)).length : Int) := by rw [hX]; exact zofI (by have := (zl_lo k (by omega)).1; omega)
              have Zf675 : mZp hf675 := by have y := zadN yf675 hln (by have := rB_le (T := T) hpn; omega) (by have := (zl_lo k (by omega)).1; omega); have y2 := rE_le (T := T) (rB_le (T := T) hpn); rw [rW_e hwk, rWd_lo k (by omega)] at y2; unfold mZp; rw [mI_x ef675, mI_o ef675 (by decide)]; exact ⟨⟨by omega, Zbf675.1⟩, by omega, Zbf675.2⟩
              refine tw_aload rfl rfl ?_
              refine tw_push rfl ?_
              refine tw_put rfl (fun f676 => ?_)
              refine tG_setm f676 (hw_111_46 f676 (gf675).1) (fun hf676 ef676 => ?_)
              try dsimp only [tvI_i] at ef676
              have gf676 := mFq_s (mFq_f gf675) ef676 (Or.inr rfl)
              have zf676 := mFt_s zf675 ef676 (by decide)
              have hk12 : rK12 T n (rB T n (ms h).1) = some k := rK12_i (by omega) hwk
              have h80 : (ms h).2.1 = 80 := by have z := np668; rw [sp648] at z; exact z
              have Zfin : mZp hf676 := mZp_o Zf675 ef676 (by decide)
              exact tw_vret rfl ⟨rfl, gf676, mOut_l (by unfold mS1; rw [if_neg (fun z => q650 ((by have y := sgm_k kp649 40 (by decide); rw [sp648] at y; exact y.mpr z))), hk12]; (try dsimp only); rw [if_pos h80]) zf676 Zfin⟩
          · try dsimp only [tvI_i, tvJ_j, tvR_r] at q667
            have q667i := zeqi (Y := 12) (by decide) q667
            exact absurd (show x.toInt = 12 from q667i) (by have z := q662; omega)
        · try dsimp only [tvI_i, tvJ_j, tvR_r] at p666
          refine tw_if_ne rfl (fun z => absurd z (by decide)) (fun _ => ?_)
          refine tw_iinc rfl rfl ?_
          refine tw_goto rfl ?_
          have hno : ¬ rW T n (rB T n (ms h).1) (rWd k) = true := by have z := p666; rw [sp648] at z; rw [rWd_lo k (by omega)]; exact z
          exact tG_cut (zW_mono zTt G dp) (Or.inr ⟨rfl, rfl, rfl, k + 1, x + 1, zincN hx (by omega), by omega, fun i hi => (Classical.em (i = k)).elim (fun z => by rw [z]; exact hno) (fun z => hall i (by omega)), rfl⟩)
  · try dsimp only [tvI_i, tvJ_j, tvR_r] at q650
    have q650i := zeqi (Y := 40) (by decide) q650
    refine tw_aload rfl rfl ?_
    refine tw_push rfl ?_
    refine tw_iload rfl rfl ?_
    have hw40 : (rB T n (ms h).1) < n ∧ T (rB T n (ms h).1) = 40 := by have y := sgm_k kp649 40 (by decide); rw [sp648] at y; exact y.mp q650
    refine tw_virt2 rfl (g_opensDeep hG hX (ggp648).1 pp648e ((mFr_T ggp648).trans hT) ((mFr_n ggp648).trans hN) (by decide) (by decide) (b := (rB T n (ms h).1)) ((mPl pp648e).trans (by rw [sp648]; rfl)) (by have := rB_le (T := T) hpn; omega) (mD_k hD tp648 dp648) (by rw [tp648]; exact hd)) (fun w9 hp677 p677 => ?_)
    obtain ⟨rfl, gp677, ⟨np677, pp677e, tp677, sp677, ddp677⟩ | ⟨np677, Fp677, ip677, jp677⟩⟩ := p677
    · have ggp677 := mFr_t ggp648 gp677
      refine tw_aload rfl rfl ?_
      refine tw_iload rfl rfl ?_
      refine tw_virt1 rfl (g_counts hG hX (ggp677).1 pp677e ((mFr_T ggp677).trans hT) ((mFr_n ggp677).trans hN) (b := (rB T n (ms h).1)) ((mPl pp648e).trans (by rw [sp648]; rfl)) (by have := rB_le (T := T) hpn; omega)) (fun w9 hp678 p678 => ?_)
      obtain ⟨rfl, gp678, ⟨np678, pp678e, sp678, tp678, dp678⟩ | ⟨np678, Fp678⟩, ip678, jp678⟩ := p678
      · have ggp678 := mFr_t ggp677 gp678
        refine tw_aload rfl rfl ?_
        refine tw_dup rfl ?_
        refine tw_getS rfl (hi_111_28 ggp678.1) ?_
        refine tw_push rfl ?_
        refine tw_iadd rfl ?_
        refine tw_put rfl (fun f679 => ?_)
        refine tG_setm f679 (hw_111_28 f679 (ggp678).1) (fun hf679 ef679 => ?_)
        try dsimp only [tvI_i] at ef679
        have gf679 := mFr_s ggp678 ef679 (by unfold mFs; omega)
        have wf679 := hw40
        obtain ⟨pf679, sf679, tf679⟩ := mTo pp678e ((mFr_n ggp678).trans hN) ef679 (v := (rB T n (ms h).1) + 1) (zincN (n := (rB T n (ms h).1)) (by rw [mPl pp678e, sp678, sp677, sp648]; rfl) (by omega)) wf679.1
        rw [sp678, sp677, sp648] at sf679
        refine tw_goto rfl ?_
        have hnd : mDp (mSk h) ≠ 10 := by rw [← tp648]; exact np677
        have h80 : (ms h).2.1 ≠ 80 := by have z := np678; rw [sp677, sp648] at z; exact z
        have hsk : mSk hf679 = 50 :: mSk h := by rw [tf679, tp678, tp677, tp648]; rfl
        have hdd : mD hf679 := mD_o ef679 (by decide) (by decide) (mD_k ddp677 tp678 dp678)
        have h46 : stN (tvI (tF hf679 111 46)) = 1 := by rw [mFr_46 gf679, h46s]; rfl
        exact tw_vret rfl ⟨rfl, mFq_f gf679, mOut_r (by unfold mS1; rw [if_pos hw40, if_neg hnd, if_neg h80]) pf679 hdd (by unfold mst; rw [h46, hsk, sf679]; rfl)⟩
      · have ggp678 := mFr_t ggp677 gp678
        refine tw_aload rfl rfl ?_
        refine tw_dup rfl ?_
        refine tw_getS rfl (hi_111_28 ggp678.1) ?_
        refine tw_push rfl ?_
        refine tw_iadd rfl ?_
        refine tw_put rfl (fun f680 => ?_)
        refine tG_setm f680 (hw_111_28 f680 (ggp678).1) (fun hf680 ef680 => ?_)
        try dsimp only [tvI_i] at ef680
        have gf680 := mFr_s ggp678 ef680 (by unfold mFs; omega)
        have zf680 := mFt_s Fp678 ef680 (by decide)
        have yf680 : (tvI (tF hp678 111 28)).toInt = (((rB T n (ms h).1) : Nat) : Int) := by rw [ip678, mPl pp677e, sp677, sp648]; rfl
        have Zbf680 : 0 ≤ (tvI (tF hp678 111 27)).toInt ∧ (tvI (tF hp678 111 27)).toInt ≤ 400 := by rw [show tF hp678 111 27 = tF h 111 27 from mFr_27 ggp678]; have := hp.2.1; omega
        have Zf680 : mZp hf680 := by have y := zp1 yf680 (by have := rB_le (T := T) hpn; omega); have y2 := rB_le (T := T) hpn; unfold mZp; rw [mI_x ef680, mI_o ef680 (by decide)]; exact ⟨⟨by omega, Zbf680.1⟩, by omega, Zbf680.2⟩
        refine tw_goto rfl ?_
        have hnd : mDp (mSk h) ≠ 10 := by rw [← tp648]; exact np677
        have h80 : (ms h).2.1 = 80 := by have z := np678; rw [sp677, sp648] at z; exact z
        exact tw_vret rfl ⟨rfl, mFq_f gf680, mOut_l (by unfold mS1; rw [if_pos hw40, if_neg hnd, if_pos h80]) zf680 Zf680⟩
    · have ggp677 := mFr_t ggp648 gp677
      refine tw_aload rfl rfl ?_
      refine tw_iload rfl rfl ?_
      refine tw_virt1 rfl (z_counts hG hX (ggp677).1 Fp677 ((mFr_T ggp677).trans hT) ((mFr_n ggp677).trans hN)) (fun w9 hp681 p681 => ?_)
      obtain ⟨rfl, gp681, Fp681, ip681, jp681⟩ := p681
      · have ggp681 := mFr_t ggp677 gp681
        refine tw_aload rfl rfl ?_
        refine tw_dup rfl ?_
        refine tw_getS rfl (hi_111_28 ggp681.1) ?_
        refine tw_push rfl ?_
        refine tw_iadd rfl ?_
        refine tw_put rfl (fun f682 => ?_)
        refine tG_setm f682 (hw_111_28 f682 (ggp681).1) (fun hf682 ef682 => ?_)
        try dsimp only [tvI_i] at ef682
        have gf682 := mFr_s ggp681 ef682 (by unfold mFs; omega)
        have zf682 := mFt_s Fp681 ef682 (by decide)
        have yf682 : (tvI (tF hp681 111 28)).toInt = (((rB T n (ms h).1) : Nat) : Int) := by rw [ip681, ip677, mPl pp648e, sp648]; rfl
        have Zbf682 : 0 ≤ (tvI (tF hp681 111 27)).toInt ∧ (tvI (tF hp681 111 27)).toInt ≤ 400 := by rw [show tF hp681 111 27 = tF h 111 27 from mFr_27 ggp681]; have := hp.2.1; omega
        have Zf682 : mZp hf682 := by have y := zp1 yf682 (by have := rB_le (T := T) hpn; omega); have y2 := rB_le (T := T) hpn; unfold mZp; rw [mI_x ef682, mI_o ef682 (by decide)]; exact ⟨⟨by omega, Zbf682.1⟩, by omega, Zbf682.2⟩
        refine tw_goto rfl ?_
        exact tw_vret rfl ⟨rfl, mFq_f gf682, mOut_l (by unfold mS1; rw [if_pos hw40, if_pos (by rw [← tp648]; exact np677)]) zf682 Zf682⟩
