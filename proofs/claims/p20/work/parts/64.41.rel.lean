theorem f_readSum {G : zG} (hG : G.1 = zProg) (hX : G.2.1 = ztx) {dp : Nat} (IH : cIH G dp) {h : zH} {T : Nat → Int32} {n : Nat} (hs : tSh h) (hp : cP h) (hT : tA h 45 = T) (hN : cn h = n) {x : Int32} {d : Nat} (hx : x.toInt = d) (hd : d ≤ 10) : tCp zTt G (dp + 1) 83 [.ref 44, .int x] h (cR T n 3 d h) := by
  refine tCp_in (by rw [hG]; rfl) ?_
  have g0 := cFr_r hs
  have hpn : (cs h).1 ≤ n := by rw [← hN]; exact cP_le hp
  have c129 : (12 : Int32).toInt = 12 := rfl
  have c4009 : (400 : Int32).toInt = 400 := rfl
  have c109 : (10 : Int32).toInt = 10 := rfl
  refine tw_aload rfl rfl ?_
  refine tw_iload rfl rfl ?_
  refine tw_virt1p rfl (IH 1 84 (by decide) _ _ _ d _ (g0).1 hp ((cFr_T g0).trans hT) ((cFr_n g0).trans hN) hx hd) (fun w9 hp267 p267 => ?_)
  obtain ⟨gp267, ⟨rfl, p267, ppp267⟩ | ⟨rfl, xp267, p267, up267⟩⟩ := p267
  · have ggp267 := cFr_t g0 gp267
    refine tw_if_ne rfl (fun _ => ?_) (fun z => absurd z (by decide))
    refine tw_push rfl ?_
    refine tw_istore rfl ?_
    refine tG_loop (zW_mono zTt G dp) (zW_conj zTt G dp) (V := fun pc L st h9 _ _ => pc = 12 ∧ st = [] ∧ ∃ (h1 : zH) (k : Nat) (y : Int32) (v3 : Option Value), h1 = h9 ∧ y.toInt = k ∧ k ≤ (cs h1).1 ∧ cFr h h1 ∧ cP h1 ∧ (∀ r, pE T n 4 d (cs h1) r → pE T n 3 d (cs h) r) ∧ L = [some (.ref 44), some (.int x), some (.int y), v3]) ?_ (⟨rfl, rfl, _, 0, _, _, rfl, rfl, Nat.zero_le _, ggp267, ppp267, fun r z => pE_q (by decide) p267 z, rfl⟩)
    rintro _ _ _ _ _ _ ⟨rfl, rfl, h1, k, y, v3, rfl, hy, hk, g1, p1, hR, rfl⟩
    refine tw_iload rfl rfl ?_
    refine tw_push rfl ?_
    refine tw_ic_ge rfl (fun q268 => ?_) (fun q268 => ?_)
    · try dsimp only [tvI_i, tvJ_j, tvR_r] at q268
      refine tw_push rfl ?_
      have h4 : 400 ≤ (cs h1).1 := by omega
      have h5 := cP_400 p1
      rw [((cFr_n g1).trans hN)] at h5
      have h6 := rB_400 (T := T) (show n ≤ (cs h1).1 by omega)
      have h7 := pE_4n (T := T) (n := n) (d := d) (s := cs h1) (c400 (T := T) h4 (by have := cP_le p1; rw [((cFr_n g1).trans hN)] at this; exact this) h5) (c400 (T := T) h4 (by have := cP_le p1; rw [((cFr_n g1).trans hN)] at this; exact this) h5)
      rw [h6] at h7
      exact tw_iret rfl ⟨g1, Or.inl ⟨rfl, hR _ h7, p1⟩⟩
    · try dsimp only [tvI_i, tvJ_j, tvR_r] at q268
      refine tw_aload rfl rfl ?_
      refine tw_virt0 rfl (f_signHere hG hX (g1).1 p1 ((cFr_T g1).trans hT) ((cFr_n g1).trans hN)) (fun wp269 hp269 p269 => ?_)
      obtain ⟨gp269, ppp269, ssp269, t3p269, cp269, rfl, kp269⟩ := p269
      have ggp269 := cFr_t g1 gp269
      refine tw_istore rfl ?_
      refine tw_iload rfl rfl ?_
      refine tw_push rfl ?_
      refine tw_ic_eq rfl (fun q270 => ?_) (fun q270 => ?_)
      · try dsimp only [tvI_i, tvJ_j, tvR_r] at q270
        have q270i := zeqi (Y := 43) (by decide) q270
        refine tw_aload rfl rfl ?_
        refine tw_dup rfl ?_
        refine tw_getS rfl (hi_44_2 ggp269.1) ?_
        refine tw_push rfl ?_
        refine tw_iadd rfl ?_
        refine tw_put rfl (fun f271 => ?_)
        refine tG_set f271 (hw_44_2 f271 (ggp269).1) (fun hf271 ef271 => ?_)
        try dsimp only [tvI_i] at ef271
        have gf271 := cFr_s ggp269 ef271 (by decide)
        have hwf271 := ((sgn_k kp269 43 (by decide)).mp q270)
        have hlf271 : (cs hp269).1 < n := by rw [ssp269]; exact hwf271.1
        obtain ⟨pf271, sf271⟩ := cInc ppp269 hlf271 ((cFr_n ggp269).trans hN) ef271
        rw [ssp269] at sf271
        refine tw_aload rfl rfl ?_
        refine tw_iload rfl rfl ?_
        refine tw_virt1p rfl (IH 1 84 (by decide) _ _ _ d _ (gf271).1 pf271 ((cFr_T gf271).trans hT) ((cFr_n gf271).trans hN) hx hd) (fun w9 hp272 p272 => ?_)
        obtain ⟨gp272, ⟨rfl, p272, ppp272⟩ | ⟨rfl, xp272, p272, up272⟩⟩ := p272
        · have ggp272 := cFr_t gf271 gp272
          refine tw_if_ne rfl (fun _ => ?_) (fun z => absurd z (by decide))
          refine tw_aload rfl rfl ?_
          refine tw_iload rfl rfl ?_
          refine tw_push rfl ?_
          refine tw_ic_ne rfl (fun q273 => ?_) (fun q273 => ?_)
          · try dsimp only [tvI_i, tvJ_j, tvR_r] at q273
            have q273i := zneq (Y := 43) (by decide) q273
            exact absurd q270 q273
          · try dsimp only [tvI_i, tvJ_j, tvR_r] at q273
            have q273i := zeqi (Y := 43) (by decide) q273
            refine tw_push rfl ?_
            refine tw_goto rfl ?_
            refine tw_virt1 rfl (f_putCode hG hX (ggp272).1 ppp272 ((cFr_T ggp272).trans hT) ((cFr_n ggp272).trans hN) (cHc ppp272 (by have z := cPe pf271 ((cFr_n gf271).trans hN) p272; have z2 := cP_len p1; have z3 := rB_ge (T := T) (n := n) (p := (cs h1).1); obtain ⟨z4, z5, z6⟩ := z; rw [sf271] at z4 z6; have z4 : (rB T n (cs h1).1) + 1 ≤ (cs hp272).1 := z4; have z6 : (rB T n (cs h1).1) + 1 + (cs hp272).2.2.length ≤ (cs hp272).1 + (cs h1).2.2.length := z6; omega))) (fun wp274 hp274 p274 => ?_)
            obtain ⟨gp274, rfl, ssp274, ppp274⟩ := p274
            have ggp274 := cFr_t ggp272 gp274
            refine tw_iinc rfl rfl ?_
            refine tw_goto rfl ?_
            have z := cPe pf271 ((cFr_n gf271).trans hN) p272
            have z3 := rB_ge (T := T) (n := n) (p := (cs h1).1)
            obtain ⟨z4, z5, z6⟩ := z
            have hon := p272
            rw [sf271] at z4 hon
            have z4 : (rB T n (cs h1).1) + 1 ≤ (cs hp272).1 := z4
            exact tG_cut (zW_mono zTt G dp) (Or.inr ⟨rfl, rfl, _, k + 1, _, _, rfl, zincL hy q268, (by rw [ssp274]; show k + 1 ≤ (cs hp272).1; omega), ggp274, ppp274, fun r w => hR r (pE_4p hwf271 hon (by rw [ssp274] at w; exact w)), rfl⟩)
        · have ggp272 := cFr_t gf271 gp272
          refine tw_if_ne rfl (fun z => absurd z (by decide)) (fun _ => ?_)
          refine tw_push rfl ?_
          have hoff := p272
          rw [sf271] at hoff
          exact tw_iret rfl ⟨ggp272, Or.inr ⟨rfl, _, hR _ (pE_4pf hwf271 hoff), up272⟩⟩
      · try dsimp only [tvI_i, tvJ_j, tvR_r] at q270
        have q270i := zneq (Y := 43) (by decide) q270
        refine tw_iload rfl rfl ?_
        refine tw_push rfl ?_
        refine tw_ic_eq rfl (fun q275 => ?_) (fun q275 => ?_)
        · try dsimp only [tvI_i, tvJ_j, tvR_r] at q275
          have q275i := zeqi (Y := 45) (by decide) q275
          refine tw_aload rfl rfl ?_
          refine tw_dup rfl ?_
          refine tw_getS rfl (hi_44_2 ggp269.1) ?_
          refine tw_push rfl ?_
          refine tw_iadd rfl ?_
          refine tw_put rfl (fun f276 => ?_)
          refine tG_set f276 (hw_44_2 f276 (ggp269).1) (fun hf276 ef276 => ?_)
          try dsimp only [tvI_i] at ef276
          have gf276 := cFr_s ggp269 ef276 (by decide)
          have hwf276 := ((sgn_k kp269 45 (by decide)).mp q275)
          have hlf276 : (cs hp269).1 < n := by rw [ssp269]; exact hwf276.1
          obtain ⟨pf276, sf276⟩ := cInc ppp269 hlf276 ((cFr_n ggp269).trans hN) ef276
          rw [ssp269] at sf276
          refine tw_aload rfl rfl ?_
          refine tw_iload rfl rfl ?_
          refine tw_virt1p rfl (IH 1 84 (by decide) _ _ _ d _ (gf276).1 pf276 ((cFr_T gf276).trans hT) ((cFr_n gf276).trans hN) hx hd) (fun w9 hp277 p277 => ?_)
          obtain ⟨gp277, ⟨rfl, p277, ppp277⟩ | ⟨rfl, xp277, p277, up277⟩⟩ := p277
          · have ggp277 := cFr_t gf276 gp277
            refine tw_if_ne rfl (fun _ => ?_) (fun z => absurd z (by decide))
            refine tw_aload rfl rfl ?_
            refine tw_iload rfl rfl ?_
            refine tw_push rfl ?_
            refine tw_ic_ne rfl (fun q278 => ?_) (fun q278 => ?_)
            · try dsimp only [tvI_i, tvJ_j, tvR_r] at q278
              have q278i := zneq (Y := 43) (by decide) q278
              refine tw_push rfl ?_
              refine tw_virt1 rfl (f_putCode hG hX (ggp277).1 ppp277 ((cFr_T ggp277).trans hT) ((cFr_n ggp277).trans hN) (cHc ppp277 (by have z := cPe pf276 ((cFr_n gf276).trans hN) p277; have z2 := cP_len p1; have z3 := rB_ge (T := T) (n := n) (p := (cs h1).1); obtain ⟨z4, z5, z6⟩ := z; rw [sf276] at z4 z6; have z4 : (rB T n (cs h1).1) + 1 ≤ (cs hp277).1 := z4; have z6 : (rB T n (cs h1).1) + 1 + (cs hp277).2.2.length ≤ (cs hp277).1 + (cs h1).2.2.length := z6; omega))) (fun wp279 hp279 p279 => ?_)
              obtain ⟨gp279, rfl, ssp279, ppp279⟩ := p279
              have ggp279 := cFr_t ggp277 gp279
              refine tw_iinc rfl rfl ?_
              refine tw_goto rfl ?_
              have z := cPe pf276 ((cFr_n gf276).trans hN) p277
              have z3 := rB_ge (T := T) (n := n) (p := (cs h1).1)
              obtain ⟨z4, z5, z6⟩ := z
              have hon := p277
              rw [sf276] at z4 hon
              have z4 : (rB T n (cs h1).1) + 1 ≤ (cs hp277).1 := z4
              exact tG_cut (zW_mono zTt G dp) (Or.inr ⟨rfl, rfl, _, k + 1, _, _, rfl, zincL hy q268, (by rw [ssp279]; show k + 1 ≤ (cs hp277).1; omega), ggp279, ppp279, fun r w => hR r (pE_4m hwf276 hon (by rw [ssp279] at w; exact w)), rfl⟩)
            · try dsimp only [tvI_i, tvJ_j, tvR_r] at q278
              have q278i := zeqi (Y := 43) (by decide) q278
              exact absurd q278 q270
          · have ggp277 := cFr_t gf276 gp277
            refine tw_if_ne rfl (fun z => absurd z (by decide)) (fun _ => ?_)
            refine tw_push rfl ?_
            have hoff := p277
            rw [sf276] at hoff
            exact tw_iret rfl ⟨ggp277, Or.inr ⟨rfl, _, hR _ (pE_4mf hwf276 hoff), up277⟩⟩
        · try dsimp only [tvI_i, tvJ_j, tvR_r] at q275
          have q275i := zneq (Y := 45) (by decide) q275
          refine tw_goto rfl ?_
          refine tw_push rfl ?_
          have h7 := pE_4n (T := T) (n := n) (d := d) (s := cs h1) (fun z => q270 ((sgn_k kp269 43 (by decide)).mpr z)) (fun z => q275 ((sgn_k kp269 45 (by decide)).mpr z))
          rw [← ssp269] at h7
          exact tw_iret rfl ⟨ggp269, Or.inl ⟨rfl, hR _ h7, ppp269⟩⟩
  · have ggp267 := cFr_t g0 gp267
    refine tw_if_ne rfl (fun z => absurd z (by decide)) (fun _ => ?_)
    refine tw_push rfl ?_
    exact tw_iret rfl ⟨ggp267, Or.inr ⟨rfl, _, pE_qf (c := 4) (by decide) p267, up267⟩⟩
theorem f_readPart {G : zG} (hG : G.1 = zProg) (hX : G.2.1 = ztx) {dp : Nat} (IH : cIH G dp) {h : zH} {T : Nat → Int32} {n : Nat} (hs : tSh h) (hp : cP h) (hT : tA h 45 = T) (hN : cn h = n) {x : Int32} {d : Nat} (hx : x.toInt = d) (hd : d ≤ 10) : tCp zTt G (dp + 1) 79 [.ref 44, .int x] h (cR T n 7 d h) := by
  refine tCp_in (by rw [hG]; rfl) ?_
  have g0 := cFr_r hs
  have hpn : (cs h).1 ≤ n := by rw [← hN]; exact cP_le hp
  have c129 : (12 : Int32).toInt = 12 := rfl
  have c4009 : (400 : Int32).toInt = 400 := rfl
  have c109 : (10 : Int32).toInt = 10 := rfl
  refine tw_aload rfl rfl ?_
  refine tw_iload rfl rfl ?_
  refine tw_virt1p rfl (IH 6 80 (by decide) _ _ _ d _ (g0).1 hp ((cFr_T g0).trans hT) ((cFr_n g0).trans hN) hx hd) (fun w9 hp280 p280 => ?_)
  obtain ⟨gp280, ⟨rfl, p280, ppp280⟩ | ⟨rfl, xp280, p280, up280⟩⟩ := p280
  · have ggp280 := cFr_t g0 gp280
    refine tw_if_ne rfl (fun _ => ?_) (fun z => absurd z (by decide))
    refine tw_push rfl ?_
    refine tw_istore rfl ?_
    refine tG_loop (zW_mono zTt G dp) (zW_conj zTt G dp) (V := fun pc L st h9 _ _ => pc = 12 ∧ st = [] ∧ ∃ (h1 : zH) (k : Nat) (y : Int32), h1 = h9 ∧ y.toInt = k ∧ k ≤ (cs h1).1 ∧ cFr h h1 ∧ cP h1 ∧ (∀ r, pE T n 8 d (cs h1) r → pE T n 7 d (cs h) r) ∧ L = [some (.ref 44), some (.int x), some (.int y)]) ?_ (⟨rfl, rfl, _, 0, _, rfl, rfl, Nat.zero_le _, ggp280, ppp280, fun r z => pE_q (by decide) p280 z, rfl⟩)
    rintro _ _ _ _ _ _ ⟨rfl, rfl, h1, k, y, rfl, hy, hk, g1, p1, hR, rfl⟩
    refine tw_iload rfl rfl ?_
    refine tw_push rfl ?_
    refine tw_ic_ge rfl (fun q281 => ?_) (fun q281 => ?_)
    · try dsimp only [tvI_i, tvJ_j, tvR_r] at q281
      refine tw_push rfl ?_
      have h4 : 400 ≤ (cs h1).1 := by omega
      have h5 := cP_400 p1
      rw [((cFr_n g1).trans hN)] at h5
      have h6 := rB_400 (T := T) (show n ≤ (cs h1).1 by omega)
      have h7 := pE_8n (T := T) (n := n) (d := d) (s := cs h1) (w400 (by decide) (by rw [h6]; omega))
      rw [h6] at h7
      exact tw_iret rfl ⟨g1, Or.inl ⟨rfl, hR _ h7, p1⟩⟩
    · try dsimp only [tvI_i, tvJ_j, tvR_r] at q281
      refine tw_aload rfl rfl ?_
      refine tw_virt0 rfl (f_wordHere hG hX (g1).1 p1 ((cFr_T g1).trans hT) ((cFr_n g1).trans hN)) (fun wp282 hp282 p282 => ?_)
      obtain ⟨gp282, ppp282, ssp282, eep282, ip282, rfl, kwp282⟩ := p282
      have ggp282 := cFr_t g1 gp282
      refine tw_push rfl ?_
      refine tw_ic_ne rfl (fun q283 => ?_) (fun q283 => ?_)
      · try dsimp only [tvI_i, tvJ_j, tvR_r] at q283
        have q283i := zneq (Y := 18) (by decide) q283
        refine tw_push rfl ?_
        have h7 := pE_8n (T := T) (n := n) (d := d) (s := cs h1) (fun z => q283 ((wrd_k (k := 18) kwp282 (by decide) (K := 18) rfl).mpr z))
        rw [← ssp282] at h7
        exact tw_iret rfl ⟨ggp282, Or.inl ⟨rfl, hR _ h7, ppp282⟩⟩
      · try dsimp only [tvI_i, tvJ_j, tvR_r] at q283
        have q283i := zeqi (Y := 18) (by decide) q283
        refine tw_aload rfl rfl ?_
        refine tw_aload rfl rfl ?_
        refine tw_getS rfl (hi_44_3 ggp282.1) ?_
        refine tw_put rfl (fun f284 => ?_)
        refine tG_set f284 (hw_44_2 f284 (ggp282).1) (fun hf284 ef284 => ?_)
        try dsimp only [tvI_i] at ef284
        have gf284 := cFr_s ggp282 ef284 (by decide)
        have hwf284 := ((wrd_k (k := 18) kwp282 (by decide) (K := 18) rfl).mp q283)
        have h9wf284 : rE T n (rB T n (cs h1).1) = (rB T n (cs h1).1) + 3 := by rw [rW_e hwf284, wlen_k.1]
        rw [h9wf284] at eep282
        have hp1n : (cs h1).1 ≤ n := by rw [← ((cFr_n g1).trans hN)]; exact cP_le p1
        have hr9f284 := rE_le (T := T) (rB_le (T := T) hp1n)
        rw [h9wf284] at hr9f284
        obtain ⟨pf284, sf284⟩ := cTo ppp282 ((cFr_n ggp282).trans hN) ef284 eep282 (by rw [ssp282]; exact Nat.le_add_right _ _) hr9f284
        rw [ssp282] at sf284
        refine tw_aload rfl rfl ?_
        refine tw_iload rfl rfl ?_
        refine tw_virt1p rfl (IH 6 80 (by decide) _ _ _ d _ (gf284).1 pf284 ((cFr_T gf284).trans hT) ((cFr_n gf284).trans hN) hx hd) (fun w9 hp285 p285 => ?_)
        obtain ⟨gp285, ⟨rfl, p285, ppp285⟩ | ⟨rfl, xp285, p285, up285⟩⟩ := p285
        · have ggp285 := cFr_t gf284 gp285
          refine tw_if_ne rfl (fun _ => ?_) (fun z => absurd z (by decide))
          refine tw_aload rfl rfl ?_
          refine tw_push rfl ?_
          refine tw_virt1 rfl (f_putCode hG hX (ggp285).1 ppp285 ((cFr_T ggp285).trans hT) ((cFr_n ggp285).trans hN) (cHc ppp285 (by have z := cPe pf284 ((cFr_n gf284).trans hN) p285; have z2 := cP_len p1; have z3 := rB_ge (T := T) (n := n) (p := (cs h1).1); obtain ⟨z4, z5, z6⟩ := z; rw [sf284] at z4 z6; have z4 : (rB T n (cs h1).1) + 3 ≤ (cs hp285).1 := z4; have z6 : (rB T n (cs h1).1) + 3 + (cs hp285).2.2.length ≤ (cs hp285).1 + (cs h1).2.2.length := z6; omega))) (fun wp286 hp286 p286 => ?_)
          obtain ⟨gp286, rfl, ssp286, ppp286⟩ := p286
          have ggp286 := cFr_t ggp285 gp286
          refine tw_iinc rfl rfl ?_
          refine tw_goto rfl ?_
          have z := cPe pf284 ((cFr_n gf284).trans hN) p285
          have z3 := rB_ge (T := T) (n := n) (p := (cs h1).1)
          obtain ⟨z4, z5, z6⟩ := z
          have hon := p285
          rw [sf284] at z4 hon
          have z4 : (rB T n (cs h1).1) + 3 ≤ (cs hp285).1 := z4
          exact tG_cut (zW_mono zTt G dp) (Or.inr ⟨rfl, rfl, _, k + 1, _, rfl, zincL hy q281, (by rw [ssp286]; show k + 1 ≤ (cs hp285).1; omega), ggp286, ppp286, fun r w => hR r (pE_8y hwf284 hon (by rw [ssp286] at w; exact w)), rfl⟩)
        · have ggp285 := cFr_t gf284 gp285
          refine tw_if_ne rfl (fun z => absurd z (by decide)) (fun _ => ?_)
          refine tw_push rfl ?_
          have hoff := p285
          rw [sf284] at hoff
          exact tw_iret rfl ⟨ggp285, Or.inr ⟨rfl, _, hR _ (pE_8f hwf284 hoff), up285⟩⟩
  · have ggp280 := cFr_t g0 gp280
    refine tw_if_ne rfl (fun z => absurd z (by decide)) (fun _ => ?_)
    refine tw_push rfl ?_
    exact tw_iret rfl ⟨ggp280, Or.inr ⟨rfl, _, pE_qf (c := 8) (by decide) p280, up280⟩⟩
theorem f_readTest {G : zG} (hG : G.1 = zProg) (hX : G.2.1 = ztx) {dp : Nat} (IH : cIH G dp) {h : zH} {T : Nat → Int32} {n : Nat} (hs : tSh h) (hp : cP h) (hT : tA h 45 = T) (hN : cn h = n) {x : Int32} {d : Nat} (hx : x.toInt = d) (hd : d ≤ 10) : tCp zTt G (dp + 1) 78 [.ref 44, .int x] h (cR T n 9 d h) := by
  refine tCp_in (by rw [hG]; rfl) ?_
  have g0 := cFr_r hs
  have hpn : (cs h).1 ≤ n := by rw [← hN]; exact cP_le hp
  have c129 : (12 : Int32).toInt = 12 := rfl
  have c4009 : (400 : Int32).toInt = 400 := rfl
  have c109 : (10 : Int32).toInt = 10 := rfl
  refine tw_aload rfl rfl ?_
  refine tw_iload rfl rfl ?_
  refine tw_virt1p rfl (IH 7 79 (by decide) _ _ _ d _ (g0).1 hp ((cFr_T g0).trans hT) ((cFr_n g0).trans hN) hx hd) (fun w9 hp287 p287 => ?_)
  obtain ⟨gp287, ⟨rfl, p287, ppp287⟩ | ⟨rfl, xp287, p287, up287⟩⟩ := p287
  · have ggp287 := cFr_t g0 gp287
    refine tw_if_ne rfl (fun _ => ?_) (fun z => absurd z (by decide))
    refine tw_push rfl ?_
    refine tw_istore rfl ?_
    refine tG_loop (zW_mono zTt G dp) (zW_conj zTt G dp) (V := fun pc L st h9 _ _ => pc = 12 ∧ st = [] ∧ ∃ (h1 : zH) (k : Nat) (y : Int32), h1 = h9 ∧ y.toInt = k ∧ k ≤ (cs h1).1 ∧ cFr h h1 ∧ cP h1 ∧ (∀ r, pE T n 10 d (cs h1) r → pE T n 9 d (cs h) r) ∧ L = [some (.ref 44), some (.int x), some (.int y)]) ?_ (⟨rfl, rfl, _, 0, _, rfl, rfl, Nat.zero_le _, ggp287, ppp287, fun r z => pE_q (by decide) p287 z, rfl⟩)
    rintro _ _ _ _ _ _ ⟨rfl, rfl, h1, k, y, rfl, hy, hk, g1, p1, hR, rfl⟩
    refine tw_iload rfl rfl ?_
    refine tw_push rfl ?_
    refine tw_ic_ge rfl (fun q288 => ?_) (fun q288 => ?_)
    · try dsimp only [tvI_i, tvJ_j, tvR_r] at q288
      refine tw_push rfl ?_
      have h4 : 400 ≤ (cs h1).1 := by omega
      have h5 := cP_400 p1
      rw [((cFr_n g1).trans hN)] at h5
      have h6 := rB_400 (T := T) (show n ≤ (cs h1).1 by omega)
      have h7 := pE_10n (T := T) (n := n) (d := d) (s := cs h1) (w400 (by decide) (by rw [h6]; omega))
      rw [h6] at h7
      exact tw_iret rfl ⟨g1, Or.inl ⟨rfl, hR _ h7, p1⟩⟩
    · try dsimp only [tvI_i, tvJ_j, tvR_r] at q288
      refine tw_aload rfl rfl ?_
      refine tw_virt0 rfl (f_wordHere hG hX (g1).1 p1 ((cFr_T g1).trans hT) ((cFr_n g1).trans hN)) (fun wp289 hp289 p289 => ?_)
      obtain ⟨gp289, ppp289, ssp289, eep289, ip289, rfl, kwp289⟩ := p289
      have ggp289 := cFr_t g1 gp289
      refine tw_push rfl ?_
      refine tw_ic_ne rfl (fun q290 => ?_) (fun q290 => ?_)
      · try dsimp only [tvI_i, tvJ_j, tvR_r] at q290
        have q290i := zneq (Y := 17) (by decide) q290
        refine tw_push rfl ?_
        have h7 := pE_10n (T := T) (n := n) (d := d) (s := cs h1) (fun z => q290 ((wrd_k (k := 17) kwp289 (by decide) (K := 17) rfl).mpr z))
        rw [← ssp289] at h7
        exact tw_iret rfl ⟨ggp289, Or.inl ⟨rfl, hR _ h7, ppp289⟩⟩
      · try dsimp only [tvI_i, tvJ_j, tvR_r] at q290
        have q290i := zeqi (Y := 17) (by decide) q290
        refine tw_aload rfl rfl ?_
        refine tw_aload rfl rfl ?_
        refine tw_getS rfl (hi_44_3 ggp289.1) ?_
        refine tw_put rfl (fun f291 => ?_)
        refine tG_set f291 (hw_44_2 f291 (ggp289).1) (fun hf291 ef291 => ?_)
        try dsimp only [tvI_i] at ef291
        have gf291 := cFr_s ggp289 ef291 (by decide)
        have hwf291 := ((wrd_k (k := 17) kwp289 (by decide) (K := 17) rfl).mp q290)
        have h9wf291 : rE T n (rB T n (cs h1).1) = (rB T n (cs h1).1) + 2 := by rw [rW_e hwf291, wlen_k.2.1]
        rw [h9wf291] at eep289
        have hp1n : (cs h1).1 ≤ n := by rw [← ((cFr_n g1).trans hN)]; exact cP_le p1
        have hr9f291 := rE_le (T := T) (rB_le (T := T) hp1n)
        rw [h9wf291] at hr9f291
        obtain ⟨pf291, sf291⟩ := cTo ppp289 ((cFr_n ggp289).trans hN) ef291 eep289 (by rw [ssp289]; exact Nat.le_add_right _ _) hr9f291
        rw [ssp289] at sf291
        refine tw_aload rfl rfl ?_
        refine tw_iload rfl rfl ?_
        refine tw_virt1p rfl (IH 7 79 (by decide) _ _ _ d _ (gf291).1 pf291 ((cFr_T gf291).trans hT) ((cFr_n gf291).trans hN) hx hd) (fun w9 hp292 p292 => ?_)
        obtain ⟨gp292, ⟨rfl, p292, ppp292⟩ | ⟨rfl, xp292, p292, up292⟩⟩ := p292
        · have ggp292 := cFr_t gf291 gp292
          refine tw_if_ne rfl (fun _ => ?_) (fun z => absurd z (by decide))
          refine tw_aload rfl rfl ?_
          refine tw_push rfl ?_
          refine tw_virt1 rfl (f_putCode hG hX (ggp292).1 ppp292 ((cFr_T ggp292).trans hT) ((cFr_n ggp292).trans hN) (cHc ppp292 (by have z := cPe pf291 ((cFr_n gf291).trans hN) p292; have z2 := cP_len p1; have z3 := rB_ge (T := T) (n := n) (p := (cs h1).1); obtain ⟨z4, z5, z6⟩ := z; rw [sf291] at z4 z6; have z4 : (rB T n (cs h1).1) + 2 ≤ (cs hp292).1 := z4; have z6 : (rB T n (cs h1).1) + 2 + (cs hp292).2.2.length ≤ (cs hp292).1 + (cs h1).2.2.length := z6; omega))) (fun wp293 hp293 p293 => ?_)
          obtain ⟨gp293, rfl, ssp293, ppp293⟩ := p293
          have ggp293 := cFr_t ggp292 gp293
          refine tw_iinc rfl rfl ?_
          refine tw_goto rfl ?_
          have z := cPe pf291 ((cFr_n gf291).trans hN) p292
          have z3 := rB_ge (T := T) (n := n) (p := (cs h1).1)
          obtain ⟨z4, z5, z6⟩ := z
          have hon := p292
          rw [sf291] at z4 hon
          have z4 : (rB T n (cs h1).1) + 2 ≤ (cs hp292).1 := z4
          exact tG_cut (zW_mono zTt G dp) (Or.inr ⟨rfl, rfl, _, k + 1, _, rfl, zincL hy q288, (by rw [ssp293]; show k + 1 ≤ (cs hp292).1; omega), ggp293, ppp293, fun r w => hR r (pE_10y hwf291 hon (by rw [ssp293] at w; exact w)), rfl⟩)
        · have ggp292 := cFr_t gf291 gp292
          refine tw_if_ne rfl (fun z => absurd z (by decide)) (fun _ => ?_)
          refine tw_push rfl ?_
          have hoff := p292
          rw [sf291] at hoff
          exact tw_iret rfl ⟨ggp292, Or.inr ⟨rfl, _, hR _ (pE_10f hwf291 hoff), up292⟩⟩
  · have ggp287 := cFr_t g0 gp287
    refine tw_if_ne rfl (fun z => absurd z (by decide)) (fun _ => ?_)
    refine tw_push rfl ?_
    exact tw_iret rfl ⟨ggp287, Or.inr ⟨rfl, _, pE_qf (c := 10) (by decide) p287, up287⟩⟩
theorem f_readComparison {G : zG} (hG : G.1 = zProg) (hX : G.2.1 = ztx) {dp : Nat} (IH : cIH G dp) {h : zH} {T : Nat → Int32} {n : Nat} (hs : tSh h) (hp : cP h) (hT : tA h 45 = T) (hN : cn h = n) {x : Int32} {d : Nat} (hx : x.toInt = d) (hd : d ≤ 10) : tCp zTt G (dp + 1) 81 [.ref 44, .int x] h (cR T n 5 d h) := by
  refine tCp_in (by rw [hG]; rfl) ?_
  have g0 := cFr_r hs
  have hpn : (cs h).1 ≤ n := by rw [← hN]; exact cP_le hp
  have c129 : (12 : Int32).toInt = 12 := rfl
  have c4009 : (400 : Int32).toInt = 400 := rfl
  have c109 : (10 : Int32).toInt = 10 := rfl
  refine tw_aload rfl rfl ?_
  refine tw_iload rfl rfl ?_
  refine tw_virt1p rfl (IH 3 83 (by decide) _ _ _ d _ (g0).1 hp ((cFr_T g0).trans hT) ((cFr_n g0).trans hN) hx hd) (fun w9 hp294 p294 => ?_)
  obtain ⟨gp294, ⟨rfl, p294, ppp294⟩ | ⟨rfl, xp294, p294, up294⟩⟩ := p294
  · have ggp294 := cFr_t g0 gp294
    refine tw_if_ne rfl (fun _ => ?_) (fun z => absurd z (by decide))
    refine tw_aload rfl rfl ?_
    refine tw_virt0 rfl (f_comparisonHere hG hX (ggp294).1 ppp294 ((cFr_T ggp294).trans hT) ((cFr_n ggp294).trans hN)) (fun w9 hp295 p295 => ?_)
    obtain ⟨gp295, ⟨vp295, p295, c8p295, rfl, ssp295, ppp295⟩ | ⟨rfl, xp295, up295, p295⟩⟩ := p295
    · have ggp295 := cFr_t ggp294 gp295
      refine tw_istore rfl ?_
      refine tw_iload rfl rfl ?_
      refine tw_push rfl ?_
      refine tw_ic_eq rfl (fun q296 => ?_) (fun q296 => ?_)
      · try dsimp only [tvI_i, tvJ_j, tvR_r] at q296
        have q296i := zeqi (Y := (-1)) (by decide) q296
        exact absurd q296 (zoN9 (by have := (rCm_r p295).2.1; omega))
      · try dsimp only [tvI_i, tvJ_j, tvR_r] at q296
        have q296i := zneq (Y := (-1)) (by decide) q296
        refine tw_aload rfl rfl ?_
        refine tw_iload rfl rfl ?_
        refine tw_virt1p rfl (IH 3 83 (by decide) _ _ _ d _ (ggp295).1 ppp295 ((cFr_T ggp295).trans hT) ((cFr_n ggp295).trans hN) hx hd) (fun w9 hp297 p297 => ?_)
        obtain ⟨gp297, ⟨rfl, p297, ppp297⟩ | ⟨rfl, xp297, p297, up297⟩⟩ := p297
        · have ggp297 := cFr_t ggp295 gp297
          refine tw_if_ne rfl (fun _ => ?_) (fun z => absurd z (by decide))
          refine tw_aload rfl rfl ?_
          refine tw_iload rfl rfl ?_
          refine tw_virt1 rfl (f_putCode hG hX (ggp297).1 ppp297 ((cFr_T ggp297).trans hT) ((cFr_n ggp297).trans hN) (cHc ppp297 (by have z := cPe ppp295 ((cFr_n ggp295).trans hN) p297; have z1 := cP_len ppp294; have z3 := rB_ge (T := T) (n := n) (p := (cs hp294).1); have z7 := (rCm_r p295).2.2; obtain ⟨z4, z5, z6⟩ := z; rw [ssp295] at z4 z6; have z4 : vp295.2 ≤ (cs hp297).1 := z4; have z6 : vp295.2 + (cs hp297).2.2.length ≤ (cs hp297).1 + (cs hp294).2.2.length := z6; omega))) (fun wp298 hp298 p298 => ?_)
          obtain ⟨gp298, rfl, ssp298, ppp298⟩ := p298
          have ggp298 := cFr_t ggp297 gp298
          refine tw_push rfl ?_
          have ho := p297
          rw [ssp295] at ho
          refine tw_iret rfl ⟨ggp298, Or.inl ⟨rfl, ?_, ppp298⟩⟩
          rw [ssp298]
          show pE T n 5 d (cs h) (.inr (rU (Int32.ofNat vp295.1).toNatClampNeg _))
          rw [zoN (v := vp295.1) (by have := (rCm_r p295).2.1; omega)]
          exact pE_5e p294 p295 c8p295 ho
        · have ggp297 := cFr_t ggp295 gp297
          refine tw_if_ne rfl (fun z => absurd z (by decide)) (fun _ => ?_)
          refine tw_push rfl ?_
          have ho := p297
          rw [ssp295] at ho
          exact tw_iret rfl ⟨ggp297, Or.inr ⟨rfl, _, pE_5d p294 p295 c8p295 ho, up297⟩⟩
    · have ggp295 := cFr_t ggp294 gp295
      refine tw_istore rfl ?_
      refine tw_iload rfl rfl ?_
      refine tw_push rfl ?_
      refine tw_ic_eq rfl (fun _ => ?_) (fun z => absurd z (by decide))
      refine tw_push rfl ?_
      rcases p295 with ⟨a1, rfl⟩ | ⟨q9, a1, a2, rfl⟩
      · exact tw_iret rfl ⟨ggp295, Or.inr ⟨rfl, _, pE_5b p294 a1, up295⟩⟩
      · exact tw_iret rfl ⟨ggp295, Or.inr ⟨rfl, _, pE_5c p294 a1 a2, up295⟩⟩
  · have ggp294 := cFr_t g0 gp294
    refine tw_if_ne rfl (fun z => absurd z (by decide)) (fun _ => ?_)
    refine tw_push rfl ?_
    exact tw_iret rfl ⟨ggp294, Or.inr ⟨rfl, _, pE_5a p294, up294⟩⟩
theorem f_readFact {G : zG} (hG : G.1 = zProg) (hX : G.2.1 = ztx) {dp : Nat} (IH : cIH G dp) {h : zH} {T : Nat → Int32} {n : Nat} (hs : tSh h) (hp : cP h) (hT : tA h 45 = T) (hN : cn h = n) {x : Int32} {d : Nat} (hx : x.toInt = d) (hd : d ≤ 10) : tCp zTt G (dp + 1) 80 [.ref 44, .int x] h (cR T n 6 d h) := by
  refine tCp_in (by rw [hG]; rfl) ?_
  have g0 := cFr_r hs
  have hpn : (cs h).1 ≤ n := by rw [← hN]; exact cP_le hp
  have c129 : (12 : Int32).toInt = 12 := rfl
  have c4009 : (400 : Int32).toInt = 400 := rfl
  have c109 : (10 : Int32).toInt = 10 := rfl
  refine tw_aload rfl rfl ?_
  refine tw_virt0 rfl (f_wordHere hG hX (g0).1 hp ((cFr_T g0).trans hT) ((cFr_n g0).trans hN)) (fun wp299 hp299 p299 => ?_)
  obtain ⟨gp299, ppp299, ssp299, eep299, ip299, rfl, kwp299⟩ := p299
  have ggp299 := cFr_t g0 gp299
  refine tw_push rfl ?_
  refine tw_ic_ne rfl (fun q300 => ?_) (fun q300 => ?_)
  · try dsimp only [tvI_i, tvJ_j, tvR_r] at q300
    have q300i := zneq (Y := 19) (by decide) q300
    refine tw_push rfl ?_
    refine tw_istore rfl ?_
    refine tw_aload rfl rfl ?_
    refine tw_virt0 rfl (f_signHere hG hX (ggp299).1 ppp299 ((cFr_T ggp299).trans hT) ((cFr_n ggp299).trans hN)) (fun wp301 hp301 p301 => ?_)
    obtain ⟨gp301, ppp301, ssp301, t3p301, cp301, rfl, kp301⟩ := p301
    have ggp301 := cFr_t ggp299 gp301
    refine tw_push rfl ?_
    refine tw_ic_ne rfl (fun q302 => ?_) (fun q302 => ?_)
    · try dsimp only [tvI_i, tvJ_j, tvR_r] at q302
      have q302i := zneq (Y := 91) (by decide) q302
      refine tw_push rfl ?_
      refine tw_istore rfl ?_
      refine tw_iload rfl rfl ?_
      refine tw_if_ne rfl (fun z => absurd z (by decide)) (fun _ => ?_)
      refine tw_iload rfl rfl ?_
      refine tw_if_ne rfl (fun z => absurd z (by decide)) (fun _ => ?_)
      refine tw_aload rfl rfl ?_
      refine tw_iload rfl rfl ?_
      refine tw_virt1p rfl (IH 5 81 (by decide) _ _ _ d _ (ggp301).1 ppp301 ((cFr_T ggp301).trans hT) ((cFr_n ggp301).trans hN) hx hd) (fun w9 hp303 p303 => ?_)
      obtain ⟨gp303, ⟨rfl, p303, ppp303⟩ | ⟨rfl, xp303, p303, up303⟩⟩ := p303
      · have ggp303 := cFr_t ggp301 gp303
        have hK := (sgn_k kp301 91 (by decide))
        rw [ssp299, show (rA (rB T n (cs h).1) (cs h)).1 = (rB T n (cs h).1) from rfl, rB_2] at hK
        have hss : cs hp301 = rA (rB T n (cs h).1) (cs h) := by rw [ssp301, ssp299]; show rA (rB T n (rB T n (cs h).1)) _ = _; rw [rB_2]; rfl
        have ho := p303
        rw [hss] at ho
        exact tw_iret rfl ⟨ggp303, Or.inl ⟨rfl, (pE_6h (fun z => q300 ((wrd_k (k := 19) kwp299 (by decide) (K := 19) rfl).mpr z)) (fun z => q302 (hK.mpr z)) ho), ppp303⟩⟩
      · have ggp303 := cFr_t ggp301 gp303
        have hK := (sgn_k kp301 91 (by decide))
        rw [ssp299, show (rA (rB T n (cs h).1) (cs h)).1 = (rB T n (cs h).1) from rfl, rB_2] at hK
        have hss : cs hp301 = rA (rB T n (cs h).1) (cs h) := by rw [ssp301, ssp299]; show rA (rB T n (rB T n (cs h).1)) _ = _; rw [rB_2]; rfl
        have ho := p303
        rw [hss] at ho
        exact tw_iret rfl ⟨ggp303, Or.inr ⟨rfl, _, (pE_6h (fun z => q300 ((wrd_k (k := 19) kwp299 (by decide) (K := 19) rfl).mpr z)) (fun z => q302 (hK.mpr z)) ho), up303⟩⟩
    · try dsimp only [tvI_i, tvJ_j, tvR_r] at q302
      have q302i := zeqi (Y := 91) (by decide) q302
      refine tw_push rfl ?_
      refine tw_goto rfl ?_
      refine tw_istore rfl ?_
      refine tw_iload rfl rfl ?_
      refine tw_if_ne rfl (fun z => absurd z (by decide)) (fun _ => ?_)
      refine tw_iload rfl rfl ?_
      refine tw_if_ne rfl (fun _ => ?_) (fun z => absurd z (by decide))
      refine tw_iload rfl rfl ?_
      refine tw_push rfl ?_
      refine tw_ic_ne rfl (fun q304 => ?_) (fun q304 => ?_)
      · try dsimp only [tvI_i, tvJ_j, tvR_r] at q304
        have q304i := zneq (Y := 10) (by decide) q304
        refine tw_iload rfl rfl ?_
        refine tw_if_eq rfl (fun z => absurd z (by decide)) (fun _ => ?_)
        refine tw_aload rfl rfl ?_
        refine tw_dup rfl ?_
        refine tw_getS rfl (hi_44_2 ggp301.1) ?_
        refine tw_push rfl ?_
        refine tw_iadd rfl ?_
        refine tw_put rfl (fun f305 => ?_)
        refine tG_set f305 (hw_44_2 f305 (ggp301).1) (fun hf305 ef305 => ?_)
        try dsimp only [tvI_i] at ef305
        have gf305 := cFr_s ggp301 ef305 (by decide)
        have hw9 : (rB T n (cs h).1) < n ∧ T (rB T n (cs h).1) = 91 := by have z := (sgn_k kp301 91 (by decide)).mp q302; rw [ssp299] at z; rw [show (rA (rB T n (cs h).1) (cs h)).1 = (rB T n (cs h).1) from rfl, rB_2] at z; exact z
        have hlf305 : (cs hp301).1 < n := by rw [ssp301, ssp299]; show rB T n (rB T n (cs h).1) < n; rw [rB_2]; exact hw9.1
        obtain ⟨pf305, sf305⟩ := cInc ppp301 hlf305 ((cFr_n ggp301).trans hN) ef305
        rw [ssp301, ssp299] at sf305
        have sf305 : cs hf305 = rA ((rB T n (cs h).1) + 1) (cs h) := by rw [sf305]; show rA (rB T n (rB T n (cs h).1) + 1) _ = _; rw [rB_2]; rfl
        refine tw_aload rfl rfl ?_
        refine tw_iload rfl rfl ?_
        refine tw_push rfl ?_
        refine tw_iadd rfl ?_
        refine tw_virt1p rfl (IH 9 78 (by decide) _ _ _ (d + 1) _ (gf305).1 pf305 ((cFr_T gf305).trans hT) ((cFr_n gf305).trans hN) (zd1 hx hd) (by omega)) (fun w9 hp306 p306 => ?_)
        obtain ⟨gp306, ⟨rfl, p306, ppp306⟩ | ⟨rfl, xp306, p306, up306⟩⟩ := p306
        · have ggp306 := cFr_t gf305 gp306
          refine tw_if_eq rfl (fun z => absurd z (by decide)) (fun _ => ?_)
          refine tw_aload rfl rfl ?_
          refine tw_push rfl ?_
          refine tw_virt1 rfl (f_takeSign hG hX (ggp306).1 ppp306 ((cFr_T ggp306).trans hT) ((cFr_n ggp306).trans hN) (y := 93) (by decide)) (fun w9 hp307 p307 => ?_)
          obtain ⟨gp307, ⟨rfl, p307, ppp307⟩ | ⟨rfl, xp307, p307, up307⟩⟩ := p307
          · have ggp307 := cFr_t ggp306 gp307
            refine tw_if_eq rfl (fun z => absurd z (by decide)) (fun _ => ?_)
            refine tw_push rfl ?_
            refine tw_goto rfl ?_
            have hd10 : d ≠ 10 := fun z => q304 (Int32.toInt_inj.mp (by rw [hx, z]; rfl))
            have ho := p306
            rw [sf305] at ho
            exact tw_iret rfl ⟨ggp307, Or.inl ⟨rfl, pE_6g hw9 hd10 ho p307, ppp307⟩⟩
          · have ggp307 := cFr_t ggp306 gp307
            refine tw_if_eq rfl (fun _ => ?_) (fun z => absurd z (by decide))
            refine tw_push rfl ?_
            have hd10 : d ≠ 10 := fun z => q304 (Int32.toInt_inj.mp (by rw [hx, z]; rfl))
            have ho := p306
            rw [sf305] at ho
            exact tw_iret rfl ⟨ggp307, Or.inr ⟨rfl, _, pE_6g hw9 hd10 ho p307, up307⟩⟩
        · have ggp306 := cFr_t gf305 gp306
          refine tw_if_eq rfl (fun _ => ?_) (fun z => absurd z (by decide))
          refine tw_push rfl ?_
          have hd10 : d ≠ 10 := fun z => q304 (Int32.toInt_inj.mp (by rw [hx, z]; rfl))
          have ho := p306
          rw [sf305] at ho
          exact tw_iret rfl ⟨ggp306, Or.inr ⟨rfl, _, pE_6e hw9 hd10 ho, up306⟩⟩
      · try dsimp only [tvI_i, tvJ_j, tvR_r] at q304
        have q304i := zeqi (Y := 10) (by decide) q304
        refine tw_aload rfl rfl ?_
        refine tw_aload rfl rfl ?_
        refine tw_getS rfl (hi_44_2 ggp301.1) ?_
        refine tw_push rfl ?_
        refine tw_virt2 rfl (f_refuse hG hX (ggp301).1 ppp301 ((cFr_T ggp301).trans hT) ((cFr_n ggp301).trans hN)) (fun wp308 hp308 p308 => ?_)
        obtain ⟨gp308, rfl, up308⟩ := p308
        have ggp308 := cFr_t ggp301 gp308
        have hd10 : d = 10 := by have z : x.toInt = 10 := congrArg Int32.toInt q304; omega
        have hss : cs hp301 = rA (rB T n (cs h).1) (cs h) := by rw [ssp301, ssp299]; show rA (rB T n (rB T n (cs h).1)) _ = _; rw [rB_2]; rfl
        have hft := cFt_of ppp301 up308 (w := 2) rfl (by decide)
        rw [hss] at hft
        have hK := (sgn_k kp301 91 (by decide))
        rw [ssp299, show (rA (rB T n (cs h).1) (cs h)).1 = (rB T n (cs h).1) from rfl, rB_2] at hK
        exact tw_iret rfl ⟨ggp308, Or.inr ⟨rfl, _, pE_6d (hK.mp q302) hd10, hft⟩⟩
  · try dsimp only [tvI_i, tvJ_j, tvR_r] at q300
    have q300i := zeqi (Y := 19) (by decide) q300
    refine tw_push rfl ?_
    refine tw_goto rfl ?_
    refine tw_istore rfl ?_
    refine tw_aload rfl rfl ?_
    refine tw_virt0 rfl (f_signHere hG hX (ggp299).1 ppp299 ((cFr_T ggp299).trans hT) ((cFr_n ggp299).trans hN)) (fun wp309 hp309 p309 => ?_)
    obtain ⟨gp309, ppp309, ssp309, t3p309, cp309, rfl, kp309⟩ := p309
    have ggp309 := cFr_t ggp299 gp309
    refine tw_push rfl ?_
    refine tw_ic_ne rfl (fun q310 => ?_) (fun q310 => ?_)
    · try dsimp only [tvI_i, tvJ_j, tvR_r] at q310
      have q310i := zneq (Y := 91) (by decide) q310
      refine tw_push rfl ?_
      refine tw_istore rfl ?_
      refine tw_iload rfl rfl ?_
      refine tw_if_ne rfl (fun _ => ?_) (fun z => absurd z (by decide))
      refine tw_iload rfl rfl ?_
      refine tw_push rfl ?_
      refine tw_ic_ne rfl (fun q311 => ?_) (fun q311 => ?_)
      · try dsimp only [tvI_i, tvJ_j, tvR_r] at q311
        have q311i := zneq (Y := 10) (by decide) q311
        refine tw_iload rfl rfl ?_
        refine tw_if_eq rfl (fun _ => ?_) (fun z => absurd z (by decide))
        refine tw_aload rfl rfl ?_
        refine tw_aload rfl rfl ?_
        refine tw_getS rfl (hi_44_3 ggp309.1) ?_
        refine tw_put rfl (fun f312 => ?_)
        refine tG_set f312 (hw_44_2 f312 (ggp309).1) (fun hf312 ef312 => ?_)
        try dsimp only [tvI_i] at ef312
        have gf312 := cFr_s ggp309 ef312 (by decide)
        have hw9 := (wrd_k (k := 19) kwp299 (by decide) (K := 19) rfl).mp q300
        have h9w : rE T n (rB T n (cs h).1) = (rB T n (cs h).1) + 3 := by rw [rW_e hw9, wlen_k.2.2.1]
        have hr9 := rE_le (T := T) (rB_le (T := T) hpn)
        rw [h9w] at hr9 eep299
        obtain ⟨pf312, sf312⟩ := cTo ppp309 ((cFr_n ggp309).trans hN) ef312 (by rw [t3p309]; exact eep299) (by rw [ssp309, ssp299]; show rB T n (rB T n (cs h).1) ≤ _; rw [rB_2]; exact Nat.le_add_right _ _) hr9
        rw [ssp309, ssp299] at sf312
        have sf312 : cs hf312 = rA ((rB T n (cs h).1) + 3) (cs h) := sf312
        refine tw_aload rfl rfl ?_
        refine tw_iload rfl rfl ?_
        refine tw_push rfl ?_
        refine tw_iadd rfl ?_
        refine tw_virt1p rfl (IH 6 80 (by decide) _ _ _ (d + 1) _ (gf312).1 pf312 ((cFr_T gf312).trans hT) ((cFr_n gf312).trans hN) (zd1 hx hd) (by omega)) (fun w9 hp313 p313 => ?_)
        obtain ⟨gp313, ⟨rfl, p313, ppp313⟩ | ⟨rfl, xp313, p313, up313⟩⟩ := p313
        · have ggp313 := cFr_t gf312 gp313
          refine tw_if_ne rfl (fun _ => ?_) (fun z => absurd z (by decide))
          refine tw_aload rfl rfl ?_
          refine tw_push rfl ?_
          refine tw_virt1 rfl (f_putCode hG hX (ggp313).1 ppp313 ((cFr_T ggp313).trans hT) ((cFr_n ggp313).trans hN) (cHc ppp313 (by have z := cPe pf312 ((cFr_n gf312).trans hN) p313; have z2 := cP_len hp; have z3 := rB_ge (T := T) (n := n) (p := (cs h).1); obtain ⟨z4, z5, z6⟩ := z; rw [sf312] at z4 z6; have z4 : (rB T n (cs h).1) + 3 ≤ (cs hp313).1 := z4; have z6 : (rB T n (cs h).1) + 3 + (cs hp313).2.2.length ≤ (cs hp313).1 + (cs h).2.2.length := z6; omega))) (fun wp314 hp314 p314 => ?_)
          obtain ⟨gp314, rfl, ssp314, ppp314⟩ := p314
          have ggp314 := cFr_t ggp313 gp314
          refine tw_push rfl ?_
          have hd10 : d ≠ 10 := fun z => q311 (Int32.toInt_inj.mp (by rw [hx, z]; rfl))
          have ho := p313
          rw [sf312] at ho
          refine tw_iret rfl ⟨ggp314, Or.inl ⟨rfl, ?_, ppp314⟩⟩
          rw [ssp314]
          exact pE_6c hw9 hd10 ho
        · have ggp313 := cFr_t gf312 gp313
          refine tw_if_ne rfl (fun z => absurd z (by decide)) (fun _ => ?_)
          refine tw_push rfl ?_
          have hd10 : d ≠ 10 := fun z => q311 (Int32.toInt_inj.mp (by rw [hx, z]; rfl))
          have ho := p313
          rw [sf312] at ho
          exact tw_iret rfl ⟨ggp313, Or.inr ⟨rfl, _, pE_6b hw9 hd10 ho, up313⟩⟩
      · try dsimp only [tvI_i, tvJ_j, tvR_r] at q311
        have q311i := zeqi (Y := 10) (by decide) q311
        refine tw_aload rfl rfl ?_
        refine tw_aload rfl rfl ?_
        refine tw_getS rfl (hi_44_2 ggp309.1) ?_
        refine tw_push rfl ?_
        refine tw_virt2 rfl (f_refuse hG hX (ggp309).1 ppp309 ((cFr_T ggp309).trans hT) ((cFr_n ggp309).trans hN)) (fun wp315 hp315 p315 => ?_)
        obtain ⟨gp315, rfl, up315⟩ := p315
        have ggp315 := cFr_t ggp309 gp315
        have hd10 : d = 10 := by have z : x.toInt = 10 := congrArg Int32.toInt q311; omega
        have hss : cs hp309 = rA (rB T n (cs h).1) (cs h) := by rw [ssp309, ssp299]; show rA (rB T n (rB T n (cs h).1)) _ = _; rw [rB_2]; rfl
        have hft := cFt_of ppp309 up315 (w := 2) rfl (by decide)
        rw [hss] at hft
        have hw9 := (wrd_k (k := 19) kwp299 (by decide) (K := 19) rfl).mp q300
        exact tw_iret rfl ⟨ggp315, Or.inr ⟨rfl, _, pE_6a hw9 hd10, hft⟩⟩
    · try dsimp only [tvI_i, tvJ_j, tvR_r] at q310
      have q310i := zeqi (Y := 91) (by decide) q310
      have hw9 := (wrd_k (k := 19) kwp299 (by decide) (K := 19) rfl).mp q300
      have z := (sgn_k kp309 91 (by decide)).mp q310
      rw [ssp299, show (rA (rB T n (cs h).1) (cs h)).1 = (rB T n (cs h).1) from rfl, rB_2] at z
      exact absurd hw9 (no_91 z (by decide))
theorem f_rec {G : zG} (hG : G.1 = zProg) (hX : G.2.1 = ztx) : ∀ dp, cIH G dp
  | 0 => fun m j hm h T n d x hs hp hT hN hx hd z => z.elim
  | dp + 1 => by
    have IH := f_rec hG hX dp
    intro m j hm h T n d x hs hp hT hN hx hd
    have hm : (m, j) = (0, 85) ∨ (m, j) = (1, 84) ∨ (m, j) = (3, 83) ∨ (m, j) = (5, 81) ∨ (m, j) = (6, 80) ∨ (m, j) = (7, 79) ∨ (m, j) = (9, 78) := by
      unfold cML at hm
      simpa using hm
    rcases hm with e | e | e | e | e | e | e <;> cases e
    · exact f_readValue hG hX IH hs hp hT hN hx hd
    · exact f_readTerm hG hX IH hs hp hT hN hx hd
    · exact f_readSum hG hX IH hs hp hT hN hx hd
    · exact f_readComparison hG hX IH hs hp hT hN hx hd
    · exact f_readFact hG hX IH hs hp hT hN hx hd
    · exact f_readPart hG hX IH hs hp hT hN hx hd
    · exact f_readTest hG hX IH hs hp hT hN hx hd
theorem tC_rec {G : zG} (hG : G.1 = zProg) (hX : G.2.1 = ztx) {m j : Nat} (hm : (m, j) ∈ cML) {h : zH} {T : Nat → Int32} {n d : Nat} {x : Int32} (hs : tSh h) (hp : cP h) (hT : tA h 45 = T) (hN : cn h = n) (hx : x.toInt = d) (hd : d ≤ 10) : tC zTt G j [.ref 44, .int x] h (cR T n m d h) := fun dp => f_rec hG hX dp m j hm h T n d x hs hp hT hN hx hd
/-! clauses, and a whole rule -/
noncomputable abbrev rCt : Type := Nat × Nat × Nat × Nat
noncomputable def rCl3 (T : Nat → Int32) (n k th f0 : Nat) (s2 : rS) (r : Nat ⊕ (rS × rCt)) : Prop :=
  (rW T n (rB T n s2.1) (rWd 16) = true ∧ ((∃ e, pE T n 9 0 (rA (rB T n s2.1 + 2) s2) (.inl e) ∧ r = .inl e) ∨ ∃ s3, pE T n 9 0 (rA (rB T n s2.1 + 2) s2) (.inr s3) ∧ r = .inr (s3, th, f0, s2.2.2.length, s3.2.2.length)))
  ∨ (¬ rW T n (rB T n s2.1) (rWd 16) = true ∧ k = 15 ∧ r = .inl (1 + 8 * rB T n s2.1 + 0))
  ∨ (¬ rW T n (rB T n s2.1) (rWd 16) = true ∧ k ≠ 15 ∧ r = .inr (rA (rB T n s2.1) s2, th, f0, s2.2.2.length, s2.2.2.length))
noncomputable def rCl2 (T : Nat → Int32) (n k th : Nat) (s1 : rS) (r : Nat ⊕ (rS × rCt)) : Prop :=
  (k = 15 ∧ rCl3 T n k th s1.2.2.length s1 r) ∨ (k ≠ 15 ∧ ((∃ e, pE T n 3 0 s1 (.inl e) ∧ r = .inl e) ∨ ∃ s2, pE T n 3 0 s1 (.inr s2) ∧ rCl3 T n k th s1.2.2.length s2 r))
noncomputable def rCl1 (T : Nat → Int32) (n k : Nat) (s0 : rS) (r : Nat ⊕ (rS × rCt)) : Prop :=
  (k = 12 ∧ ((∃ e, rM T n 2 s0.1 = .inl e ∧ r = .inl e) ∨ ∃ q, rM T n 2 s0.1 = .inr q ∧ rCl2 T n k q.2 (rA q.1 s0) r)) ∨ (k ≠ 12 ∧ rCl2 T n k k s0 r)
noncomputable def rCl (T : Nat → Int32) (n c : Nat) (s : rS) (r : Nat ⊕ (rS × rCt)) : Prop :=
  ((∀ k, 12 ≤ k → k ≤ 15 → ¬ rW T n (rB T n s.1) (rWd k) = true) ∧ r = .inl (1 + 8 * rB T n s.1 + 0))
  ∨ (∃ k, 12 ≤ k ∧ k ≤ 15 ∧ rW T n (rB T n s.1) (rWd k) = true ∧ ((c = 12 ∧ r = .inl (1 + 8 * rB T n s.1 + 4)) ∨ (c ≠ 12 ∧ rCl1 T n k (rA (rE T n (rB T n s.1)) s) r)))
noncomputable def rRu (T : Nat → Int32) (n : Nat) : Nat → rS → List rCt → Nat ⊕ (rS × List rCt) → Prop
  | 0, _, _, _ => False
  | f + 1, s, cl, r => (∃ e, rCl T n cl.length s (.inl e) ∧ r = .inl e) ∨ ∃ s1 c, rCl T n cl.length s (.inr (s1, c)) ∧ ((¬ rB T n s1.1 < n ∧ r = .inr (rA (rB T n s1.1) s1, cl ++ [c])) ∨ ((rB T n s1.1 < n ∧ T (rB T n s1.1) = 59) ∧ rRu T n f (rA (rB T n s1.1 + 1) s1) (cl ++ [c]) r) ∨ ((rB T n s1.1 < n ∧ ¬ T (rB T n s1.1) = 59) ∧ r = .inl (1 + 8 * rB T n s1.1 + 0)))
noncomputable def cCl (h : zH) : List rCt := (List.range (tvI (tF h 44 7)).toNatClampNeg).map (fun i => ((tA h 47 (4 * i)).toNatClampNeg, (tA h 47 (4 * i + 1)).toNatClampNeg, (tA h 47 (4 * i + 2)).toNatClampNeg, (tA h 47 (4 * i + 3)).toNatClampNeg))
noncomputable def cFq (h h2 : zH) : Prop := tSh h2 ∧ (∀ p b, ¬ (p = 44 ∧ (b = 2 ∨ b = 3 ∨ b = 5 ∨ b = 7 ∨ b = 8 ∨ b = 9)) → tF h2 p b = tF h p b) ∧ (∀ p, p ≠ 46 → p ≠ 47 → tA h2 p = tA h p) ∧ tN h2 = tN h
noncomputable def cQ (h : zH) : Prop := 0 ≤ (tvI (tF h 44 7)).toInt ∧ (tvI (tF h 44 7)).toInt ≤ 12 ∧ tN h 47 = 48
section RQ
variable {h h1 h2 : zH}
theorem cFq_f (k : cFr h h2) : cFq h h2 := ⟨k.1, fun p b z => k.2.1 p b (fun w => z ⟨w.1, by omega⟩), fun p z _ => k.2.2.1 p z, k.2.2.2⟩
theorem cFq_t (a : cFq h h1) (k : cFq h1 h2) : cFq h h2 := ⟨k.1, fun p q z => (k.2.1 p q z).trans (a.2.1 p q z), fun p z w => (k.2.2.1 p z w).trans (a.2.2.1 p z w), k.2.2.2.trans a.2.2.2⟩
theorem cFr_7 (k : cFr h h2) : tF h2 44 7 = tF h 44 7 := k.2.1 44 7 (by decide)
theorem cCl_f (k : cFr h h2) : cCl h2 = cCl h := by
  unfold cCl
  rw [cFr_7 k, k.2.2.1 47 (by decide)]
theorem cQ_f (k : cFr h h2) (q : cQ h) : cQ h2 := by
  unfold cQ
  rw [cFr_7 k, k.2.2.2]
  exact q
theorem cCl_len : (cCl h).length = (tvI (tF h 44 7)).toNatClampNeg := by unfold cCl; rw [List.length_map, List.length_range]
theorem cFq_T (a : cFq h h1) : tA h1 45 = tA h 45 := a.2.2.1 45 (by decide) (by decide)
theorem cFq_n (a : cFq h h1) : cn h1 = cn h := by
  unfold cn
  rw [a.2.1 44 1 (by decide)]
/-- a clause is kept -/
theorem cKp_of {a b c : Int32} {k1 k2 k3 k4 : Nat} (hs : tSh h) (q : cQ h) (h12 : (tvI (tF h 44 7)).toInt < 12) {i0 i1 i2 i3 : Int32} (e0 : i0.toInt = 4 * (tvI (tF h 44 7)).toInt) (e1 : i1.toInt = 4 * (tvI (tF h 44 7)).toInt + 1) (e2 : i2.toInt = 4 * (tvI (tF h 44 7)).toInt + 2) (e3 : i3.toInt = 4 * (tvI (tF h 44 7)).toInt + 3)
  {g1 g2 g3 g4 : zH} (d1 : g1 = tSA h 47 i0.toNatClampNeg a) (f1 : tIn h 47 k1 i0) (d2 : g2 = tSA g1 47 i1.toNatClampNeg b) (f2 : tIn g1 47 k2 i1) (d3 : g3 = tSA g2 47 i2.toNatClampNeg c) (f3 : tIn g2 47 k3 i2) {x5 : Int32} (h5 : x5 = tvI (tF h 44 5)) (d4 : g4 = tSA g3 47 i3.toNatClampNeg x5) (f4 : tIn g3 47 k4 i3) {x7 : Int32} (h7 : x7 = tvI (tF h 44 7) + 1) (f5 : tFd g4 44 7) :
  cFq h (tSF g4 44 7 (.int x7)) ∧ cCl (tSF g4 44 7 (.int x7)) = cCl h ++ [(a.toNatClampNeg, b.toNatClampNeg, c.toNatClampNeg, (tvI (tF h 44 5)).toNatClampNeg)] ∧ cQ (tSF g4 44 7 (.int x7)) ∧ cs (tSF g4 44 7 (.int x7)) = cs h ∧ (∀ b, b ≠ 7 → tF (tSF g4 44 7 (.int x7)) 44 b = tF h 44 b) ∧ tA (tSF g4 44 7 (.int x7)) 45 = tA h 45 := by
  subst h5 h7
  have F4 : tF g4 = tF h := by rw [d4, tF_tSA, d3, tF_tSA, d2, tF_tSA, d1, tF_tSA]
  have N4 : tN g4 = tN h := by rw [d4, tN_tSA, d3, tN_tSA, d2, tN_tSA, d1, tN_tSA]
  have A4 : ∀ p, p ≠ 47 → tA g4 p = tA h p := fun p hp => by rw [d4, tA_nz hp, d3, tA_nz hp, d2, tA_nz hp, d1, tA_nz hp]
  have hs4 := tSh_F F4 hs
  have e := cSet_of f5 (hw_44_7 (x := tvI (tF h 44 7) + 1) f5 hs4)
  have n0 : i0.toNatClampNeg = 4 * (tvI (tF h 44 7)).toNatClampNeg := by rw [zclE, zclE]; have := q.1; omega
  have n1 : i1.toNatClampNeg = 4 * (tvI (tF h 44 7)).toNatClampNeg + 1 := by rw [zclE, zclE]; have := q.1; omega
  have n2 : i2.toNatClampNeg = 4 * (tvI (tF h 44 7)).toNatClampNeg + 2 := by rw [zclE, zclE]; have := q.1; omega
  have n3 : i3.toNatClampNeg = 4 * (tvI (tF h 44 7)).toNatClampNeg + 3 := by rw [zclE, zclE]; have := q.1; omega
  have A47 : ∀ i, tA g4 47 i = if i = i3.toNatClampNeg then tvI (tF h 44 5) else if i = i2.toNatClampNeg then c else if i = i1.toNatClampNeg then b else if i = i0.toNatClampNeg then a else tA h 47 i := by
    intro i
    rw [d4, tA_tSA f4.cell, d3, tA_tSA f3.cell, d2, tA_tSA f2.cell, d1, tA_tSA f1.cell]
    simp only [true_and]
  generalize tSF g4 44 7 (.int (tvI (tF h 44 7) + 1)) = h3 at e
  have hF : ∀ b, b ≠ 7 → tF h3 44 b = tF h 44 b := fun b hb => (e.2.2.1 44 b (fun z => hb z.2)).trans (by rw [F4])
  have i7 : (tvI (tF h 44 7) + 1).toInt = (tvI (tF h 44 7)).toInt + 1 := zj1 (y := 12) q.1 h12
  have i7n : (tvI (tF h 44 7) + 1).toNatClampNeg = (tvI (tF h 44 7)).toNatClampNeg + 1 := zj1n (y := 12) q.1 h12
  refine ⟨⟨e.1, fun p b z => (e.2.2.1 p b (fun w => z ⟨w.1, by omega⟩)).trans (by rw [F4]), fun p _ z => (congrFun e.2.2.2.1 p).trans (A4 p z), e.2.2.2.2.trans N4⟩, ?_, ⟨?_, ?_, ?_⟩, ?_, hF, (congrFun e.2.2.2.1 45).trans (A4 45 (by decide))⟩
  · unfold cCl
    rw [cI_x e, i7n, List.range_succ, List.map_append, e.2.2.2.1]
    refine congr (congrArg HAppend.hAppend (List.map_congr_left (fun i hi => ?_))) ?_
    · have hi := List.mem_range.mp hi
      rw [A47, A47, A47, A47, n0, n1, n2, n3]
      rw [if_neg (by omega), if_neg (by omega), if_neg (by omega), if_neg (by omega), if_neg (by omega), if_neg (by omega), if_neg (by omega), if_neg (by omega), if_neg (by omega), if_neg (by omega), if_neg (by omega), if_neg (by omega), if_neg (by omega), if_neg (by omega), if_neg (by omega), if_neg (by omega)]
    · show [((tA g4 47 (4 * (tvI (tF h 44 7)).toNatClampNeg)).toNatClampNeg, (tA g4 47 (4 * (tvI (tF h 44 7)).toNatClampNeg + 1)).toNatClampNeg, (tA g4 47 (4 * (tvI (tF h 44 7)).toNatClampNeg + 2)).toNatClampNeg, (tA g4 47 (4 * (tvI (tF h 44 7)).toNatClampNeg + 3)).toNatClampNeg)] = _
      rw [A47, A47, A47, A47, n0, n1, n2, n3]
      rw [if_neg (by omega), if_neg (by omega), if_neg (by omega), if_pos rfl, if_neg (by omega), if_neg (by omega), if_pos rfl, if_neg (by omega), if_pos rfl, if_pos rfl]
  · rw [cI_x e, i7]; have := q.1; omega
  · rw [cI_x e, i7]; omega
  · rw [e.2.2.2.2, N4]; exact q.2.2
  · unfold cs cCo
    rw [hF 2 (by decide), hF 8 (by decide), hF 5 (by decide), e.2.2.2.1, A4 46 (by decide)]
theorem cP_q (p : cP h) (hF : ∀ b, b ≠ 7 → tF h2 44 b = tF h 44 b) (hT : tA h2 45 = tA h 45) (hN : tN h2 = tN h) : cP h2 := by
  unfold cP
  rw [hF 2 (by decide), hF 1 (by decide), hF 8 (by decide), hF 5 (by decide), hF 9 (by decide), hT, hN]
  exact p
theorem zm4 {x : Int32} (h0 : 0 ≤ x.toInt) (h1 : x.toInt ≤ 12) : (x * 4).toInt = 4 * x.toInt := by
  rw [Int32.toInt_mul, show (4 : Int32).toInt = 4 from rfl]
  exact (Int.bmod_eq_of_le (by show (-2147483648 : Int) ≤ x.toInt * 4; omega) (by show x.toInt * 4 < (2147483648 : Int); omega)).trans (by omega)
theorem zm4a {x y : Int32} {Y : Int} (h0 : 0 ≤ x.toInt) (h1 : x.toInt ≤ 12) (hy : y.toInt = Y) (hY : 0 ≤ Y ∧ Y ≤ 10) : (x * 4 + y).toInt = 4 * x.toInt + Y := by
  rw [Int32.toInt_add, zm4 h0 h1, hy]
  exact Int.bmod_eq_of_le (by show (-2147483648 : Int) ≤ 4 * x.toInt + Y; omega) (by show 4 * x.toInt + Y < (2147483648 : Int); omega)
theorem c12 (q : cQ h) : (cCl h).length = 12 ↔ tvI (tF h 44 7) = 12 := by
  rw [cCl_len, zclE]
  have := q.1
  constructor
  · intro z
    refine Int32.toInt_inj.mp ?_
    show _ = (12 : Int)
    omega
  · intro z
    rw [z]; rfl
end RQ
theorem f_keepClause {G : zG} (hG : G.1 = zProg) (hX : G.2.1 = ztx) {h : zH} {T : Nat → Int32} {n : Nat} (hs : tSh h) (hp : cP h) (hT : tA h 45 = T) (hN : cn h = n) {a b c : Int32} (hq : cQ h) (h12 : (tvI (tF h 44 7)).toInt < 12) : tC zTt G 77 [.ref 44, .int a, .int b, .int c] h (fun w h2 => w = none ∧ cFq h h2 ∧ cCl h2 = cCl h ++ [(a.toNatClampNeg, b.toNatClampNeg, c.toNatClampNeg, (tvI (tF h 44 5)).toNatClampNeg)] ∧ cQ h2 ∧ cs h2 = cs h ∧ cP h2) := by
  refine tC_in (by rw [hG]; rfl) (fun dp => ?_)
  have g0 := cFr_r hs
  have hpn : (cs h).1 ≤ n := by rw [← hN]; exact cP_le hp
  refine tw_aload rfl rfl ?_
  refine tw_getS rfl (hi_44_7 hs) ?_
  refine tw_push rfl ?_
  refine tw_imul rfl ?_
  refine tw_istore rfl ?_
  refine tw_iload rfl rfl ?_
  refine tw_push rfl ?_
  refine tw_iadd rfl ?_
  refine tw_aload rfl rfl ?_
  refine tw_getS rfl (hs_44_6 hs) ?_
  refine tw_alen rfl ?_
  refine tw_ic_le rfl (fun q316 => ?_) (fun q316 => ?_)
  · try dsimp only [tvI_i, tvJ_j, tvR_r] at q316
    refine tw_aload rfl rfl ?_
    refine tw_getS rfl (hs_44_6 hs) ?_
    refine tw_iload rfl rfl ?_
    refine tw_iload rfl rfl ?_
    refine tw_iast rfl (fun f317 => ?_)
    refine tw_aload rfl rfl ?_
    refine tw_getS rfl (hs_44_6 (tSh_SA hs)) ?_
    refine tw_iload rfl rfl ?_
    refine tw_push rfl ?_
    refine tw_iadd rfl ?_
    refine tw_iload rfl rfl ?_
    refine tw_iast rfl (fun f318 => ?_)
    refine tw_aload rfl rfl ?_
    refine tw_getS rfl (hs_44_6 (tSh_SA (tSh_SA hs))) ?_
    refine tw_iload rfl rfl ?_
    refine tw_push rfl ?_
    refine tw_iadd rfl ?_
    refine tw_iload rfl rfl ?_
    refine tw_iast rfl (fun f319 => ?_)
    refine tw_aload rfl rfl ?_
    refine tw_getS rfl (hs_44_6 (tSh_SA (tSh_SA (tSh_SA hs)))) ?_
    refine tw_iload rfl rfl ?_
    refine tw_push rfl ?_
    refine tw_iadd rfl ?_
    refine tw_aload rfl rfl ?_
    refine tw_getS rfl (tF_a (tF_a (tF_a (hi_44_5 hs)))) ?_
    refine tw_iast rfl (fun f320 => ?_)
    refine tw_aload rfl rfl ?_
    refine tw_dup rfl ?_
    refine tw_getS rfl (tF_a (tF_a (tF_a (tF_a (hi_44_7 hs))))) ?_
    refine tw_push rfl ?_
    refine tw_iadd rfl ?_
    refine tw_put rfl (fun f321 => ?_)
    refine tw_vret rfl ?_
    refine (fun K => ⟨rfl, K.1, K.2.1, K.2.2.1, K.2.2.2.1, cP_q hp K.2.2.2.2.1 K.2.2.2.2.2 K.1.2.2.2⟩ : _ → _) (cKp_of hs hq h12 (zm4 hq.1 hq.2.1) (zm4a hq.1 hq.2.1 rfl (by decide)) (zm4a hq.1 hq.2.1 rfl (by decide)) (zm4a hq.1 hq.2.1 rfl (by decide)) rfl f317 rfl f318 rfl f319 rfl rfl f320 rfl f321)
  · try dsimp only [tvI_i, tvJ_j, tvR_r] at q316
    have e9 : (Int32.ofNat (tN h 47)).toInt = 48 := by rw [hq.2.2]; rfl
    have e8 := zm4a (y := 4) (Y := 4) hq.1 hq.2.1 rfl (by decide)
    have z := q316
    exfalso
    have e7 : (tvI (tF h 44 7) * 4 + 4).toInt ≤ 48 := by omega
    first | omega | exact absurd z (by omega) | (rw [e9] at z; omega)
theorem f_readClause {G : zG} (hG : G.1 = zProg) (hX : G.2.1 = ztx) {h : zH} {T : Nat → Int32} {n : Nat} (hs : tSh h) (hp : cP h) (hT : tA h 45 = T) (hN : cn h = n) (hq : cQ h) : tC zTt G 76 [.ref 44] h (fun w h2 => cFq h h2 ∧ cQ h2 ∧ ((w = some (.int 1) ∧ ∃ c, rCl T n (cCl h).length (cs h) (.inr (cs h2, c)) ∧ cCl h2 = cCl h ++ [c] ∧ cP h2) ∨ (w = some (.int 0) ∧ ∃ e, rCl T n (cCl h).length (cs h) (.inl e) ∧ cFt h2 e))) := by
  refine tC_in (by rw [hG]; rfl) (fun dp => ?_)
  have g0 := cFr_r hs
  have hpn : (cs h).1 ≤ n := by rw [← hN]; exact cP_le hp
  have c129 : (12 : Int32).toInt = 12 := rfl
  have c159 : (15 : Int32).toInt = 15 := rfl
  refine tw_aload rfl rfl ?_
  refine tw_virt0 rfl (f_wordHere hG hX (g0).1 hp ((cFr_T g0).trans hT) ((cFr_n g0).trans hN)) (fun wp322 hp322 p322 => ?_)
  obtain ⟨gp322, ppp322, ssp322, eep322, ip322, rfl, kwp322⟩ := p322
  have ggp322 := cFr_t g0 gp322
  refine tw_istore rfl ?_
  refine tw_iload rfl rfl ?_
  refine tw_push rfl ?_
  refine tw_ic_lt rfl (fun q323 => ?_) (fun q323 => ?_)
  · try dsimp only [tvI_i, tvJ_j, tvR_r] at q323
    refine tw_aload rfl rfl ?_
    refine tw_aload rfl rfl ?_
    refine tw_getS rfl (hi_44_2 ggp322.1) ?_
    refine tw_push rfl ?_
    refine tw_virt2 rfl (f_refuse hG hX (ggp322).1 ppp322 ((cFr_T ggp322).trans hT) ((cFr_n ggp322).trans hN)) (fun wp324 hp324 p324 => ?_)
    obtain ⟨gp324, rfl, up324⟩ := p324
    have ggp324 := cFr_t ggp322 gp324
    have kwb := kwp322.1
    have hft := cFt_of ppp322 up324 (w := 0) rfl (by decide)
    rw [ssp322] at hft
    have z0 := q323
    exact tw_iret rfl ⟨cFq_f ggp324, cQ_f ggp324 hq, Or.inr ⟨rfl, _, Or.inl ⟨fun k h1 h2 z => by have y := (kwp322.2 k (by omega)).mpr z; omega, rfl⟩, hft⟩⟩
  · try dsimp only [tvI_i, tvJ_j, tvR_r] at q323
    refine tw_iload rfl rfl ?_
    refine tw_push rfl ?_
    refine tw_ic_le rfl (fun q325 => ?_) (fun q325 => ?_)
    · try dsimp only [tvI_i, tvJ_j, tvR_r] at q325
      refine tw_aload rfl rfl ?_
      refine tw_getS rfl (hi_44_7 ggp322.1) ?_
      refine tw_push rfl ?_
      refine tw_ic_ne rfl (fun q326 => ?_) (fun q326 => ?_)
      · try dsimp only [tvI_i, tvJ_j, tvR_r] at q326
        have q326i := zneq (Y := 12) (by decide) q326
        refine tw_aload rfl rfl ?_
        refine tw_aload rfl rfl ?_
        refine tw_getS rfl (hi_44_3 ggp322.1) ?_
        refine tw_put rfl (fun f327 => ?_)
        refine tG_set f327 (hw_44_2 f327 (ggp322).1) (fun hf327 ef327 => ?_)
        try dsimp only [tvI_i] at ef327
        have gf327 := cFr_s ggp322 ef327 (by decide)
        have kwb := kwp322.1
        have hk1 : 12 ≤ ip322.toInt := by have z := q323; omega
        have hk2 : ip322.toInt ≤ 15 := by have z := q325; omega
        have hkw : rW T n (rB T n (cs h).1) (rWd ip322.toInt.toNat) = true := (kwp322.2 ip322.toInt.toNat (by omega)).mp (by omega)
        have hc12 : (cCl h).length ≠ 12 := fun z => q326 ((congrArg tvI (cFr_7 ggp322)).trans ((c12 hq).mp z))
        have hlt12 : (tvI (tF h 44 7)).toInt < 12 := by have a := hq.2.1; have b : (tvI (tF h 44 7)).toInt ≠ 12 := fun z => q326 ((congrArg tvI (cFr_7 ggp322)).trans (Int32.toInt_inj.mp z)); omega
        obtain ⟨pf327, sf327⟩ := cTo ppp322 ((cFr_n ggp322).trans hN) ef327 eep322 (by rw [ssp322]; exact rE_ge) (rE_le (rB_le hpn))
        have sf327 : cs hf327 = rA (rE T n (rB T n (cs h).1)) (cs h) := by rw [sf327, ssp322]; rfl
        refine tw_iload rfl rfl ?_
        refine tw_push rfl ?_
        refine tw_ic_ne rfl (fun q328 => ?_) (fun q328 => ?_)
        · try dsimp only [tvI_i, tvJ_j, tvR_r] at q328
          have q328i := zneq (Y := 15) (by decide) q328
          refine tw_push rfl ?_
          refine tw_istore rfl ?_
          refine tw_iload rfl rfl ?_
          refine tw_push rfl ?_
          refine tw_ic_ne rfl (fun q329 => ?_) (fun q329 => ?_)
          · try dsimp only [tvI_i, tvJ_j, tvR_r] at q329
            have q329i := zneq (Y := 12) (by decide) q329
            refine tw_aload rfl rfl ?_
            refine tw_getS rfl (hi_44_5 (gf327).1) ?_
            refine tw_istore rfl ?_
            refine tw_iload rfl rfl ?_
            refine tw_if_ne rfl (fun z => absurd z (by decide)) (fun _ => ?_)
            refine tw_aload rfl rfl ?_
            refine tw_push rfl ?_
            refine tw_virt1 rfl (tC_rec hG hX (m := 3) (d := 0) (by decide) (gf327).1 pf327 ((cFr_T gf327).trans hT) ((cFr_n gf327).trans hN) rfl (by decide)) (fun w9 hp330 p330 => ?_)
            obtain ⟨gp330, ⟨rfl, p330, ppp330⟩ | ⟨rfl, xp330, p330, up330⟩⟩ := p330
            · have ggp330 := cFr_t gf327 gp330
              refine tw_if_ne rfl (fun _ => ?_) (fun z => absurd z (by decide))
              refine tw_aload rfl rfl ?_
              refine tw_getS rfl (hi_44_5 ggp330.1) ?_
              refine tw_istore rfl ?_
              refine tw_aload rfl rfl ?_
              refine tw_virt0 rfl (f_wordHere hG hX (ggp330).1 ppp330 ((cFr_T ggp330).trans hT) ((cFr_n ggp330).trans hN)) (fun wp331 hp331 p331 => ?_)
              obtain ⟨gp331, ppp331, ssp331, eep331, ip331, rfl, kwp331⟩ := p331
              have ggp331 := cFr_t ggp330 gp331
              refine tw_push rfl ?_
              refine tw_ic_ne rfl (fun q332 => ?_) (fun q332 => ?_)
              · try dsimp only [tvI_i, tvJ_j, tvR_r] at q332
                have q332i := zneq (Y := 16) (by decide) q332
                refine tw_iload rfl rfl ?_
                refine tw_if_eq rfl (fun _ => ?_) (fun z => absurd z (by decide))
                refine tw_aload rfl rfl ?_
                refine tw_iload rfl rfl ?_
                refine tw_iload rfl rfl ?_
                refine tw_iload rfl rfl ?_
                refine tw_virt3 rfl (f_keepClause hG hX (ggp331).1 ppp331 ((cFr_T ggp331).trans hT) ((cFr_n ggp331).trans hN) (cQ_f ggp331 hq) (by have := cFr_7 ggp331; rw [this]; exact hlt12)) (fun wp333 hp333 p333 => ?_)
                obtain ⟨rfl, gqp333, clp333, qqp333, ssp333, ppp333⟩ := p333
                refine tw_push rfl ?_
                have hk15 : ip322.toInt.toNat ≠ 15 := by have z := q328i; omega
                have hk12 : ip322.toInt.toNat ≠ 12 := by have z := q329i; omega
                have hx1 := sf327
                have ho := p330
                rw [hx1] at ho
                have hnw : ¬ rW T n (rB T n (cs hp330).1) (rWd 16) = true := fun z => q332 ((wrd_k (k := 16) kwp331 (by decide) (K := 16) rfl).mpr z)
                have hc3 : rCl3 T n ip322.toInt.toNat (ip322.toInt.toNat) (rA (rE T n (rB T n (cs h).1)) (cs h)).2.2.length (cs hp330) (.inr (cs hp331, ip322.toInt.toNat, (rA (rE T n (rB T n (cs h).1)) (cs h)).2.2.length, (cs hp330).2.2.length, (cs hp331).2.2.length)) := Or.inr (Or.inr ⟨hnw, hk15, by rw [ssp331]; rfl⟩)
                have hthv : (ip322).toNatClampNeg = ip322.toInt.toNat := rfl
                have hclk : cCl hp333 = cCl h ++ [(ip322.toInt.toNat, (rA (rE T n (rB T n (cs h).1)) (cs h)).2.2.length, (cs hp330).2.2.length, (cs hp331).2.2.length)] := by
                  rw [clp333, cCl_f ggp331, ← hx1, show (cs hf327).2.2.length = _ from cCo_len, show (cs hp331).2.2.length = _ from cCo_len, show (cs hp330).2.2.length = _ from cCo_len]
                  exact congrArg (fun z => cCl h ++ [(z, _, _, _)]) hthv
                have hcz : rCl T n (cCl h).length (cs h) (.inr (cs hp333, ip322.toInt.toNat, (rA (rE T n (rB T n (cs h).1)) (cs h)).2.2.length, (cs hp330).2.2.length, (cs hp331).2.2.length)) := by rw [ssp333]; exact Or.inr ⟨ip322.toInt.toNat, by omega, by omega, hkw, Or.inr ⟨hc12, Or.inr ⟨hk12, Or.inr ⟨hk15, Or.inr ⟨_, ho, hc3⟩⟩⟩⟩⟩
                exact tw_iret rfl ⟨cFq_t (cFq_f ggp331) gqp333, qqp333, Or.inl ⟨rfl, _, hcz, hclk, ppp333⟩⟩
              · try dsimp only [tvI_i, tvJ_j, tvR_r] at q332
                have q332i := zeqi (Y := 16) (by decide) q332
                refine tw_aload rfl rfl ?_
                refine tw_aload rfl rfl ?_
                refine tw_getS rfl (hi_44_3 ggp331.1) ?_
                refine tw_put rfl (fun f334 => ?_)
                refine tG_set f334 (hw_44_2 f334 (ggp331).1) (fun hf334 ef334 => ?_)
                try dsimp only [tvI_i] at ef334
                have gf334 := cFr_s ggp331 ef334 (by decide)
                have hw16 := (wrd_k (k := 16) kwp331 (by decide) (K := 16) rfl).mp q332
                have h9w : rE T n (rB T n (cs hp330).1) = rB T n (cs hp330).1 + 2 := by rw [rW_e hw16, wlen_k.2.2.2]
                have hyn : (cs hp330).1 ≤ n := by rw [← ((cFr_n ggp330).trans hN)]; exact cP_le ppp330
                have hr9 := rE_le (T := T) (rB_le (T := T) hyn)
                rw [h9w] at hr9 eep331
                obtain ⟨pf334, sf334⟩ := cTo ppp331 ((cFr_n ggp331).trans hN) ef334 eep331 (by rw [ssp331]; exact Nat.le_add_right _ _) hr9
                have sf334 : cs hf334 = rA (rB T n (cs hp330).1 + 2) (cs hp330) := by rw [sf334, ssp331]; rfl
                refine tw_aload rfl rfl ?_
                refine tw_push rfl ?_
                refine tw_virt1 rfl (tC_rec hG hX (m := 9) (d := 0) (by decide) (gf334).1 pf334 ((cFr_T gf334).trans hT) ((cFr_n gf334).trans hN) rfl (by decide)) (fun w9 hp335 p335 => ?_)
                obtain ⟨gp335, ⟨rfl, p335, ppp335⟩ | ⟨rfl, xp335, p335, up335⟩⟩ := p335
                · have ggp335 := cFr_t gf334 gp335
                  refine tw_if_ne rfl (fun _ => ?_) (fun z => absurd z (by decide))
                  refine tw_aload rfl rfl ?_
                  refine tw_iload rfl rfl ?_
                  refine tw_iload rfl rfl ?_
                  refine tw_iload rfl rfl ?_
                  refine tw_virt3 rfl (f_keepClause hG hX (ggp335).1 ppp335 ((cFr_T ggp335).trans hT) ((cFr_n ggp335).trans hN) (cQ_f ggp335 hq) (by have := cFr_7 ggp335; rw [this]; exact hlt12)) (fun wp336 hp336 p336 => ?_)
                  obtain ⟨rfl, gqp336, clp336, qqp336, ssp336, ppp336⟩ := p336
                  refine tw_push rfl ?_
                  have hk15 : ip322.toInt.toNat ≠ 15 := by have z := q328i; omega
                  have hk12 : ip322.toInt.toNat ≠ 12 := by have z := q329i; omega
                  have hx1 := sf327
                  have ho := p330
                  rw [hx1] at ho
                  have ht := p335
                  rw [sf334] at ht
                  have hc3 : rCl3 T n ip322.toInt.toNat (ip322.toInt.toNat) (rA (rE T n (rB T n (cs h).1)) (cs h)).2.2.length (cs hp330) (.inr (cs hp335, ip322.toInt.toNat, (rA (rE T n (rB T n (cs h).1)) (cs h)).2.2.length, (cs hp330).2.2.length, (cs hp335).2.2.length)) := Or.inl ⟨hw16, Or.inr ⟨_, ht, rfl⟩⟩
                  have hthv : (ip322).toNatClampNeg = ip322.toInt.toNat := rfl
                  have hclk : cCl hp336 = cCl h ++ [(ip322.toInt.toNat, (rA (rE T n (rB T n (cs h).1)) (cs h)).2.2.length, (cs hp330).2.2.length, (cs hp335).2.2.length)] := by
                    rw [clp336, cCl_f ggp335, ← hx1, show (cs hf327).2.2.length = _ from cCo_len, show (cs hp335).2.2.length = _ from cCo_len, show (cs hp330).2.2.length = _ from cCo_len]
                    exact congrArg (fun z => cCl h ++ [(z, _, _, _)]) hthv
                  have hcz : rCl T n (cCl h).length (cs h) (.inr (cs hp336, ip322.toInt.toNat, (rA (rE T n (rB T n (cs h).1)) (cs h)).2.2.length, (cs hp330).2.2.length, (cs hp335).2.2.length)) := by rw [ssp336]; exact Or.inr ⟨ip322.toInt.toNat, by omega, by omega, hkw, Or.inr ⟨hc12, Or.inr ⟨hk12, Or.inr ⟨hk15, Or.inr ⟨_, ho, hc3⟩⟩⟩⟩⟩
                  exact tw_iret rfl ⟨cFq_t (cFq_f ggp335) gqp336, qqp336, Or.inl ⟨rfl, _, hcz, hclk, ppp336⟩⟩
                · have ggp335 := cFr_t gf334 gp335
                  refine tw_if_ne rfl (fun z => absurd z (by decide)) (fun _ => ?_)
                  refine tw_push rfl ?_
                  have hk15 : ip322.toInt.toNat ≠ 15 := by have z := q328i; omega
                  have hk12 : ip322.toInt.toNat ≠ 12 := by have z := q329i; omega
                  have hx1 := sf327
                  have ho := p330
                  rw [hx1] at ho
                  have ht := p335
                  rw [sf334] at ht
                  have hc3 : rCl3 T n ip322.toInt.toNat (ip322.toInt.toNat) (rA (rE T n (rB T n (cs h).1)) (cs h)).2.2.length (cs hp330) (.inl _) := Or.inl ⟨hw16, Or.inl ⟨_, ht, rfl⟩⟩
                  exact tw_iret rfl ⟨cFq_f ggp335, cQ_f ggp335 hq, Or.inr ⟨rfl, _, Or.inr ⟨ip322.toInt.toNat, by omega, by omega, hkw, Or.inr ⟨hc12, Or.inr ⟨hk12, Or.inr ⟨hk15, Or.inr ⟨_, ho, hc3⟩⟩⟩⟩⟩, up335⟩⟩
            · have ggp330 := cFr_t gf327 gp330
              refine tw_if_ne rfl (fun z => absurd z (by decide)) (fun _ => ?_)
              refine tw_push rfl ?_
              have hk15 : ip322.toInt.toNat ≠ 15 := by have z := q328i; omega
              have hk12 : ip322.toInt.toNat ≠ 12 := by have z := q329i; omega
              have hx1 := sf327
              have ho := p330
              rw [hx1] at ho
              exact tw_iret rfl ⟨cFq_f ggp330, cQ_f ggp330 hq, Or.inr ⟨rfl, _, Or.inr ⟨ip322.toInt.toNat, by omega, by omega, hkw, Or.inr ⟨hc12, Or.inr ⟨hk12, Or.inr ⟨hk15, Or.inl ⟨_, ho, rfl⟩⟩⟩⟩⟩, up330⟩⟩
          · try dsimp only [tvI_i, tvJ_j, tvR_r] at q329
            have q329i := zeqi (Y := 12) (by decide) q329
            refine tw_aload rfl rfl ?_
            refine tw_push rfl ?_
            refine tw_virt1 rfl (f_numberHere hG hX (gf327).1 pf327 ((cFr_T gf327).trans hT) ((cFr_n gf327).trans hN) (m := 2) (M := 2) rfl (by decide)) (fun w9 hp337 p337 => ?_)
            obtain ⟨gp337, ⟨vp337, p337, rfl, ssp337, ppp337⟩ | ⟨xp337, p337, rfl, up337⟩⟩ := p337
            · have ggp337 := cFr_t gf327 gp337
              refine tw_istore rfl ?_
              refine tw_iload rfl rfl ?_
              refine tw_push rfl ?_
              refine tw_ic_ne rfl (fun q338 => ?_) (fun q338 => ?_)
              · try dsimp only [tvI_i, tvJ_j, tvR_r] at q338
                have q338i := zneq (Y := (-1)) (by decide) q338
                refine tw_aload rfl rfl ?_
                refine tw_getS rfl (hi_44_5 ggp337.1) ?_
                refine tw_istore rfl ?_
                refine tw_iload rfl rfl ?_
                refine tw_if_ne rfl (fun z => absurd z (by decide)) (fun _ => ?_)
                refine tw_aload rfl rfl ?_
                refine tw_push rfl ?_
                refine tw_virt1 rfl (tC_rec hG hX (m := 3) (d := 0) (by decide) (ggp337).1 ppp337 ((cFr_T ggp337).trans hT) ((cFr_n ggp337).trans hN) rfl (by decide)) (fun w9 hp339 p339 => ?_)
                obtain ⟨gp339, ⟨rfl, p339, ppp339⟩ | ⟨rfl, xp339, p339, up339⟩⟩ := p339
                · have ggp339 := cFr_t ggp337 gp339
                  refine tw_if_ne rfl (fun _ => ?_) (fun z => absurd z (by decide))
                  refine tw_aload rfl rfl ?_
                  refine tw_getS rfl (hi_44_5 ggp339.1) ?_
                  refine tw_istore rfl ?_
                  refine tw_aload rfl rfl ?_
                  refine tw_virt0 rfl (f_wordHere hG hX (ggp339).1 ppp339 ((cFr_T ggp339).trans hT) ((cFr_n ggp339).trans hN)) (fun wp340 hp340 p340 => ?_)
                  obtain ⟨gp340, ppp340, ssp340, eep340, ip340, rfl, kwp340⟩ := p340
                  have ggp340 := cFr_t ggp339 gp340
                  refine tw_push rfl ?_
                  refine tw_ic_ne rfl (fun q341 => ?_) (fun q341 => ?_)
                  · try dsimp only [tvI_i, tvJ_j, tvR_r] at q341
                    have q341i := zneq (Y := 16) (by decide) q341
                    refine tw_iload rfl rfl ?_
                    refine tw_if_eq rfl (fun _ => ?_) (fun z => absurd z (by decide))
                    refine tw_aload rfl rfl ?_
                    refine tw_iload rfl rfl ?_
                    refine tw_iload rfl rfl ?_
                    refine tw_iload rfl rfl ?_
                    refine tw_virt3 rfl (f_keepClause hG hX (ggp340).1 ppp340 ((cFr_T ggp340).trans hT) ((cFr_n ggp340).trans hN) (cQ_f ggp340 hq) (by have := cFr_7 ggp340; rw [this]; exact hlt12)) (fun wp342 hp342 p342 => ?_)
                    obtain ⟨rfl, gqp342, clp342, qqp342, ssp342, ppp342⟩ := p342
                    refine tw_push rfl ?_
                    have hk15 : ip322.toInt.toNat ≠ 15 := by have z := q328i; omega
                    have hk12 : ip322.toInt.toNat = 12 := by have z := q329i; omega
                    have hrm := p337
                    rw [sf327] at hrm
                    have hx1 : cs hp337 = rA vp337.1 (rA (rE T n (rB T n (cs h).1)) (cs h)) := by rw [ssp337, sf327]
                    have ho := p339
                    rw [hx1] at ho
                    have hnw : ¬ rW T n (rB T n (cs hp339).1) (rWd 16) = true := fun z => q341 ((wrd_k (k := 16) kwp340 (by decide) (K := 16) rfl).mpr z)
                    have hc3 : rCl3 T n ip322.toInt.toNat (vp337.2) (rA vp337.1 (rA (rE T n (rB T n (cs h).1)) (cs h))).2.2.length (cs hp339) (.inr (cs hp340, vp337.2, (rA vp337.1 (rA (rE T n (rB T n (cs h).1)) (cs h))).2.2.length, (cs hp339).2.2.length, (cs hp340).2.2.length)) := Or.inr (Or.inr ⟨hnw, hk15, by rw [ssp340]; rfl⟩)
                    have hthv : (Int32.ofNat vp337.2).toNatClampNeg = vp337.2 := zoN (by have := (rM_r (rE_le (rB_le hpn)) hrm).2.2; omega)
                    have hclk : cCl hp342 = cCl h ++ [(vp337.2, (rA vp337.1 (rA (rE T n (rB T n (cs h).1)) (cs h))).2.2.length, (cs hp339).2.2.length, (cs hp340).2.2.length)] := by
                      rw [clp342, cCl_f ggp340, ← hx1, show (cs hp337).2.2.length = _ from cCo_len, show (cs hp340).2.2.length = _ from cCo_len, show (cs hp339).2.2.length = _ from cCo_len]
                      exact congrArg (fun z => cCl h ++ [(z, _, _, _)]) hthv
                    have hcz : rCl T n (cCl h).length (cs h) (.inr (cs hp342, vp337.2, (rA vp337.1 (rA (rE T n (rB T n (cs h).1)) (cs h))).2.2.length, (cs hp339).2.2.length, (cs hp340).2.2.length)) := by rw [ssp342]; exact Or.inr ⟨ip322.toInt.toNat, by omega, by omega, hkw, Or.inr ⟨hc12, Or.inl ⟨hk12, Or.inr ⟨vp337, hrm, Or.inr ⟨hk15, Or.inr ⟨_, ho, hc3⟩⟩⟩⟩⟩⟩
                    exact tw_iret rfl ⟨cFq_t (cFq_f ggp340) gqp342, qqp342, Or.inl ⟨rfl, _, hcz, hclk, ppp342⟩⟩
                  · try dsimp only [tvI_i, tvJ_j, tvR_r] at q341
                    have q341i := zeqi (Y := 16) (by decide) q341
                    refine tw_aload rfl rfl ?_
                    refine tw_aload rfl rfl ?_
                    refine tw_getS rfl (hi_44_3 ggp340.1) ?_
                    refine tw_put rfl (fun f343 => ?_)
                    refine tG_set f343 (hw_44_2 f343 (ggp340).1) (fun hf343 ef343 => ?_)
                    try dsimp only [tvI_i] at ef343
                    have gf343 := cFr_s ggp340 ef343 (by decide)
                    have hw16 := (wrd_k (k := 16) kwp340 (by decide) (K := 16) rfl).mp q341
                    have h9w : rE T n (rB T n (cs hp339).1) = rB T n (cs hp339).1 + 2 := by rw [rW_e hw16, wlen_k.2.2.2]
                    have hyn : (cs hp339).1 ≤ n := by rw [← ((cFr_n ggp339).trans hN)]; exact cP_le ppp339
                    have hr9 := rE_le (T := T) (rB_le (T := T) hyn)
                    rw [h9w] at hr9 eep340
                    obtain ⟨pf343, sf343⟩ := cTo ppp340 ((cFr_n ggp340).trans hN) ef343 eep340 (by rw [ssp340]; exact Nat.le_add_right _ _) hr9
                    have sf343 : cs hf343 = rA (rB T n (cs hp339).1 + 2) (cs hp339) := by rw [sf343, ssp340]; rfl
                    refine tw_aload rfl rfl ?_
                    refine tw_push rfl ?_
                    refine tw_virt1 rfl (tC_rec hG hX (m := 9) (d := 0) (by decide) (gf343).1 pf343 ((cFr_T gf343).trans hT) ((cFr_n gf343).trans hN) rfl (by decide)) (fun w9 hp344 p344 => ?_)
                    obtain ⟨gp344, ⟨rfl, p344, ppp344⟩ | ⟨rfl, xp344, p344, up344⟩⟩ := p344
                    · have ggp344 := cFr_t gf343 gp344
                      refine tw_if_ne rfl (fun _ => ?_) (fun z => absurd z (by decide))
                      refine tw_aload rfl rfl ?_
                      refine tw_iload rfl rfl ?_
                      refine tw_iload rfl rfl ?_
                      refine tw_iload rfl rfl ?_
                      refine tw_virt3 rfl (f_keepClause hG hX (ggp344).1 ppp344 ((cFr_T ggp344).trans hT) ((cFr_n ggp344).trans hN) (cQ_f ggp344 hq) (by have := cFr_7 ggp344; rw [this]; exact hlt12)) (fun wp345 hp345 p345 => ?_)
                      obtain ⟨rfl, gqp345, clp345, qqp345, ssp345, ppp345⟩ := p345
                      refine tw_push rfl ?_
                      have hk15 : ip322.toInt.toNat ≠ 15 := by have z := q328i; omega
                      have hk12 : ip322.toInt.toNat = 12 := by have z := q329i; omega
                      have hrm := p337
                      rw [sf327] at hrm
                      have hx1 : cs hp337 = rA vp337.1 (rA (rE T n (rB T n (cs h).1)) (cs h)) := by rw [ssp337, sf327]
                      have ho := p339
                      rw [hx1] at ho
                      have ht := p344
                      rw [sf343] at ht
                      have hc3 : rCl3 T n ip322.toInt.toNat (vp337.2) (rA vp337.1 (rA (rE T n (rB T n (cs h).1)) (cs h))).2.2.length (cs hp339) (.inr (cs hp344, vp337.2, (rA vp337.1 (rA (rE T n (rB T n (cs h).1)) (cs h))).2.2.length, (cs hp339).2.2.length, (cs hp344).2.2.length)) := Or.inl ⟨hw16, Or.inr ⟨_, ht, rfl⟩⟩
                      have hthv : (Int32.ofNat vp337.2).toNatClampNeg = vp337.2 := zoN (by have := (rM_r (rE_le (rB_le hpn)) hrm).2.2; omega)
                      have hclk : cCl hp345 = cCl h ++ [(vp337.2, (rA vp337.1 (rA (rE T n (rB T n (cs h).1)) (cs h))).2.2.length, (cs hp339).2.2.length, (cs hp344).2.2.length)] := by
                        rw [clp345, cCl_f ggp344, ← hx1, show (cs hp337).2.2.length = _ from cCo_len, show (cs hp344).2.2.length = _ from cCo_len, show (cs hp339).2.2.length = _ from cCo_len]
                        exact congrArg (fun z => cCl h ++ [(z, _, _, _)]) hthv
                      have hcz : rCl T n (cCl h).length (cs h) (.inr (cs hp345, vp337.2, (rA vp337.1 (rA (rE T n (rB T n (cs h).1)) (cs h))).2.2.length, (cs hp339).2.2.length, (cs hp344).2.2.length)) := by rw [ssp345]; exact Or.inr ⟨ip322.toInt.toNat, by omega, by omega, hkw, Or.inr ⟨hc12, Or.inl ⟨hk12, Or.inr ⟨vp337, hrm, Or.inr ⟨hk15, Or.inr ⟨_, ho, hc3⟩⟩⟩⟩⟩⟩
                      exact tw_iret rfl ⟨cFq_t (cFq_f ggp344) gqp345, qqp345, Or.inl ⟨rfl, _, hcz, hclk, ppp345⟩⟩
                    · have ggp344 := cFr_t gf343 gp344
                      refine tw_if_ne rfl (fun z => absurd z (by decide)) (fun _ => ?_)
                      refine tw_push rfl ?_
                      have hk15 : ip322.toInt.toNat ≠ 15 := by have z := q328i; omega
                      have hk12 : ip322.toInt.toNat = 12 := by have z := q329i; omega
                      have hrm := p337
                      rw [sf327] at hrm
                      have hx1 : cs hp337 = rA vp337.1 (rA (rE T n (rB T n (cs h).1)) (cs h)) := by rw [ssp337, sf327]
                      have ho := p339
                      rw [hx1] at ho
                      have ht := p344
                      rw [sf343] at ht
                      have hc3 : rCl3 T n ip322.toInt.toNat (vp337.2) (rA vp337.1 (rA (rE T n (rB T n (cs h).1)) (cs h))).2.2.length (cs hp339) (.inl _) := Or.inl ⟨hw16, Or.inl ⟨_, ht, rfl⟩⟩
                      exact tw_iret rfl ⟨cFq_f ggp344, cQ_f ggp344 hq, Or.inr ⟨rfl, _, Or.inr ⟨ip322.toInt.toNat, by omega, by omega, hkw, Or.inr ⟨hc12, Or.inl ⟨hk12, Or.inr ⟨vp337, hrm, Or.inr ⟨hk15, Or.inr ⟨_, ho, hc3⟩⟩⟩⟩⟩⟩, up344⟩⟩
                · have ggp339 := cFr_t ggp337 gp339
                  refine tw_if_ne rfl (fun z => absurd z (by decide)) (fun _ => ?_)
                  refine tw_push rfl ?_
                  have hk15 : ip322.toInt.toNat ≠ 15 := by have z := q328i; omega
                  have hk12 : ip322.toInt.toNat = 12 := by have z := q329i; omega
                  have hrm := p337
                  rw [sf327] at hrm
                  have hx1 : cs hp337 = rA vp337.1 (rA (rE T n (rB T n (cs h).1)) (cs h)) := by rw [ssp337, sf327]
                  have ho := p339
                  rw [hx1] at ho
                  exact tw_iret rfl ⟨cFq_f ggp339, cQ_f ggp339 hq, Or.inr ⟨rfl, _, Or.inr ⟨ip322.toInt.toNat, by omega, by omega, hkw, Or.inr ⟨hc12, Or.inl ⟨hk12, Or.inr ⟨vp337, hrm, Or.inr ⟨hk15, Or.inl ⟨_, ho, rfl⟩⟩⟩⟩⟩⟩, up339⟩⟩
              · try dsimp only [tvI_i, tvJ_j, tvR_r] at q338
                have q338i := zeqi (Y := (-1)) (by decide) q338
                exact absurd q338 (zoN9 (by have := (rM_r (rE_le (rB_le hpn)) (by have y := p337; rw [sf327] at y; exact y)).2.2; omega))
            · have ggp337 := cFr_t gf327 gp337
              refine tw_istore rfl ?_
              refine tw_iload rfl rfl ?_
              refine tw_push rfl ?_
              refine tw_ic_ne rfl (fun z => absurd z (by decide)) (fun _ => ?_)
              refine tw_push rfl ?_
              have hk15 : ip322.toInt.toNat ≠ 15 := by have z := q328i; omega
              have hk12 : ip322.toInt.toNat = 12 := by have z := q329i; omega
              have hrm := p337
              rw [sf327] at hrm
              exact tw_iret rfl ⟨cFq_f ggp337, cQ_f ggp337 hq, Or.inr ⟨rfl, _, Or.inr ⟨ip322.toInt.toNat, by omega, by omega, hkw, Or.inr ⟨hc12, Or.inl ⟨hk12, Or.inl ⟨_, hrm, rfl⟩⟩⟩⟩, up337⟩⟩
        · try dsimp only [tvI_i, tvJ_j, tvR_r] at q328
          have q328i := zeqi (Y := 15) (by decide) q328
          refine tw_push rfl ?_
          refine tw_goto rfl ?_
          refine tw_istore rfl ?_
          refine tw_iload rfl rfl ?_
          refine tw_push rfl ?_
          refine tw_ic_ne rfl (fun q346 => ?_) (fun q346 => ?_)
          · try dsimp only [tvI_i, tvJ_j, tvR_r] at q346
            have q346i := zneq (Y := 12) (by decide) q346
            refine tw_aload rfl rfl ?_
            refine tw_getS rfl (hi_44_5 (gf327).1) ?_
            refine tw_istore rfl ?_
            refine tw_iload rfl rfl ?_
            refine tw_if_ne rfl (fun _ => ?_) (fun z => absurd z (by decide))
            refine tw_aload rfl rfl ?_
            refine tw_getS rfl (hi_44_5 (gf327).1) ?_
            refine tw_istore rfl ?_
            refine tw_aload rfl rfl ?_
            refine tw_virt0 rfl (f_wordHere hG hX (gf327).1 pf327 ((cFr_T gf327).trans hT) ((cFr_n gf327).trans hN)) (fun wp347 hp347 p347 => ?_)
            obtain ⟨gp347, ppp347, ssp347, eep347, ip347, rfl, kwp347⟩ := p347
            have ggp347 := cFr_t gf327 gp347
            refine tw_push rfl ?_
            refine tw_ic_ne rfl (fun q348 => ?_) (fun q348 => ?_)
            · try dsimp only [tvI_i, tvJ_j, tvR_r] at q348
              have q348i := zneq (Y := 16) (by decide) q348
              refine tw_iload rfl rfl ?_
              refine tw_if_eq rfl (fun z => absurd z (by decide)) (fun _ => ?_)
              refine tw_aload rfl rfl ?_
              refine tw_aload rfl rfl ?_
              refine tw_getS rfl (hi_44_2 ggp347.1) ?_
              refine tw_push rfl ?_
              refine tw_virt2 rfl (f_refuse hG hX (ggp347).1 ppp347 ((cFr_T ggp347).trans hT) ((cFr_n ggp347).trans hN)) (fun wp349 hp349 p349 => ?_)
              obtain ⟨gp349, rfl, up349⟩ := p349
              have ggp349 := cFr_t ggp347 gp349
              have hk15 : ip322.toInt.toNat = 15 := by have z := q328i; omega
              have hk12 : ip322.toInt.toNat ≠ 12 := by omega
              have hx1 := sf327
              have hy1 := hx1
              have hnw : ¬ rW T n (rB T n (cs hf327).1) (rWd 16) = true := fun z => q348 ((wrd_k (k := 16) kwp347 (by decide) (K := 16) rfl).mpr z)
              have hft := cFt_of ppp347 up349 (w := 0) rfl (by decide)
              rw [ssp347, hx1] at hft
              rw [hx1] at hnw
              have hc3 : rCl3 T n ip322.toInt.toNat (ip322.toInt.toNat) (rA (rE T n (rB T n (cs h).1)) (cs h)).2.2.length (rA (rE T n (rB T n (cs h).1)) (cs h)) (.inl (1 + 8 * rB T n (rA (rE T n (rB T n (cs h).1)) (cs h)).1 + 0)) := Or.inr (Or.inl ⟨hnw, hk15, rfl⟩)
              have hft2 : cFt hp349 (1 + 8 * rB T n (rA (rE T n (rB T n (cs h).1)) (cs h)).1 + 0) := hft
              exact tw_iret rfl ⟨cFq_f ggp349, cQ_f ggp349 hq, Or.inr ⟨rfl, _, Or.inr ⟨ip322.toInt.toNat, by omega, by omega, hkw, Or.inr ⟨hc12, Or.inr ⟨hk12, Or.inl ⟨hk15, hc3⟩⟩⟩⟩, hft2⟩⟩
            · try dsimp only [tvI_i, tvJ_j, tvR_r] at q348
              have q348i := zeqi (Y := 16) (by decide) q348
              refine tw_aload rfl rfl ?_
              refine tw_aload rfl rfl ?_
              refine tw_getS rfl (hi_44_3 ggp347.1) ?_
              refine tw_put rfl (fun f350 => ?_)
              refine tG_set f350 (hw_44_2 f350 (ggp347).1) (fun hf350 ef350 => ?_)
              try dsimp only [tvI_i] at ef350
              have gf350 := cFr_s ggp347 ef350 (by decide)
              have hw16 := (wrd_k (k := 16) kwp347 (by decide) (K := 16) rfl).mp q348
              have h9w : rE T n (rB T n (cs hf327).1) = rB T n (cs hf327).1 + 2 := by rw [rW_e hw16, wlen_k.2.2.2]
              have hyn : (cs hf327).1 ≤ n := by rw [← ((cFr_n gf327).trans hN)]; exact cP_le pf327
              have hr9 := rE_le (T := T) (rB_le (T := T) hyn)
              rw [h9w] at hr9 eep347
              obtain ⟨pf350, sf350⟩ := cTo ppp347 ((cFr_n ggp347).trans hN) ef350 eep347 (by rw [ssp347]; exact Nat.le_add_right _ _) hr9
              have sf350 : cs hf350 = rA (rB T n (cs hf327).1 + 2) (cs hf327) := by rw [sf350, ssp347]; rfl
              refine tw_aload rfl rfl ?_
              refine tw_push rfl ?_
              refine tw_virt1 rfl (tC_rec hG hX (m := 9) (d := 0) (by decide) (gf350).1 pf350 ((cFr_T gf350).trans hT) ((cFr_n gf350).trans hN) rfl (by decide)) (fun w9 hp351 p351 => ?_)
              obtain ⟨gp351, ⟨rfl, p351, ppp351⟩ | ⟨rfl, xp351, p351, up351⟩⟩ := p351
              · have ggp351 := cFr_t gf350 gp351
                refine tw_if_ne rfl (fun _ => ?_) (fun z => absurd z (by decide))
                refine tw_aload rfl rfl ?_
                refine tw_iload rfl rfl ?_
                refine tw_iload rfl rfl ?_
                refine tw_iload rfl rfl ?_
                refine tw_virt3 rfl (f_keepClause hG hX (ggp351).1 ppp351 ((cFr_T ggp351).trans hT) ((cFr_n ggp351).trans hN) (cQ_f ggp351 hq) (by have := cFr_7 ggp351; rw [this]; exact hlt12)) (fun wp352 hp352 p352 => ?_)
                obtain ⟨rfl, gqp352, clp352, qqp352, ssp352, ppp352⟩ := p352
                refine tw_push rfl ?_
                have hk15 : ip322.toInt.toNat = 15 := by have z := q328i; omega
                have hk12 : ip322.toInt.toNat ≠ 12 := by omega
                have hx1 := sf327
                have hy1 := hx1
                rw [hx1] at hw16
                have ht := p351
                rw [sf350, hx1] at ht
                have hc3 : rCl3 T n ip322.toInt.toNat (ip322.toInt.toNat) (rA (rE T n (rB T n (cs h).1)) (cs h)).2.2.length (rA (rE T n (rB T n (cs h).1)) (cs h)) (.inr (cs hp351, ip322.toInt.toNat, (rA (rE T n (rB T n (cs h).1)) (cs h)).2.2.length, (rA (rE T n (rB T n (cs h).1)) (cs h)).2.2.length, (cs hp351).2.2.length)) := Or.inl ⟨hw16, Or.inr ⟨_, ht, rfl⟩⟩
                have hthv : (ip322).toNatClampNeg = ip322.toInt.toNat := rfl
                have hclk : cCl hp352 = cCl h ++ [(ip322.toInt.toNat, (rA (rE T n (rB T n (cs h).1)) (cs h)).2.2.length, (rA (rE T n (rB T n (cs h).1)) (cs h)).2.2.length, (cs hp351).2.2.length)] := by
                  rw [clp352, cCl_f ggp351, ← hx1, show (cs hf327).2.2.length = _ from cCo_len, show (cs hp351).2.2.length = _ from cCo_len]
                  exact congrArg (fun z => cCl h ++ [(z, _, _, _)]) hthv
                have hcz : rCl T n (cCl h).length (cs h) (.inr (cs hp352, ip322.toInt.toNat, (rA (rE T n (rB T n (cs h).1)) (cs h)).2.2.length, (rA (rE T n (rB T n (cs h).1)) (cs h)).2.2.length, (cs hp351).2.2.length)) := by rw [ssp352]; exact Or.inr ⟨ip322.toInt.toNat, by omega, by omega, hkw, Or.inr ⟨hc12, Or.inr ⟨hk12, Or.inl ⟨hk15, hc3⟩⟩⟩⟩
                exact tw_iret rfl ⟨cFq_t (cFq_f ggp351) gqp352, qqp352, Or.inl ⟨rfl, _, hcz, hclk, ppp352⟩⟩
              · have ggp351 := cFr_t gf350 gp351
                refine tw_if_ne rfl (fun z => absurd z (by decide)) (fun _ => ?_)
                refine tw_push rfl ?_
                have hk15 : ip322.toInt.toNat = 15 := by have z := q328i; omega
                have hk12 : ip322.toInt.toNat ≠ 12 := by omega
                have hx1 := sf327
                have hy1 := hx1
                rw [hx1] at hw16
                have ht := p351
                rw [sf350, hx1] at ht
                have hc3 : rCl3 T n ip322.toInt.toNat (ip322.toInt.toNat) (rA (rE T n (rB T n (cs h).1)) (cs h)).2.2.length (rA (rE T n (rB T n (cs h).1)) (cs h)) (.inl _) := Or.inl ⟨hw16, Or.inl ⟨_, ht, rfl⟩⟩
                exact tw_iret rfl ⟨cFq_f ggp351, cQ_f ggp351 hq, Or.inr ⟨rfl, _, Or.inr ⟨ip322.toInt.toNat, by omega, by omega, hkw, Or.inr ⟨hc12, Or.inr ⟨hk12, Or.inl ⟨hk15, hc3⟩⟩⟩⟩, up351⟩⟩
          · try dsimp only [tvI_i, tvJ_j, tvR_r] at q346
            have q346i := zeqi (Y := 12) (by decide) q346
            exact absurd (q328.symm.trans q346) (by decide)
      · try dsimp only [tvI_i, tvJ_j, tvR_r] at q326
        have q326i := zeqi (Y := 12) (by decide) q326
        refine tw_aload rfl rfl ?_
        refine tw_aload rfl rfl ?_
        refine tw_getS rfl (hi_44_2 ggp322.1) ?_
        refine tw_push rfl ?_
        refine tw_virt2 rfl (f_refuse hG hX (ggp322).1 ppp322 ((cFr_T ggp322).trans hT) ((cFr_n ggp322).trans hN)) (fun wp353 hp353 p353 => ?_)
        obtain ⟨gp353, rfl, up353⟩ := p353
        have ggp353 := cFr_t ggp322 gp353
        have kwb := kwp322.1
        have hk1 : 12 ≤ ip322.toInt := by have z := q323; omega
        have hk2 : ip322.toInt ≤ 15 := by have z := q325; omega
        have hkw : rW T n (rB T n (cs h).1) (rWd ip322.toInt.toNat) = true := (kwp322.2 ip322.toInt.toNat (by omega)).mp (by omega)
        have hft := cFt_of ppp322 up353 (w := 4) rfl (by decide)
        rw [ssp322] at hft
        have h12 : (cCl h).length = 12 := (c12 hq).mpr ((congrArg tvI (cFr_7 ggp322)).symm.trans q326)
        exact tw_iret rfl ⟨cFq_f ggp353, cQ_f ggp353 hq, Or.inr ⟨rfl, _, Or.inr ⟨ip322.toInt.toNat, by omega, by omega, hkw, Or.inl ⟨h12, rfl⟩⟩, hft⟩⟩
    · try dsimp only [tvI_i, tvJ_j, tvR_r] at q325
      refine tw_aload rfl rfl ?_
      refine tw_aload rfl rfl ?_
      refine tw_getS rfl (hi_44_2 ggp322.1) ?_
      refine tw_push rfl ?_
      refine tw_virt2 rfl (f_refuse hG hX (ggp322).1 ppp322 ((cFr_T ggp322).trans hT) ((cFr_n ggp322).trans hN)) (fun wp354 hp354 p354 => ?_)
      obtain ⟨gp354, rfl, up354⟩ := p354
      have ggp354 := cFr_t ggp322 gp354
      have kwb := kwp322.1
      have hft := cFt_of ppp322 up354 (w := 0) rfl (by decide)
      rw [ssp322] at hft
      have z0 := q323
      have z1 := q325
      exact tw_iret rfl ⟨cFq_f ggp354, cQ_f ggp354 hq, Or.inr ⟨rfl, _, Or.inl ⟨fun k h1 h2 z => by have y := (kwp322.2 k (by omega)).mpr z; omega, rfl⟩, hft⟩⟩
theorem cRst {h a b c d e : zH} (hs : tSh h) (hl : 0 ≤ (tvI (tF h 44 1)).toInt ∧ (tvI (tF h 44 1)).toInt ≤ 400) (hT : ∀ i, i < 400 → -128 ≤ (tA h 45 i).toInt ∧ (tA h 45 i).toInt ≤ 127) (h46 : tN h 46 = 400) (h47 : tN h 47 = 48) (e2 : cSet 2 0 h a) (e5 : cSet 5 0 a b) (e7 : cSet 7 0 b c) (e8 : cSet 8 0 c d) (e9 : cSet 9 (-1) d e) : cFq h e ∧ cs e = (0, 0, []) ∧ cCl e = [] ∧ cP e ∧ cQ e := by
  have F : ∀ p q, ¬ (p = 44 ∧ (q = 2 ∨ q = 3 ∨ q = 5 ∨ q = 7 ∨ q = 8 ∨ q = 9)) → tF e p q = tF h p q := fun p q z =>
    (e9.2.2.1 p q (fun w => z ⟨w.1, by omega⟩)).trans ((e8.2.2.1 p q (fun w => z ⟨w.1, by omega⟩)).trans ((e7.2.2.1 p q (fun w => z ⟨w.1, by omega⟩)).trans ((e5.2.2.1 p q (fun w => z ⟨w.1, by omega⟩)).trans (e2.2.2.1 p q (fun w => z ⟨w.1, by omega⟩)))))
  have A : tA e = tA h := e9.2.2.2.1.trans (e8.2.2.2.1.trans (e7.2.2.2.1.trans (e5.2.2.2.1.trans e2.2.2.2.1)))
  have N : tN e = tN h := e9.2.2.2.2.trans (e8.2.2.2.2.trans (e7.2.2.2.2.trans (e5.2.2.2.2.trans e2.2.2.2.2)))
  have f8 : tF e 44 8 = .int 0 := (e9.2.2.1 44 8 (by decide)).trans e8.2.1
  have f7 : tF e 44 7 = .int 0 := (e9.2.2.1 44 7 (by decide)).trans ((e8.2.2.1 44 7 (by decide)).trans e7.2.1)
  have f5 : tF e 44 5 = .int 0 := (e9.2.2.1 44 5 (by decide)).trans ((e8.2.2.1 44 5 (by decide)).trans ((e7.2.2.1 44 5 (by decide)).trans e5.2.1))
  have f2 : tF e 44 2 = .int 0 := (e9.2.2.1 44 2 (by decide)).trans ((e8.2.2.1 44 2 (by decide)).trans ((e7.2.2.1 44 2 (by decide)).trans ((e5.2.2.1 44 2 (by decide)).trans e2.2.1)))
  have f1 : tF e 44 1 = tF h 44 1 := F 44 1 (by decide)
  refine ⟨⟨e9.1, F, fun p _ _ => congrFun A p, N⟩, ?_, ?_, ⟨?_, ?_, ?_, ?_, ?_, e9.2.1⟩, ⟨?_, ?_, ?_⟩⟩
  · unfold cs cCo
    rw [f2, f8, f5]
    rfl
  · unfold cCl
    rw [f7]
    rfl
  · rw [f2, f1]
    refine ⟨by decide, ?_, hl.2⟩
    show (0 : Int) ≤ _
    exact hl.1
  · rw [f8]; decide
  · rw [f5, f2]; decide
  · rw [A]; exact hT
  · rw [N]; exact h46
  · rw [f7]; decide
  · rw [f7]; decide
  · rw [N]; exact h47
theorem cFtv {h : zH} {e : Nat} (u : cFt h e) : tF h 44 9 = .int (Int32.ofNat e) := u
theorem rTon {T : Nat → Int32} {n : Nat} {c : Int32} {s s2 : rS} (h : rT T n c s = some (.inr s2)) : (rB T n s.1 < n ∧ T (rB T n s.1) = c) ∧ s2 = rA (rB T n s.1 + 1) s := by
  unfold rT at h
  by_cases z : rB T n s.1 < n ∧ T (rB T n s.1) = c
  · rw [if_pos z] at h; cases h; exact ⟨z, rfl⟩
  · rw [if_neg z] at h; cases h
theorem rToff {T : Nat → Int32} {n e : Nat} {c : Int32} {s : rS} (h : rT T n c s = some (.inl e)) : ¬ (rB T n s.1 < n ∧ T (rB T n s.1) = c) ∧ e = 1 + 8 * rB T n s.1 + 0 := by
  unfold rT at h
  by_cases z : rB T n s.1 < n ∧ T (rB T n s.1) = c
  · rw [if_pos z] at h; cases h
  · rw [if_neg z] at h; cases h; exact ⟨z, rfl⟩
theorem rCl_12 {T : Nat → Int32} {n c : Nat} {s : rS} {x : rS × rCt} (h : rCl T n c s (.inr x)) : c ≠ 12 := by
  rcases h with ⟨-, h⟩ | ⟨k, -, -, -, ⟨-, h⟩ | ⟨h, -⟩⟩
  · cases h
  · cases h
  · exact h
theorem f_readRule {G : zG} (hG : G.1 = zProg) (hX : G.2.1 = ztx) {h : zH} {T : Nat → Int32} {n : Nat} (hs : tSh h) (hT : tA h 45 = T) (hN : cn h = n) (hl : 0 ≤ (tvI (tF h 44 1)).toInt ∧ (tvI (tF h 44 1)).toInt ≤ 400) (hT9 : ∀ i, i < 400 → -128 ≤ (tA h 45 i).toInt ∧ (tA h 45 i).toInt ≤ 127) (h46 : tN h 46 = 400) (h47 : tN h 47 = 48) : tC zTt G 75 [.ref 44] h (fun w h2 => cFq h h2 ∧ ((∃ f, rRu T n f (0, 0, []) [] (.inr (cs h2, cCl h2)) ∧ w = some (.int (-1)) ∧ cP h2 ∧ cQ h2) ∨ ∃ e f, rRu T n f (0, 0, []) [] (.inl e) ∧ w = some (.int (Int32.ofNat e)))) := by
  refine tC_in (by rw [hG]; rfl) (fun dp => ?_)
  refine tw_aload rfl rfl ?_
  refine tw_push rfl ?_
  refine tw_put rfl (fun f355 => ?_)
  refine tG_set f355 (hw_44_2 f355 hs) (fun hf355 ef355 => ?_)
  try dsimp only [tvI_i] at ef355
  refine tw_aload rfl rfl ?_
  refine tw_push rfl ?_
  refine tw_put rfl (fun f356 => ?_)
  refine tG_set f356 (hw_44_5 f356 ef355.1) (fun hf356 ef356 => ?_)
  try dsimp only [tvI_i] at ef356
  refine tw_aload rfl rfl ?_
  refine tw_push rfl ?_
  refine tw_put rfl (fun f357 => ?_)
  refine tG_set f357 (hw_44_7 f357 ef356.1) (fun hf357 ef357 => ?_)
  try dsimp only [tvI_i] at ef357
  refine tw_aload rfl rfl ?_
  refine tw_push rfl ?_
  refine tw_put rfl (fun f358 => ?_)
  refine tG_set f358 (hw_44_8 f358 ef357.1) (fun hf358 ef358 => ?_)
  try dsimp only [tvI_i] at ef358
  refine tw_aload rfl rfl ?_
  refine tw_push rfl ?_
  refine tw_put rfl (fun f359 => ?_)
  refine tG_set f359 (hw_44_9 f359 ef358.1) (fun hf359 ef359 => ?_)
  try dsimp only [tvI_i] at ef359
  refine tw_push rfl ?_
  refine tw_istore rfl ?_
  refine tG_loop (zW_mono zTt G dp) (zW_conj zTt G dp) (V := fun pc L st h9 _ _ => pc = 27 ∧ st = [] ∧ ∃ (h1 : zH) (k : Nat) (x : Int32), h1 = h9 ∧ x.toInt = k ∧ cFq h h1 ∧ cP h1 ∧ cQ h1 ∧ (cCl h1).length = k ∧ (∀ r, (∃ f, rRu T n f (cs h1) (cCl h1) r) → ∃ f, rRu T n f (0, 0, []) [] r) ∧ L = [some (.ref 44), some (.int x)]) ?_ (⟨rfl, rfl, _, 0, 0, rfl, rfl, (cRst hs hl hT9 h46 h47 ef355 ef356 ef357 ef358 ef359).1, (cRst hs hl hT9 h46 h47 ef355 ef356 ef357 ef358 ef359).2.2.2.1, (cRst hs hl hT9 h46 h47 ef355 ef356 ef357 ef358 ef359).2.2.2.2, (by rw [(cRst hs hl hT9 h46 h47 ef355 ef356 ef357 ef358 ef359).2.2.1]; rfl), (fun r z => by rw [(cRst hs hl hT9 h46 h47 ef355 ef356 ef357 ef358 ef359).2.1, (cRst hs hl hT9 h46 h47 ef355 ef356 ef357 ef358 ef359).2.2.1] at z; exact z), rfl⟩)
  rintro _ _ _ _ _ _ ⟨rfl, rfl, h1, k, x, rfl, hx, gF, p1, q1, hk, hR, rfl⟩
  have g1 := cFr_r gF.1
  refine tw_iload rfl rfl ?_
  refine tw_push rfl ?_
  refine tw_ic_gt rfl (fun q360 => ?_) (fun q360 => ?_)
  · try dsimp only [tvI_i, tvJ_j, tvR_r] at q360
    refine tw_aload rfl rfl ?_
    refine tw_getS rfl (hi_44_9 g1.1) ?_
    exfalso
    have := q1.1
    have := q1.2.1
    rw [cCl_len, zclE] at hk
    have c129 : (12 : Int32).toInt = 12 := rfl
    have z := q360
    omega
  · try dsimp only [tvI_i, tvJ_j, tvR_r] at q360
    refine tw_aload rfl rfl ?_
    refine tw_virt0 rfl (f_readClause hG hX g1.1 p1 ((cFq_T gF).trans hT) ((cFq_n gF).trans hN) q1) (fun w9 hp361 p361 => ?_)
    obtain ⟨gqp361, qqp361, ⟨rfl, cp361, p361, clp361, ppp361⟩ | ⟨rfl, xp361, p361, up361⟩⟩ := p361
    · have gzp361 := cFr_r gqp361.1
      refine tw_if_eq rfl (fun z => absurd z (by decide)) (fun _ => ?_)
      refine tw_aload rfl rfl ?_
      refine tw_virt0 rfl (f_signHere hG hX (gzp361).1 ppp361 ((cFq_T (cFq_t gF gqp361)).trans hT) ((cFq_n (cFq_t gF gqp361)).trans hN)) (fun wp362 hp362 p362 => ?_)
      obtain ⟨gp362, ppp362, ssp362, t3p362, cp362, rfl, kp362⟩ := p362
      have ggp362 := cFr_t gzp361 gp362
      refine tw_push rfl ?_
      refine tw_ic_eq rfl (fun q363 => ?_) (fun q363 => ?_)
      · try dsimp only [tvI_i, tvJ_j, tvR_r] at q363
        have q363i := zeqi (Y := (-1)) (by decide) q363
        refine tw_aload rfl rfl ?_
        refine tw_getS rfl (hi_44_9 ggp362.1) ?_
        have hne : ¬ rB T n (cs hp361).1 < n := kp362.2.mp q363
        obtain ⟨f9, z⟩ := hR _ ⟨1, Or.inr ⟨_, _, p361, Or.inl ⟨hne, rfl⟩⟩⟩
        have hcc : cCl hp362 = cCl h1 ++ [cp361] := (cCl_f gp362).trans clp361
        rw [← hcc, ← ssp362] at z
        exact tw_iret rfl ⟨cFq_t (cFq_t gF gqp361) (cFq_f gp362), Or.inl ⟨f9, z, by rw [ppp362.2.2.2.2.2]; rfl, ppp362, cQ_f gp362 qqp361⟩⟩
      · try dsimp only [tvI_i, tvJ_j, tvR_r] at q363
        have q363i := zneq (Y := (-1)) (by decide) q363
        refine tw_aload rfl rfl ?_
        refine tw_push rfl ?_
        refine tw_virt1 rfl (f_takeSign hG hX (ggp362).1 ppp362 ((cFr_T ggp362).trans ((cFq_T (cFq_t gF gqp361)).trans hT)) ((cFr_n ggp362).trans ((cFq_n (cFq_t gF gqp361)).trans hN)) (y := 59) (by decide)) (fun w9 hp364 p364 => ?_)
        obtain ⟨gp364, ⟨rfl, p364, ppp364⟩ | ⟨rfl, xp364, p364, up364⟩⟩ := p364
        · have ggp364 := cFr_t ggp362 gp364
          refine tw_if_ne rfl (fun _ => ?_) (fun z => absurd z (by decide))
          refine tw_iinc rfl rfl ?_
          refine tw_goto rfl ?_
          have hcl : (cCl h1).length < 12 := by have z := rCl_12 (T := T) p361; have y := q1; rw [cCl_len, zclE] at *; have := q1.1; have := q1.2.1; omega
          have hts := rTon p364
          rw [ssp362, show (rA (rB T n (cs hp361).1) (cs hp361)).1 = rB T n (cs hp361).1 from rfl, rB_2] at hts
          have hcc : cCl hp364 = cCl h1 ++ [cp361] := (cCl_f (cFr_t (cFr_t (cFr_r gqp361.1) gp362) gp364)).trans clp361
          refine tG_cut (zW_mono zTt G dp) (Or.inr ⟨rfl, rfl, _, k + 1, x + 1, rfl, zincN hx (by omega), cFq_t (cFq_t gF gqp361) (cFq_f (cFr_t gp362 gp364)), ppp364, cQ_f (cFr_t gp362 gp364) qqp361, (by rw [hcc, List.length_append, hk]; rfl), (fun r z => ?_), rfl⟩)
          rw [hcc, hts.2] at z
          obtain ⟨f9, z⟩ := z
          exact hR r ⟨f9 + 1, Or.inr ⟨_, _, p361, Or.inr (Or.inl ⟨hts.1, z⟩)⟩⟩
        · have ggp364 := cFr_t ggp362 gp364
          refine tw_if_ne rfl (fun z => absurd z (by decide)) (fun _ => ?_)
          refine tw_goto rfl ?_
          refine tw_aload rfl rfl ?_
          refine tw_getS rfl (hi_44_9 ggp364.1) ?_
          have hts := rToff p364
          rw [ssp362, show (rA (rB T n (cs hp361).1) (cs hp361)).1 = rB T n (cs hp361).1 from rfl, rB_2] at hts
          have hlt : rB T n (cs hp361).1 < n := Classical.byContradiction (fun z => q363 (kp362.2.mpr z))
          obtain ⟨f9, z⟩ := hR _ ⟨1, Or.inr ⟨_, _, p361, Or.inr (Or.inr ⟨⟨hlt, fun z => hts.1 ⟨hlt, z⟩⟩, rfl⟩)⟩⟩
          exact tw_iret rfl ⟨cFq_t (cFq_t gF gqp361) (cFq_f (cFr_t gp362 gp364)), Or.inr ⟨_, f9, z, by rw [cFtv up364, hts.2]; rfl⟩⟩
    · refine tw_if_eq rfl (fun _ => ?_) (fun z => absurd z (by decide))
      refine tw_aload rfl rfl ?_
      refine tw_getS rfl (hi_44_9 gqp361.1) ?_
      obtain ⟨f9, z⟩ := hR _ ⟨1, Or.inl ⟨_, p361, rfl⟩⟩
      exact tw_iret rfl ⟨cFq_t gF gqp361, Or.inr ⟨_, f9, z, by rw [cFtv up361]; rfl⟩⟩
/-! the reader with a pile, as it stands in the object 111 -/
noncomputable def mCode (s v : Nat) : Nat := if s = 0 then v else if s = 1 then (if v < 12 then 100000 + v else 200000 + v) else if s = 2 then 100102 else if s = 3 then 100100 else if s = 4 then 100101 else if s = 10 then 100110 else if s = 11 then 100109 else if s = 12 then 100108 else 100098 + s
theorem mCode_1 {v : Nat} (h : v < 12) : mCode 1 v = 100000 + v := by
  show (if v < 12 then 100000 + v else 200000 + v) = _
  rw [if_pos h]
noncomputable def mEn (h : zH) : List Nat := (List.range (tvI (tF h 111 31)).toNatClampNeg).map (fun i => mCode (tA h 133 (500 * (tvI (tF h 111 30)).toNatClampNeg + i)).toNatClampNeg (tA h 134 (500 * (tvI (tF h 111 30)).toNatClampNeg + i)).toNatClampNeg)
noncomputable def mSk (h : zH) : List Nat := ((List.range (tvI (tF h 111 34)).toNatClampNeg).map (fun i => (tA h 142 i).toNatClampNeg)).reverse
noncomputable def ms (h : zH) : rS := ((tvI (tF h 111 28)).toNatClampNeg, (tvI (tF h 111 33)).toNatClampNeg, mEn h)
noncomputable abbrev mn (h : zH) : Nat := (tvI (tF h 111 27)).toNatClampNeg
noncomputable def mFs (b : Nat) : Prop := b = 28 ∨ b = 29 ∨ b = 31 ∨ b = 32 ∨ b = 33 ∨ b = 34
/-- what is told of the rules before stays -/
noncomputable def mLo (h h2 : zH) : Prop := ∀ q, q < 500 * (tvI (tF h 111 30)).toNatClampNeg → tA h2 133 q = tA h 133 q ∧ tA h2 134 q = tA h 134 q
theorem mLo_r {h : zH} : mLo h h := fun _ _ => ⟨rfl, rfl⟩
theorem mLo_t {h h1 h2 : zH} (e : tF h1 111 30 = tF h 111 30) (a : mLo h h1) (k : mLo h1 h2) : mLo h h2 := fun q hq =>
  have y := k q (by rw [e]; exact hq)
  ⟨y.1.trans (a q hq).1, y.2.trans (a q hq).2⟩
theorem mLo_A {h h1 h2 : zH} (e : tA h2 = tA h1) (a : mLo h h1) : mLo h h2 := fun q hq => by rw [e]; exact a q hq
theorem mLo_p {h h2 : zH} (a : tA h2 133 = tA h 133) (b : tA h2 134 = tA h 134) : mLo h h2 := fun q _ => ⟨by rw [a], by rw [b]⟩
noncomputable def mFr (h h2 : zH) : Prop := tSh h2 ∧ (∀ p b, ¬ (p = 111 ∧ mFs b) → tF h2 p b = tF h p b) ∧ (∀ p, p ≠ 133 → p ≠ 134 → p ≠ 142 → tA h2 p = tA h p) ∧ tN h2 = tN h ∧ mLo h h2
/-- no fault so far -/
noncomputable def mP (h : zH) : Prop := tF h 111 29 = .int 0 ∧ (0 ≤ (tvI (tF h 111 28)).toInt ∧ (tvI (tF h 111 28)).toInt ≤ (tvI (tF h 111 27)).toInt ∧ (tvI (tF h 111 27)).toInt ≤ 400) ∧ (0 ≤ (tvI (tF h 111 33)).toInt ∧ (tvI (tF h 111 33)).toInt ≤ 80) ∧ (0 ≤ (tvI (tF h 111 31)).toInt ∧ (tvI (tF h 111 31)).toInt ≤ 100000) ∧ 0 ≤ (tvI (tF h 111 34)).toInt ∧ (0 ≤ (tvI (tF h 111 30)).toInt ∧ (tvI (tF h 111 30)).toInt ≤ 10) ∧ (∀ i, i < tN h 142 → 0 ≤ (tA h 142 i).toInt) ∧ (∀ i : Nat, i = i) ∧ tN h 133 ≤ 100000 ∧ tN h 142 ≤ 100000
noncomputable def mD (h : zH) : Prop := (tvI (tF h 111 32)).toInt = mDp (mSk h)
noncomputable def mSet (b : Nat) (X : Int32) (h h3 : zH) : Prop := tSh h3 ∧ tF h3 111 b = .int X ∧ (∀ p q, ¬ (p = 111 ∧ q = b) → tF h3 p q = tF h p q) ∧ tA h3 = tA h ∧ tN h3 = tN h
/-- a fault stands -/
noncomputable def mFt (h : zH) (e : Nat) : Prop := tF h 111 29 = .int (Int32.ofNat e) ∧ 0 < e ∧ e < 100000
section MF
variable {h h1 h2 h3 : zH} {b e : Nat} {X : Int32}
theorem mSet_of (hf : tFd h 111 b) (hs : tSh (tSF h 111 b (.int X))) : mSet b X h (tSF h 111 b (.int X)) := ⟨hs, tF_same hf, fun _ _ hn => tF_nz hn, tA_tSF _ _ _ _, tN_tSF _ _ _ _⟩
theorem tG_setm {tt : zT} {G : zG} {cd : zK} {bc bs : Nat} {rt : Option FieldType} {M : zM} {Q : zQ} {Z : zX} {f : Bool} {pc : Nat} {L : zL} {st : List Value} {c n : Nat} (hf : tFd h 111 b) (hs : tSh (tSF h 111 b (.int X))) (k : ∀ h3, mSet b X h h3 → tG tt G cd bc bs rt M Q Z f pc L st h3 c n) : tG tt G cd bc bs rt M Q Z f pc L st (tSF h 111 b (.int X)) c n := k _ (mSet_of hf hs)
theorem mFr_r (hs : tSh h) : mFr h h := ⟨hs, fun _ _ _ => rfl, fun _ _ _ _ => rfl, rfl, mLo_r⟩
theorem mFr_t (a : mFr h h1) (k : mFr h1 h2) : mFr h h2 := ⟨k.1, fun p q z => (k.2.1 p q z).trans (a.2.1 p q z), fun p z w y => (k.2.2.1 p z w y).trans (a.2.2.1 p z w y), k.2.2.2.1.trans a.2.2.2.1, mLo_t (a.2.1 111 30 (fun z => by have z := z.2; unfold mFs at z; omega)) a.2.2.2.2 k.2.2.2.2⟩
theorem mFr_s (a : mFr h h1) (k : mSet b X h1 h2) (hb : mFs b) : mFr h h2 := ⟨k.1, fun p q z => (k.2.2.1 p q (fun w => z ⟨w.1, w.2.symm ▸ hb⟩)).trans (a.2.1 p q z), fun p z w y => (congrFun k.2.2.2.1 p).trans (a.2.2.1 p z w y), k.2.2.2.2.trans a.2.2.2.1, mLo_A k.2.2.2.1 a.2.2.2.2⟩
theorem nFs {q : Nat} (h : q = 27 ∨ q = 30 ∨ q = 1 ∨ q = 46 ∨ q = 47) : ¬ ((111 : Nat) = 111 ∧ mFs q) := fun z => by
  have z := z.2
  unfold mFs at z
  omega
theorem mFr_T (a : mFr h h1) : tA h1 132 = tA h 132 := a.2.2.1 132 (by decide) (by decide) (by decide)
theorem mFr_27 (a : mFr h h1) : tF h1 111 27 = tF h 111 27 := a.2.1 111 27 (nFs (by decide))
theorem mFr_30 (a : mFr h h1) : tF h1 111 30 = tF h 111 30 := a.2.1 111 30 (nFs (by decide))
theorem mFr_n (a : mFr h h1) : mn h1 = mn h := by unfold mn; rw [mFr_27 a]
theorem mFr_46 (a : mFr h h1) : tF h1 111 46 = tF h 111 46 := a.2.1 111 46 (nFs (by decide))
theorem mFr_47 (a : mFr h h1) : tF h1 111 47 = tF h 111 47 := a.2.1 111 47 (nFs (by decide))
theorem mI_x (k : mSet b X h h3) : tvI (tF h3 111 b) = X := congrArg tvI k.2.1
theorem mI_o {q : Nat} (k : mSet b X h h3) (hq : q ≠ b) : tF h3 111 q = tF h 111 q := k.2.2.1 111 q (fun z => hq z.2)
theorem mEn_o (k : mSet b X h h3) (h1 : b ≠ 31) (h2 : b ≠ 30) : mEn h3 = mEn h := by
  unfold mEn
  rw [mI_o k (fun z => h1 z.symm), mI_o k (fun z => h2 z.symm), k.2.2.2.1]
theorem mSk_o (k : mSet b X h h3) (h1 : b ≠ 34) : mSk h3 = mSk h := by
  unfold mSk
  rw [mI_o k (fun z => h1 z.symm), k.2.2.2.1]
theorem mSk_len : (mSk h).length = (tvI (tF h 111 34)).toNatClampNeg := by unfold mSk; rw [List.length_reverse, List.length_map, List.length_range]
/-- the fault stays over other fields -/
theorem mFt_s (k : mFt h e) (s : mSet b X h h3) (hb : b ≠ 29) : mFt h3 e := ⟨(mI_o s (fun z => hb z.symm)).trans k.1, k.2⟩
theorem mFt_n (k : mFt h e) : ¬ tvI (tF h 111 29) = 0 := by
  rw [k.1]
  intro z
  have z : Int32.ofNat e = 0 := z
  have y := zofI (e := e) (by have := k.2; omega)
  rw [z] at y
  have : ((0 : Int32)).toInt = 0 := rfl
  have := k.2
  omega
theorem mP_0 (p : mP h) : tvI (tF h 111 29) = 0 := by rw [p.1]; rfl
theorem mPl (p : mP h) : (tvI (tF h 111 28)).toInt = ((ms h).1 : Int) := by
  show _ = ((tvI (tF h 111 28)).toNatClampNeg : Int)
  rw [zclE]
  have := p.2.1
  omega
theorem mNl {n : Nat} (p : mP h) (hn : mn h = n) : (tvI (tF h 111 27)).toInt = (n : Int) := by
  rw [← hn]
  show _ = ((tvI (tF h 111 27)).toNatClampNeg : Int)
  rw [zclE]
  have := p.2.1
  omega
theorem mCl (p : mP h) : (tvI (tF h 111 33)).toInt = ((ms h).2.1 : Int) := by
  show _ = ((tvI (tF h 111 33)).toNatClampNeg : Int)
  rw [zclE]
  have := p.2.2.1
  omega
theorem mPle {n : Nat} (p : mP h) (hn : mn h = n) : (ms h).1 ≤ n := by
  have := mPl p
  have := mNl p hn
  have := p.2.1
  omega
/-- the place was set -/
theorem mTo {n v : Nat} (p : mP h) (hn : mn h = n) (s : mSet 28 X h h3) (hx : X.toInt = v) (hv : v ≤ n) : mP h3 ∧ ms h3 = rA v (ms h) ∧ mSk h3 = mSk h := by
  have e1 := mNl p hn
  obtain ⟨a, b, c, d, e, g, i, j, t1, t2⟩ := p
  have NN : tN h3 = tN h := s.2.2.2.2
  refine ⟨⟨(mI_o s (by decide)).trans a, ?_, ?_, ?_, ?_, ?_, ?_, ?_, by rw [NN]; exact t1, by rw [NN]; exact t2⟩, ?_, mSk_o s (by decide)⟩
  · rw [mI_x s, mI_o s (by decide)]; omega
  · rw [mI_o s (by decide)]; exact c
  · rw [mI_o s (by decide)]; exact d
  · rw [mI_o s (by decide)]; exact e
  · rw [mI_o s (by decide)]; exact g
  · rw [s.2.2.2.1, s.2.2.2.2]; exact i
  · exact j
  · unfold ms
    rw [mI_x s, mI_o s (by decide), mEn_o s (by decide) (by decide), zof_cl hx]
    rfl
/-- one more is counted -/
theorem mCnt (p : mP h) (h8 : (ms h).2.1 ≠ 80) (s : mSet 33 (tvI (tF h 111 33) + 1) h h3) : mP h3 ∧ ms h3 = ((ms h).1, (ms h).2.1 + 1, (ms h).2.2) ∧ mSk h3 = mSk h := by
  have e1 := mCl p
  have e2 : (tvI (tF h 111 33) + 1).toInt = (((ms h).2.1 + 1 : Nat) : Int) := zincN e1 (by have := p.2.2.1; omega)
  obtain ⟨a, b, c, d, e, g, i, j, t1, t2⟩ := p
  have NN : tN h3 = tN h := s.2.2.2.2
  refine ⟨⟨(mI_o s (by decide)).trans a, ?_, ?_, ?_, ?_, ?_, ?_, ?_, by rw [NN]; exact t1, by rw [NN]; exact t2⟩, ?_, mSk_o s (by decide)⟩
  · rw [mI_o s (by decide), mI_o s (by decide)]; exact b
  · rw [mI_x s]; omega
  · rw [mI_o s (by decide)]; exact d
  · rw [mI_o s (by decide)]; exact e
  · rw [mI_o s (by decide)]; exact g
  · rw [s.2.2.2.1, s.2.2.2.2]; exact i
  · exact j
  · unfold ms
    rw [mI_x s, mI_o s (by decide), mEn_o s (by decide) (by decide), zof_cl e2]
    rfl
theorem mSte (p : mP h) (s : mSet 46 X h h3) : mP h3 ∧ ms h3 = ms h ∧ mSk h3 = mSk h := by
  obtain ⟨a, b, c, d, e, g, i, j, t1, t2⟩ := p
  have e1 := mEn_o s (by decide) (by decide)
  have e2 := mSk_o s (by decide)
  have NN : tN h3 = tN h := s.2.2.2.2
  refine ⟨⟨(mI_o s (by decide)).trans a, ?_, ?_, ?_, ?_, ?_, ?_, ?_, by rw [NN]; exact t1, by rw [NN]; exact t2⟩, ?_, e2⟩
  · rw [mI_o s (by decide), mI_o s (by decide)]; exact b
  · rw [mI_o s (by decide)]; exact c
  · rw [mI_o s (by decide)]; exact d
  · rw [mI_o s (by decide)]; exact e
  · rw [mI_o s (by decide)]; exact g
  · rw [s.2.2.2.1, s.2.2.2.2]; exact i
  · exact j
  · unfold ms
    rw [mI_o s (by decide), mI_o s (by decide), e1]
/-- a fault is set -/
theorem mFt_of {a y : Int32} {k w : Nat} (s : mSet 29 (1 + 8 * a + y) h h3) (ha : a.toInt = k) (hk : k ≤ 400) (hy : y.toInt = w) (hw : w ≤ 7) : mFt h3 (1 + 8 * k + w) := ⟨by rw [s.2.1, zfa ha hk hy hw], by omega, by omega⟩
/-- the top, and off with it: the depth follows by the caller -/
theorem mSk_top (hk : 0 < (tvI (tF h 111 34)).toNatClampNeg) : mSk h = (tA h 142 ((tvI (tF h 111 34)).toNatClampNeg - 1)).toNatClampNeg :: ((List.range ((tvI (tF h 111 34)).toNatClampNeg - 1)).map (fun i => (tA h 142 i).toNatClampNeg)).reverse := by
  unfold mSk
  obtain ⟨k, e⟩ : ∃ k, (tvI (tF h 111 34)).toNatClampNeg = k + 1 := ⟨_, (Nat.sub_add_cancel hk).symm⟩
  rw [e, List.range_succ, List.map_append, List.reverse_append]
  rfl
theorem mSk_nil (hk : (tvI (tF h 111 34)).toNatClampNeg = 0) : mSk h = [] := by
  unfold mSk
  rw [hk]
  rfl
theorem mD_o (k : mSet b X h h3) (h1 : b ≠ 32) (h2 : b ≠ 34) (d : mD h) : mD h3 := by
  unfold mD
  rw [mI_o k (fun z => h1 z.symm), mSk_o k h2]
  exact d
theorem mSk_pop (p : mP h) (hne : mSk h ≠ []) (s : mSet 34 (tvI (tF h 111 34) - 1) h h3) : mP h3 ∧ mSk h3 = (mSk h).tail ∧ ms h3 = ms h ∧ tF h3 111 32 = tF h 111 32 := by
  have hk : 0 < (tvI (tF h 111 34)).toNatClampNeg := by
    rcases Nat.eq_zero_or_pos (tvI (tF h 111 34)).toNatClampNeg with z | z
    · exact absurd (mSk_nil z) hne
    · exact z
  have e0 : (tvI (tF h 111 34)).toInt = ((tvI (tF h 111 34)).toNatClampNeg : Int) := by rw [zclE]; have := p.2.2.2.2.1; omega
  have e1 : (tvI (tF h 111 34) - 1).toInt = (tvI (tF h 111 34)).toInt - 1 := zsub1 p.2.2.2.2.1
  have e2 : (tvI (tF h 111 34) - 1).toNatClampNeg = (tvI (tF h 111 34)).toNatClampNeg - 1 := by rw [zclE, e1]; omega
  obtain ⟨a, b, c, d, e, g, i, j, t1, t2⟩ := p
  have NN : tN h3 = tN h := s.2.2.2.2
  refine ⟨⟨(mI_o s (by decide)).trans a, ?_, ?_, ?_, ?_, ?_, ?_, ?_, by rw [NN]; exact t1, by rw [NN]; exact t2⟩, ?_, ?_, mI_o s (by decide)⟩
  · rw [mI_o s (by decide), mI_o s (by decide)]; exact b
  · rw [mI_o s (by decide)]; exact c
  · rw [mI_o s (by decide)]; exact d
  · rw [mI_x s, e1]; omega
  · rw [mI_o s (by decide)]; exact g
  · rw [s.2.2.2.1, s.2.2.2.2]; exact i
  · exact j
  · rw [mSk_top hk]
    unfold mSk
    rw [mI_x s, e2, s.2.2.2.1]
    rfl
  · unfold ms
    rw [mI_o s (by decide), mI_o s (by decide), mEn_o s (by decide) (by decide)]
/-- the depth goes down by one -/
theorem mDn (p : mP h) (s : mSet 32 (tvI (tF h 111 32) - 1) h h3) {k : Nat} (hd : (tvI (tF h 111 32)).toInt = ((k + 1 : Nat) : Int)) (hk : k = mDp (mSk h)) : mP h3 ∧ mSk h3 = mSk h ∧ ms h3 = ms h ∧ mD h3 := by
  have e1 : (tvI (tF h 111 32) - 1).toInt = (tvI (tF h 111 32)).toInt - 1 := zsub1 (by omega)
  have e2 := mSk_o s (by decide)
  obtain ⟨a, b, c, d, e, g, i, j, t1, t2⟩ := p
  have NN : tN h3 = tN h := s.2.2.2.2
  refine ⟨⟨(mI_o s (by decide)).trans a, ?_, ?_, ?_, ?_, ?_, ?_, ?_, by rw [NN]; exact t1, by rw [NN]; exact t2⟩, e2, ?_, ?_⟩
  · rw [mI_o s (by decide), mI_o s (by decide)]; exact b
  · rw [mI_o s (by decide)]; exact c
  · rw [mI_o s (by decide)]; exact d
  · rw [mI_o s (by decide)]; exact e
  · rw [mI_o s (by decide)]; exact g
  · rw [s.2.2.2.1, s.2.2.2.2]; exact i
  · exact j
  · unfold ms
    rw [mI_o s (by decide), mI_o s (by decide), mEn_o s (by decide) (by decide)]
  · unfold mD
    rw [mI_x s, e1, e2, hd, hk]
    omega
theorem mUp (p : mP h) (s : mSet 32 (tvI (tF h 111 32) + 1) h h3) {k : Nat} (hd : (tvI (tF h 111 32)).toInt = (k : Int)) (hk : k ≤ 1000) : mP h3 ∧ mSk h3 = mSk h ∧ ms h3 = ms h ∧ (tvI (tF h3 111 32)).toInt = ((k + 1 : Nat) : Int) := by
  have e1 := zincN hd (by omega)
  have e2 := mSk_o s (by decide)
  obtain ⟨a, b, c, d, e, g, i, j, t1, t2⟩ := p
  have NN : tN h3 = tN h := s.2.2.2.2
  refine ⟨⟨(mI_o s (by decide)).trans a, ?_, ?_, ?_, ?_, ?_, ?_, ?_, by rw [NN]; exact t1, by rw [NN]; exact t2⟩, e2, ?_, ?_⟩
  · rw [mI_o s (by decide), mI_o s (by decide)]; exact b
  · rw [mI_o s (by decide)]; exact c
  · rw [mI_o s (by decide)]; exact d
  · rw [mI_o s (by decide)]; exact e
  · rw [mI_o s (by decide)]; exact g
  · rw [s.2.2.2.1, s.2.2.2.2]; exact i
  · exact j
  · unfold ms
    rw [mI_o s (by decide), mI_o s (by decide), mEn_o s (by decide) (by decide)]
  · rw [mI_x s, e1]
/-- laid on the pile -/
theorem mPush {x : Int32} {kd : Nat} (hs : tSh h) (p : mP h) (hx : 0 ≤ x.toInt) (hf : tIn h 142 kd (tvI (tF h 111 34))) (hf2 : tFd (tSA h 142 (tvI (tF h 111 34)).toNatClampNeg x) 111 34) : mFr h (tSF (tSA h 142 (tvI (tF h 111 34)).toNatClampNeg x) 111 34 (.int (tvI (tF h 111 34) + 1))) ∧ mP (tSF (tSA h 142 (tvI (tF h 111 34)).toNatClampNeg x) 111 34 (.int (tvI (tF h 111 34) + 1))) ∧ mSk (tSF (tSA h 142 (tvI (tF h 111 34)).toNatClampNeg x) 111 34 (.int (tvI (tF h 111 34) + 1))) = x.toNatClampNeg :: mSk h ∧ ms (tSF (tSA h 142 (tvI (tF h 111 34)).toNatClampNeg x) 111 34 (.int (tvI (tF h 111 34) + 1))) = ms h ∧ tF (tSF (tSA h 142 (tvI (tF h 111 34)).toNatClampNeg x) 111 34 (.int (tvI (tF h 111 34) + 1))) 111 32 = tF h 111 32 := by
  have hw := hw_111_34 (x := tvI (tF h 111 34) + 1) hf2 (tSh_SA hs)
  have e := mSet_of hf2 hw
  generalize tSF (tSA h 142 (tvI (tF h 111 34)).toNatClampNeg x) 111 34 (.int (tvI (tF h 111 34) + 1)) = h3 at e
  have hF : ∀ b, b ≠ 34 → tF h3 111 b = tF h 111 b := fun b hb => (mI_o e hb).trans (by rw [tF_tSA])
  have h34 : tvI (tF h3 111 34) = tvI (tF h 111 34) + 1 := mI_x e
  have hA : tA h3 = fun p q => if p = 142 ∧ q = (tvI (tF h 111 34)).toNatClampNeg then x else tA h p q := e.2.2.2.1.trans (tA_tSA hf.cell _ _)
  have hr := hf.rg
  have e0 : (tvI (tF h 111 34)).toInt = ((tvI (tF h 111 34)).toNatClampNeg : Int) := by rw [zclE]; omega
  have hl := p.2.2.2.2.2.2.2.2.2
  have e1 := zincN e0 (by omega)
  have e2 : (tvI (tF h 111 34) + 1).toNatClampNeg = (tvI (tF h 111 34)).toNatClampNeg + 1 := zof_cl e1
  have hE : ∀ p, p ≠ 142 → tA h3 p = tA h p := fun p hp => by rw [hA]; funext q; exact if_neg (fun w => hp w.1)
  obtain ⟨a, b, c, d, e9, g, i, j, t1, t2⟩ := p
  have NN : tN h3 = tN h := e.2.2.2.2.trans (tN_tSA _ _ _ _)
  refine ⟨⟨e.1, fun p q z => (e.2.2.1 p q (fun w => z ⟨w.1, by unfold mFs; omega⟩)).trans (by rw [tF_tSA]), fun p _ _ z => hE p z, NN, mLo_p (hE 133 (by decide)) (hE 134 (by decide))⟩, ⟨(hF 29 (by decide)).trans a, ?_, ?_, ?_, ?_, ?_, ?_, ?_, by rw [NN]; exact t1, by rw [NN]; exact t2⟩, ?_, ?_, hF 32 (by decide)⟩
  · rw [hF 28 (by decide), hF 27 (by decide)]; exact b
  · rw [hF 33 (by decide)]; exact c
  · rw [hF 31 (by decide)]; exact d
  · rw [h34, e1]; omega
  · rw [hF 30 (by decide)]; exact g
  · intro q hq
    rw [NN] at hq
    rw [hA]
    show 0 ≤ (if 142 = 142 ∧ q = _ then x else tA h 142 q : Int32).toInt
    by_cases z : q = (tvI (tF h 111 34)).toNatClampNeg
    · rw [if_pos ⟨rfl, z⟩]; exact hx
    · rw [if_neg (fun w => z w.2)]; exact i q hq
  · exact j
  · unfold mSk
    rw [h34, e2, List.range_succ, List.map_append, List.reverse_append, hA]
    show [(if 142 = 142 ∧ (tvI (tF h 111 34)).toNatClampNeg = (tvI (tF h 111 34)).toNatClampNeg then x else _ : Int32).toNatClampNeg] ++ _ = _
    rw [if_pos ⟨rfl, rfl⟩]
    refine congrArg (fun z => x.toNatClampNeg :: z) (congrArg List.reverse (List.map_congr_left (fun i hi => ?_)))
    have hi := List.mem_range.mp hi
    show (if 142 = 142 ∧ i = _ then x else tA h 142 i : Int32).toNatClampNeg = _
    rw [if_neg (fun z => by omega)]
  · unfold ms mEn
    rw [hF 28 (by decide), hF 33 (by decide), hF 31 (by decide), hF 30 (by decide), hE 133 (by decide), hE 134 (by decide)]
/-- told on -/
theorem mEnt {s v : Int32} {k1 k2 : Nat} {i1 i2 : Int32} (hs : tSh h) (p : mP h) (h0 : 0 ≤ s.toInt ∧ 0 ≤ v.toInt) (hi1 : i1 = 500 * tvI (tF h 111 30) + tvI (tF h 111 31)) (hi2 : i2 = 500 * tvI (tF h 111 30) + tvI (tF h 111 31)) (f1 : tIn h 133 k1 i1) (f2 : tIn (tSA h 133 i1.toNatClampNeg s) 134 k2 i2) (f3 : tFd (tSA (tSA h 133 i1.toNatClampNeg s) 134 i2.toNatClampNeg v) 111 31) : mFr h (tSF (tSA (tSA h 133 i1.toNatClampNeg s) 134 i2.toNatClampNeg v) 111 31 (.int (tvI (tF h 111 31) + 1))) ∧ mP (tSF (tSA (tSA h 133 i1.toNatClampNeg s) 134 i2.toNatClampNeg v) 111 31 (.int (tvI (tF h 111 31) + 1))) ∧ mSk (tSF (tSA (tSA h 133 i1.toNatClampNeg s) 134 i2.toNatClampNeg v) 111 31 (.int (tvI (tF h 111 31) + 1))) = mSk h ∧ ms (tSF (tSA (tSA h 133 i1.toNatClampNeg s) 134 i2.toNatClampNeg v) 111 31 (.int (tvI (tF h 111 31) + 1))) = rU (mCode s.toNatClampNeg v.toNatClampNeg) (ms h) ∧ tF (tSF (tSA (tSA h 133 i1.toNatClampNeg s) 134 i2.toNatClampNeg v) 111 31 (.int (tvI (tF h 111 31) + 1))) 111 32 = tF h 111 32 := by
  have hw := hw_111_31 (x := tvI (tF h 111 31) + 1) f3 (tSh_SA (tSh_SA hs))
  have e := mSet_of f3 hw
  have hr := f1.rg
  generalize tSF (tSA (tSA h 133 i1.toNatClampNeg s) 134 i2.toNatClampNeg v) 111 31 (.int (tvI (tF h 111 31) + 1)) = h3 at e
  have hF : ∀ b, b ≠ 31 → tF h3 111 b = tF h 111 b := fun b hb => (mI_o e hb).trans (by rw [tF_tSA, tF_tSA])
  have h31 : tvI (tF h3 111 31) = tvI (tF h 111 31) + 1 := mI_x e
  have hA : tA h3 = fun p q => if p = 134 ∧ q = i2.toNatClampNeg then v else if p = 133 ∧ q = i1.toNatClampNeg then s else tA h p q := e.2.2.2.1.trans ((tA_tSA f2.cell _ _).trans (by rw [tA_tSA f1.cell]))
  obtain ⟨a, b, c, d, e9, g, i, j, t1, t2⟩ := p
  have n1 : (500 * tvI (tF h 111 30)).toInt = 500 * (tvI (tF h 111 30)).toInt := by
    rw [Int32.toInt_mul, show (500 : Int32).toInt = 500 from rfl]
    exact Int.bmod_eq_of_le (by show (-2147483648 : Int) ≤ 500 * (tvI (tF h 111 30)).toInt; omega) (by show 500 * (tvI (tF h 111 30)).toInt < (2147483648 : Int); omega)
  have n2 : i1.toInt = 500 * (tvI (tF h 111 30)).toInt + (tvI (tF h 111 31)).toInt := by
    rw [hi1, Int32.toInt_add, n1]
    exact Int.bmod_eq_of_le (by show (-2147483648 : Int) ≤ 500 * (tvI (tF h 111 30)).toInt + (tvI (tF h 111 31)).toInt; omega) (by show 500 * (tvI (tF h 111 30)).toInt + (tvI (tF h 111 31)).toInt < (2147483648 : Int); omega)
  have n3 : i1.toNatClampNeg = 500 * (tvI (tF h 111 30)).toNatClampNeg + (tvI (tF h 111 31)).toNatClampNeg := by
    rw [zclE, zclE, zclE, n2]
    omega
  have n4 : i2 = i1 := hi2.trans hi1.symm
  have e0 : (tvI (tF h 111 31)).toInt = ((tvI (tF h 111 31)).toNatClampNeg : Int) := by rw [zclE]; omega
  have e1 := zincN e0 (by omega)
  have e2 : (tvI (tF h 111 31) + 1).toNatClampNeg = (tvI (tF h 111 31)).toNatClampNeg + 1 := zof_cl e1
  have hE : ∀ p, p ≠ 133 → p ≠ 134 → tA h3 p = tA h p := fun p hp hq => by
    rw [hA]; funext q
    show (if p = 134 ∧ q = _ then v else if p = 133 ∧ q = _ then s else tA h p q) = _
    rw [if_neg (fun w => hq w.1), if_neg (fun w => hp w.1)]
  have hS : tA h3 133 = fun q => if q = i1.toNatClampNeg then s else tA h 133 q := by
    rw [hA]; funext q
    show (if 133 = 134 ∧ q = _ then v else if 133 = 133 ∧ q = _ then s else tA h 133 q) = _
    rw [if_neg (fun w => absurd w.1 (by decide))]
    by_cases z : q = i1.toNatClampNeg
    · rw [if_pos ⟨rfl, z⟩, if_pos z]
    · rw [if_neg (fun w => z w.2), if_neg z]
  have hV : tA h3 134 = fun q => if q = i1.toNatClampNeg then v else tA h 134 q := by
    rw [hA]; funext q
    show (if 134 = 134 ∧ q = i2.toNatClampNeg then v else if 134 = 133 ∧ q = _ then s else tA h 134 q) = _
    rw [n4]
    by_cases z : q = i1.toNatClampNeg
    · rw [if_pos ⟨rfl, z⟩, if_pos z]
    · rw [if_neg (fun w => z w.2), if_neg z, if_neg (fun w => absurd w.1 (by decide))]
  have NN : tN h3 = tN h := e.2.2.2.2.trans ((tN_tSA _ _ _ _).trans (tN_tSA _ _ _ _))
  refine ⟨⟨e.1, fun p q z => (e.2.2.1 p q (fun w => z ⟨w.1, by unfold mFs; omega⟩)).trans (by rw [tF_tSA, tF_tSA]), fun p z y _ => hE p z y, NN, fun q hq => ⟨by rw [hS]; exact if_neg (by rw [n3]; omega), by rw [hV]; exact if_neg (by rw [n3]; omega)⟩⟩, ⟨(hF 29 (by decide)).trans a, ?_, ?_, ?_, ?_, ?_, ?_, ?_, by rw [NN]; exact t1, by rw [NN]; exact t2⟩, ?_, ?_, hF 32 (by decide)⟩
  · rw [hF 28 (by decide), hF 27 (by decide)]; exact b
  · rw [hF 33 (by decide)]; exact c
  · rw [h31, e1]; constructor <;> omega
  · rw [hF 34 (by decide)]; exact e9
  · rw [hF 30 (by decide)]; exact g
  · rw [hE 142 (by decide) (by decide), NN]; exact i
  · exact j
  · unfold mSk
    rw [hF 34 (by decide), hE 142 (by decide) (by decide)]
  · unfold ms rU mEn
    rw [hF 28 (by decide), hF 33 (by decide), hF 30 (by decide), h31, e2, List.range_succ, List.map_append, hS, hV]
    refine Prod.ext rfl (Prod.ext rfl ?_)
    show List.map _ _ ++ [mCode _ _] = List.map _ _ ++ [_]
    refine congr (congrArg HAppend.hAppend (List.map_congr_left (fun i hi => ?_))) ?_
    · have hi := List.mem_range.mp hi
      dsimp only
      rw [if_neg (by rw [n3]; omega), if_neg (by rw [n3]; omega)]
    · show [mCode (if _ = i1.toNatClampNeg then s else _ : Int32).toNatClampNeg (if _ = i1.toNatClampNeg then v else _ : Int32).toNatClampNeg] = _
      rw [if_pos n3.symm, if_pos n3.symm]
/-- a whole step's frame -/
noncomputable def mFq (h h2 : zH) : Prop := tSh h2 ∧ (∀ p b, ¬ (p = 111 ∧ (mFs b ∨ b = 46)) → tF h2 p b = tF h p b) ∧ (∀ p, p ≠ 133 → p ≠ 134 → p ≠ 142 → tA h2 p = tA h p) ∧ tN h2 = tN h ∧ mLo h h2
theorem mFq_f (k : mFr h h2) : mFq h h2 := ⟨k.1, fun p b z => k.2.1 p b (fun w => z ⟨w.1, Or.inl w.2⟩), k.2.2.1, k.2.2.2⟩
theorem mFq_t (a : mFq h h1) (k : mFq h1 h2) : mFq h h2 := ⟨k.1, fun p q z => (k.2.1 p q z).trans (a.2.1 p q z), fun p z w y => (k.2.2.1 p z w y).trans (a.2.2.1 p z w y), k.2.2.2.1.trans a.2.2.2.1, mLo_t (a.2.1 111 30 (fun z => by have z := z.2; unfold mFs at z; omega)) a.2.2.2.2 k.2.2.2.2⟩
theorem mFq_s (a : mFq h h1) (k : mSet b X h1 h2) (hb : mFs b ∨ b = 46) : mFq h h2 := ⟨k.1, fun p q z => (k.2.2.1 p q (fun w => z ⟨w.1, w.2.symm ▸ hb⟩)).trans (a.2.1 p q z), fun p z w y => (congrFun k.2.2.2.1 p).trans (a.2.2.1 p z w y), k.2.2.2.2.trans a.2.2.2.1, mLo_A k.2.2.2.1 a.2.2.2.2⟩
theorem mFq_T (a : mFq h h1) : tA h1 132 = tA h 132 := a.2.2.1 132 (by decide) (by decide) (by decide)
theorem mFq_n (a : mFq h h1) : mn h1 = mn h := by
  unfold mn
  rw [a.2.1 111 27 (fun z => by have z := z.2; unfold mFs at z; omega)]
noncomputable def mFw (h h2 : zH) : Prop := tSh h2 ∧ (∀ p b, ¬ (p = 111 ∧ (mFs b ∨ b = 46 ∨ b = 47)) → tF h2 p b = tF h p b) ∧ (∀ p, p ≠ 133 → p ≠ 134 → p ≠ 142 → tA h2 p = tA h p) ∧ tN h2 = tN h ∧ mLo h h2
theorem mFw_q (k : mFq h h2) : mFw h h2 := ⟨k.1, fun p b z => k.2.1 p b (fun w => z ⟨w.1, w.2.elim Or.inl (fun y => Or.inr (Or.inl y))⟩), k.2.2.1, k.2.2.2⟩
theorem mFw_t (a : mFw h h1) (k : mFw h1 h2) : mFw h h2 := ⟨k.1, fun p q z => (k.2.1 p q z).trans (a.2.1 p q z), fun p z w y => (k.2.2.1 p z w y).trans (a.2.2.1 p z w y), k.2.2.2.1.trans a.2.2.2.1, mLo_t (a.2.1 111 30 (fun z => by have z := z.2; unfold mFs at z; omega)) a.2.2.2.2 k.2.2.2.2⟩
theorem mFw_s (a : mFw h h1) (k : mSet b X h1 h2) (hb : mFs b ∨ b = 46 ∨ b = 47) : mFw h h2 := ⟨k.1, fun p q z => (k.2.2.1 p q (fun w => z ⟨w.1, w.2.symm ▸ hb⟩)).trans (a.2.1 p q z), fun p z w y => (congrFun k.2.2.2.1 p).trans (a.2.2.1 p z w y), k.2.2.2.2.trans a.2.2.2.1, mLo_A k.2.2.2.1 a.2.2.2.2⟩
theorem mFw_T (a : mFw h h1) : tA h1 132 = tA h 132 := a.2.2.1 132 (by decide) (by decide) (by decide)
theorem mFw_i {q : Nat} (a : mFw h h1) (hq : ¬ (mFs q ∨ q = 46 ∨ q = 47)) : tF h1 111 q = tF h 111 q := a.2.1 111 q (fun z => hq z.2)
theorem mFq_47 (a : mFq h h1) : tF h1 111 47 = tF h 111 47 := a.2.1 111 47 (fun z => by have z := z.2; unfold mFs at z; omega)
theorem mFw_27 (a : mFw h h1) : tF h1 111 27 = tF h 111 27 := mFw_i a (fun z => by unfold mFs at z; omega)
theorem mFw_n (a : mFw h h1) : mn h1 = mn h := by
  unfold mn
  rw [mFw_27 a]
noncomputable def stN (x : Int32) : Nat := if x.toInt < 0 then 99 else x.toInt.toNat
noncomputable def mst (h : zH) : rMs := (stN (tvI (tF h 111 46)), mSk h, ms h)
end MF
/-- a byte, or -1 behind the end -/
noncomputable def sgm (T : Nat → Int32) (n p : Nat) (c : Int32) : Prop := (p < n ∧ c = T p) ∨ (¬ p < n ∧ c = -1)
theorem sgm_k {T : Nat → Int32} {n p : Nat} {c : Int32} (s : sgm T n p c) (k : Int32) (hk : 0 ≤ k.toInt) : c = k ↔ p < n ∧ T p = k := by
  rcases s with ⟨a, rfl⟩ | ⟨a, rfl⟩
  · exact ⟨fun z => ⟨a, z⟩, fun z => z.2⟩
  · exact ⟨fun z => by rw [← z] at hk; exact absurd hk (by decide), fun z => absurd z.1 a⟩
theorem sgm_d {T : Nat → Int32} {n p : Nat} {c : Int32} (s : sgm T n p c) : (48 ≤ c.toInt ∧ c.toInt ≤ 57) ↔ (p < n ∧ 48 ≤ (T p).toInt ∧ (T p).toInt ≤ 57) := by
  rcases s with ⟨a, rfl⟩ | ⟨a, rfl⟩
  · exact ⟨fun z => ⟨a, z⟩, fun z => z.2⟩
  · have : ((-1 : Int32)).toInt = -1 := by decide
    exact ⟨fun z => by omega, fun z => absurd z.1 a⟩
theorem mpos {h : zH} (hf : 0 ≤ (tvI (tF h 111 28)).toInt ∧ 0 ≤ (tvI (tF h 111 27)).toInt) : ((tvI (tF h 111 28)).toInt < (tvI (tF h 111 27)).toInt) ↔ (ms h).1 < mn h := by
  show _ ↔ (tvI (tF h 111 28)).toNatClampNeg < (tvI (tF h 111 27)).toNatClampNeg
  rw [zclE, zclE]
  omega
theorem g_sign {G : zG} (hG : G.1 = zProg) (hX : G.2.1 = ztx) {h : zH} {T : Nat → Int32} {n : Nat} (hs : tSh h) (hT : tA h 132 = T) (hN : mn h = n) (h0 : 0 ≤ (tvI (tF h 111 28)).toInt ∧ 0 ≤ (tvI (tF h 111 27)).toInt) : tC zTt G 202 [.ref 111] h (fun w h2 => (∃ c, w = some (.int c) ∧ sgm T n (ms h).1 c) ∧ h = h2) := by
  refine tC_in (by rw [hG]; rfl) (fun dp => ?_)
  have g0 := mFr_r hs
  refine tw_aload rfl rfl ?_
  refine tw_getS rfl (hi_111_28 hs) ?_
  refine tw_aload rfl rfl ?_
  refine tw_getS rfl (hi_111_27 hs) ?_
  refine tw_ic_ge rfl (fun q365 => ?_) (fun q365 => ?_)
  · try dsimp only [tvI_i, tvJ_j, tvR_r] at q365
    refine tw_push rfl ?_
    exact tw_iret rfl ⟨⟨_, rfl, Or.inr ⟨fun z => absurd ((mpos h0).mpr (by rw [hN]; exact z)) (Int.not_lt.mpr q365), rfl⟩⟩, rfl⟩
  · try dsimp only [tvI_i, tvJ_j, tvR_r] at q365
    refine tw_aload rfl rfl ?_
    refine tw_getS rfl (hs_111_35 hs) ?_
    refine tw_aload rfl rfl ?_
    refine tw_getS rfl (hi_111_28 hs) ?_
    refine tw_bald rfl (fun f366 => ?_)
    refine tw_goto rfl ?_
    exact tw_iret rfl ⟨⟨_, rfl, Or.inl ⟨by rw [← hN]; exact (mpos h0).mp q365, congrFun hT _⟩⟩, rfl⟩
theorem g_isDigit {G : zG} (hG : G.1 = zProg) {h : zH} {c : Int32} : tC zTt G 204 [.int c] h (fun w h2 => tBo (48 ≤ c.toInt ∧ c.toInt ≤ 57) w ∧ h = h2) := by
  refine tC_in (by rw [hG]; rfl) (fun dp => ?_)
  refine tw_iload rfl rfl ?_
  refine tw_push rfl ?_
  refine tw_ic_lt rfl (fun q367 => ?_) (fun q367 => ?_)
  · try dsimp only [tvI_i, tvJ_j, tvR_r] at q367
    refine tw_push rfl ?_
    have c489 : (48 : Int32).toInt = 48 := rfl
    have c579 : (57 : Int32).toInt = 57 := rfl
    exact tw_iret rfl ⟨Or.inr ⟨by omega, rfl⟩, rfl⟩
  · try dsimp only [tvI_i, tvJ_j, tvR_r] at q367
    refine tw_iload rfl rfl ?_
    refine tw_push rfl ?_
    refine tw_ic_gt rfl (fun q368 => ?_) (fun q368 => ?_)
    · try dsimp only [tvI_i, tvJ_j, tvR_r] at q368
      refine tw_push rfl ?_
      have c489 : (48 : Int32).toInt = 48 := rfl
      have c579 : (57 : Int32).toInt = 57 := rfl
      exact tw_iret rfl ⟨Or.inr ⟨by omega, rfl⟩, rfl⟩
    · try dsimp only [tvI_i, tvJ_j, tvR_r] at q368
      refine tw_push rfl ?_
      refine tw_goto rfl ?_
      have c489 : (48 : Int32).toInt = 48 := rfl
      have c579 : (57 : Int32).toInt = 57 := rfl
      exact tw_iret rfl ⟨Or.inl ⟨by omega, rfl⟩, rfl⟩
theorem g_blanks {G : zG} (hG : G.1 = zProg) (hX : G.2.1 = ztx) {h : zH} {T : Nat → Int32} {n : Nat} (hs : tSh h) (hp : mP h) (hT : tA h 132 = T) (hN : mn h = n)  : tC zTt G 203 [.ref 111] h (fun w h2 => w = none ∧ mFr h h2 ∧ mP h2 ∧ ms h2 = rA (rB T n (ms h).1) (ms h) ∧ mSk h2 = mSk h ∧ tF h2 111 32 = tF h 111 32) := by
  refine tC_in (by rw [hG]; rfl) (fun dp => ?_)
  have g0 := mFr_r hs
  have hpn : (ms h).1 ≤ n := mPle hp hN
  refine tG_loop (zW_mono zTt G dp) (zW_conj zTt G dp) (V := fun pc L st h9 _ _ => pc = 0 ∧ st = [] ∧ ∃ h1, h1 = h9 ∧ mFr h h1 ∧ mP h1 ∧ (ms h1).2 = (ms h).2 ∧ mSk h1 = mSk h ∧ tF h1 111 32 = tF h 111 32 ∧ rB T n (ms h1).1 = rB T n (ms h).1 ∧ L = [some (.ref 111)]) ?_ (⟨rfl, rfl, _, rfl, g0, hp, rfl, rfl, rfl, rfl, rfl⟩)
  rintro _ _ _ _ _ _ ⟨rfl, rfl, h1, rfl, g1, p1, e1, e2, e3, e4, rfl⟩
  refine tw_aload rfl rfl ?_
  refine tw_virt0 rfl (g_sign hG hX (g1).1 ((mFr_T g1).trans hT) ((mFr_n g1).trans hN) ⟨p1.2.1.1, by have := p1.2.1; omega⟩) (fun wp369 hp369 p369 => ?_)
  obtain ⟨⟨cp369, rfl, kp369⟩, rfl⟩ := p369
  refine tw_push rfl ?_
  refine tw_ic_ne rfl (fun q370 => ?_) (fun q370 => ?_)
  · try dsimp only [tvI_i, tvJ_j, tvR_r] at q370
    have q370i := zneq (Y := 32) (by decide) q370
    have hb : (ms h1).1 = rB T n (ms h).1 := by rw [← e4, rB_n (fun z => q370 ((sgm_k kp369 32 (by decide)).mpr z))]
    exact tw_vret rfl ⟨rfl, g1, p1, Prod.ext hb e1, e2, e3⟩
  · try dsimp only [tvI_i, tvJ_j, tvR_r] at q370
    have q370i := zeqi (Y := 32) (by decide) q370
    refine tw_aload rfl rfl ?_
    refine tw_dup rfl ?_
    refine tw_getS rfl (hi_111_28 (g1).1) ?_
    refine tw_push rfl ?_
    refine tw_iadd rfl ?_
    refine tw_put rfl (fun f371 => ?_)
    refine tG_setm f371 (hw_111_28 f371 (g1).1) (fun hf371 ef371 => ?_)
    try dsimp only [tvI_i] at ef371
    have gf371 := mFr_s g1 ef371 (by unfold mFs; omega)
    have wf371 := (sgm_k kp369 32 (by decide)).mp q370
    obtain ⟨pf371, sf371, tf371⟩ := mTo p1 ((mFr_n g1).trans hN) ef371 (v := (ms h1).1 + 1) (zincN (mPl p1) (by have := mPle p1 ((mFr_n g1).trans hN); have := p1.2.1; have := mNl p1 ((mFr_n g1).trans hN); omega)) wf371.1
    refine tw_goto rfl ?_
    exact tG_cut (zW_mono zTt G dp) (Or.inr ⟨rfl, rfl, _, rfl, gf371, pf371, (by rw [sf371]; exact e1), tf371.trans e2, (mI_o ef371 (by decide)).trans e3, (by rw [sf371]; exact (rB_y wf371).symm.trans e4), rfl⟩)
theorem z_blanks {G : zG} (hG : G.1 = zProg) (hX : G.2.1 = ztx) {h : zH} {T : Nat → Int32} {n : Nat} (hs : tSh h) {ef : Nat} (hp : mFt h ef) (hT : tA h 132 = T) (hN : mn h = n) (h0 : 0 ≤ (tvI (tF h 111 28)).toInt ∧ 0 ≤ (tvI (tF h 111 27)).toInt) : tC zTt G 203 [.ref 111] h (fun w h2 => w = none ∧ mFr h h2 ∧ mFt h2 ef ∧ (0 ≤ (tvI (tF h2 111 28)).toInt ∧ 0 ≤ (tvI (tF h2 111 27)).toInt)) := by
  refine tC_in (by rw [hG]; rfl) (fun dp => ?_)
  have g0 := mFr_r hs
  refine tG_loop (zW_mono zTt G dp) (zW_conj zTt G dp) (V := fun pc L st h9 _ _ => pc = 0 ∧ st = [] ∧ ∃ h1, h1 = h9 ∧ mFr h h1 ∧ mFt h1 ef ∧ (0 ≤ (tvI (tF h1 111 28)).toInt ∧ 0 ≤ (tvI (tF h1 111 27)).toInt) ∧ L = [some (.ref 111)]) ?_ (⟨rfl, rfl, _, rfl, g0, hp, h0, rfl⟩)
  rintro _ _ _ _ _ _ ⟨rfl, rfl, h1, rfl, g1, z1, h0, rfl⟩
  refine tw_aload rfl rfl ?_
  refine tw_virt0 rfl (g_sign hG hX (g1).1 ((mFr_T g1).trans hT) ((mFr_n g1).trans hN) h0) (fun wp372 hp372 p372 => ?_)
  obtain ⟨⟨cp372, rfl, kp372⟩, rfl⟩ := p372
  refine tw_push rfl ?_
  refine tw_ic_ne rfl (fun q373 => ?_) (fun q373 => ?_)
  · try dsimp only [tvI_i, tvJ_j, tvR_r] at q373
    have q373i := zneq (Y := 32) (by decide) q373
    exact tw_vret rfl ⟨rfl, g1, z1, h0⟩
  · try dsimp only [tvI_i, tvJ_j, tvR_r] at q373
    have q373i := zeqi (Y := 32) (by decide) q373
    refine tw_aload rfl rfl ?_
    refine tw_dup rfl ?_
    refine tw_getS rfl (hi_111_28 (g1).1) ?_
    refine tw_push rfl ?_
    refine tw_iadd rfl ?_
    refine tw_put rfl (fun f374 => ?_)
    refine tG_setm f374 (hw_111_28 f374 (g1).1) (fun hf374 ef374 => ?_)
    try dsimp only [tvI_i] at ef374
    have gf374 := mFr_s g1 ef374 (by unfold mFs; omega)
    have zf374 := mFt_s z1 ef374 (by decide)
    have wf374 := (sgm_k kp372 32 (by decide)).mp q373
    have if374 : 0 ≤ (tvI (tF hf374 111 28)).toInt ∧ 0 ≤ (tvI (tF hf374 111 27)).toInt := by rw [mI_x ef374, mI_o ef374 (by decide)]; have y := (mpos h0).mpr (by rw [((mFr_n g1).trans hN)]; exact wf374.1); exact ⟨by rw [zj1 h0.1 y]; omega, h0.2⟩
    refine tw_goto rfl ?_
    exact tG_cut (zW_mono zTt G dp) (Or.inr ⟨rfl, rfl, _, rfl, gf374, zf374, if374, rfl⟩)
theorem g_fails {G : zG} (hG : G.1 = zProg) (hX : G.2.1 = ztx) {h : zH} {T : Nat → Int32} {n : Nat} (hs : tSh h) (hp : mP h) (hT : tA h 132 = T) (hN : mn h = n) {y a : Int32} {w b : Nat} (hw : y.toInt = w) (hw7 : w ≤ 7) (hb : a.toInt = b) (hb4 : b ≤ 400) : tC zTt G 201 [.ref 111, .int y, .int a] h (fun w9 h2 => w9 = none ∧ mFr h h2 ∧ mFt h2 (1 + 8 * b + w) ∧ tF h2 111 28 = tF h 111 28 ∧ tF h2 111 27 = tF h 111 27) := by
  refine tC_in (by rw [hG]; rfl) (fun dp => ?_)
  have g0 := mFr_r hs
  have hpn : (ms h).1 ≤ n := mPle hp hN
  refine tw_aload rfl rfl ?_
  refine tw_aload rfl rfl ?_
  refine tw_getS rfl (hi_111_29 hs) ?_
  refine tw_if_ne rfl (fun q375 => ?_) (fun q375 => ?_)
  · try dsimp only [tvI_i, tvJ_j, tvR_r] at q375
    have q375i := zneq (Y := 0) (by decide) q375
    refine tw_aload rfl rfl ?_
    refine tw_getS rfl (hi_111_29 hs) ?_
    refine tw_put rfl (fun f376 => ?_)
    refine tG_setm f376 (hw_111_29 f376 (g0).1) (fun hf376 ef376 => ?_)
    try dsimp only [tvI_i] at ef376
    have gf376 := mFr_s g0 ef376 (by unfold mFs; omega)
    exact absurd (mP_0 hp) q375
  · try dsimp only [tvI_i, tvJ_j, tvR_r] at q375
    have q375i := zeqi (Y := 0) (by decide) q375
    refine tw_push rfl ?_
    refine tw_push rfl ?_
    refine tw_iload rfl rfl ?_
    refine tw_imul rfl ?_
    refine tw_iadd rfl ?_
    refine tw_iload rfl rfl ?_
    refine tw_iadd rfl ?_
    refine tw_goto rfl ?_
    refine tw_put rfl (fun f377 => ?_)
    refine tG_setm f377 (hw_111_29 f377 (g0).1) (fun hf377 ef377 => ?_)
    try dsimp only [tvI_i] at ef377
    have gf377 := mFr_s g0 ef377 (by unfold mFs; omega)
    exact tw_vret rfl ⟨rfl, gf377, mFt_of ef377 hb hb4 hw hw7, mI_o ef377 (by decide), mI_o ef377 (by decide)⟩
theorem z_fails {G : zG} (hG : G.1 = zProg) (hX : G.2.1 = ztx) {h : zH} {T : Nat → Int32} {n : Nat} (hs : tSh h) {ef : Nat} (hp : mFt h ef) (hT : tA h 132 = T) (hN : mn h = n) {y a : Int32} : tC zTt G 201 [.ref 111, .int y, .int a] h (fun w9 h2 => w9 = none ∧ mFr h h2 ∧ mFt h2 ef ∧ tF h2 111 28 = tF h 111 28 ∧ tF h2 111 27 = tF h 111 27) := by
  refine tC_in (by rw [hG]; rfl) (fun dp => ?_)
  have g0 := mFr_r hs
  refine tw_aload rfl rfl ?_
  refine tw_aload rfl rfl ?_
  refine tw_getS rfl (hi_111_29 hs) ?_
  refine tw_if_ne rfl (fun q378 => ?_) (fun q378 => ?_)
  · try dsimp only [tvI_i, tvJ_j, tvR_r] at q378
    have q378i := zneq (Y := 0) (by decide) q378
    refine tw_aload rfl rfl ?_
    refine tw_getS rfl (hi_111_29 hs) ?_
    refine tw_put rfl (fun f379 => ?_)
    refine tG_setm f379 (hw_111_29 f379 (g0).1) (fun hf379 ef379 => ?_)
    try dsimp only [tvI_i] at ef379
    have gf379 := mFr_s g0 ef379 (by unfold mFs; omega)
    have hz : mFt hf379 ef := ⟨ef379.2.1.trans ((hi_111_29 hs).symm.trans hp.1), hp.2⟩
    exact tw_vret rfl ⟨rfl, gf379, hz, mI_o ef379 (by decide), mI_o ef379 (by decide)⟩
  · try dsimp only [tvI_i, tvJ_j, tvR_r] at q378
    have q378i := zeqi (Y := 0) (by decide) q378
    refine tw_push rfl ?_
    refine tw_push rfl ?_
    refine tw_iload rfl rfl ?_
    refine tw_imul rfl ?_
    refine tw_iadd rfl ?_
    refine tw_iload rfl rfl ?_
    refine tw_iadd rfl ?_
    refine tw_goto rfl ?_
    refine tw_put rfl (fun f380 => ?_)
    refine tG_setm f380 (hw_111_29 f380 (g0).1) (fun hf380 ef380 => ?_)
    try dsimp only [tvI_i] at ef380
    have gf380 := mFr_s g0 ef380 (by unfold mFs; omega)
    exact absurd q378 (mFt_n hp)
theorem mpos_k {h h2 : zH} (h0 : 0 ≤ (tvI (tF h 111 28)).toInt ∧ 0 ≤ (tvI (tF h 111 27)).toInt) (a : tF h2 111 28 = tF h 111 28) (b : tF h2 111 27 = tF h 111 27) : 0 ≤ (tvI (tF h2 111 28)).toInt ∧ 0 ≤ (tvI (tF h2 111 27)).toInt := by rw [a, b]; exact h0
theorem mpos_p {h : zH} (p : mP h) : 0 ≤ (tvI (tF h 111 28)).toInt ∧ 0 ≤ (tvI (tF h 111 27)).toInt := by have := p.2.1; exact ⟨by omega, by omega⟩
theorem m80 {h : zH} (p : mP h) (q : tvI (tF h 111 33) = 80) : (ms h).2.1 = 80 := by
  have e := mCl p
  rw [q] at e
  have : (80 : Int32).toInt = 80 := rfl
  omega
theorem mn80 {h : zH} (p : mP h) (q : ¬ tvI (tF h 111 33) = 80) : (ms h).2.1 ≠ 80 := by
  intro z
  have e := mCl p
  refine q (Int32.toInt_inj.mp ?_)
  have : (80 : Int32).toInt = 80 := rfl
  omega
theorem g_entry {G : zG} (hG : G.1 = zProg) (hX : G.2.1 = ztx) {h : zH} {T : Nat → Int32} {n : Nat} (hs : tSh h) (hp : mP h) (hT : tA h 132 = T) (hN : mn h = n) {s v : Int32} (hv : 0 ≤ s.toInt ∧ 0 ≤ v.toInt) : tC zTt G 206 [.ref 111, .int s, .int v] h (fun w h2 => w = none ∧ mFr h h2 ∧ mP h2 ∧ ms h2 = rU (mCode s.toNatClampNeg v.toNatClampNeg) (ms h) ∧ mSk h2 = mSk h ∧ tF h2 111 32 = tF h 111 32) := by
  refine tC_in (by rw [hG]; rfl) (fun dp => ?_)
  have g0 := mFr_r hs
  have hpn : (ms h).1 ≤ n := mPle hp hN
  refine tw_aload rfl rfl ?_
  refine tw_getS rfl (hi_111_29 hs) ?_
  refine tw_if_ne rfl (fun q381 => ?_) (fun q381 => ?_)
  · try dsimp only [tvI_i, tvJ_j, tvR_r] at q381
    have q381i := zneq (Y := 0) (by decide) q381
    exact absurd (mP_0 hp) q381
  · try dsimp only [tvI_i, tvJ_j, tvR_r] at q381
    have q381i := zeqi (Y := 0) (by decide) q381
    refine tw_aload rfl rfl ?_
    refine tw_getS rfl (hs_111_36 hs) ?_
    refine tw_push rfl ?_
    refine tw_aload rfl rfl ?_
    refine tw_getS rfl (hi_111_30 hs) ?_
    refine tw_imul rfl ?_
    refine tw_aload rfl rfl ?_
    refine tw_getS rfl (hi_111_31 hs) ?_
    refine tw_iadd rfl ?_
    refine tw_iload rfl rfl ?_
    refine tw_iast rfl (fun f382 => ?_)
    refine tw_aload rfl rfl ?_
    refine tw_getS rfl (hs_111_37 (tSh_SA hs)) ?_
    refine tw_push rfl ?_
    refine tw_aload rfl rfl ?_
    refine tw_getS rfl (tF_a (hi_111_30 hs)) ?_
    refine tw_imul rfl ?_
    refine tw_aload rfl rfl ?_
    refine tw_getS rfl (tF_a (hi_111_31 hs)) ?_
    refine tw_iadd rfl ?_
    refine tw_iload rfl rfl ?_
    refine tw_iast rfl (fun f383 => ?_)
    refine tw_aload rfl rfl ?_
    refine tw_dup rfl ?_
    refine tw_getS rfl (tF_a (tF_a (hi_111_31 hs))) ?_
    refine tw_push rfl ?_
    refine tw_iadd rfl ?_
    refine tw_put rfl (fun f384 => ?_)
    have K := mEnt (s := s) (v := v) hs hp hv rfl rfl f382 f383 f384
    exact tw_vret rfl ⟨rfl, K.1, K.2.1, K.2.2.2.1, K.2.2.1, K.2.2.2.2⟩
theorem z_entry {G : zG} (hG : G.1 = zProg) (hX : G.2.1 = ztx) {h : zH} {T : Nat → Int32} {n : Nat} (hs : tSh h) {ef : Nat} (hp : mFt h ef) (hT : tA h 132 = T) (hN : mn h = n) {s v : Int32} : tC zTt G 206 [.ref 111, .int s, .int v] h (fun w h2 => w = none ∧ h2 = h) := by
  refine tC_in (by rw [hG]; rfl) (fun dp => ?_)
  have g0 := mFr_r hs
  refine tw_aload rfl rfl ?_
  refine tw_getS rfl (hi_111_29 hs) ?_
  refine tw_if_ne rfl (fun q385 => ?_) (fun q385 => ?_)
  · try dsimp only [tvI_i, tvJ_j, tvR_r] at q385
    have q385i := zneq (Y := 0) (by decide) q385
    exact tw_vret rfl ⟨rfl, rfl⟩
  · try dsimp only [tvI_i, tvJ_j, tvR_r] at q385
    have q385i := zeqi (Y := 0) (by decide) q385
    refine tw_aload rfl rfl ?_
    refine tw_getS rfl (hs_111_36 hs) ?_
    refine tw_push rfl ?_
    refine tw_aload rfl rfl ?_
    refine tw_getS rfl (hi_111_30 hs) ?_
    refine tw_imul rfl ?_
    refine tw_aload rfl rfl ?_
    refine tw_getS rfl (hi_111_31 hs) ?_
    refine tw_iadd rfl ?_
    refine tw_iload rfl rfl ?_
    refine tw_iast rfl (fun f386 => ?_)
    refine tw_aload rfl rfl ?_
    refine tw_getS rfl (hs_111_37 (tSh_SA hs)) ?_
    refine tw_push rfl ?_
    refine tw_aload rfl rfl ?_
    refine tw_getS rfl (tF_a (hi_111_30 hs)) ?_
    refine tw_imul rfl ?_
    refine tw_aload rfl rfl ?_
    refine tw_getS rfl (tF_a (hi_111_31 hs)) ?_
    refine tw_iadd rfl ?_
    refine tw_iload rfl rfl ?_
    refine tw_iast rfl (fun f387 => ?_)
    refine tw_aload rfl rfl ?_
    refine tw_dup rfl ?_
    refine tw_getS rfl (tF_a (tF_a (hi_111_31 hs))) ?_
    refine tw_push rfl ?_
    refine tw_iadd rfl ?_
    refine tw_put rfl (fun f388 => ?_)
    exact absurd q385 (mFt_n hp)
theorem g_counts {G : zG} (hG : G.1 = zProg) (hX : G.2.1 = ztx) {h : zH} {T : Nat → Int32} {n : Nat} (hs : tSh h) (hp : mP h) (hT : tA h 132 = T) (hN : mn h = n) {a : Int32} {b : Nat} (hb : a.toInt = b) (hb4 : b ≤ 400) : tC zTt G 207 [.ref 111, .int a] h (fun w h2 => w = none ∧ mFr h h2 ∧ (((ms h).2.1 ≠ 80 ∧ mP h2 ∧ ms h2 = ((ms h).1, (ms h).2.1 + 1, (ms h).2.2) ∧ mSk h2 = mSk h ∧ tF h2 111 32 = tF h 111 32) ∨ ((ms h).2.1 = 80 ∧ mFt h2 (1 + 8 * b + 3))) ∧ tF h2 111 28 = tF h 111 28 ∧ tF h2 111 27 = tF h 111 27) := by
  refine tC_in (by rw [hG]; rfl) (fun dp => ?_)
  have g0 := mFr_r hs
  have hpn : (ms h).1 ≤ n := mPle hp hN
  refine tw_aload rfl rfl ?_
  refine tw_getS rfl (hi_111_33 hs) ?_
  refine tw_push rfl ?_
  refine tw_ic_ne rfl (fun q389 => ?_) (fun q389 => ?_)
  · try dsimp only [tvI_i, tvJ_j, tvR_r] at q389
    have q389i := zneq (Y := 80) (by decide) q389
    refine tw_aload rfl rfl ?_
    refine tw_dup rfl ?_
    refine tw_getS rfl (hi_111_33 hs) ?_
    refine tw_push rfl ?_
    refine tw_iadd rfl ?_
    refine tw_put rfl (fun f390 => ?_)
    refine tG_setm f390 (hw_111_33 f390 (g0).1) (fun hf390 ef390 => ?_)
    try dsimp only [tvI_i] at ef390
    have gf390 := mFr_s g0 ef390 (by unfold mFs; omega)
    obtain ⟨pf390, sf390, tf390⟩ := mCnt hp (mn80 hp q389) ef390
    exact tw_vret rfl ⟨rfl, gf390, Or.inl ⟨mn80 hp q389, pf390, sf390, tf390, mI_o ef390 (by decide)⟩, mI_o ef390 (by decide), mI_o ef390 (by decide)⟩
  · try dsimp only [tvI_i, tvJ_j, tvR_r] at q389
    have q389i := zeqi (Y := 80) (by decide) q389
    refine tw_aload rfl rfl ?_
    refine tw_push rfl ?_
    refine tw_iload rfl rfl ?_
    refine tw_virt2 rfl (g_fails hG hX (g0).1 hp ((mFr_T g0).trans hT) ((mFr_n g0).trans hN) (w := 3) (b := b) rfl (by decide) hb hb4) (fun wp391 hp391 p391 => ?_)
    obtain ⟨rfl, gp391, Fp391, ip391, jp391⟩ := p391
    have ggp391 := mFr_t g0 gp391
    refine tw_aload rfl rfl ?_
    refine tw_dup rfl ?_
    refine tw_getS rfl (hi_111_33 ggp391.1) ?_
    refine tw_push rfl ?_
    refine tw_iadd rfl ?_
    refine tw_put rfl (fun f392 => ?_)
    refine tG_setm f392 (hw_111_33 f392 (ggp391).1) (fun hf392 ef392 => ?_)
    try dsimp only [tvI_i] at ef392
    have gf392 := mFr_s ggp391 ef392 (by unfold mFs; omega)
    have zf392 := mFt_s Fp391 ef392 (by decide)
    exact tw_vret rfl ⟨rfl, gf392, Or.inr ⟨m80 hp q389, zf392⟩, (mI_o ef392 (by decide)).trans ip391, (mI_o ef392 (by decide)).trans jp391⟩
theorem z_counts {G : zG} (hG : G.1 = zProg) (hX : G.2.1 = ztx) {h : zH} {T : Nat → Int32} {n : Nat} (hs : tSh h) {ef : Nat} (hp : mFt h ef) (hT : tA h 132 = T) (hN : mn h = n) {a : Int32} : tC zTt G 207 [.ref 111, .int a] h (fun w h2 => w = none ∧ mFr h h2 ∧ mFt h2 ef ∧ tF h2 111 28 = tF h 111 28 ∧ tF h2 111 27 = tF h 111 27) := by
  refine tC_in (by rw [hG]; rfl) (fun dp => ?_)
  have g0 := mFr_r hs
  refine tw_aload rfl rfl ?_
  refine tw_getS rfl (hi_111_33 hs) ?_
  refine tw_push rfl ?_
  refine tw_ic_ne rfl (fun q393 => ?_) (fun q393 => ?_)
  · try dsimp only [tvI_i, tvJ_j, tvR_r] at q393
    have q393i := zneq (Y := 80) (by decide) q393
    refine tw_aload rfl rfl ?_
    refine tw_dup rfl ?_
    refine tw_getS rfl (hi_111_33 hs) ?_
    refine tw_push rfl ?_
    refine tw_iadd rfl ?_
    refine tw_put rfl (fun f394 => ?_)
    refine tG_setm f394 (hw_111_33 f394 (g0).1) (fun hf394 ef394 => ?_)
    try dsimp only [tvI_i] at ef394
    have gf394 := mFr_s g0 ef394 (by unfold mFs; omega)
    have zf394 := mFt_s hp ef394 (by decide)
    exact tw_vret rfl ⟨rfl, gf394, zf394, mI_o ef394 (by decide), mI_o ef394 (by decide)⟩
  · try dsimp only [tvI_i, tvJ_j, tvR_r] at q393
    have q393i := zeqi (Y := 80) (by decide) q393
    refine tw_aload rfl rfl ?_
    refine tw_push rfl ?_
    refine tw_iload rfl rfl ?_
    refine tw_virt2 rfl (z_fails hG hX (g0).1 hp ((mFr_T g0).trans hT) ((mFr_n g0).trans hN)) (fun wp395 hp395 p395 => ?_)
    obtain ⟨rfl, gp395, Fp395, ip395, jp395⟩ := p395
    have ggp395 := mFr_t g0 gp395
    refine tw_aload rfl rfl ?_
    refine tw_dup rfl ?_
    refine tw_getS rfl (hi_111_33 ggp395.1) ?_
    refine tw_push rfl ?_
    refine tw_iadd rfl ?_
    refine tw_put rfl (fun f396 => ?_)
    refine tG_setm f396 (hw_111_33 f396 (ggp395).1) (fun hf396 ef396 => ?_)
    try dsimp only [tvI_i] at ef396
    have gf396 := mFr_s ggp395 ef396 (by unfold mFs; omega)
    have zf396 := mFt_s Fp395 ef396 (by decide)
    exact tw_vret rfl ⟨rfl, gf396, zf396, (mI_o ef396 (by decide)).trans ip395, (mI_o ef396 (by decide)).trans jp395⟩
theorem g_opens {G : zG} (hG : G.1 = zProg) (hX : G.2.1 = ztx) {h : zH} {T : Nat → Int32} {n : Nat} (hs : tSh h) (hp : mP h) (hT : tA h 132 = T) (hN : mn h = n) {x : Int32} (hx0 : 0 ≤ x.toInt) : tC zTt G 208 [.ref 111, .int x] h (fun w h2 => w = none ∧ mFr h h2 ∧ mP h2 ∧ mSk h2 = x.toNatClampNeg :: mSk h ∧ ms h2 = ms h ∧ tF h2 111 32 = tF h 111 32) := by
  refine tC_in (by rw [hG]; rfl) (fun dp => ?_)
  have g0 := mFr_r hs
  have hpn : (ms h).1 ≤ n := mPle hp hN
  refine tw_aload rfl rfl ?_
  refine tw_getS rfl (hs_111_45 hs) ?_
  refine tw_aload rfl rfl ?_
  refine tw_getS rfl (hi_111_34 hs) ?_
  refine tw_iload rfl rfl ?_
  refine tw_iast rfl (fun f397 => ?_)
  refine tw_aload rfl rfl ?_
  refine tw_dup rfl ?_
  refine tw_getS rfl (tF_a (hi_111_34 hs)) ?_
  refine tw_push rfl ?_
  refine tw_iadd rfl ?_
  refine tw_put rfl (fun f398 => ?_)
  have K := mPush (x := x) hs hp hx0 f397 f398
  exact tw_vret rfl ⟨rfl, K.1, K.2.1, K.2.2.1, K.2.2.2.1, K.2.2.2.2⟩
theorem mPushz {h : zH} {x : Int32} {kd ef : Nat} (hs : tSh h) (z : mFt h ef) (hf : tIn h 142 kd (tvI (tF h 111 34))) (hf2 : tFd (tSA h 142 (tvI (tF h 111 34)).toNatClampNeg x) 111 34) : mFr h (tSF (tSA h 142 (tvI (tF h 111 34)).toNatClampNeg x) 111 34 (.int (tvI (tF h 111 34) + 1))) ∧ mFt (tSF (tSA h 142 (tvI (tF h 111 34)).toNatClampNeg x) 111 34 (.int (tvI (tF h 111 34) + 1))) ef ∧ tF (tSF (tSA h 142 (tvI (tF h 111 34)).toNatClampNeg x) 111 34 (.int (tvI (tF h 111 34) + 1))) 111 28 = tF h 111 28 ∧ tF (tSF (tSA h 142 (tvI (tF h 111 34)).toNatClampNeg x) 111 34 (.int (tvI (tF h 111 34) + 1))) 111 27 = tF h 111 27 := by
  have hw := hw_111_34 (x := tvI (tF h 111 34) + 1) hf2 (tSh_SA hs)
  have e := mSet_of hf2 hw
  generalize tSF (tSA h 142 (tvI (tF h 111 34)).toNatClampNeg x) 111 34 (.int (tvI (tF h 111 34) + 1)) = h3 at e
  have hF : ∀ b, b ≠ 34 → tF h3 111 b = tF h 111 b := fun b hb => (mI_o e hb).trans (by rw [tF_tSA])
  refine ⟨⟨e.1, fun p q z => (e.2.2.1 p q (fun w => z ⟨w.1, by unfold mFs; omega⟩)).trans (by rw [tF_tSA]), fun p _ _ y => (congrFun e.2.2.2.1 p).trans (tA_nz y), e.2.2.2.2.trans (tN_tSA _ _ _ _), mLo_p ((congrFun e.2.2.2.1 133).trans (tA_nz (by decide))) ((congrFun e.2.2.2.1 134).trans (tA_nz (by decide)))⟩, ⟨(hF 29 (by decide)).trans z.1, z.2⟩, hF 28 (by decide), hF 27 (by decide)⟩
theorem z_opens {G : zG} (hG : G.1 = zProg) (hX : G.2.1 = ztx) {h : zH} {T : Nat → Int32} {n : Nat} (hs : tSh h) {ef : Nat} (hp : mFt h ef) (hT : tA h 132 = T) (hN : mn h = n) {x : Int32} : tC zTt G 208 [.ref 111, .int x] h (fun w h2 => w = none ∧ mFr h h2 ∧ mFt h2 ef ∧ tF h2 111 28 = tF h 111 28 ∧ tF h2 111 27 = tF h 111 27) := by
  refine tC_in (by rw [hG]; rfl) (fun dp => ?_)
  have g0 := mFr_r hs
  refine tw_aload rfl rfl ?_
  refine tw_getS rfl (hs_111_45 hs) ?_
  refine tw_aload rfl rfl ?_
  refine tw_getS rfl (hi_111_34 hs) ?_
  refine tw_iload rfl rfl ?_
  refine tw_iast rfl (fun f399 => ?_)
  refine tw_aload rfl rfl ?_
  refine tw_dup rfl ?_
  refine tw_getS rfl (tF_a (hi_111_34 hs)) ?_
  refine tw_push rfl ?_
  refine tw_iadd rfl ?_
  refine tw_put rfl (fun f400 => ?_)
  have K := mPushz (x := x) hs hp f399 f400
  exact tw_vret rfl ⟨rfl, K.1, K.2.1, K.2.2.1, K.2.2.2⟩
theorem mD10 {h : zH} (d : mD h) : tvI (tF h 111 32) = 10 ↔ mDp (mSk h) = 10 := by
  have d : (tvI (tF h 111 32)).toInt = (mDp (mSk h) : Int) := d
  have e : (10 : Int32).toInt = 10 := rfl
  constructor
  · intro z
    rw [z] at d
    omega
  · intro z
    refine Int32.toInt_inj.mp ?_
    omega
theorem mDp_c {c : Nat} {S : List Nat} (h : c = 50 ∨ c = 10 ∨ c = 13) : mDp (c :: S) = mDp S + 1 := if_pos h
theorem mDp_e {c : Nat} {S : List Nat} (h : ¬ (c = 50 ∨ c = 10 ∨ c = 13)) : mDp (c :: S) = mDp S := if_neg h
theorem g_opensDeep {G : zG} (hG : G.1 = zProg) (hX : G.2.1 = ztx) {h : zH} {T : Nat → Int32} {n : Nat} (hs : tSh h) (hp : mP h) (hT : tA h 132 = T) (hN : mn h = n) {x a : Int32} {b : Nat} (hx0 : 0 ≤ x.toInt) (hx : x.toNatClampNeg = 50 ∨ x.toNatClampNeg = 10 ∨ x.toNatClampNeg = 13) (hb : a.toInt = b) (hb4 : b ≤ 400) (hD : mD h) (hd10 : mDp (mSk h) ≤ 1000) : tC zTt G 209 [.ref 111, .int x, .int a] h (fun w h2 => w = none ∧ mFr h h2 ∧ ((mDp (mSk h) ≠ 10 ∧ mP h2 ∧ mSk h2 = x.toNatClampNeg :: mSk h ∧ ms h2 = ms h ∧ mD h2) ∨ (mDp (mSk h) = 10 ∧ mFt h2 (1 + 8 * b + 2) ∧ tF h2 111 28 = tF h 111 28 ∧ tF h2 111 27 = tF h 111 27))) := by
  refine tC_in (by rw [hG]; rfl) (fun dp => ?_)
  have g0 := mFr_r hs
  have hpn : (ms h).1 ≤ n := mPle hp hN
  refine tw_aload rfl rfl ?_
  refine tw_getS rfl (hi_111_32 hs) ?_
  refine tw_push rfl ?_
  refine tw_ic_ne rfl (fun q401 => ?_) (fun q401 => ?_)
  · try dsimp only [tvI_i, tvJ_j, tvR_r] at q401
    have q401i := zneq (Y := 10) (by decide) q401
    refine tw_aload rfl rfl ?_
    refine tw_dup rfl ?_
    refine tw_getS rfl (hi_111_32 hs) ?_
    refine tw_push rfl ?_
    refine tw_iadd rfl ?_
    refine tw_put rfl (fun f402 => ?_)
    refine tG_setm f402 (hw_111_32 f402 (g0).1) (fun hf402 ef402 => ?_)
    try dsimp only [tvI_i] at ef402
    have gf402 := mFr_s g0 ef402 (by unfold mFs; omega)
    obtain ⟨pf402, tf402, sf402, df402⟩ := mUp hp ef402 hD hd10
    refine tw_aload rfl rfl ?_
    refine tw_iload rfl rfl ?_
    refine tw_virt1 rfl (g_opens hG hX (gf402).1 pf402 ((mFr_T gf402).trans hT) ((mFr_n gf402).trans hN) hx0) (fun wp403 hp403 p403 => ?_)
    obtain ⟨rfl, gp403, pp403e, tp403, sp403, dp403⟩ := p403
    have ggp403 := mFr_t gf402 gp403
    have hne : mDp (mSk h) ≠ 10 := fun z => q401 ((mD10 hD).mpr z)
    exact tw_vret rfl ⟨rfl, ggp403, Or.inl ⟨hne, pp403e, by rw [tp403, tf402], sp403.trans sf402, by unfold mD; rw [dp403, tp403, tf402, mDp_c hx]; exact df402⟩⟩
  · try dsimp only [tvI_i, tvJ_j, tvR_r] at q401
    have q401i := zeqi (Y := 10) (by decide) q401
    refine tw_aload rfl rfl ?_
    refine tw_push rfl ?_
    refine tw_iload rfl rfl ?_
    refine tw_virt2 rfl (g_fails hG hX (g0).1 hp ((mFr_T g0).trans hT) ((mFr_n g0).trans hN) (w := 2) (b := b) rfl (by decide) hb hb4) (fun wp404 hp404 p404 => ?_)
    obtain ⟨rfl, gp404, Fp404, ip404, jp404⟩ := p404
    have ggp404 := mFr_t g0 gp404
    refine tw_aload rfl rfl ?_
    refine tw_dup rfl ?_
    refine tw_getS rfl (hi_111_32 ggp404.1) ?_
    refine tw_push rfl ?_
    refine tw_iadd rfl ?_
    refine tw_put rfl (fun f405 => ?_)
    refine tG_setm f405 (hw_111_32 f405 (ggp404).1) (fun hf405 ef405 => ?_)
    try dsimp only [tvI_i] at ef405
    have gf405 := mFr_s ggp404 ef405 (by unfold mFs; omega)
    have zf405 := mFt_s Fp404 ef405 (by decide)
    refine tw_aload rfl rfl ?_
    refine tw_iload rfl rfl ?_
    refine tw_virt1 rfl (z_opens hG hX (gf405).1 zf405 ((mFr_T gf405).trans hT) ((mFr_n gf405).trans hN)) (fun wp406 hp406 p406 => ?_)
    obtain ⟨rfl, gp406, Fp406, ip406, jp406⟩ := p406
    have ggp406 := mFr_t gf405 gp406
    exact tw_vret rfl ⟨rfl, ggp406, Or.inr ⟨(mD10 hD).mp q401, Fp406, ip406.trans ((mI_o ef405 (by decide)).trans ip404), jp406.trans ((mI_o ef405 (by decide)).trans jp404)⟩⟩
noncomputable def tpm (S : List Nat) (c : Int32) : Prop := (S = [] ∧ c = -1) ∨ (S ≠ [] ∧ c.toInt = ((S.headD 0 : Nat) : Int))
theorem tpm_k {S : List Nat} {c : Int32} (t : tpm S c) {k : Int32} {K : Nat} (hk : k.toInt = K) (h0 : 0 < K) : c = k ↔ S.headD 0 = K := by
  rcases t with ⟨rfl, rfl⟩ | ⟨h, e⟩
  · have : ((-1 : Int32)).toInt = -1 := by decide
    exact ⟨fun z => by rw [← z] at hk; omega, fun z => by have z : 0 = K := z; omega⟩
  · exact ⟨fun z => by rw [z] at e; omega, fun z => Int32.toInt_inj.mp (by omega)⟩
theorem tpm_i {S : List Nat} {c : Int32} (t : tpm S c) (hc : 0 ≤ c.toInt) : S ≠ [] ∧ c.toInt = ((S.headD 0 : Nat) : Int) := by
  rcases t with ⟨rfl, rfl⟩ | t
  · exact absurd hc (by decide)
  · exact t
theorem tpm_e {S : List Nat} {c : Int32} (t : tpm S c) : c.toInt = ((S.headD 0 : Nat) : Int) ∨ (S.headD 0 = 0 ∧ c.toInt = -1) := by
  rcases t with ⟨rfl, rfl⟩ | t
  · exact Or.inr ⟨rfl, by decide⟩
  · exact Or.inl t.2
theorem g_top {G : zG} (hG : G.1 = zProg) (hX : G.2.1 = ztx) {h : zH} {T : Nat → Int32} {n : Nat} (hs : tSh h) (hp : mP h) (hT : tA h 132 = T) (hN : mn h = n)  : tC zTt G 210 [.ref 111] h (fun w h2 => (∃ c, w = some (.int c) ∧ tpm (mSk h) c) ∧ h = h2) := by
  refine tC_in (by rw [hG]; rfl) (fun dp => ?_)
  have g0 := mFr_r hs
  have hpn : (ms h).1 ≤ n := mPle hp hN
  refine tw_aload rfl rfl ?_
  refine tw_getS rfl (hi_111_34 hs) ?_
  refine tw_if_ne rfl (fun q407 => ?_) (fun q407 => ?_)
  · try dsimp only [tvI_i, tvJ_j, tvR_r] at q407
    have q407i := zneq (Y := 0) (by decide) q407
    refine tw_aload rfl rfl ?_
    refine tw_getS rfl (hs_111_45 hs) ?_
    refine tw_aload rfl rfl ?_
    refine tw_getS rfl (hi_111_34 hs) ?_
    refine tw_push rfl ?_
    refine tw_isub rfl ?_
    refine tw_iald rfl (fun f408 => ?_)
    have hk : 0 < (tvI (tF h 111 34)).toNatClampNeg := by rw [zclE]; have := hp.2.2.2.2.1; omega
    have e2 : (tvI (tF h 111 34) - 1).toNatClampNeg = (tvI (tF h 111 34)).toNatClampNeg - 1 := by rw [zclE, zclE, zsub1 hp.2.2.2.2.1]; omega
    refine tw_iret rfl ⟨⟨_, rfl, Or.inr ?_⟩, rfl⟩
    rw [mSk_top hk]
    refine ⟨List.cons_ne_nil _ _, ?_⟩
    show (tA h 142 (tvI (tF h 111 34) - 1).toNatClampNeg).toInt = _
    have hl9 : (tvI (tF h 111 34) - 1).toNatClampNeg < tN h 142 := f408.rg.2
    rw [e2] at hl9
    rw [e2]
    exact (zclx (hp.2.2.2.2.2.2.1 _ hl9)).symm
  · try dsimp only [tvI_i, tvJ_j, tvR_r] at q407
    have q407i := zeqi (Y := 0) (by decide) q407
    refine tw_push rfl ?_
    refine tw_goto rfl ?_
    exact tw_iret rfl ⟨⟨_, rfl, Or.inl ⟨mSk_nil (by rw [q407]; rfl), rfl⟩⟩, rfl⟩
theorem rQ_at {T : Nat → Int32} : ∀ (w : List Int32) (p k : Nat), rQ T p w = true → k < w.length → T (p + k) = w.getD k 0
  | c :: w, p, 0, h, _ => by
    have h : (decide (T p = c) && rQ T (p + 1) w) = true := h
    rw [Bool.and_eq_true] at h
    exact of_decide_eq_true h.1
  | c :: w, p, k + 1, h, hk => by
    have h : (decide (T p = c) && rQ T (p + 1) w) = true := h
    rw [Bool.and_eq_true] at h
    have z := rQ_at w (p + 1) k h.2 (by rw [List.length_cons] at hk; omega)
    rw [show p + 1 + k = p + (k + 1) by omega] at z
    exact z
theorem rQ_of {T : Nat → Int32} : ∀ (w : List Int32) (p : Nat), (∀ k, k < w.length → T (p + k) = w.getD k 0) → rQ T p w = true
  | [], _, _ => rfl
  | c :: w, p, h => by
    show (decide (T p = c) && rQ T (p + 1) w) = true
    rw [Bool.and_eq_true]
    refine ⟨decide_eq_true (h 0 (by rw [List.length_cons]; omega)), rQ_of w (p + 1) (fun k hk => ?_)⟩
    have z := h (k + 1) (by rw [List.length_cons]; omega)
    rw [show p + (k + 1) = p + 1 + k by omega] at z
    exact z
theorem mPz {h : zH} (h0 : 0 ≤ (tvI (tF h 111 28)).toInt) : (tvI (tF h 111 28)).toInt = ((ms h).1 : Int) := by
  show _ = ((tvI (tF h 111 28)).toNatClampNeg : Int)
  rw [zclE]
  omega
theorem mNz {h : zH} {n : Nat} (h0 : 0 ≤ (tvI (tF h 111 27)).toInt) (hN : mn h = n) : (tvI (tF h 111 27)).toInt = (n : Int) := by
  rw [← hN]
  show _ = ((tvI (tF h 111 27)).toNatClampNeg : Int)
  rw [zclE]
  omega
theorem zadN {x y : Int32} {a b : Nat} (hx : x.toInt = a) (hy : y.toInt = b) (ha : a ≤ 100000) (hb : b ≤ 100000) : (x + y).toInt = ((a + b : Nat) : Int) := by
  rw [Int32.toInt_add, hx, hy]
  exact (Int.bmod_eq_of_le (by show (-2147483648 : Int) ≤ (a : Int) + b; omega) (by show (a : Int) + b < (2147483648 : Int); omega)).trans (by omega)
theorem g_stands {G : zG} (hG : G.1 = zProg) (hX : G.2.1 = ztx) {h : zH} {T : Nat → Int32} {n : Nat} (hs : tSh h) (hT : tA h 132 = T) (hN : mn h = n) {q : Nat} (hq1 : (ztx q).length ≤ 200) (h0 : 0 ≤ (tvI (tF h 111 28)).toInt ∧ 0 ≤ (tvI (tF h 111 27)).toInt) (h4 : (tvI (tF h 111 28)).toInt ≤ 1000 ∧ (tvI (tF h 111 27)).toInt ≤ 400) : tC zTt G 205 [.ref 111, .retAddr q] h (fun w h2 => tBo (rW T n (ms h).1 (ztx q) = true) w ∧ h = h2) := by
  refine tC_in (by rw [hG]; rfl) (fun dp => ?_)
  have g0 := mFr_r hs
  have c979 : (97 : Int32).toInt = 97 := rfl
  have c1229 : (122 : Int32).toInt = 122 := rfl
  have hn4 := mNz h0.2 hN
  have hp4 := mPz h0.1
  refine tw_aload rfl rfl ?_
  refine tw_getS rfl (hi_111_28 hs) ?_
  refine tw_istore rfl ?_
  refine tG_loop (zW_mono zTt G dp) (zW_conj zTt G dp) (V := fun pc L st h9 _ _ => pc = 5 ∧ st = [] ∧ h = h9 ∧ ∃ (k : Nat) (x : Int32) (l3 l4 : Option Value), x.toInt = (((ms h).1 + k : Nat) : Int) ∧ rE T n ((ms h).1 + k) = rE T n (ms h).1 ∧ (ms h).1 + k ≤ 1400 ∧ L = [some (.ref 111), some (.retAddr q), some (.int x), l3, l4]) ?_ (⟨rfl, rfl, rfl, 0, _, _, _, mPz h0.1, rfl, by have := mPz h0.1; omega, rfl⟩)
  rintro _ _ _ _ _ _ ⟨rfl, rfl, rfl, k, x, l3, l4, hx, he, hk14, rfl⟩
  refine tw_iload rfl rfl ?_
  refine tw_aload rfl rfl ?_
  refine tw_getS rfl (hi_111_27 hs) ?_
  refine tw_ic_ge rfl (fun q409 => ?_) (fun q409 => ?_)
  · try dsimp only [tvI_i, tvJ_j, tvR_r] at q409
    refine tw_iload rfl rfl ?_
    refine tw_aload rfl rfl ?_
    refine tw_getS rfl (hi_111_28 hs) ?_
    refine tw_isub rfl ?_
    refine tw_aload rfl rfl ?_
    refine tw_tlen rfl ?_
    refine tw_ic_ne rfl (fun q410 => ?_) (fun q410 => ?_)
    · try dsimp only [tvI_i, tvJ_j, tvR_r] at q410
      have q410i := zneq rfl q410
      refine tw_push rfl ?_
      refine tw_istore rfl ?_
      refine tw_push rfl ?_
      refine tw_istore rfl ?_
      have hix : x.toNatClampNeg = (ms h).1 + k := zof_cl hx
      have hTx : tA h 132 x.toNatClampNeg = T ((ms h).1 + k) := by rw [hix, hT]
      have hnd : ¬ ((ms h).1 + k < n ∧ 97 ≤ (T ((ms h).1 + k)).toInt ∧ (T ((ms h).1 + k)).toInt ≤ 122) := by
        have z0 := q409
        try rw [hTx] at z1
        try rw [hTx] at z2
        omega
      have hE9 : rE T n (ms h).1 = (ms h).1 + k := he.symm.trans (rE_n hnd)
      have hsb : (x - tvI (tF h 111 28)).toInt = ((((ms h).1 + k : Nat) : Int)) - (((ms h).1 : Nat) : Int) := zsb hx (mPz h0.1) (by omega) (by omega)
      have hLn : (Int32.ofNat (G.2.1 q).length).toInt = ((ztx q).length : Int) := by rw [hX]; exact zofI (by omega)
      have hEL : x - tvI (tF h 111 28) = Int32.ofNat (G.2.1 q).length ↔ rE T n (ms h).1 = (ms h).1 + (ztx q).length := ⟨fun z => by rw [z, hLn] at hsb; omega, fun z => Int32.toInt_inj.mp (by rw [hsb, hLn]; omega)⟩
      refine tG_loop (zW_mono zTt G dp) (zW_conj zTt G dp) (V := fun pc L st h9 _ _ => pc = 63 ∧ st = [] ∧ h = h9 ∧ ∃ (j : Nat) (y is : Int32), y.toInt = j ∧ j ≤ (ztx q).length ∧ ((is = 1 ∧ rE T n (ms h).1 = (ms h).1 + (ztx q).length ∧ ∀ i, i < j → T ((ms h).1 + i) = (ztx q).getD i 0) ∨ (is = 0 ∧ ¬ rW T n (ms h).1 (ztx q) = true)) ∧ L = [some (.ref 111), some (.retAddr q), some (.int x), some (.int is), some (.int y)]) ?_ (⟨rfl, rfl, rfl, 0, 0, _, rfl, Nat.zero_le _, Or.inr ⟨rfl, fun z => q410 (hEL.mpr (rW_e z))⟩, rfl⟩)
      rintro _ _ _ _ _ _ ⟨rfl, rfl, rfl, j, y, is, hy, hjn, his, rfl⟩
      refine tw_iload rfl rfl ?_
      refine tw_aload rfl rfl ?_
      refine tw_tlen rfl ?_
      refine tw_ic_ge rfl (fun q411 => ?_) (fun q411 => ?_)
      · try dsimp only [tvI_i, tvJ_j, tvR_r] at q411
        refine tw_iload rfl rfl ?_
        have hlen : (Int32.ofNat (G.2.1 q).length).toInt = ((ztx q).length : Int) := by rw [hX]; exact zofI (by omega)
        have hj : j = (ztx q).length := by have z := q411; omega
        rcases his with ⟨e1, e2, e3⟩ | ⟨e1, e2⟩
        · exact tw_iret rfl ⟨Or.inl ⟨rW_i.mpr ⟨e2, rQ_of _ _ (fun k hk => e3 k (by omega))⟩, congrArg (fun z => some (Value.int z)) e1⟩, rfl⟩
        · exact tw_iret rfl ⟨Or.inr ⟨e2, congrArg (fun z => some (Value.int z)) e1⟩, rfl⟩
      · try dsimp only [tvI_i, tvJ_j, tvR_r] at q411
        refine tw_iload rfl rfl ?_
        refine tw_if_eq rfl (fun q412 => ?_) (fun q412 => ?_)
        · try dsimp only [tvI_i, tvJ_j, tvR_r] at q412
          have q412i := zeqi (Y := 0) (by decide) q412
          refine tw_iload rfl rfl ?_
          have hlen : (Int32.ofNat (G.2.1 q).length).toInt = ((ztx q).length : Int) := by rw [hX]; exact zofI (by omega)
          rcases his with ⟨e1, -, -⟩ | ⟨e1, e2⟩
          · exact absurd (e1.symm.trans q412) (by decide)
          · exact tw_iret rfl ⟨Or.inr ⟨e2, congrArg (fun z => some (Value.int z)) e1⟩, rfl⟩
        · try dsimp only [tvI_i, tvJ_j, tvR_r] at q412
          have q412i := zneq (Y := 0) (by decide) q412
          refine tw_aload rfl rfl ?_
          refine tw_getS rfl (hs_111_35 hs) ?_
          refine tw_aload rfl rfl ?_
          refine tw_getS rfl (hi_111_28 hs) ?_
          refine tw_iload rfl rfl ?_
          refine tw_iadd rfl ?_
          refine tw_bald rfl (fun f413 => ?_)
          refine tw_aload rfl rfl ?_
          refine tw_iload rfl rfl ?_
          refine tw_chr rfl (fun _ => ?_)
          refine tw_ic_ne rfl (fun q414 => ?_) (fun q414 => ?_)
          · try dsimp only [tvI_i, tvJ_j, tvR_r] at q414
            have q414i := zneq rfl q414
            refine tw_push rfl ?_
            refine tw_istore rfl ?_
            refine tw_iinc rfl rfl ?_
            refine tw_goto rfl ?_
            have hlen : (Int32.ofNat (G.2.1 q).length).toInt = ((ztx q).length : Int) := by rw [hX]; exact zofI (by omega)
            have hjl : j < (ztx q).length := by have z := q411; omega
            rcases his with ⟨e1, e2, e3⟩ | ⟨e1, -⟩
            rotate_left
            · exact absurd e1 q412
            have hpy : (tvI (tF h 111 28) + y).toNatClampNeg = (ms h).1 + j := zof_cl (zadN (mPz h0.1) hy (by omega) (by omega))
            have hTy : tA h 132 (tvI (tF h 111 28) + y).toNatClampNeg = T ((ms h).1 + j) := by rw [hpy, hT]
            have ec : (G.2.1 q).getD y.toNatClampNeg 0 = (ztx q).getD j 0 := by rw [hX, zof_cl hy]
            have hc : ¬ T ((ms h).1 + j) = (ztx q).getD j 0 := fun z => q414 (hTy.trans (z.trans ec.symm))
            exact tG_cut (zW_mono zTt G dp) (Or.inr ⟨rfl, rfl, rfl, j + 1, y + 1, _, zincN hy (by omega), by omega, Or.inr ⟨rfl, fun z => hc (rQ_at _ _ _ (rW_i.mp z).2 hjl)⟩, rfl⟩)
          · try dsimp only [tvI_i, tvJ_j, tvR_r] at q414
            have q414i := zeqi rfl q414
            refine tw_push rfl ?_
            refine tw_goto rfl ?_
            refine tw_istore rfl ?_
            refine tw_iinc rfl rfl ?_
            refine tw_goto rfl ?_
            have hlen : (Int32.ofNat (G.2.1 q).length).toInt = ((ztx q).length : Int) := by rw [hX]; exact zofI (by omega)
            have hjl : j < (ztx q).length := by have z := q411; omega
            rcases his with ⟨e1, e2, e3⟩ | ⟨e1, -⟩
            rotate_left
            · exact absurd e1 q412
            have hpy : (tvI (tF h 111 28) + y).toNatClampNeg = (ms h).1 + j := zof_cl (zadN (mPz h0.1) hy (by omega) (by omega))
            have hTy : tA h 132 (tvI (tF h 111 28) + y).toNatClampNeg = T ((ms h).1 + j) := by rw [hpy, hT]
            have ec : (G.2.1 q).getD y.toNatClampNeg 0 = (ztx q).getD j 0 := by rw [hX, zof_cl hy]
            have hc : T ((ms h).1 + j) = (ztx q).getD j 0 := hTy.symm.trans (q414.trans ec)
            exact tG_cut (zW_mono zTt G dp) (Or.inr ⟨rfl, rfl, rfl, j + 1, y + 1, _, zincN hy (by omega), by omega, Or.inl ⟨rfl, e2, fun i hi => (Classical.em (i = j)).elim (fun z => by rw [z]; exact hc) (fun z => e3 i (by omega))⟩, rfl⟩)
    · try dsimp only [tvI_i, tvJ_j, tvR_r] at q410
      have q410i := zeqi rfl q410
      refine tw_push rfl ?_
      refine tw_goto rfl ?_
      refine tw_istore rfl ?_
      refine tw_push rfl ?_
      refine tw_istore rfl ?_
      have hix : x.toNatClampNeg = (ms h).1 + k := zof_cl hx
      have hTx : tA h 132 x.toNatClampNeg = T ((ms h).1 + k) := by rw [hix, hT]
      have hnd : ¬ ((ms h).1 + k < n ∧ 97 ≤ (T ((ms h).1 + k)).toInt ∧ (T ((ms h).1 + k)).toInt ≤ 122) := by
        have z0 := q409
        try rw [hTx] at z1
        try rw [hTx] at z2
        omega
      have hE9 : rE T n (ms h).1 = (ms h).1 + k := he.symm.trans (rE_n hnd)
      have hsb : (x - tvI (tF h 111 28)).toInt = ((((ms h).1 + k : Nat) : Int)) - (((ms h).1 : Nat) : Int) := zsb hx (mPz h0.1) (by omega) (by omega)
      have hLn : (Int32.ofNat (G.2.1 q).length).toInt = ((ztx q).length : Int) := by rw [hX]; exact zofI (by omega)
      have hEL : x - tvI (tF h 111 28) = Int32.ofNat (G.2.1 q).length ↔ rE T n (ms h).1 = (ms h).1 + (ztx q).length := ⟨fun z => by rw [z, hLn] at hsb; omega, fun z => Int32.toInt_inj.mp (by rw [hsb, hLn]; omega)⟩
      refine tG_loop (zW_mono zTt G dp) (zW_conj zTt G dp) (V := fun pc L st h9 _ _ => pc = 63 ∧ st = [] ∧ h = h9 ∧ ∃ (j : Nat) (y is : Int32), y.toInt = j ∧ j ≤ (ztx q).length ∧ ((is = 1 ∧ rE T n (ms h).1 = (ms h).1 + (ztx q).length ∧ ∀ i, i < j → T ((ms h).1 + i) = (ztx q).getD i 0) ∨ (is = 0 ∧ ¬ rW T n (ms h).1 (ztx q) = true)) ∧ L = [some (.ref 111), some (.retAddr q), some (.int x), some (.int is), some (.int y)]) ?_ (⟨rfl, rfl, rfl, 0, 0, _, rfl, Nat.zero_le _, Or.inl ⟨rfl, hEL.mp q410, fun i hi => by omega⟩, rfl⟩)
      rintro _ _ _ _ _ _ ⟨rfl, rfl, rfl, j, y, is, hy, hjn, his, rfl⟩
      refine tw_iload rfl rfl ?_
      refine tw_aload rfl rfl ?_
      refine tw_tlen rfl ?_
      refine tw_ic_ge rfl (fun q415 => ?_) (fun q415 => ?_)
      · try dsimp only [tvI_i, tvJ_j, tvR_r] at q415
        refine tw_iload rfl rfl ?_
        have hlen : (Int32.ofNat (G.2.1 q).length).toInt = ((ztx q).length : Int) := by rw [hX]; exact zofI (by omega)
        have hj : j = (ztx q).length := by have z := q415; omega
        rcases his with ⟨e1, e2, e3⟩ | ⟨e1, e2⟩
        · exact tw_iret rfl ⟨Or.inl ⟨rW_i.mpr ⟨e2, rQ_of _ _ (fun k hk => e3 k (by omega))⟩, congrArg (fun z => some (Value.int z)) e1⟩, rfl⟩
        · exact tw_iret rfl ⟨Or.inr ⟨e2, congrArg (fun z => some (Value.int z)) e1⟩, rfl⟩
      · try dsimp only [tvI_i, tvJ_j, tvR_r] at q415
        refine tw_iload rfl rfl ?_
        refine tw_if_eq rfl (fun q416 => ?_) (fun q416 => ?_)
        · try dsimp only [tvI_i, tvJ_j, tvR_r] at q416
          have q416i := zeqi (Y := 0) (by decide) q416
          refine tw_iload rfl rfl ?_
          have hlen : (Int32.ofNat (G.2.1 q).length).toInt = ((ztx q).length : Int) := by rw [hX]; exact zofI (by omega)
          rcases his with ⟨e1, -, -⟩ | ⟨e1, e2⟩
          · exact absurd (e1.symm.trans q416) (by decide)
          · exact tw_iret rfl ⟨Or.inr ⟨e2, congrArg (fun z => some (Value.int z)) e1⟩, rfl⟩
        · try dsimp only [tvI_i, tvJ_j, tvR_r] at q416
          have q416i := zneq (Y := 0) (by decide) q416
          refine tw_aload rfl rfl ?_
          refine tw_getS rfl (hs_111_35 hs) ?_
          refine tw_aload rfl rfl ?_
          refine tw_getS rfl (hi_111_28 hs) ?_
          refine tw_iload rfl rfl ?_
          refine tw_iadd rfl ?_
          refine tw_bald rfl (fun f417 => ?_)
          refine tw_aload rfl rfl ?_
          refine tw_iload rfl rfl ?_
          refine tw_chr rfl (fun _ => ?_)
          refine tw_ic_ne rfl (fun q418 => ?_) (fun q418 => ?_)
          · try dsimp only [tvI_i, tvJ_j, tvR_r] at q418
            have q418i := zneq rfl q418
            refine tw_push rfl ?_
            refine tw_istore rfl ?_
            refine tw_iinc rfl rfl ?_
            refine tw_goto rfl ?_
            have hlen : (Int32.ofNat (G.2.1 q).length).toInt = ((ztx q).length : Int) := by rw [hX]; exact zofI (by omega)
            have hjl : j < (ztx q).length := by have z := q415; omega
            rcases his with ⟨e1, e2, e3⟩ | ⟨e1, -⟩
            rotate_left
            · exact absurd e1 q416
            have hpy : (tvI (tF h 111 28) + y).toNatClampNeg = (ms h).1 + j := zof_cl (zadN (mPz h0.1) hy (by omega) (by omega))
            have hTy : tA h 132 (tvI (tF h 111 28) + y).toNatClampNeg = T ((ms h).1 + j) := by rw [hpy, hT]
            have ec : (G.2.1 q).getD y.toNatClampNeg 0 = (ztx q).getD j 0 := by rw [hX, zof_cl hy]
            have hc : ¬ T ((ms h).1 + j) = (ztx q).getD j 0 := fun z => q418 (hTy.trans (z.trans ec.symm))
            exact tG_cut (zW_mono zTt G dp) (Or.inr ⟨rfl, rfl, rfl, j + 1, y + 1, _, zincN hy (by omega), by omega, Or.inr ⟨rfl, fun z => hc (rQ_at _ _ _ (rW_i.mp z).2 hjl)⟩, rfl⟩)
          · try dsimp only [tvI_i, tvJ_j, tvR_r] at q418
            have q418i := zeqi rfl q418
            refine tw_push rfl ?_
            refine tw_goto rfl ?_
            refine tw_istore rfl ?_
            refine tw_iinc rfl rfl ?_
            refine tw_goto rfl ?_
            have hlen : (Int32.ofNat (G.2.1 q).length).toInt = ((ztx q).length : Int) := by rw [hX]; exact zofI (by omega)
            have hjl : j < (ztx q).length := by have z := q415; omega
            rcases his with ⟨e1, e2, e3⟩ | ⟨e1, -⟩
            rotate_left
            · exact absurd e1 q416
            have hpy : (tvI (tF h 111 28) + y).toNatClampNeg = (ms h).1 + j := zof_cl (zadN (mPz h0.1) hy (by omega) (by omega))
            have hTy : tA h 132 (tvI (tF h 111 28) + y).toNatClampNeg = T ((ms h).1 + j) := by rw [hpy, hT]
            have ec : (G.2.1 q).getD y.toNatClampNeg 0 = (ztx q).getD j 0 := by rw [hX, zof_cl hy]
            have hc : T ((ms h).1 + j) = (ztx q).getD j 0 := hTy.symm.trans (q418.trans ec)
            exact tG_cut (zW_mono zTt G dp) (Or.inr ⟨rfl, rfl, rfl, j + 1, y + 1, _, zincN hy (by omega), by omega, Or.inl ⟨rfl, e2, fun i hi => (Classical.em (i = j)).elim (fun z => by rw [z]; exact hc) (fun z => e3 i (by omega))⟩, rfl⟩)
  · try dsimp only [tvI_i, tvJ_j, tvR_r] at q409
    refine tw_aload rfl rfl ?_
    refine tw_getS rfl (hs_111_35 hs) ?_
    refine tw_iload rfl rfl ?_
    refine tw_bald rfl (fun f419 => ?_)
    refine tw_push rfl ?_
    refine tw_ic_lt rfl (fun q420 => ?_) (fun q420 => ?_)
    · try dsimp only [tvI_i, tvJ_j, tvR_r] at q420
      refine tw_iload rfl rfl ?_
      refine tw_aload rfl rfl ?_
      refine tw_getS rfl (hi_111_28 hs) ?_
      refine tw_isub rfl ?_
      refine tw_aload rfl rfl ?_
      refine tw_tlen rfl ?_
      refine tw_ic_ne rfl (fun q421 => ?_) (fun q421 => ?_)
      · try dsimp only [tvI_i, tvJ_j, tvR_r] at q421
        have q421i := zneq rfl q421
        refine tw_push rfl ?_
        refine tw_istore rfl ?_
        refine tw_push rfl ?_
        refine tw_istore rfl ?_
        have hix : x.toNatClampNeg = (ms h).1 + k := zof_cl hx
        have hTx : tA h 132 x.toNatClampNeg = T ((ms h).1 + k) := by rw [hix, hT]
        have hnd : ¬ ((ms h).1 + k < n ∧ 97 ≤ (T ((ms h).1 + k)).toInt ∧ (T ((ms h).1 + k)).toInt ≤ 122) := by
          have z0 := q409
          have z1 := q420
          try rw [hTx] at z1
          try rw [hTx] at z2
          omega
        have hE9 : rE T n (ms h).1 = (ms h).1 + k := he.symm.trans (rE_n hnd)
        have hsb : (x - tvI (tF h 111 28)).toInt = ((((ms h).1 + k : Nat) : Int)) - (((ms h).1 : Nat) : Int) := zsb hx (mPz h0.1) (by omega) (by omega)
        have hLn : (Int32.ofNat (G.2.1 q).length).toInt = ((ztx q).length : Int) := by rw [hX]; exact zofI (by omega)
        have hEL : x - tvI (tF h 111 28) = Int32.ofNat (G.2.1 q).length ↔ rE T n (ms h).1 = (ms h).1 + (ztx q).length := ⟨fun z => by rw [z, hLn] at hsb; omega, fun z => Int32.toInt_inj.mp (by rw [hsb, hLn]; omega)⟩
        refine tG_loop (zW_mono zTt G dp) (zW_conj zTt G dp) (V := fun pc L st h9 _ _ => pc = 63 ∧ st = [] ∧ h = h9 ∧ ∃ (j : Nat) (y is : Int32), y.toInt = j ∧ j ≤ (ztx q).length ∧ ((is = 1 ∧ rE T n (ms h).1 = (ms h).1 + (ztx q).length ∧ ∀ i, i < j → T ((ms h).1 + i) = (ztx q).getD i 0) ∨ (is = 0 ∧ ¬ rW T n (ms h).1 (ztx q) = true)) ∧ L = [some (.ref 111), some (.retAddr q), some (.int x), some (.int is), some (.int y)]) ?_ (⟨rfl, rfl, rfl, 0, 0, _, rfl, Nat.zero_le _, Or.inr ⟨rfl, fun z => q421 (hEL.mpr (rW_e z))⟩, rfl⟩)
        rintro _ _ _ _ _ _ ⟨rfl, rfl, rfl, j, y, is, hy, hjn, his, rfl⟩
        refine tw_iload rfl rfl ?_
        refine tw_aload rfl rfl ?_
        refine tw_tlen rfl ?_
        refine tw_ic_ge rfl (fun q422 => ?_) (fun q422 => ?_)
        · try dsimp only [tvI_i, tvJ_j, tvR_r] at q422
          refine tw_iload rfl rfl ?_
          have hlen : (Int32.ofNat (G.2.1 q).length).toInt = ((ztx q).length : Int) := by rw [hX]; exact zofI (by omega)
          have hj : j = (ztx q).length := by have z := q422; omega
          rcases his with ⟨e1, e2, e3⟩ | ⟨e1, e2⟩
          · exact tw_iret rfl ⟨Or.inl ⟨rW_i.mpr ⟨e2, rQ_of _ _ (fun k hk => e3 k (by omega))⟩, congrArg (fun z => some (Value.int z)) e1⟩, rfl⟩
          · exact tw_iret rfl ⟨Or.inr ⟨e2, congrArg (fun z => some (Value.int z)) e1⟩, rfl⟩
        · try dsimp only [tvI_i, tvJ_j, tvR_r] at q422
          refine tw_iload rfl rfl ?_
          refine tw_if_eq rfl (fun q423 => ?_) (fun q423 => ?_)
          · try dsimp only [tvI_i, tvJ_j, tvR_r] at q423
            have q423i := zeqi (Y := 0) (by decide) q423
            refine tw_iload rfl rfl ?_
            have hlen : (Int32.ofNat (G.2.1 q).length).toInt = ((ztx q).length : Int) := by rw [hX]; exact zofI (by omega)
            rcases his with ⟨e1, -, -⟩ | ⟨e1, e2⟩
            · exact absurd (e1.symm.trans q423) (by decide)
            · exact tw_iret rfl ⟨Or.inr ⟨e2, congrArg (fun z => some (Value.int z)) e1⟩, rfl⟩
          · try dsimp only [tvI_i, tvJ_j, tvR_r] at q423
            have q423i := zneq (Y := 0) (by decide) q423
            refine tw_aload rfl rfl ?_
            refine tw_getS rfl (hs_111_35 hs) ?_
            refine tw_aload rfl rfl ?_
            refine tw_getS rfl (hi_111_28 hs) ?_
            refine tw_iload rfl rfl ?_
            refine tw_iadd rfl ?_
            refine tw_bald rfl (fun f424 => ?_)
            refine tw_aload rfl rfl ?_
            refine tw_iload rfl rfl ?_
            refine tw_chr rfl (fun _ => ?_)
            refine tw_ic_ne rfl (fun q425 => ?_) (fun q425 => ?_)
            · try dsimp only [tvI_i, tvJ_j, tvR_r] at q425
              have q425i := zneq rfl q425
              refine tw_push rfl ?_
              refine tw_istore rfl ?_
              refine tw_iinc rfl rfl ?_
              refine tw_goto rfl ?_
              have hlen : (Int32.ofNat (G.2.1 q).length).toInt = ((ztx q).length : Int) := by rw [hX]; exact zofI (by omega)
              have hjl : j < (ztx q).length := by have z := q422; omega
              rcases his with ⟨e1, e2, e3⟩ | ⟨e1, -⟩
              rotate_left
              · exact absurd e1 q423
              have hpy : (tvI (tF h 111 28) + y).toNatClampNeg = (ms h).1 + j := zof_cl (zadN (mPz h0.1) hy (by omega) (by omega))
              have hTy : tA h 132 (tvI (tF h 111 28) + y).toNatClampNeg = T ((ms h).1 + j) := by rw [hpy, hT]
              have ec : (G.2.1 q).getD y.toNatClampNeg 0 = (ztx q).getD j 0 := by rw [hX, zof_cl hy]
              have hc : ¬ T ((ms h).1 + j) = (ztx q).getD j 0 := fun z => q425 (hTy.trans (z.trans ec.symm))
              exact tG_cut (zW_mono zTt G dp) (Or.inr ⟨rfl, rfl, rfl, j + 1, y + 1, _, zincN hy (by omega), by omega, Or.inr ⟨rfl, fun z => hc (rQ_at _ _ _ (rW_i.mp z).2 hjl)⟩, rfl⟩)
            · try dsimp only [tvI_i, tvJ_j, tvR_r] at q425
              have q425i := zeqi rfl q425
              refine tw_push rfl ?_
              refine tw_goto rfl ?_
              refine tw_istore rfl ?_
              refine tw_iinc rfl rfl ?_
              refine tw_goto rfl ?_
              have hlen : (Int32.ofNat (G.2.1 q).length).toInt = ((ztx q).length : Int) := by rw [hX]; exact zofI (by omega)
              have hjl : j < (ztx q).length := by have z := q422; omega
              rcases his with ⟨e1, e2, e3⟩ | ⟨e1, -⟩
              rotate_left
              · exact absurd e1 q423
              have hpy : (tvI (tF h 111 28) + y).toNatClampNeg = (ms h).1 + j := zof_cl (zadN (mPz h0.1) hy (by omega) (by omega))
              have hTy : tA h 132 (tvI (tF h 111 28) + y).toNatClampNeg = T ((ms h).1 + j) := by rw [hpy, hT]
              have ec : (G.2.1 q).getD y.toNatClampNeg 0 = (ztx q).getD j 0 := by rw [hX, zof_cl hy]
              have hc : T ((ms h).1 + j) = (ztx q).getD j 0 := hTy.symm.trans (q425.trans ec)
              exact tG_cut (zW_mono zTt G dp) (Or.inr ⟨rfl, rfl, rfl, j + 1, y + 1, _, zincN hy (by omega), by omega, Or.inl ⟨rfl, e2, fun i hi => (Classical.em (i = j)).elim (fun z => by rw [z]; exact hc) (fun z => e3 i (by omega))⟩, rfl⟩)
      · try dsimp only [tvI_i, tvJ_j, tvR_r] at q421
        have q421i := zeqi rfl q421
        refine tw_push rfl ?_
        refine tw_goto rfl ?_
        refine tw_istore rfl ?_
        refine tw_push rfl ?_
        refine tw_istore rfl ?_
        have hix : x.toNatClampNeg = (ms h).1 + k := zof_cl hx
        have hTx : tA h 132 x.toNatClampNeg = T ((ms h).1 + k) := by rw [hix, hT]
        have hnd : ¬ ((ms h).1 + k < n ∧ 97 ≤ (T ((ms h).1 + k)).toInt ∧ (T ((ms h).1 + k)).toInt ≤ 122) := by
          have z0 := q409
          have z1 := q420
          try rw [hTx] at z1
          try rw [hTx] at z2
          omega
        have hE9 : rE T n (ms h).1 = (ms h).1 + k := he.symm.trans (rE_n hnd)
        have hsb : (x - tvI (tF h 111 28)).toInt = ((((ms h).1 + k : Nat) : Int)) - (((ms h).1 : Nat) : Int) := zsb hx (mPz h0.1) (by omega) (by omega)
        have hLn : (Int32.ofNat (G.2.1 q).length).toInt = ((ztx q).length : Int) := by rw [hX]; exact zofI (by omega)
        have hEL : x - tvI (tF h 111 28) = Int32.ofNat (G.2.1 q).length ↔ rE T n (ms h).1 = (ms h).1 + (ztx q).length := ⟨fun z => by rw [z, hLn] at hsb; omega, fun z => Int32.toInt_inj.mp (by rw [hsb, hLn]; omega)⟩
        refine tG_loop (zW_mono zTt G dp) (zW_conj zTt G dp) (V := fun pc L st h9 _ _ => pc = 63 ∧ st = [] ∧ h = h9 ∧ ∃ (j : Nat) (y is : Int32), y.toInt = j ∧ j ≤ (ztx q).length ∧ ((is = 1 ∧ rE T n (ms h).1 = (ms h).1 + (ztx q).length ∧ ∀ i, i < j → T ((ms h).1 + i) = (ztx q).getD i 0) ∨ (is = 0 ∧ ¬ rW T n (ms h).1 (ztx q) = true)) ∧ L = [some (.ref 111), some (.retAddr q), some (.int x), some (.int is), some (.int y)]) ?_ (⟨rfl, rfl, rfl, 0, 0, _, rfl, Nat.zero_le _, Or.inl ⟨rfl, hEL.mp q421, fun i hi => by omega⟩, rfl⟩)
        rintro _ _ _ _ _ _ ⟨rfl, rfl, rfl, j, y, is, hy, hjn, his, rfl⟩
        refine tw_iload rfl rfl ?_
        refine tw_aload rfl rfl ?_
        refine tw_tlen rfl ?_
        refine tw_ic_ge rfl (fun q426 => ?_) (fun q426 => ?_)
        · try dsimp only [tvI_i, tvJ_j, tvR_r] at q426
          refine tw_iload rfl rfl ?_
          have hlen : (Int32.ofNat (G.2.1 q).length).toInt = ((ztx q).length : Int) := by rw [hX]; exact zofI (by omega)
          have hj : j = (ztx q).length := by have z := q426; omega
          rcases his with ⟨e1, e2, e3⟩ | ⟨e1, e2⟩
          · exact tw_iret rfl ⟨Or.inl ⟨rW_i.mpr ⟨e2, rQ_of _ _ (fun k hk => e3 k (by omega))⟩, congrArg (fun z => some (Value.int z)) e1⟩, rfl⟩
          · exact tw_iret rfl ⟨Or.inr ⟨e2, congrArg (fun z => some (Value.int z)) e1⟩, rfl⟩
        · try dsimp only [tvI_i, tvJ_j, tvR_r] at q426
          refine tw_iload rfl rfl ?_
          refine tw_if_eq rfl (fun q427 => ?_) (fun q427 => ?_)
          · try dsimp only [tvI_i, tvJ_j, tvR_r] at q427
            have q427i := zeqi (Y := 0) (by decide) q427
            refine tw_iload rfl rfl ?_
            have hlen : (Int32.ofNat (G.2.1 q).length).toInt = ((ztx q).length : Int) := by rw [hX]; exact zofI (by omega)
            rcases his with ⟨e1, -, -⟩ | ⟨e1, e2⟩
            · exact absurd (e1.symm.trans q427) (by decide)
            · exact tw_iret rfl ⟨Or.inr ⟨e2, congrArg (fun z => some (Value.int z)) e1⟩, rfl⟩
          · try dsimp only [tvI_i, tvJ_j, tvR_r] at q427
            have q427i := zneq (Y := 0) (by decide) q427
            refine tw_aload rfl rfl ?_
            refine tw_getS rfl (hs_111_35 hs) ?_
            refine tw_aload rfl rfl ?_
            refine tw_getS rfl (hi_111_28 hs) ?_
            refine tw_iload rfl rfl ?_
            refine tw_iadd rfl ?_
            refine tw_bald rfl (fun f428 => ?_)
            refine tw_aload rfl rfl ?_
            refine tw_iload rfl rfl ?_
            refine tw_chr rfl (fun _ => ?_)
            refine tw_ic_ne rfl (fun q429 => ?_) (fun q429 => ?_)
            · try dsimp only [tvI_i, tvJ_j, tvR_r] at q429
              have q429i := zneq rfl q429
              refine tw_push rfl ?_
              refine tw_istore rfl ?_
              refine tw_iinc rfl rfl ?_
              refine tw_goto rfl ?_
              have hlen : (Int32.ofNat (G.2.1 q).length).toInt = ((ztx q).length : Int) := by rw [hX]; exact zofI (by omega)
              have hjl : j < (ztx q).length := by have z := q426; omega
              rcases his with ⟨e1, e2, e3⟩ | ⟨e1, -⟩
              rotate_left
              · exact absurd e1 q427
              have hpy : (tvI (tF h 111 28) + y).toNatClampNeg = (ms h).1 + j := zof_cl (zadN (mPz h0.1) hy (by omega) (by omega))
              have hTy : tA h 132 (tvI (tF h 111 28) + y).toNatClampNeg = T ((ms h).1 + j) := by rw [hpy, hT]
              have ec : (G.2.1 q).getD y.toNatClampNeg 0 = (ztx q).getD j 0 := by rw [hX, zof_cl hy]
              have hc : ¬ T ((ms h).1 + j) = (ztx q).getD j 0 := fun z => q429 (hTy.trans (z.trans ec.symm))
              exact tG_cut (zW_mono zTt G dp) (Or.inr ⟨rfl, rfl, rfl, j + 1, y + 1, _, zincN hy (by omega), by omega, Or.inr ⟨rfl, fun z => hc (rQ_at _ _ _ (rW_i.mp z).2 hjl)⟩, rfl⟩)
            · try dsimp only [tvI_i, tvJ_j, tvR_r] at q429
              have q429i := zeqi rfl q429
              refine tw_push rfl ?_
              refine tw_goto rfl ?_
              refine tw_istore rfl ?_
              refine tw_iinc rfl rfl ?_
              refine tw_goto rfl ?_
              have hlen : (Int32.ofNat (G.2.1 q).length).toInt = ((ztx q).length : Int) := by rw [hX]; exact zofI (by omega)
              have hjl : j < (ztx q).length := by have z := q426; omega
              rcases his with ⟨e1, e2, e3⟩ | ⟨e1, -⟩
              rotate_left
              · exact absurd e1 q427
              have hpy : (tvI (tF h 111 28) + y).toNatClampNeg = (ms h).1 + j := zof_cl (zadN (mPz h0.1) hy (by omega) (by omega))
              have hTy : tA h 132 (tvI (tF h 111 28) + y).toNatClampNeg = T ((ms h).1 + j) := by rw [hpy, hT]
              have ec : (G.2.1 q).getD y.toNatClampNeg 0 = (ztx q).getD j 0 := by rw [hX, zof_cl hy]
              have hc : T ((ms h).1 + j) = (ztx q).getD j 0 := hTy.symm.trans (q429.trans ec)
              exact tG_cut (zW_mono zTt G dp) (Or.inr ⟨rfl, rfl, rfl, j + 1, y + 1, _, zincN hy (by omega), by omega, Or.inl ⟨rfl, e2, fun i hi => (Classical.em (i = j)).elim (fun z => by rw [z]; exact hc) (fun z => e3 i (by omega))⟩, rfl⟩)
    · try dsimp only [tvI_i, tvJ_j, tvR_r] at q420
      refine tw_aload rfl rfl ?_
      refine tw_getS rfl (hs_111_35 hs) ?_
      refine tw_iload rfl rfl ?_
      refine tw_bald rfl (fun f430 => ?_)
      refine tw_push rfl ?_
      refine tw_ic_gt rfl (fun q431 => ?_) (fun q431 => ?_)
      · try dsimp only [tvI_i, tvJ_j, tvR_r] at q431
        refine tw_iload rfl rfl ?_
        refine tw_aload rfl rfl ?_
        refine tw_getS rfl (hi_111_28 hs) ?_
        refine tw_isub rfl ?_
        refine tw_aload rfl rfl ?_
        refine tw_tlen rfl ?_
        refine tw_ic_ne rfl (fun q432 => ?_) (fun q432 => ?_)
        · try dsimp only [tvI_i, tvJ_j, tvR_r] at q432
          have q432i := zneq rfl q432
          refine tw_push rfl ?_
          refine tw_istore rfl ?_
          refine tw_push rfl ?_
          refine tw_istore rfl ?_
          have hix : x.toNatClampNeg = (ms h).1 + k := zof_cl hx
          have hTx : tA h 132 x.toNatClampNeg = T ((ms h).1 + k) := by rw [hix, hT]
          have hnd : ¬ ((ms h).1 + k < n ∧ 97 ≤ (T ((ms h).1 + k)).toInt ∧ (T ((ms h).1 + k)).toInt ≤ 122) := by
            have z0 := q409
            have z1 := q420
            have z2 := q431
            try rw [hTx] at z1
            try rw [hTx] at z2
            omega
          have hE9 : rE T n (ms h).1 = (ms h).1 + k := he.symm.trans (rE_n hnd)
          have hsb : (x - tvI (tF h 111 28)).toInt = ((((ms h).1 + k : Nat) : Int)) - (((ms h).1 : Nat) : Int) := zsb hx (mPz h0.1) (by omega) (by omega)
          have hLn : (Int32.ofNat (G.2.1 q).length).toInt = ((ztx q).length : Int) := by rw [hX]; exact zofI (by omega)
          have hEL : x - tvI (tF h 111 28) = Int32.ofNat (G.2.1 q).length ↔ rE T n (ms h).1 = (ms h).1 + (ztx q).length := ⟨fun z => by rw [z, hLn] at hsb; omega, fun z => Int32.toInt_inj.mp (by rw [hsb, hLn]; omega)⟩
          refine tG_loop (zW_mono zTt G dp) (zW_conj zTt G dp) (V := fun pc L st h9 _ _ => pc = 63 ∧ st = [] ∧ h = h9 ∧ ∃ (j : Nat) (y is : Int32), y.toInt = j ∧ j ≤ (ztx q).length ∧ ((is = 1 ∧ rE T n (ms h).1 = (ms h).1 + (ztx q).length ∧ ∀ i, i < j → T ((ms h).1 + i) = (ztx q).getD i 0) ∨ (is = 0 ∧ ¬ rW T n (ms h).1 (ztx q) = true)) ∧ L = [some (.ref 111), some (.retAddr q), some (.int x), some (.int is), some (.int y)]) ?_ (⟨rfl, rfl, rfl, 0, 0, _, rfl, Nat.zero_le _, Or.inr ⟨rfl, fun z => q432 (hEL.mpr (rW_e z))⟩, rfl⟩)
          rintro _ _ _ _ _ _ ⟨rfl, rfl, rfl, j, y, is, hy, hjn, his, rfl⟩
          refine tw_iload rfl rfl ?_
          refine tw_aload rfl rfl ?_
          refine tw_tlen rfl ?_
          refine tw_ic_ge rfl (fun q433 => ?_) (fun q433 => ?_)
          · try dsimp only [tvI_i, tvJ_j, tvR_r] at q433
            refine tw_iload rfl rfl ?_
            have hlen : (Int32.ofNat (G.2.1 q).length).toInt = ((ztx q).length : Int) := by rw [hX]; exact zofI (by omega)
            have hj : j = (ztx q).length := by have z := q433; omega
            rcases his with ⟨e1, e2, e3⟩ | ⟨e1, e2⟩
            · exact tw_iret rfl ⟨Or.inl ⟨rW_i.mpr ⟨e2, rQ_of _ _ (fun k hk => e3 k (by omega))⟩, congrArg (fun z => some (Value.int z)) e1⟩, rfl⟩
            · exact tw_iret rfl ⟨Or.inr ⟨e2, congrArg (fun z => some (Value.int z)) e1⟩, rfl⟩
          · try dsimp only [tvI_i, tvJ_j, tvR_r] at q433
            refine tw_iload rfl rfl ?_
            refine tw_if_eq rfl (fun q434 => ?_) (fun q434 => ?_)
            · try dsimp only [tvI_i, tvJ_j, tvR_r] at q434
              have q434i := zeqi (Y := 0) (by decide) q434
              refine tw_iload rfl rfl ?_
              have hlen : (Int32.ofNat (G.2.1 q).length).toInt = ((ztx q).length : Int) := by rw [hX]; exact zofI (by omega)
              rcases his with ⟨e1, -, -⟩ | ⟨e1, e2⟩
              · exact absurd (e1.symm.trans q434) (by decide)
              · exact tw_iret rfl ⟨Or.inr ⟨e2, congrArg (fun z => some (Value.int z)) e1⟩, rfl⟩
            · try dsimp only [tvI_i, tvJ_j, tvR_r] at q434
              have q434i := zneq (Y := 0) (by decide) q434
              refine tw_aload rfl rfl ?_
              refine tw_getS rfl (hs_111_35 hs) ?_
              refine tw_aload rfl rfl ?_
              refine tw_getS rfl (hi_111_28 hs) ?_
              refine tw_iload rfl rfl ?_
              refine tw_iadd rfl ?_
              refine tw_bald rfl (fun f435 => ?_)
              refine tw_aload rfl rfl ?_
              refine tw_iload rfl rfl ?_
              refine tw_chr rfl (fun _ => ?_)
              refine tw_ic_ne rfl (fun q436 => ?_) (fun q436 => ?_)
              · try dsimp only [tvI_i, tvJ_j, tvR_r] at q436
                have q436i := zneq rfl q436
                refine tw_push rfl ?_
                refine tw_istore rfl ?_
                refine tw_iinc rfl rfl ?_
                refine tw_goto rfl ?_
                have hlen : (Int32.ofNat (G.2.1 q).length).toInt = ((ztx q).length : Int) := by rw [hX]; exact zofI (by omega)
                have hjl : j < (ztx q).length := by have z := q433; omega
                rcases his with ⟨e1, e2, e3⟩ | ⟨e1, -⟩
                rotate_left
                · exact absurd e1 q434
                have hpy : (tvI (tF h 111 28) + y).toNatClampNeg = (ms h).1 + j := zof_cl (zadN (mPz h0.1) hy (by omega) (by omega))
                have hTy : tA h 132 (tvI (tF h 111 28) + y).toNatClampNeg = T ((ms h).1 + j) := by rw [hpy, hT]
                have ec : (G.2.1 q).getD y.toNatClampNeg 0 = (ztx q).getD j 0 := by rw [hX, zof_cl hy]
                have hc : ¬ T ((ms h).1 + j) = (ztx q).getD j 0 := fun z => q436 (hTy.trans (z.trans ec.symm))
                exact tG_cut (zW_mono zTt G dp) (Or.inr ⟨rfl, rfl, rfl, j + 1, y + 1, _, zincN hy (by omega), by omega, Or.inr ⟨rfl, fun z => hc (rQ_at _ _ _ (rW_i.mp z).2 hjl)⟩, rfl⟩)
              · try dsimp only [tvI_i, tvJ_j, tvR_r] at q436
                have q436i := zeqi rfl q436
                refine tw_push rfl ?_
                refine tw_goto rfl ?_
                refine tw_istore rfl ?_
                refine tw_iinc rfl rfl ?_
                refine tw_goto rfl ?_
                have hlen : (Int32.ofNat (G.2.1 q).length).toInt = ((ztx q).length : Int) := by rw [hX]; exact zofI (by omega)
                have hjl : j < (ztx q).length := by have z := q433; omega
                rcases his with ⟨e1, e2, e3⟩ | ⟨e1, -⟩
                rotate_left
                · exact absurd e1 q434
                have hpy : (tvI (tF h 111 28) + y).toNatClampNeg = (ms h).1 + j := zof_cl (zadN (mPz h0.1) hy (by omega) (by omega))
                have hTy : tA h 132 (tvI (tF h 111 28) + y).toNatClampNeg = T ((ms h).1 + j) := by rw [hpy, hT]
                have ec : (G.2.1 q).getD y.toNatClampNeg 0 = (ztx q).getD j 0 := by rw [hX, zof_cl hy]
                have hc : T ((ms h).1 + j) = (ztx q).getD j 0 := hTy.symm.trans (q436.trans ec)
                exact tG_cut (zW_mono zTt G dp) (Or.inr ⟨rfl, rfl, rfl, j + 1, y + 1, _, zincN hy (by omega), by omega, Or.inl ⟨rfl, e2, fun i hi => (Classical.em (i = j)).elim (fun z => by rw [z]; exact hc) (fun z => e3 i (by omega))⟩, rfl⟩)
        · try dsimp only [tvI_i, tvJ_j, tvR_r] at q432
          have q432i := zeqi rfl q432
          refine tw_push rfl ?_
          refine tw_goto rfl ?_
          refine tw_istore rfl ?_
          refine tw_push rfl ?_
          refine tw_istore rfl ?_
          have hix : x.toNatClampNeg = (ms h).1 + k := zof_cl hx
          have hTx : tA h 132 x.toNatClampNeg = T ((ms h).1 + k) := by rw [hix, hT]
          have hnd : ¬ ((ms h).1 + k < n ∧ 97 ≤ (T ((ms h).1 + k)).toInt ∧ (T ((ms h).1 + k)).toInt ≤ 122) := by
            have z0 := q409
            have z1 := q420
            have z2 := q431
            try rw [hTx] at z1
            try rw [hTx] at z2
            omega
          have hE9 : rE T n (ms h).1 = (ms h).1 + k := he.symm.trans (rE_n hnd)
          have hsb : (x - tvI (tF h 111 28)).toInt = ((((ms h).1 + k : Nat) : Int)) - (((ms h).1 : Nat) : Int) := zsb hx (mPz h0.1) (by omega) (by omega)
          have hLn : (Int32.ofNat (G.2.1 q).length).toInt = ((ztx q).length : Int) := by rw [hX]; exact zofI (by omega)
          have hEL : x - tvI (tF h 111 28) = Int32.ofNat (G.2.1 q).length ↔ rE T n (ms h).1 = (ms h).1 + (ztx q).length := ⟨fun z => by rw [z, hLn] at hsb; omega, fun z => Int32.toInt_inj.mp (by rw [hsb, hLn]; omega)⟩
          refine tG_loop (zW_mono zTt G dp) (zW_conj zTt G dp) (V := fun pc L st h9 _ _ => pc = 63 ∧ st = [] ∧ h = h9 ∧ ∃ (j : Nat) (y is : Int32), y.toInt = j ∧ j ≤ (ztx q).length ∧ ((is = 1 ∧ rE T n (ms h).1 = (ms h).1 + (ztx q).length ∧ ∀ i, i < j → T ((ms h).1 + i) = (ztx q).getD i 0) ∨ (is = 0 ∧ ¬ rW T n (ms h).1 (ztx q) = true)) ∧ L = [some (.ref 111), some (.retAddr q), some (.int x), some (.int is), some (.int y)]) ?_ (⟨rfl, rfl, rfl, 0, 0, _, rfl, Nat.zero_le _, Or.inl ⟨rfl, hEL.mp q432, fun i hi => by omega⟩, rfl⟩)
          rintro _ _ _ _ _ _ ⟨rfl, rfl, rfl, j, y, is, hy, hjn, his, rfl⟩
          refine tw_iload rfl rfl ?_
          refine tw_aload rfl rfl ?_
          refine tw_tlen rfl ?_
          refine tw_ic_ge rfl (fun q437 => ?_) (fun q437 => ?_)
          · try dsimp only [tvI_i, tvJ_j, tvR_r] at q437
            refine tw_iload rfl rfl ?_
            have hlen : (Int32.ofNat (G.2.1 q).length).toInt = ((ztx q).length : Int) := by rw [hX]; exact zofI (by omega)
            have hj : j = (ztx q).length := by have z := q437; omega
            rcases his with ⟨e1, e2, e3⟩ | ⟨e1, e2⟩
            · exact tw_iret rfl ⟨Or.inl ⟨rW_i.mpr ⟨e2, rQ_of _ _ (fun k hk => e3 k (by omega))⟩, congrArg (fun z => some (Value.int z)) e1⟩, rfl⟩
            · exact tw_iret rfl ⟨Or.inr ⟨e2, congrArg (fun z => some (Value.int z)) e1⟩, rfl⟩
          · try dsimp only [tvI_i, tvJ_j, tvR_r] at q437
            refine tw_iload rfl rfl ?_
            refine tw_if_eq rfl (fun q438 => ?_) (fun q438 => ?_)
            · try dsimp only [tvI_i, tvJ_j, tvR_r] at q438
              have q438i := zeqi (Y := 0) (by decide) q438
              refine tw_iload rfl rfl ?_
              have hlen : (Int32.ofNat (G.2.1 q).length).toInt = ((ztx q).length : Int) := by rw [hX]; exact zofI (by omega)
              rcases his with ⟨e1, -, -⟩ | ⟨e1, e2⟩
              · exact absurd (e1.symm.trans q438) (by decide)
              · exact tw_iret rfl ⟨Or.inr ⟨e2, congrArg (fun z => some (Value.int z)) e1⟩, rfl⟩
            · try dsimp only [tvI_i, tvJ_j, tvR_r] at q438
              have q438i := zneq (Y := 0) (by decide) q438
              refine tw_aload rfl rfl ?_
              refine tw_getS rfl (hs_111_35 hs) ?_
              refine tw_aload rfl rfl ?_
              refine tw_getS rfl (hi_111_28 hs) ?_
              refine tw_iload rfl rfl ?_
              refine tw_iadd rfl ?_
              refine tw_bald rfl (fun f439 => ?_)
              refine tw_aload rfl rfl ?_
              refine tw_iload rfl rfl ?_
              refine tw_chr rfl (fun _ => ?_)
              refine tw_ic_ne rfl (fun q440 => ?_) (fun q440 => ?_)
              · try dsimp only [tvI_i, tvJ_j, tvR_r] at q440
                have q440i := zneq rfl q440
                refine tw_push rfl ?_
                refine tw_istore rfl ?_
                refine tw_iinc rfl rfl ?_
                refine tw_goto rfl ?_
                have hlen : (Int32.ofNat (G.2.1 q).length).toInt = ((ztx q).length : Int) := by rw [hX]; exact zofI (by omega)
                have hjl : j < (ztx q).length := by have z := q437; omega
                rcases his with ⟨e1, e2, e3⟩ | ⟨e1, -⟩
                rotate_left
                · exact absurd e1 q438
                have hpy : (tvI (tF h 111 28) + y).toNatClampNeg = (ms h).1 + j := zof_cl (zadN (mPz h0.1) hy (by omega) (by omega))
                have hTy : tA h 132 (tvI (tF h 111 28) + y).toNatClampNeg = T ((ms h).1 + j) := by rw [hpy, hT]
                have ec : (G.2.1 q).getD y.toNatClampNeg 0 = (ztx q).getD j 0 := by rw [hX, zof_cl hy]
                have hc : ¬ T ((ms h).1 + j) = (ztx q).getD j 0 := fun z => q440 (hTy.trans (z.trans ec.symm))
                exact tG_cut (zW_mono zTt G dp) (Or.inr ⟨rfl, rfl, rfl, j + 1, y + 1, _, zincN hy (by omega), by omega, Or.inr ⟨rfl, fun z => hc (rQ_at _ _ _ (rW_i.mp z).2 hjl)⟩, rfl⟩)
              · try dsimp only [tvI_i, tvJ_j, tvR_r] at q440
                have q440i := zeqi rfl q440
                refine tw_push rfl ?_
                refine tw_goto rfl ?_
                refine tw_istore rfl ?_
                refine tw_iinc rfl rfl ?_
                refine tw_goto rfl ?_
                have hlen : (Int32.ofNat (G.2.1 q).length).toInt = ((ztx q).length : Int) := by rw [hX]; exact zofI (by omega)
                have hjl : j < (ztx q).length := by have z := q437; omega
                rcases his with ⟨e1, e2, e3⟩ | ⟨e1, -⟩
                rotate_left
                · exact absurd e1 q438
                have hpy : (tvI (tF h 111 28) + y).toNatClampNeg = (ms h).1 + j := zof_cl (zadN (mPz h0.1) hy (by omega) (by omega))
                have hTy : tA h 132 (tvI (tF h 111 28) + y).toNatClampNeg = T ((ms h).1 + j) := by rw [hpy, hT]
                have ec : (G.2.1 q).getD y.toNatClampNeg 0 = (ztx q).getD j 0 := by rw [hX, zof_cl hy]
                have hc : T ((ms h).1 + j) = (ztx q).getD j 0 := hTy.symm.trans (q440.trans ec)
                exact tG_cut (zW_mono zTt G dp) (Or.inr ⟨rfl, rfl, rfl, j + 1, y + 1, _, zincN hy (by omega), by omega, Or.inl ⟨rfl, e2, fun i hi => (Classical.em (i = j)).elim (fun z => by rw [z]; exact hc) (fun z => e3 i (by omega))⟩, rfl⟩)
      · try dsimp only [tvI_i, tvJ_j, tvR_r] at q431
        refine tw_iinc rfl rfl ?_
        refine tw_goto rfl ?_
        have hix : x.toNatClampNeg = (ms h).1 + k := zof_cl hx
        have hTx : tA h 132 x.toNatClampNeg = T ((ms h).1 + k) := by rw [hix, hT]
        have z1 := q420
        have z2 := q431
        rw [hTx] at z1 z2
        have hlt : (ms h).1 + k < n := by omega
        exact tG_cut (zW_mono zTt G dp) (Or.inr ⟨rfl, rfl, rfl, k + 1, x + 1, _, _, zincL hx q409, (rE_y ⟨hlt, by omega, by omega⟩).symm.trans he, by omega, rfl⟩)
/-- places that bear reading, fault or not -/
noncomputable def mZp (h : zH) : Prop := (0 ≤ (tvI (tF h 111 28)).toInt ∧ 0 ≤ (tvI (tF h 111 27)).toInt) ∧ (tvI (tF h 111 28)).toInt ≤ 500 ∧ (tvI (tF h 111 27)).toInt ≤ 400
theorem mZp_k {h h2 : zH} (z : mZp h) (a : tF h2 111 28 = tF h 111 28) (b : tF h2 111 27 = tF h 111 27) : mZp h2 := by unfold mZp; rw [a, b]; exact z
theorem mZp_p {h : zH} (p : mP h) : mZp h := by have := p.2.1; exact ⟨⟨by omega, by omega⟩, by omega, by omega⟩
theorem mZp_s {h h3 : zH} {X : Int32} (z : mZp h) (s : mSet 28 X h h3) (hX : 0 ≤ X.toInt ∧ X.toInt ≤ 500) : mZp h3 := by
  unfold mZp
  rw [mI_x s, mI_o s (by decide)]
  exact ⟨⟨hX.1, z.1.2⟩, hX.2, z.2.2⟩
theorem mZp_o {h h3 : zH} {X : Int32} {b : Nat} (z : mZp h) (s : mSet b X h h3) (hb : b ≠ 28 ∧ b ≠ 27) : mZp h3 := mZp_k z (mI_o s (fun w => hb.1 w.symm)) (mI_o s (fun w => hb.2 w.symm))
theorem cNum2 {y t : Int32} {V Q : Nat} (hy : y.toInt = (V : Int)) (hV : V + 1 ≤ Q) (hQ : Q ≤ 10000) (ht : 48 ≤ t.toInt ∧ t.toInt ≤ 57) : (10 * y + t - 48).toInt = ((10 * V + (t.toInt - 48).toNat : Nat) : Int) ∧ 10 * V + (t.toInt - 48).toNat + 1 ≤ Q * 10 := by
  have h1 : (10 * y).toInt = 10 * V := by
    rw [Int32.toInt_mul, hy, show (10 : Int32).toInt = 10 from rfl]
    exact Int.bmod_eq_of_le (by show (-2147483648 : Int) ≤ 10 * (V : Int); omega) (by show 10 * (V : Int) < (2147483648 : Int); omega)
  have h2 : (10 * y + t).toInt = 10 * V + t.toInt := by
    rw [Int32.toInt_add, h1]
    exact Int.bmod_eq_of_le (by show (-2147483648 : Int) ≤ 10 * (V : Int) + t.toInt; omega) (by show 10 * (V : Int) + t.toInt < (2147483648 : Int); omega)
  refine ⟨?_, by omega⟩
  rw [Int32.toInt_sub, h2, show (48 : Int32).toInt = 48 from rfl]
  exact (Int.bmod_eq_of_le (by show (-2147483648 : Int) ≤ 10 * (V : Int) + t.toInt - 48; omega) (by show 10 * (V : Int) + t.toInt - 48 < (2147483648 : Int); omega)).trans (by omega)
theorem g_digits {G : zG} (hG : G.1 = zProg) (hX : G.2.1 = ztx) {h : zH} {T : Nat → Int32} {n : Nat} (hs : tSh h) (hp : mP h) (hT : tA h 132 = T) (hN : mn h = n) {m : Int32} {M : Nat} (hm : m.toInt = M) (hM : M ≤ 99999) (hB : rB T n (ms h).1 = (ms h).1) : tC zTt G 211 [.ref 111, .int m] h (fun w h2 => mFr h h2 ∧ ((∃ q, rM T n M (ms h).1 = .inr q ∧ w = some (.int (Int32.ofNat q.2)) ∧ mP h2 ∧ ms h2 = rA q.1 (ms h) ∧ mSk h2 = mSk h ∧ tF h2 111 32 = tF h 111 32) ∨ (∃ e x, rM T n M (ms h).1 = .inl e ∧ w = some (.int x) ∧ 0 ≤ x.toInt ∧ mFt h2 e ∧ mZp h2))) := by
  refine tC_in (by rw [hG]; rfl) (fun dp => ?_)
  have g0 := mFr_r hs
  have hpn : (ms h).1 ≤ n := mPle hp hN
  have c59 : (5 : Int32).toInt = 5 := rfl
  have hn4 : n ≤ 400 := by have a := mNl hp hN; have b := hp.2.1; omega
  refine tw_aload rfl rfl ?_
  refine tw_getS rfl (hi_111_28 hs) ?_
  refine tw_istore rfl ?_
  refine tw_aload rfl rfl ?_
  refine tw_virt0 rfl (g_sign hG hX (g0).1 ((mFr_T g0).trans hT) ((mFr_n g0).trans hN) ⟨hp.2.1.1, by have := hp.2.1; omega⟩) (fun wp441 hp441 p441 => ?_)
  obtain ⟨⟨cp441, rfl, kp441⟩, rfl⟩ := p441
  refine tw_stat1 rfl (g_isDigit hG) (fun w9 h9 p442 => ?_)
  obtain ⟨⟨p442, rfl⟩ | ⟨p442, rfl⟩, rfl⟩ := p442
  · try dsimp only [tvI_i, tvJ_j, tvR_r] at p442
    refine tw_if_ne rfl (fun _ => ?_) (fun z => absurd z (by decide))
    refine tw_push rfl ?_
    refine tw_istore rfl ?_
    refine tw_push rfl ?_
    refine tw_istore rfl ?_
    refine tG_loop (zW_mono zTt G dp) (zW_conj zTt G dp) (V := fun pc L st h9 _ _ => pc = 31 ∧ st = [] ∧ ∃ (h1 : zH) (k : Nat) (x y : Int32), h1 = h9 ∧ mFr h h1 ∧ mP h1 ∧ ms h1 = rA ((ms h).1 + k) (ms h) ∧ mSk h1 = mSk h ∧ tF h1 111 32 = tF h 111 32 ∧ (ms h).1 + k ≤ n ∧ rD T n ((ms h).1 + k) = rD T n (ms h).1 ∧ x.toInt = k ∧ y.toInt = ((rV T (ms h).1 (min k 5) : Nat) : Int) ∧ rV T (ms h).1 (min k 5) + 1 ≤ 10 ^ (min k 5) ∧ L = [some (.ref 111), some (.int m), some (.int (tvI (tF h 111 28))), some (.int x), some (.int y)]) ?_ (⟨rfl, rfl, _, 0, 0, 0, rfl, g0, hp, rfl, rfl, rfl, hpn, rfl, rfl, rfl, Nat.le_refl 1, rfl⟩)
    rintro _ _ _ _ _ _ ⟨rfl, rfl, h1, k, x, y, rfl, g1, p1, hms, hsk, h32, hkn, hrd, hx, hy, hyb, rfl⟩
    refine tw_aload rfl rfl ?_
    refine tw_virt0 rfl (g_sign hG hX (g1).1 ((mFr_T g1).trans hT) ((mFr_n g1).trans hN) ⟨p1.2.1.1, by have := p1.2.1; omega⟩) (fun wp443 hp443 p443 => ?_)
    obtain ⟨⟨cp443, rfl, kp443⟩, rfl⟩ := p443
    refine tw_stat1 rfl (g_isDigit hG) (fun w9 h9 p444 => ?_)
    obtain ⟨⟨p444, rfl⟩ | ⟨p444, rfl⟩, rfl⟩ := p444
    · try dsimp only [tvI_i, tvJ_j, tvR_r] at p444
      refine tw_if_eq rfl (fun z => absurd z (by decide)) (fun _ => ?_)
      refine tw_iload rfl rfl ?_
      refine tw_push rfl ?_
      refine tw_ic_ge rfl (fun q445 => ?_) (fun q445 => ?_)
      · try dsimp only [tvI_i, tvJ_j, tvR_r] at q445
        refine tw_iload rfl rfl ?_
        refine tw_istore rfl ?_
        refine tw_iinc rfl rfl ?_
        refine tw_aload rfl rfl ?_
        refine tw_dup rfl ?_
        refine tw_getS rfl (hi_111_28 (g1).1) ?_
        refine tw_push rfl ?_
        refine tw_iadd rfl ?_
        refine tw_put rfl (fun f446 => ?_)
        refine tG_setm f446 (hw_111_28 f446 (g1).1) (fun hf446 ef446 => ?_)
        try dsimp only [tvI_i] at ef446
        have gf446 := mFr_s g1 ef446 (by unfold mFs; omega)
        have wf446 := (sgm_d kp443).mp p444
        rw [hms] at wf446
        have wf446 : (ms h).1 + k < n ∧ 48 ≤ (T ((ms h).1 + k)).toInt ∧ (T ((ms h).1 + k)).toInt ≤ 57 := wf446
        obtain ⟨pf446, sf446, tf446⟩ := mTo p1 ((mFr_n g1).trans hN) ef446 (v := (ms h).1 + (k + 1)) (zincN (n := (ms h).1 + k) (by rw [mPl p1, hms]; rfl) (by omega)) wf446.1
        refine tw_goto rfl ?_
        have hd2 := (rD_y wf446).symm.trans hrd
        have hk5 : 5 ≤ k := by have z := q445; omega
        have hm5 : min k 5 = 5 := by omega
        have hm6 : min (k + 1) 5 = 5 := by omega
        rw [hm5] at hy hyb
        exact tG_cut (zW_mono zTt G dp) (Or.inr ⟨rfl, rfl, _, k + 1, _, _, rfl, gf446, pf446, (by rw [sf446, hms]; rfl), tf446.trans hsk, (mI_o ef446 (by decide)).trans h32, (by omega), hd2, zincN hx (by omega), (by rw [hm6]; exact hy), (by rw [hm6]; exact hyb), rfl⟩)
      · try dsimp only [tvI_i, tvJ_j, tvR_r] at q445
        refine tw_push rfl ?_
        refine tw_iload rfl rfl ?_
        refine tw_imul rfl ?_
        refine tw_aload rfl rfl ?_
        refine tw_virt0 rfl (g_sign hG hX (g1).1 ((mFr_T g1).trans hT) ((mFr_n g1).trans hN) ⟨p1.2.1.1, by have := p1.2.1; omega⟩) (fun wp447 hp447 p447 => ?_)
        obtain ⟨⟨cp447, rfl, kp447⟩, rfl⟩ := p447
        refine tw_iadd rfl ?_
        refine tw_push rfl ?_
        refine tw_isub rfl ?_
        refine tw_goto rfl ?_
        refine tw_istore rfl ?_
        refine tw_iinc rfl rfl ?_
        refine tw_aload rfl rfl ?_
        refine tw_dup rfl ?_
        refine tw_getS rfl (hi_111_28 (g1).1) ?_
        refine tw_push rfl ?_
        refine tw_iadd rfl ?_
        refine tw_put rfl (fun f448 => ?_)
        refine tG_setm f448 (hw_111_28 f448 (g1).1) (fun hf448 ef448 => ?_)
        try dsimp only [tvI_i] at ef448
        have gf448 := mFr_s g1 ef448 (by unfold mFs; omega)
        have wf448 := (sgm_d kp443).mp p444
        rw [hms] at wf448
        have wf448 : (ms h).1 + k < n ∧ 48 ≤ (T ((ms h).1 + k)).toInt ∧ (T ((ms h).1 + k)).toInt ≤ 57 := wf448
        obtain ⟨pf448, sf448, tf448⟩ := mTo p1 ((mFr_n g1).trans hN) ef448 (v := (ms h).1 + (k + 1)) (zincN (n := (ms h).1 + k) (by rw [mPl p1, hms]; rfl) (by omega)) wf448.1
        refine tw_goto rfl ?_
        have hd2 := (rD_y wf448).symm.trans hrd
        have hk5 : k < 5 := by have z := q445; omega
        have hm5 : min k 5 = k := by omega
        have hm6 : min (k + 1) 5 = k + 1 := by omega
        rw [hm5] at hy hyb
        have hc2 : cp447 = T ((ms h).1 + k) := kp447.elim (fun z => by rw [z.2, hms]; rfl) (fun z => absurd (by rw [hms]; exact wf448.1) z.1)
        have hq4 : 10 ^ k ≤ 10000 := Nat.pow_le_pow_right (n := 10) (by omega) (show k ≤ 4 by omega)
        have hnn := cNum2 hy hyb hq4 (t := T ((ms h).1 + k)) ⟨wf448.2.1, wf448.2.2⟩
        exact tG_cut (zW_mono zTt G dp) (Or.inr ⟨rfl, rfl, _, k + 1, _, _, rfl, gf448, pf448, (by rw [sf448, hms]; rfl), tf448.trans hsk, (mI_o ef448 (by decide)).trans h32, (by omega), hd2, zincN hx (by omega), (by rw [hm6]; show (10 * y + cp447 - 48).toInt = _; rw [hc2]; exact hnn.1), (by rw [hm6, Nat.pow_succ]; exact hnn.2), rfl⟩)
    · try dsimp only [tvI_i, tvJ_j, tvR_r] at p444
      refine tw_if_eq rfl (fun _ => ?_) (fun z => absurd z (by decide))
      refine tw_iload rfl rfl ?_
      refine tw_push rfl ?_
      refine tw_ic_gt rfl (fun q449 => ?_) (fun q449 => ?_)
      · try dsimp only [tvI_i, tvJ_j, tvR_r] at q449
        refine tw_aload rfl rfl ?_
        refine tw_push rfl ?_
        refine tw_iload rfl rfl ?_
        refine tw_virt2 rfl (g_fails hG hX (g1).1 p1 ((mFr_T g1).trans hT) ((mFr_n g1).trans hN) (w := 1) (b := (ms h).1) rfl (by decide) (mPl hp) (by omega)) (fun wp450 hp450 p450 => ?_)
        obtain ⟨rfl, gp450, Fp450, ip450, jp450⟩ := p450
        have ggp450 := mFr_t g1 gp450
        refine tw_iload rfl rfl ?_
        have w0 := (sgm_d kp441).mp p442
        have hge := rD_ge (T := T) (n := n) (p := (ms h).1 + 1)
        rw [← rD_y w0] at hge
        have hnd : rD T n ((ms h).1 + k) = (ms h).1 + k := rD_n (fun z => p444 ((sgm_d kp443).mpr (by rw [hms]; exact z)))
        have hrb : rD T n (ms h).1 = (ms h).1 + k := hrd.symm.trans hnd
        have hk0 : k ≠ 0 := by omega
        have z0 := q449
        have hyn : 0 ≤ y.toInt := by omega
        have hbig : 5 < k ∨ M < rV T (ms h).1 k := by
          rcases Nat.lt_or_ge 5 k with a | a
          · exact Or.inl a
          · rw [show min k 5 = k by omega] at hy; exact Or.inr (by omega)
        exact tw_iret rfl ⟨ggp450, Or.inr ⟨_, _, rM_b hB hrb hk0 hbig, rfl, hyn, Fp450, mZp_k (mZp_p p1) ip450 jp450⟩⟩
      · try dsimp only [tvI_i, tvJ_j, tvR_r] at q449
        refine tw_iload rfl rfl ?_
        refine tw_iload rfl rfl ?_
        refine tw_ic_le rfl (fun q451 => ?_) (fun q451 => ?_)
        · try dsimp only [tvI_i, tvJ_j, tvR_r] at q451
          refine tw_iload rfl rfl ?_
          have w0 := (sgm_d kp441).mp p442
          have hge := rD_ge (T := T) (n := n) (p := (ms h).1 + 1)
          rw [← rD_y w0] at hge
          have hnd : rD T n ((ms h).1 + k) = (ms h).1 + k := rD_n (fun z => p444 ((sgm_d kp443).mpr (by rw [hms]; exact z)))
          have hrb : rD T n (ms h).1 = (ms h).1 + k := hrd.symm.trans hnd
          have hk0 : k ≠ 0 := by omega
          have z0 := q449
          have z1 := q451
          have hyn : 0 ≤ y.toInt := by omega
          have hk5 : k ≤ 5 := by omega
          rw [show min k 5 = k by omega] at hy
          exact tw_iret rfl ⟨g1, Or.inl ⟨_, rM_c hB hrb hk0 (by omega), congrArg (fun z => some (Value.int z)) (zof hy), p1, hms, hsk, h32⟩⟩
        · try dsimp only [tvI_i, tvJ_j, tvR_r] at q451
          refine tw_aload rfl rfl ?_
          refine tw_push rfl ?_
          refine tw_iload rfl rfl ?_
          refine tw_virt2 rfl (g_fails hG hX (g1).1 p1 ((mFr_T g1).trans hT) ((mFr_n g1).trans hN) (w := 1) (b := (ms h).1) rfl (by decide) (mPl hp) (by omega)) (fun wp452 hp452 p452 => ?_)
          obtain ⟨rfl, gp452, Fp452, ip452, jp452⟩ := p452
          have ggp452 := mFr_t g1 gp452
          refine tw_iload rfl rfl ?_
          have w0 := (sgm_d kp441).mp p442
          have hge := rD_ge (T := T) (n := n) (p := (ms h).1 + 1)
          rw [← rD_y w0] at hge
          have hnd : rD T n ((ms h).1 + k) = (ms h).1 + k := rD_n (fun z => p444 ((sgm_d kp443).mpr (by rw [hms]; exact z)))
          have hrb : rD T n (ms h).1 = (ms h).1 + k := hrd.symm.trans hnd
          have hk0 : k ≠ 0 := by omega
          have z0 := q449
          have z1 := q451
          have hyn : 0 ≤ y.toInt := by omega
          have hbig : 5 < k ∨ M < rV T (ms h).1 k := by
            rcases Nat.lt_or_ge 5 k with a | a
            · exact Or.inl a
            · rw [show min k 5 = k by omega] at hy; exact Or.inr (by omega)
          exact tw_iret rfl ⟨ggp452, Or.inr ⟨_, _, rM_b hB hrb hk0 hbig, rfl, hyn, Fp452, mZp_k (mZp_p p1) ip452 jp452⟩⟩
  · try dsimp only [tvI_i, tvJ_j, tvR_r] at p442
    refine tw_if_ne rfl (fun z => absurd z (by decide)) (fun _ => ?_)
    refine tw_aload rfl rfl ?_
    refine tw_push rfl ?_
    refine tw_aload rfl rfl ?_
    refine tw_getS rfl (hi_111_28 (g0).1) ?_
    refine tw_virt2 rfl (g_fails hG hX (g0).1 hp ((mFr_T g0).trans hT) ((mFr_n g0).trans hN) (w := 0) (b := (ms h).1) rfl (by decide) (mPl hp) (by omega)) (fun wp453 hp453 p453 => ?_)
    obtain ⟨rfl, gp453, Fp453, ip453, jp453⟩ := p453
    have ggp453 := mFr_t g0 gp453
    refine tw_push rfl ?_
    have hnd : rD T n (ms h).1 = (ms h).1 := rD_n (fun z => p442 ((sgm_d kp441).mpr z))
    exact tw_iret rfl ⟨ggp453, Or.inr ⟨_, _, rM_a hB hnd, rfl, by decide, Fp453, mZp_k (mZp_p hp) ip453 jp453⟩⟩
theorem mhead {S : List Nat} {k : Nat} (h : S.headD 0 = k + 1) : S = (k + 1) :: S.tail := by
  cases S with
  | nil => cases h
  | cons x r => rw [show x = k + 1 from h]; rfl
theorem mT_y (r o : List Nat) : mT (102 :: r) o = mT r (o ++ [100102]) := if_pos rfl
theorem mN_y (r o : List Nat) : mN (10 :: r) o = mN r (o ++ [100110]) := if_pos rfl
theorem mA_y (r o : List Nat) : mA (11 :: r) o = mA r (o ++ [100109]) := if_pos rfl
theorem mO_y (r o : List Nat) : mO1 (12 :: r) o = mO1 r (o ++ [100108]) := if_pos rfl
theorem mP_y (r o : List Nat) : mPm (103 :: r) o = mPm r (o ++ [100100]) := if_pos rfl
theorem mM_y (r o : List Nat) : mPm (104 :: r) o = mPm r (o ++ [100101]) := (if_neg (by decide)).trans (if_pos rfl)
theorem mne {S : List Nat} {k : Nat} (h : S.headD 0 = k + 1) : S ≠ [] := fun z => by rw [z] at h; cases h
theorem g_makesProducts {G : zG} (hG : G.1 = zProg) (hX : G.2.1 = ztx) {h : zH} {T : Nat → Int32} {n : Nat} (hs : tSh h) (hp : mP h) (hT : tA h 132 = T) (hN : mn h = n)  : tC zTt G 214 [.ref 111] h (fun w h2 => w = none ∧ mFr h h2 ∧ mP h2 ∧ (ms h2).1 = (ms h).1 ∧ (ms h2).2.1 = (ms h).2.1 ∧ (mSk h2, (ms h2).2.2) = mT (mSk h) (ms h).2.2 ∧ tF h2 111 32 = tF h 111 32) := by
  refine tC_in (by rw [hG]; rfl) (fun dp => ?_)
  have g0 := mFr_r hs
  have hpn : (ms h).1 ≤ n := mPle hp hN
  refine tG_loop (zW_mono zTt G dp) (zW_conj zTt G dp) (V := fun pc L st h9 _ _ => pc = 0 ∧ st = [] ∧ ∃ h1, h1 = h9 ∧ mFr h h1 ∧ mP h1 ∧ (ms h1).1 = (ms h).1 ∧ (ms h1).2.1 = (ms h).2.1 ∧ mT (mSk h1) (ms h1).2.2 = mT (mSk h) (ms h).2.2 ∧ tF h1 111 32 = tF h 111 32 ∧ L = [some (.ref 111)]) ?_ (⟨rfl, rfl, _, rfl, g0, hp, rfl, rfl, rfl, rfl, rfl⟩)
  rintro _ _ _ _ _ _ ⟨rfl, rfl, h1, rfl, g1, p1, e1, e2, hL, h32, rfl⟩
  refine tw_aload rfl rfl ?_
  refine tw_virt0 rfl (g_top hG hX (g1).1 p1 ((mFr_T g1).trans hT) ((mFr_n g1).trans hN)) (fun wp454 hp454 p454 => ?_)
  obtain ⟨⟨cp454, rfl, Tp454⟩, rfl⟩ := p454
  refine tw_push rfl ?_
  refine tw_ic_ne rfl (fun q455 => ?_) (fun q455 => ?_)
  · try dsimp only [tvI_i, tvJ_j, tvR_r] at q455
    have q455i := zneq (Y := 102) (by decide) q455
    have hfin : (mSk h1, (ms h1).2.2) = mT (mSk h) (ms h).2.2 := by rw [← hL, mT_n (fun z => q455 ((tpm_k Tp454 (k := 102) (K := 102) rfl (by decide)).mpr z))]
    exact tw_vret rfl ⟨rfl, g1, p1, e1, e2, hfin, h32⟩
  · try dsimp only [tvI_i, tvJ_j, tvR_r] at q455
    have q455i := zeqi (Y := 102) (by decide) q455
    refine tw_aload rfl rfl ?_
    refine tw_push rfl ?_
    refine tw_push rfl ?_
    have hhd : (mSk h1).headD 0 = 102 := (tpm_k Tp454 (k := 102) (K := 102) rfl (by decide)).mp q455
    have hne := mne (k := 101) hhd
    have hst : mSk h1 = 102 :: (mSk h1).tail := mhead (k := 101) hhd
    refine tw_virt2 rfl (g_entry hG hX (g1).1 p1 ((mFr_T g1).trans hT) ((mFr_n g1).trans hN) ⟨by decide, by decide⟩) (fun wp456 hp456 p456 => ?_)
    obtain ⟨rfl, gp456, pp456e, sp456, tp456, dp456⟩ := p456
    have ggp456 := mFr_t g1 gp456
    refine tw_aload rfl rfl ?_
    refine tw_dup rfl ?_
    refine tw_getS rfl (hi_111_34 ggp456.1) ?_
    refine tw_push rfl ?_
    refine tw_isub rfl ?_
    refine tw_put rfl (fun f457 => ?_)
    refine tG_setm f457 (hw_111_34 f457 (ggp456).1) (fun hf457 ef457 => ?_)
    try dsimp only [tvI_i] at ef457
    have gf457 := mFr_s ggp456 ef457 (by unfold mFs; omega)
    have hnef457 : mSk hp456 ≠ [] := by rw [tp456]; exact hne
    obtain ⟨pf457, tf457, sf457, df457⟩ := mSk_pop pp456e hnef457 ef457
    refine tw_goto rfl ?_
    have hst : mSk h1 = 102 :: (mSk h1).tail := mhead (k := 101) hhd
    have hsp : mSk hf457 = (mSk h1).tail := by rw [tf457, tp456]
    have hms2 : ms hf457 = rU 100102 (ms h1) := by rw [sf457, sp456]; rfl
    have hlp : mT (mSk hf457) (ms hf457).2.2 = mT (mSk h) (ms h).2.2 := by rw [hsp, hms2, ← hL, hst]; exact (mT_y (mSk h1).tail _).symm
    exact tG_cut (zW_mono zTt G dp) (Or.inr ⟨rfl, rfl, _, rfl, gf457, pf457, by rw [hms2]; exact e1, by rw [hms2]; exact e2, hlp, df457.trans (dp456.trans h32), rfl⟩)
theorem g_makesNots {G : zG} (hG : G.1 = zProg) (hX : G.2.1 = ztx) {h : zH} {T : Nat → Int32} {n : Nat} (hs : tSh h) (hp : mP h) (hT : tA h 132 = T) (hN : mn h = n) (hD : mD h) : tC zTt G 219 [.ref 111] h (fun w h2 => w = none ∧ mFr h h2 ∧ mP h2 ∧ (ms h2).1 = (ms h).1 ∧ (ms h2).2.1 = (ms h).2.1 ∧ (mSk h2, (ms h2).2.2) = mN (mSk h) (ms h).2.2 ∧ mD h2) := by
  refine tC_in (by rw [hG]; rfl) (fun dp => ?_)
  have g0 := mFr_r hs
  have hpn : (ms h).1 ≤ n := mPle hp hN
  refine tG_loop (zW_mono zTt G dp) (zW_conj zTt G dp) (V := fun pc L st h9 _ _ => pc = 0 ∧ st = [] ∧ ∃ h1, h1 = h9 ∧ mFr h h1 ∧ mP h1 ∧ (ms h1).1 = (ms h).1 ∧ (ms h1).2.1 = (ms h).2.1 ∧ mN (mSk h1) (ms h1).2.2 = mN (mSk h) (ms h).2.2 ∧ mD h1 ∧ L = [some (.ref 111)]) ?_ (⟨rfl, rfl, _, rfl, g0, hp, rfl, rfl, rfl, hD, rfl⟩)
  rintro _ _ _ _ _ _ ⟨rfl, rfl, h1, rfl, g1, p1, e1, e2, hL, hDn, rfl⟩
  refine tw_aload rfl rfl ?_
  refine tw_virt0 rfl (g_top hG hX (g1).1 p1 ((mFr_T g1).trans hT) ((mFr_n g1).trans hN)) (fun wp458 hp458 p458 => ?_)
  obtain ⟨⟨cp458, rfl, Tp458⟩, rfl⟩ := p458
  refine tw_push rfl ?_
  refine tw_ic_ne rfl (fun q459 => ?_) (fun q459 => ?_)
  · try dsimp only [tvI_i, tvJ_j, tvR_r] at q459
    have q459i := zneq (Y := 10) (by decide) q459
    have hfin : (mSk h1, (ms h1).2.2) = mN (mSk h) (ms h).2.2 := by rw [← hL, mN_n (fun z => q459 ((tpm_k Tp458 (k := 10) (K := 10) rfl (by decide)).mpr z))]
    exact tw_vret rfl ⟨rfl, g1, p1, e1, e2, hfin, hDn⟩
  · try dsimp only [tvI_i, tvJ_j, tvR_r] at q459
    have q459i := zeqi (Y := 10) (by decide) q459
    refine tw_aload rfl rfl ?_
    refine tw_push rfl ?_
    refine tw_push rfl ?_
    have hhd : (mSk h1).headD 0 = 10 := (tpm_k Tp458 (k := 10) (K := 10) rfl (by decide)).mp q459
    have hne := mne (k := 9) hhd
    have hst : mSk h1 = 10 :: (mSk h1).tail := mhead (k := 9) hhd
    refine tw_virt2 rfl (g_entry hG hX (g1).1 p1 ((mFr_T g1).trans hT) ((mFr_n g1).trans hN) ⟨by decide, by decide⟩) (fun wp460 hp460 p460 => ?_)
    obtain ⟨rfl, gp460, pp460e, sp460, tp460, dp460⟩ := p460
    have ggp460 := mFr_t g1 gp460
    refine tw_aload rfl rfl ?_
    refine tw_dup rfl ?_
    refine tw_getS rfl (hi_111_34 ggp460.1) ?_
    refine tw_push rfl ?_
    refine tw_isub rfl ?_
    refine tw_put rfl (fun f461 => ?_)
    refine tG_setm f461 (hw_111_34 f461 (ggp460).1) (fun hf461 ef461 => ?_)
    try dsimp only [tvI_i] at ef461
    have gf461 := mFr_s ggp460 ef461 (by unfold mFs; omega)
    have hnef461 : mSk hp460 ≠ [] := by rw [tp460]; exact hne
    obtain ⟨pf461, tf461, sf461, df461⟩ := mSk_pop pp460e hnef461 ef461
    refine tw_aload rfl rfl ?_
    refine tw_dup rfl ?_
    refine tw_getS rfl (hi_111_32 (gf461).1) ?_
    refine tw_push rfl ?_
    refine tw_isub rfl ?_
    refine tw_put rfl (fun f462 => ?_)
    refine tG_setm f462 (hw_111_32 f462 (gf461).1) (fun hf462 ef462 => ?_)
    try dsimp only [tvI_i] at ef462
    have gf462 := mFr_s gf461 ef462 (by unfold mFs; omega)
    have hdf462 : (tvI (tF hf461 111 32)).toInt = ((mDp (mSk hf461) + 1 : Nat) : Int) := by
      rw [df461, dp460]
      refine (show (tvI (tF h1 111 32)).toInt = (mDp (mSk h1) : Int) from hDn).trans ?_
      rw [tf461, tp460]
      exact congrArg (fun z : Nat => (z : Int)) ((congrArg mDp hst).trans (mDp_c (by decide)))
    obtain ⟨pf462, tf462, sf462, ddf462⟩ := mDn pf461 ef462 hdf462 rfl
    refine tw_goto rfl ?_
    have hst : mSk h1 = 10 :: (mSk h1).tail := mhead (k := 9) hhd
    have hsp : mSk hf462 = (mSk h1).tail := by rw [tf462, tf461, tp460]
    have hms2 : ms hf462 = rU 100110 (ms h1) := by rw [sf462, sf461, sp460]; rfl
    have hlp : mN (mSk hf462) (ms hf462).2.2 = mN (mSk h) (ms h).2.2 := by rw [hsp, hms2, ← hL, hst]; exact (mN_y (mSk h1).tail _).symm
    exact tG_cut (zW_mono zTt G dp) (Or.inr ⟨rfl, rfl, _, rfl, gf462, pf462, by rw [hms2]; exact e1, by rw [hms2]; exact e2, hlp, ddf462, rfl⟩)
theorem g_makesAnds {G : zG} (hG : G.1 = zProg) (hX : G.2.1 = ztx) {h : zH} {T : Nat → Int32} {n : Nat} (hs : tSh h) (hp : mP h) (hT : tA h 132 = T) (hN : mn h = n)  : tC zTt G 220 [.ref 111] h (fun w h2 => w = none ∧ mFr h h2 ∧ mP h2 ∧ (ms h2).1 = (ms h).1 ∧ (ms h2).2.1 = (ms h).2.1 ∧ (mSk h2, (ms h2).2.2) = mA (mSk h) (ms h).2.2 ∧ tF h2 111 32 = tF h 111 32) := by
  refine tC_in (by rw [hG]; rfl) (fun dp => ?_)
  have g0 := mFr_r hs
  have hpn : (ms h).1 ≤ n := mPle hp hN
  refine tG_loop (zW_mono zTt G dp) (zW_conj zTt G dp) (V := fun pc L st h9 _ _ => pc = 0 ∧ st = [] ∧ ∃ h1, h1 = h9 ∧ mFr h h1 ∧ mP h1 ∧ (ms h1).1 = (ms h).1 ∧ (ms h1).2.1 = (ms h).2.1 ∧ mA (mSk h1) (ms h1).2.2 = mA (mSk h) (ms h).2.2 ∧ tF h1 111 32 = tF h 111 32 ∧ L = [some (.ref 111)]) ?_ (⟨rfl, rfl, _, rfl, g0, hp, rfl, rfl, rfl, rfl, rfl⟩)
  rintro _ _ _ _ _ _ ⟨rfl, rfl, h1, rfl, g1, p1, e1, e2, hL, h32, rfl⟩
  refine tw_aload rfl rfl ?_
  refine tw_virt0 rfl (g_top hG hX (g1).1 p1 ((mFr_T g1).trans hT) ((mFr_n g1).trans hN)) (fun wp463 hp463 p463 => ?_)
  obtain ⟨⟨cp463, rfl, Tp463⟩, rfl⟩ := p463
  refine tw_push rfl ?_
  refine tw_ic_ne rfl (fun q464 => ?_) (fun q464 => ?_)
  · try dsimp only [tvI_i, tvJ_j, tvR_r] at q464
    have q464i := zneq (Y := 11) (by decide) q464
    have hfin : (mSk h1, (ms h1).2.2) = mA (mSk h) (ms h).2.2 := by rw [← hL, mA_n (fun z => q464 ((tpm_k Tp463 (k := 11) (K := 11) rfl (by decide)).mpr z))]
    exact tw_vret rfl ⟨rfl, g1, p1, e1, e2, hfin, h32⟩
  · try dsimp only [tvI_i, tvJ_j, tvR_r] at q464
    have q464i := zeqi (Y := 11) (by decide) q464
    refine tw_aload rfl rfl ?_
    refine tw_push rfl ?_
    refine tw_push rfl ?_
    have hhd : (mSk h1).headD 0 = 11 := (tpm_k Tp463 (k := 11) (K := 11) rfl (by decide)).mp q464
    have hne := mne (k := 10) hhd
    have hst : mSk h1 = 11 :: (mSk h1).tail := mhead (k := 10) hhd
    refine tw_virt2 rfl (g_entry hG hX (g1).1 p1 ((mFr_T g1).trans hT) ((mFr_n g1).trans hN) ⟨by decide, by decide⟩) (fun wp465 hp465 p465 => ?_)
    obtain ⟨rfl, gp465, pp465e, sp465, tp465, dp465⟩ := p465
    have ggp465 := mFr_t g1 gp465
    refine tw_aload rfl rfl ?_
    refine tw_dup rfl ?_
    refine tw_getS rfl (hi_111_34 ggp465.1) ?_
    refine tw_push rfl ?_
    refine tw_isub rfl ?_
    refine tw_put rfl (fun f466 => ?_)
    refine tG_setm f466 (hw_111_34 f466 (ggp465).1) (fun hf466 ef466 => ?_)
    try dsimp only [tvI_i] at ef466
    have gf466 := mFr_s ggp465 ef466 (by unfold mFs; omega)
    have hnef466 : mSk hp465 ≠ [] := by rw [tp465]; exact hne
    obtain ⟨pf466, tf466, sf466, df466⟩ := mSk_pop pp465e hnef466 ef466
    refine tw_goto rfl ?_
    have hst : mSk h1 = 11 :: (mSk h1).tail := mhead (k := 10) hhd
    have hsp : mSk hf466 = (mSk h1).tail := by rw [tf466, tp465]
    have hms2 : ms hf466 = rU 100109 (ms h1) := by rw [sf466, sp465]; rfl
    have hlp : mA (mSk hf466) (ms hf466).2.2 = mA (mSk h) (ms h).2.2 := by rw [hsp, hms2, ← hL, hst]; exact (mA_y (mSk h1).tail _).symm
    exact tG_cut (zW_mono zTt G dp) (Or.inr ⟨rfl, rfl, _, rfl, gf466, pf466, by rw [hms2]; exact e1, by rw [hms2]; exact e2, hlp, df466.trans (dp465.trans h32), rfl⟩)
theorem g_makesSums {G : zG} (hG : G.1 = zProg) (hX : G.2.1 = ztx) {h : zH} {T : Nat → Int32} {n : Nat} (hs : tSh h) (hp : mP h) (hT : tA h 132 = T) (hN : mn h = n)  : tC zTt G 215 [.ref 111] h (fun w h2 => w = none ∧ mFr h h2 ∧ mP h2 ∧ (ms h2).1 = (ms h).1 ∧ (ms h2).2.1 = (ms h).2.1 ∧ (mSk h2, (ms h2).2.2) = mS (mSk h) (ms h).2.2 ∧ tF h2 111 32 = tF h 111 32) := by
  refine tC_in (by rw [hG]; rfl) (fun dp => ?_)
  have g0 := mFr_r hs
  have hpn : (ms h).1 ≤ n := mPle hp hN
  refine tw_aload rfl rfl ?_
  refine tw_virt0 rfl (g_makesProducts hG hX (g0).1 hp ((mFr_T g0).trans hT) ((mFr_n g0).trans hN)) (fun wp467 hp467 p467 => ?_)
  obtain ⟨rfl, gp467, pp467e, ap467, bp467, mp467, dp467⟩ := p467
  have ggp467 := mFr_t g0 gp467
  refine tG_loop (zW_mono zTt G dp) (zW_conj zTt G dp) (V := fun pc L st h9 _ _ => pc = 4 ∧ st = [] ∧ ∃ h1, h1 = h9 ∧ mFr h h1 ∧ mP h1 ∧ (ms h1).1 = (ms h).1 ∧ (ms h1).2.1 = (ms h).2.1 ∧ mPm (mSk h1) (ms h1).2.2 = mS (mSk h) (ms h).2.2 ∧ tF h1 111 32 = tF h 111 32 ∧ L = [some (.ref 111)]) ?_ (⟨rfl, rfl, _, rfl, ggp467, pp467e, ap467, bp467, (by unfold mS; rw [← mp467]), dp467, rfl⟩)
  rintro _ _ _ _ _ _ ⟨rfl, rfl, h1, rfl, g1, p1, e1, e2, hL, h32, rfl⟩
  refine tw_aload rfl rfl ?_
  refine tw_virt0 rfl (g_top hG hX (g1).1 p1 ((mFr_T g1).trans hT) ((mFr_n g1).trans hN)) (fun wp468 hp468 p468 => ?_)
  obtain ⟨⟨cp468, rfl, Tp468⟩, rfl⟩ := p468
  refine tw_push rfl ?_
  refine tw_ic_eq rfl (fun q469 => ?_) (fun q469 => ?_)
  · try dsimp only [tvI_i, tvJ_j, tvR_r] at q469
    have q469i := zeqi (Y := 103) (by decide) q469
    refine tw_aload rfl rfl ?_
    refine tw_aload rfl rfl ?_
    refine tw_virt0 rfl (g_top hG hX (g1).1 p1 ((mFr_T g1).trans hT) ((mFr_n g1).trans hN)) (fun wp470 hp470 p470 => ?_)
    obtain ⟨⟨cp470, rfl, Tp470⟩, rfl⟩ := p470
    refine tw_push rfl ?_
    refine tw_isub rfl ?_
    refine tw_push rfl ?_
    have hhd : (mSk h1).headD 0 = 103 := (tpm_k Tp468 (k := 103) (K := 103) rfl (by decide)).mp q469
    have hne := mne (k := 102) hhd
    have hst : mSk h1 = 103 :: (mSk h1).tail := mhead (k := 102) hhd
    have hc9 := (tpm_k Tp470 (k := 103) (K := 103) rfl (by decide)).mpr hhd
    subst hc9
    refine tw_virt2 rfl (g_entry hG hX (g1).1 p1 ((mFr_T g1).trans hT) ((mFr_n g1).trans hN) ⟨by decide, by decide⟩) (fun wp471 hp471 p471 => ?_)
    obtain ⟨rfl, gp471, pp471e, sp471, tp471, dp471⟩ := p471
    have ggp471 := mFr_t g1 gp471
    refine tw_aload rfl rfl ?_
    refine tw_dup rfl ?_
    refine tw_getS rfl (hi_111_34 ggp471.1) ?_
    refine tw_push rfl ?_
    refine tw_isub rfl ?_
    refine tw_put rfl (fun f472 => ?_)
    refine tG_setm f472 (hw_111_34 f472 (ggp471).1) (fun hf472 ef472 => ?_)
    try dsimp only [tvI_i] at ef472
    have gf472 := mFr_s ggp471 ef472 (by unfold mFs; omega)
    have hnef472 : mSk hp471 ≠ [] := by rw [tp471]; exact hne
    obtain ⟨pf472, tf472, sf472, df472⟩ := mSk_pop pp471e hnef472 ef472
    refine tw_goto rfl ?_
    have hst : mSk h1 = 103 :: (mSk h1).tail := mhead (k := 102) hhd
    have hsp : mSk hf472 = (mSk h1).tail := by rw [tf472, tp471]
    have hms2 : ms hf472 = rU 100100 (ms h1) := by rw [sf472, sp471]; rfl
    have hlp : mPm (mSk hf472) (ms hf472).2.2 = mS (mSk h) (ms h).2.2 := by rw [hsp, hms2, ← hL, hst]; exact (mP_y (mSk h1).tail _).symm
    exact tG_cut (zW_mono zTt G dp) (Or.inr ⟨rfl, rfl, _, rfl, gf472, pf472, by rw [hms2]; exact e1, by rw [hms2]; exact e2, hlp, df472.trans (dp471.trans h32), rfl⟩)
  · try dsimp only [tvI_i, tvJ_j, tvR_r] at q469
    have q469i := zneq (Y := 103) (by decide) q469
    refine tw_aload rfl rfl ?_
    refine tw_virt0 rfl (g_top hG hX (g1).1 p1 ((mFr_T g1).trans hT) ((mFr_n g1).trans hN)) (fun wp473 hp473 p473 => ?_)
    obtain ⟨⟨cp473, rfl, Tp473⟩, rfl⟩ := p473
    refine tw_push rfl ?_
    refine tw_ic_ne rfl (fun q474 => ?_) (fun q474 => ?_)
    · try dsimp only [tvI_i, tvJ_j, tvR_r] at q474
      have q474i := zneq (Y := 104) (by decide) q474
      have hfin : (mSk h1, (ms h1).2.2) = mS (mSk h) (ms h).2.2 := by rw [← hL, mPm_n (fun z => q469 ((tpm_k Tp468 (k := 103) (K := 103) rfl (by decide)).mpr z)) (fun z => q474 ((tpm_k Tp473 (k := 104) (K := 104) rfl (by decide)).mpr z))]
      exact tw_vret rfl ⟨rfl, g1, p1, e1, e2, hfin, h32⟩
    · try dsimp only [tvI_i, tvJ_j, tvR_r] at q474
      have q474i := zeqi (Y := 104) (by decide) q474
      refine tw_aload rfl rfl ?_
      refine tw_aload rfl rfl ?_
      refine tw_virt0 rfl (g_top hG hX (g1).1 p1 ((mFr_T g1).trans hT) ((mFr_n g1).trans hN)) (fun wp475 hp475 p475 => ?_)
      obtain ⟨⟨cp475, rfl, Tp475⟩, rfl⟩ := p475
      refine tw_push rfl ?_
      refine tw_isub rfl ?_
      refine tw_push rfl ?_
      have hhd : (mSk h1).headD 0 = 104 := (tpm_k Tp473 (k := 104) (K := 104) rfl (by decide)).mp q474
      have hne := mne (k := 103) hhd
      have hst : mSk h1 = 104 :: (mSk h1).tail := mhead (k := 103) hhd
      have hc9 := (tpm_k Tp475 (k := 104) (K := 104) rfl (by decide)).mpr hhd
      subst hc9
      refine tw_virt2 rfl (g_entry hG hX (g1).1 p1 ((mFr_T g1).trans hT) ((mFr_n g1).trans hN) ⟨by decide, by decide⟩) (fun wp476 hp476 p476 => ?_)
      obtain ⟨rfl, gp476, pp476e, sp476, tp476, dp476⟩ := p476
      have ggp476 := mFr_t g1 gp476
      refine tw_aload rfl rfl ?_
      refine tw_dup rfl ?_
      refine tw_getS rfl (hi_111_34 ggp476.1) ?_
      refine tw_push rfl ?_
      refine tw_isub rfl ?_
      refine tw_put rfl (fun f477 => ?_)
      refine tG_setm f477 (hw_111_34 f477 (ggp476).1) (fun hf477 ef477 => ?_)
      try dsimp only [tvI_i] at ef477
      have gf477 := mFr_s ggp476 ef477 (by unfold mFs; omega)
      have hnef477 : mSk hp476 ≠ [] := by rw [tp476]; exact hne
      obtain ⟨pf477, tf477, sf477, df477⟩ := mSk_pop pp476e hnef477 ef477
      refine tw_goto rfl ?_
      have hst : mSk h1 = 104 :: (mSk h1).tail := mhead (k := 103) hhd
      have hsp : mSk hf477 = (mSk h1).tail := by rw [tf477, tp476]
      have hms2 : ms hf477 = rU 100101 (ms h1) := by rw [sf477, sp476]; rfl
      have hlp : mPm (mSk hf477) (ms hf477).2.2 = mS (mSk h) (ms h).2.2 := by rw [hsp, hms2, ← hL, hst]; exact (mM_y (mSk h1).tail _).symm
      exact tG_cut (zW_mono zTt G dp) (Or.inr ⟨rfl, rfl, _, rfl, gf477, pf477, by rw [hms2]; exact e1, by rw [hms2]; exact e2, hlp, df477.trans (dp476.trans h32), rfl⟩)
theorem g_makesOrs {G : zG} (hG : G.1 = zProg) (hX : G.2.1 = ztx) {h : zH} {T : Nat → Int32} {n : Nat} (hs : tSh h) (hp : mP h) (hT : tA h 132 = T) (hN : mn h = n)  : tC zTt G 221 [.ref 111] h (fun w h2 => w = none ∧ mFr h h2 ∧ mP h2 ∧ (ms h2).1 = (ms h).1 ∧ (ms h2).2.1 = (ms h).2.1 ∧ (mSk h2, (ms h2).2.2) = mO (mSk h) (ms h).2.2 ∧ tF h2 111 32 = tF h 111 32) := by
  refine tC_in (by rw [hG]; rfl) (fun dp => ?_)
  have g0 := mFr_r hs
  have hpn : (ms h).1 ≤ n := mPle hp hN
  refine tw_aload rfl rfl ?_
  refine tw_virt0 rfl (g_makesAnds hG hX (g0).1 hp ((mFr_T g0).trans hT) ((mFr_n g0).trans hN)) (fun wp478 hp478 p478 => ?_)
  obtain ⟨rfl, gp478, pp478e, ap478, bp478, mp478, dp478⟩ := p478
  have ggp478 := mFr_t g0 gp478
  refine tG_loop (zW_mono zTt G dp) (zW_conj zTt G dp) (V := fun pc L st h9 _ _ => pc = 4 ∧ st = [] ∧ ∃ h1, h1 = h9 ∧ mFr h h1 ∧ mP h1 ∧ (ms h1).1 = (ms h).1 ∧ (ms h1).2.1 = (ms h).2.1 ∧ mO1 (mSk h1) (ms h1).2.2 = mO (mSk h) (ms h).2.2 ∧ tF h1 111 32 = tF h 111 32 ∧ L = [some (.ref 111)]) ?_ (⟨rfl, rfl, _, rfl, ggp478, pp478e, ap478, bp478, (by unfold mO; rw [← mp478]), dp478, rfl⟩)
  rintro _ _ _ _ _ _ ⟨rfl, rfl, h1, rfl, g1, p1, e1, e2, hL, h32, rfl⟩
  refine tw_aload rfl rfl ?_
  refine tw_virt0 rfl (g_top hG hX (g1).1 p1 ((mFr_T g1).trans hT) ((mFr_n g1).trans hN)) (fun wp479 hp479 p479 => ?_)
  obtain ⟨⟨cp479, rfl, Tp479⟩, rfl⟩ := p479
  refine tw_push rfl ?_
  refine tw_ic_ne rfl (fun q480 => ?_) (fun q480 => ?_)
  · try dsimp only [tvI_i, tvJ_j, tvR_r] at q480
    have q480i := zneq (Y := 12) (by decide) q480
    have hfin : (mSk h1, (ms h1).2.2) = mO (mSk h) (ms h).2.2 := by rw [← hL, mO1_n (fun z => q480 ((tpm_k Tp479 (k := 12) (K := 12) rfl (by decide)).mpr z))]
    exact tw_vret rfl ⟨rfl, g1, p1, e1, e2, hfin, h32⟩
  · try dsimp only [tvI_i, tvJ_j, tvR_r] at q480
    have q480i := zeqi (Y := 12) (by decide) q480
    refine tw_aload rfl rfl ?_
    refine tw_push rfl ?_
    refine tw_push rfl ?_
    have hhd : (mSk h1).headD 0 = 12 := (tpm_k Tp479 (k := 12) (K := 12) rfl (by decide)).mp q480
    have hne := mne (k := 11) hhd
    have hst : mSk h1 = 12 :: (mSk h1).tail := mhead (k := 11) hhd
    refine tw_virt2 rfl (g_entry hG hX (g1).1 p1 ((mFr_T g1).trans hT) ((mFr_n g1).trans hN) ⟨by decide, by decide⟩) (fun wp481 hp481 p481 => ?_)
    obtain ⟨rfl, gp481, pp481e, sp481, tp481, dp481⟩ := p481
    have ggp481 := mFr_t g1 gp481
    refine tw_aload rfl rfl ?_
    refine tw_dup rfl ?_
    refine tw_getS rfl (hi_111_34 ggp481.1) ?_
    refine tw_push rfl ?_
    refine tw_isub rfl ?_
    refine tw_put rfl (fun f482 => ?_)
    refine tG_setm f482 (hw_111_34 f482 (ggp481).1) (fun hf482 ef482 => ?_)
    try dsimp only [tvI_i] at ef482
    have gf482 := mFr_s ggp481 ef482 (by unfold mFs; omega)
    have hnef482 : mSk hp481 ≠ [] := by rw [tp481]; exact hne
    obtain ⟨pf482, tf482, sf482, df482⟩ := mSk_pop pp481e hnef482 ef482
    refine tw_goto rfl ?_
    have hst : mSk h1 = 12 :: (mSk h1).tail := mhead (k := 11) hhd
    have hsp : mSk hf482 = (mSk h1).tail := by rw [tf482, tp481]
    have hms2 : ms hf482 = rU 100108 (ms h1) := by rw [sf482, sp481]; rfl
    have hlp : mO1 (mSk hf482) (ms hf482).2.2 = mO (mSk h) (ms h).2.2 := by rw [hsp, hms2, ← hL, hst]; exact (mO_y (mSk h1).tail _).symm
    exact tG_cut (zW_mono zTt G dp) (Or.inr ⟨rfl, rfl, _, rfl, gf482, pf482, by rw [hms2]; exact e1, by rw [hms2]; exact e2, hlp, df482.trans (dp481.trans h32), rfl⟩)
theorem zp0 {x : Int32} {k : Nat} (h : x.toInt = k) : (x + 0).toInt = ((k + 0 : Nat) : Int) := by
  rw [Int32.toInt_add, show (0 : Int32).toInt = 0 from rfl, Int.add_zero, h]
  have := Int32.toInt_lt x
  exact Int.bmod_eq_of_le (by show (-2147483648 : Int) ≤ (k : Int); omega) (by show (k : Int) < (2147483648 : Int); omega)
theorem cmw {K : Int32} {k : Nat} (hk : K.toInt = (k : Int)) {C p : Nat} (h : k + 100098 = C) : K.toInt + 100098 = (((C, p) : Nat × Nat).1 : Int) := by
  show K.toInt + 100098 = (C : Int)
  rw [hk, ← h]
  omega
theorem zp1 {x : Int32} {k : Nat} (h : x.toInt = k) (hk : k ≤ 1000) : (x + 1).toInt = ((k + 1 : Nat) : Int) := zincN h (by omega)
theorem g_compares {G : zG} (hG : G.1 = zProg) (hX : G.2.1 = ztx) {h : zH} {T : Nat → Int32} {n : Nat} (hs : tSh h) (hp : mP h) (hT : tA h 132 = T) (hN : mn h = n)  : tC zTt G 212 [.ref 111] h (fun w h2 => mFr h h2 ∧ ((rCm T n (ms h).1 = none ∧ w = some (.int 0) ∧ h2 = h) ∨ (∃ q, rCm T n (ms h).1 = some q ∧ (((ms h).2.1 ≠ 80 ∧ (∃ x : Int32, w = some (.int x) ∧ x.toInt + 100098 = (q.1 : Int)) ∧ mP h2 ∧ ms h2 = (q.2, (ms h).2.1 + 1, (ms h).2.2) ∧ mSk h2 = mSk h ∧ tF h2 111 32 = tF h 111 32) ∨ ((ms h).2.1 = 80 ∧ ∃ x, w = some (.int x) ∧ 5 ≤ x.toInt ∧ x.toInt ≤ 9 ∧ mFt h2 (1 + 8 * (ms h).1 + 3) ∧ mZp h2))))) := by
  refine tC_in (by rw [hG]; rfl) (fun dp => ?_)
  have g0 := mFr_r hs
  have hpn : (ms h).1 ≤ n := mPle hp hN
  have hn4 : n ≤ 400 := by have a := mNl hp hN; have b := hp.2.1; omega
  refine tw_aload rfl rfl ?_
  refine tw_virt0 rfl (g_sign hG hX (g0).1 ((mFr_T g0).trans hT) ((mFr_n g0).trans hN) ⟨hp.2.1.1, by have := hp.2.1; omega⟩) (fun wp483 hp483 p483 => ?_)
  obtain ⟨⟨cp483, rfl, kp483⟩, rfl⟩ := p483
  refine tw_istore rfl ?_
  refine tw_iload rfl rfl ?_
  refine tw_push rfl ?_
  refine tw_ic_eq rfl (fun q484 => ?_) (fun q484 => ?_)
  · try dsimp only [tvI_i, tvJ_j, tvR_r] at q484
    have q484i := zeqi (Y := 60) (by decide) q484
    refine tw_aload rfl rfl ?_
    refine tw_aload rfl rfl ?_
    refine tw_getS rfl (hi_111_28 (g0).1) ?_
    refine tw_virt1 rfl (g_counts hG hX (g0).1 hp ((mFr_T g0).trans hT) ((mFr_n g0).trans hN) (b := (ms h).1) (mPl hp) (by omega)) (fun w9 hp485 p485 => ?_)
    obtain ⟨rfl, gp485, ⟨np485, pp485e, sp485, tp485, dp485⟩ | ⟨np485, Fp485⟩, ip485, jp485⟩ := p485
    · have ggp485 := mFr_t g0 gp485
      refine tw_aload rfl rfl ?_
      refine tw_dup rfl ?_
      refine tw_getS rfl (hi_111_28 ggp485.1) ?_
      refine tw_push rfl ?_
      refine tw_iadd rfl ?_
      refine tw_put rfl (fun f486 => ?_)
      refine tG_setm f486 (hw_111_28 f486 (ggp485).1) (fun hf486 ef486 => ?_)
      try dsimp only [tvI_i] at ef486
      have gf486 := mFr_s ggp485 ef486 (by unfold mFs; omega)
      have wf486 := (sgm_k kp483 60 (by decide)).mp q484
      obtain ⟨pf486, sf486, tf486⟩ := mTo pp485e ((mFr_n ggp485).trans hN) ef486 (v := (ms h).1 + 1) (zincN (n := (ms h).1) (by rw [mPl pp485e, sp485]) (by omega)) wf486.1
      rw [sp485] at sf486
      refine tw_iload rfl rfl ?_
      refine tw_push rfl ?_
      refine tw_ic_eq rfl (fun q487 => ?_) (fun q487 => ?_)
      · try dsimp only [tvI_i, tvJ_j, tvR_r] at q487
        have q487i := zeqi (Y := 61) (by decide) q487
        exact absurd (q484.symm.trans q487) (by decide)
      · try dsimp only [tvI_i, tvJ_j, tvR_r] at q487
        have q487i := zneq (Y := 61) (by decide) q487
        refine tw_aload rfl rfl ?_
        refine tw_virt0 rfl (g_sign hG hX (gf486).1 ((mFr_T gf486).trans hT) ((mFr_n gf486).trans hN) ⟨pf486.2.1.1, by have := pf486.2.1; omega⟩) (fun wp488 hp488 p488 => ?_)
        obtain ⟨⟨cp488, rfl, kp488⟩, rfl⟩ := p488
        refine tw_push rfl ?_
        refine tw_ic_ne rfl (fun q489 => ?_) (fun q489 => ?_)
        · try dsimp only [tvI_i, tvJ_j, tvR_r] at q489
          have q489i := zneq (Y := 61) (by decide) q489
          refine tw_push rfl ?_
          refine tw_istore rfl ?_
          refine tw_aload rfl rfl ?_
          refine tw_dup rfl ?_
          refine tw_getS rfl (hi_111_28 (gf486).1) ?_
          refine tw_iload rfl rfl ?_
          refine tw_if_eq rfl (fun _ => ?_) (fun z => absurd z (by decide))
          refine tw_push rfl ?_
          refine tw_iadd rfl ?_
          refine tw_put rfl (fun f490 => ?_)
          refine tG_setm f490 (hw_111_28 f490 (gf486).1) (fun hf490 ef490 => ?_)
          try dsimp only [tvI_i] at ef490
          have gf490 := mFr_s gf486 ef490 (by unfold mFs; omega)
          obtain ⟨pf490, sf490, tf490⟩ := mTo pf486 ((mFr_n gf486).trans hN) ef490 (v := (ms h).1 + 1 + 0) (zp0 (by rw [mPl pf486, sf486]; rfl)) (by have z := mPle pf486 ((mFr_n gf486).trans hN); rw [sf486] at z; exact z)
          rw [sf486] at sf490
          refine tw_iload rfl rfl ?_
          refine tw_push rfl ?_
          refine tw_ic_ne rfl (fun q491 => ?_) (fun q491 => ?_)
          · try dsimp only [tvI_i, tvJ_j, tvR_r] at q491
            have q491i := zneq (Y := 61) (by decide) q491
            refine tw_iload rfl rfl ?_
            refine tw_push rfl ?_
            refine tw_ic_ne rfl (fun q492 => ?_) (fun q492 => ?_)
            · try dsimp only [tvI_i, tvJ_j, tvR_r] at q492
              have q492i := zneq (Y := 60) (by decide) q492
              exact absurd q484 q492
            · try dsimp only [tvI_i, tvJ_j, tvR_r] at q492
              have q492i := zeqi (Y := 60) (by decide) q492
              refine tw_iload rfl rfl ?_
              refine tw_if_eq rfl (fun _ => ?_) (fun z => absurd z (by decide))
              refine tw_push rfl ?_
              refine tw_goto rfl ?_
              have w9 := (sgm_k kp483 60 (by decide)).mp q484
              have hk2 := sgm_k kp488 61 (by decide)
              rw [sf486] at hk2
              have hk2 : _ ↔ ((ms h).1 + 1 < n ∧ T ((ms h).1 + 1) = 61) := hk2
              have hq9 := (cm60 w9).trans (if_neg (fun z => q489 (hk2.mpr z)))
              exact tw_iret rfl ⟨gf490, Or.inr ⟨(100103, (ms h).1 + 1), hq9, Or.inl ⟨np485, ⟨5, rfl, cmw (k := 5) (C := 100103) rfl rfl⟩, pf490, sf490, tf490.trans (tf486.trans tp485), (mI_o ef490 (by decide)).trans ((mI_o ef486 (by decide)).trans dp485)⟩⟩⟩
          · try dsimp only [tvI_i, tvJ_j, tvR_r] at q491
            have q491i := zeqi (Y := 61) (by decide) q491
            exact absurd (q484.symm.trans q491) (by decide)
        · try dsimp only [tvI_i, tvJ_j, tvR_r] at q489
          have q489i := zeqi (Y := 61) (by decide) q489
          refine tw_push rfl ?_
          refine tw_goto rfl ?_
          refine tw_istore rfl ?_
          refine tw_aload rfl rfl ?_
          refine tw_dup rfl ?_
          refine tw_getS rfl (hi_111_28 (gf486).1) ?_
          refine tw_iload rfl rfl ?_
          refine tw_if_eq rfl (fun z => absurd z (by decide)) (fun _ => ?_)
          refine tw_push rfl ?_
          refine tw_goto rfl ?_
          refine tw_iadd rfl ?_
          refine tw_put rfl (fun f493 => ?_)
          refine tG_setm f493 (hw_111_28 f493 (gf486).1) (fun hf493 ef493 => ?_)
          try dsimp only [tvI_i] at ef493
          have gf493 := mFr_s gf486 ef493 (by unfold mFs; omega)
          have vf493 := (sgm_k kp488 61 (by decide)).mp q489
          rw [sf486] at vf493
          have vf493 : (ms h).1 + 1 < n ∧ T ((ms h).1 + 1) = 61 := vf493
          obtain ⟨pf493, sf493, tf493⟩ := mTo pf486 ((mFr_n gf486).trans hN) ef493 (v := (ms h).1 + 1 + 1) (zincN (n := (ms h).1 + 1) (by rw [mPl pf486, sf486]; rfl) (by omega)) (by omega)
          rw [sf486] at sf493
          refine tw_iload rfl rfl ?_
          refine tw_push rfl ?_
          refine tw_ic_ne rfl (fun q494 => ?_) (fun q494 => ?_)
          · try dsimp only [tvI_i, tvJ_j, tvR_r] at q494
            have q494i := zneq (Y := 61) (by decide) q494
            refine tw_iload rfl rfl ?_
            refine tw_push rfl ?_
            refine tw_ic_ne rfl (fun q495 => ?_) (fun q495 => ?_)
            · try dsimp only [tvI_i, tvJ_j, tvR_r] at q495
              have q495i := zneq (Y := 60) (by decide) q495
              exact absurd q484 q495
            · try dsimp only [tvI_i, tvJ_j, tvR_r] at q495
              have q495i := zeqi (Y := 60) (by decide) q495
              refine tw_iload rfl rfl ?_
              refine tw_if_eq rfl (fun z => absurd z (by decide)) (fun _ => ?_)
              refine tw_push rfl ?_
              refine tw_goto rfl ?_
              have w9 := (sgm_k kp483 60 (by decide)).mp q484
              have hk2 := sgm_k kp488 61 (by decide)
              rw [sf486] at hk2
              have hk2 : _ ↔ ((ms h).1 + 1 < n ∧ T ((ms h).1 + 1) = 61) := hk2
              have hq9 := (cm60 w9).trans (if_pos (hk2.mp q489))
              exact tw_iret rfl ⟨gf493, Or.inr ⟨(100104, (ms h).1 + 2), hq9, Or.inl ⟨np485, ⟨6, rfl, cmw (k := 6) (C := 100104) rfl rfl⟩, pf493, sf493, tf493.trans (tf486.trans tp485), (mI_o ef493 (by decide)).trans ((mI_o ef486 (by decide)).trans dp485)⟩⟩⟩
          · try dsimp only [tvI_i, tvJ_j, tvR_r] at q494
            have q494i := zeqi (Y := 61) (by decide) q494
            exact absurd (q484.symm.trans q494) (by decide)
    · have ggp485 := mFr_t g0 gp485
      refine tw_aload rfl rfl ?_
      refine tw_dup rfl ?_
      refine tw_getS rfl (hi_111_28 ggp485.1) ?_
      refine tw_push rfl ?_
      refine tw_iadd rfl ?_
      refine tw_put rfl (fun f496 => ?_)
      refine tG_setm f496 (hw_111_28 f496 (ggp485).1) (fun hf496 ef496 => ?_)
      try dsimp only [tvI_i] at ef496
      have gf496 := mFr_s ggp485 ef496 (by unfold mFs; omega)
      have zf496 := mFt_s Fp485 ef496 (by decide)
      have ZBf496 : mZp hp485 := mZp_k (mZp_p hp) ip485 jp485
      have yf496 : (tvI (tF hp485 111 28) + 1).toInt = (((ms h).1 + 1 : Nat) : Int) := zp1 (by rw [ip485]; exact mPl hp) (by omega)
      have Zf496 : mZp hf496 := mZp_s ZBf496 ef496 (by omega)
      refine tw_iload rfl rfl ?_
      refine tw_push rfl ?_
      refine tw_ic_eq rfl (fun q497 => ?_) (fun q497 => ?_)
      · try dsimp only [tvI_i, tvJ_j, tvR_r] at q497
        have q497i := zeqi (Y := 61) (by decide) q497
        exact absurd (q484.symm.trans q497) (by decide)
      · try dsimp only [tvI_i, tvJ_j, tvR_r] at q497
        have q497i := zneq (Y := 61) (by decide) q497
        refine tw_aload rfl rfl ?_
        refine tw_virt0 rfl (g_sign hG hX (gf496).1 ((mFr_T gf496).trans hT) ((mFr_n gf496).trans hN) Zf496.1) (fun wp498 hp498 p498 => ?_)
        obtain ⟨⟨cp498, rfl, kp498⟩, rfl⟩ := p498
        refine tw_push rfl ?_
        refine tw_ic_ne rfl (fun q499 => ?_) (fun q499 => ?_)
        · try dsimp only [tvI_i, tvJ_j, tvR_r] at q499
          have q499i := zneq (Y := 61) (by decide) q499
          refine tw_push rfl ?_
          refine tw_istore rfl ?_
          refine tw_aload rfl rfl ?_
          refine tw_dup rfl ?_
          refine tw_getS rfl (hi_111_28 (gf496).1) ?_
          refine tw_iload rfl rfl ?_
          refine tw_if_eq rfl (fun _ => ?_) (fun z => absurd z (by decide))
          refine tw_push rfl ?_
          refine tw_iadd rfl ?_
          refine tw_put rfl (fun f500 => ?_)
          refine tG_setm f500 (hw_111_28 f500 (gf496).1) (fun hf500 ef500 => ?_)
          try dsimp only [tvI_i] at ef500
          have gf500 := mFr_s gf496 ef500 (by unfold mFs; omega)
          have zf500 := mFt_s zf496 ef500 (by decide)
          have xf500 : (tvI (tF hf496 111 28)).toInt = (((ms h).1 + 1 : Nat) : Int) := by rw [mI_x ef496]; exact yf496
          have Zf500 : mZp hf500 := mZp_s Zf496 ef500 (by have y := zp0 xf500; omega)
          refine tw_iload rfl rfl ?_
          refine tw_push rfl ?_
          refine tw_ic_ne rfl (fun q501 => ?_) (fun q501 => ?_)
          · try dsimp only [tvI_i, tvJ_j, tvR_r] at q501
            have q501i := zneq (Y := 61) (by decide) q501
            refine tw_iload rfl rfl ?_
            refine tw_push rfl ?_
            refine tw_ic_ne rfl (fun q502 => ?_) (fun q502 => ?_)
            · try dsimp only [tvI_i, tvJ_j, tvR_r] at q502
              have q502i := zneq (Y := 60) (by decide) q502
              exact absurd q484 q502
            · try dsimp only [tvI_i, tvJ_j, tvR_r] at q502
              have q502i := zeqi (Y := 60) (by decide) q502
              refine tw_iload rfl rfl ?_
              refine tw_if_eq rfl (fun _ => ?_) (fun z => absurd z (by decide))
              refine tw_push rfl ?_
              refine tw_goto rfl ?_
              have w9 := (sgm_k kp483 60 (by decide)).mp q484
              obtain ⟨q9, hq9⟩ := cm_s (Or.inr (Or.inl w9))
              exact tw_iret rfl ⟨gf500, Or.inr ⟨q9, hq9, Or.inr ⟨np485, _, rfl, by decide, by decide, zf500, Zf500⟩⟩⟩
          · try dsimp only [tvI_i, tvJ_j, tvR_r] at q501
            have q501i := zeqi (Y := 61) (by decide) q501
            exact absurd (q484.symm.trans q501) (by decide)
        · try dsimp only [tvI_i, tvJ_j, tvR_r] at q499
          have q499i := zeqi (Y := 61) (by decide) q499
          refine tw_push rfl ?_
          refine tw_goto rfl ?_
          refine tw_istore rfl ?_
          refine tw_aload rfl rfl ?_
          refine tw_dup rfl ?_
          refine tw_getS rfl (hi_111_28 (gf496).1) ?_
          refine tw_iload rfl rfl ?_
          refine tw_if_eq rfl (fun z => absurd z (by decide)) (fun _ => ?_)
          refine tw_push rfl ?_
          refine tw_goto rfl ?_
          refine tw_iadd rfl ?_
          refine tw_put rfl (fun f503 => ?_)
          refine tG_setm f503 (hw_111_28 f503 (gf496).1) (fun hf503 ef503 => ?_)
          try dsimp only [tvI_i] at ef503
          have gf503 := mFr_s gf496 ef503 (by unfold mFs; omega)
          have zf503 := mFt_s zf496 ef503 (by decide)
          have xf503 : (tvI (tF hf496 111 28)).toInt = (((ms h).1 + 1 : Nat) : Int) := by rw [mI_x ef496]; exact yf496
          have Zf503 : mZp hf503 := mZp_s Zf496 ef503 (by have y := zp1 xf503 (by omega); omega)
          refine tw_iload rfl rfl ?_
          refine tw_push rfl ?_
          refine tw_ic_ne rfl (fun q504 => ?_) (fun q504 => ?_)
          · try dsimp only [tvI_i, tvJ_j, tvR_r] at q504
            have q504i := zneq (Y := 61) (by decide) q504
            refine tw_iload rfl rfl ?_
            refine tw_push rfl ?_
            refine tw_ic_ne rfl (fun q505 => ?_) (fun q505 => ?_)
            · try dsimp only [tvI_i, tvJ_j, tvR_r] at q505
              have q505i := zneq (Y := 60) (by decide) q505
              exact absurd q484 q505
            · try dsimp only [tvI_i, tvJ_j, tvR_r] at q505
              have q505i := zeqi (Y := 60) (by decide) q505
              refine tw_iload rfl rfl ?_
              refine tw_if_eq rfl (fun z => absurd z (by decide)) (fun _ => ?_)
              refine tw_push rfl ?_
              refine tw_goto rfl ?_
              have w9 := (sgm_k kp483 60 (by decide)).mp q484
              obtain ⟨q9, hq9⟩ := cm_s (Or.inr (Or.inl w9))
              exact tw_iret rfl ⟨gf503, Or.inr ⟨q9, hq9, Or.inr ⟨np485, _, rfl, by decide, by decide, zf503, Zf503⟩⟩⟩
          · try dsimp only [tvI_i, tvJ_j, tvR_r] at q504
            have q504i := zeqi (Y := 61) (by decide) q504
            exact absurd (q484.symm.trans q504) (by decide)
  · try dsimp only [tvI_i, tvJ_j, tvR_r] at q484
    have q484i := zneq (Y := 60) (by decide) q484
    refine tw_iload rfl rfl ?_
    refine tw_push rfl ?_
    refine tw_ic_eq rfl (fun q506 => ?_) (fun q506 => ?_)
    · try dsimp only [tvI_i, tvJ_j, tvR_r] at q506
      have q506i := zeqi (Y := 62) (by decide) q506
      refine tw_aload rfl rfl ?_
      refine tw_aload rfl rfl ?_
      refine tw_getS rfl (hi_111_28 (g0).1) ?_
      refine tw_virt1 rfl (g_counts hG hX (g0).1 hp ((mFr_T g0).trans hT) ((mFr_n g0).trans hN) (b := (ms h).1) (mPl hp) (by omega)) (fun w9 hp507 p507 => ?_)
      obtain ⟨rfl, gp507, ⟨np507, pp507e, sp507, tp507, dp507⟩ | ⟨np507, Fp507⟩, ip507, jp507⟩ := p507
      · have ggp507 := mFr_t g0 gp507
        refine tw_aload rfl rfl ?_
        refine tw_dup rfl ?_
        refine tw_getS rfl (hi_111_28 ggp507.1) ?_
        refine tw_push rfl ?_
        refine tw_iadd rfl ?_
        refine tw_put rfl (fun f508 => ?_)
        refine tG_setm f508 (hw_111_28 f508 (ggp507).1) (fun hf508 ef508 => ?_)
        try dsimp only [tvI_i] at ef508
        have gf508 := mFr_s ggp507 ef508 (by unfold mFs; omega)
        have wf508 := (sgm_k kp483 62 (by decide)).mp q506
        obtain ⟨pf508, sf508, tf508⟩ := mTo pp507e ((mFr_n ggp507).trans hN) ef508 (v := (ms h).1 + 1) (zincN (n := (ms h).1) (by rw [mPl pp507e, sp507]) (by omega)) wf508.1
        rw [sp507] at sf508
        refine tw_iload rfl rfl ?_
        refine tw_push rfl ?_
        refine tw_ic_eq rfl (fun q509 => ?_) (fun q509 => ?_)
        · try dsimp only [tvI_i, tvJ_j, tvR_r] at q509
          have q509i := zeqi (Y := 61) (by decide) q509
          exact absurd (q506.symm.trans q509) (by decide)
        · try dsimp only [tvI_i, tvJ_j, tvR_r] at q509
          have q509i := zneq (Y := 61) (by decide) q509
          refine tw_aload rfl rfl ?_
          refine tw_virt0 rfl (g_sign hG hX (gf508).1 ((mFr_T gf508).trans hT) ((mFr_n gf508).trans hN) ⟨pf508.2.1.1, by have := pf508.2.1; omega⟩) (fun wp510 hp510 p510 => ?_)
          obtain ⟨⟨cp510, rfl, kp510⟩, rfl⟩ := p510
          refine tw_push rfl ?_
          refine tw_ic_ne rfl (fun q511 => ?_) (fun q511 => ?_)
          · try dsimp only [tvI_i, tvJ_j, tvR_r] at q511
            have q511i := zneq (Y := 61) (by decide) q511
            refine tw_push rfl ?_
            refine tw_istore rfl ?_
            refine tw_aload rfl rfl ?_
            refine tw_dup rfl ?_
            refine tw_getS rfl (hi_111_28 (gf508).1) ?_
            refine tw_iload rfl rfl ?_
            refine tw_if_eq rfl (fun _ => ?_) (fun z => absurd z (by decide))
            refine tw_push rfl ?_
            refine tw_iadd rfl ?_
            refine tw_put rfl (fun f512 => ?_)
            refine tG_setm f512 (hw_111_28 f512 (gf508).1) (fun hf512 ef512 => ?_)
            try dsimp only [tvI_i] at ef512
            have gf512 := mFr_s gf508 ef512 (by unfold mFs; omega)
            obtain ⟨pf512, sf512, tf512⟩ := mTo pf508 ((mFr_n gf508).trans hN) ef512 (v := (ms h).1 + 1 + 0) (zp0 (by rw [mPl pf508, sf508]; rfl)) (by have z := mPle pf508 ((mFr_n gf508).trans hN); rw [sf508] at z; exact z)
            rw [sf508] at sf512
            refine tw_iload rfl rfl ?_
            refine tw_push rfl ?_
            refine tw_ic_ne rfl (fun q513 => ?_) (fun q513 => ?_)
            · try dsimp only [tvI_i, tvJ_j, tvR_r] at q513
              have q513i := zneq (Y := 61) (by decide) q513
              refine tw_iload rfl rfl ?_
              refine tw_push rfl ?_
              refine tw_ic_ne rfl (fun q514 => ?_) (fun q514 => ?_)
              · try dsimp only [tvI_i, tvJ_j, tvR_r] at q514
                have q514i := zneq (Y := 60) (by decide) q514
                refine tw_iload rfl rfl ?_
                refine tw_if_eq rfl (fun _ => ?_) (fun z => absurd z (by decide))
                refine tw_push rfl ?_
                have w9 := (sgm_k kp483 62 (by decide)).mp q506
                have hk2 := sgm_k kp510 61 (by decide)
                rw [sf508] at hk2
                have hk2 : _ ↔ ((ms h).1 + 1 < n ∧ T ((ms h).1 + 1) = 61) := hk2
                have hq9 := (cm62 w9).trans (if_neg (fun z => q511 (hk2.mpr z)))
                exact tw_iret rfl ⟨gf512, Or.inr ⟨(100107, (ms h).1 + 1), hq9, Or.inl ⟨np507, ⟨9, rfl, cmw (k := 9) (C := 100107) rfl rfl⟩, pf512, sf512, tf512.trans (tf508.trans tp507), (mI_o ef512 (by decide)).trans ((mI_o ef508 (by decide)).trans dp507)⟩⟩⟩
              · try dsimp only [tvI_i, tvJ_j, tvR_r] at q514
                have q514i := zeqi (Y := 60) (by decide) q514
                exact absurd (q506.symm.trans q514) (by decide)
            · try dsimp only [tvI_i, tvJ_j, tvR_r] at q513
              have q513i := zeqi (Y := 61) (by decide) q513
              exact absurd (q506.symm.trans q513) (by decide)
          · try dsimp only [tvI_i, tvJ_j, tvR_r] at q511
            have q511i := zeqi (Y := 61) (by decide) q511
            refine tw_push rfl ?_
            refine tw_goto rfl ?_
            refine tw_istore rfl ?_
            refine tw_aload rfl rfl ?_
            refine tw_dup rfl ?_
            refine tw_getS rfl (hi_111_28 (gf508).1) ?_
            refine tw_iload rfl rfl ?_
            refine tw_if_eq rfl (fun z => absurd z (by decide)) (fun _ => ?_)
            refine tw_push rfl ?_
            refine tw_goto rfl ?_
            refine tw_iadd rfl ?_
            refine tw_put rfl (fun f515 => ?_)
            refine tG_setm f515 (hw_111_28 f515 (gf508).1) (fun hf515 ef515 => ?_)
            try dsimp only [tvI_i] at ef515
            have gf515 := mFr_s gf508 ef515 (by unfold mFs; omega)
            have vf515 := (sgm_k kp510 61 (by decide)).mp q511
            rw [sf508] at vf515
            have vf515 : (ms h).1 + 1 < n ∧ T ((ms h).1 + 1) = 61 := vf515
            obtain ⟨pf515, sf515, tf515⟩ := mTo pf508 ((mFr_n gf508).trans hN) ef515 (v := (ms h).1 + 1 + 1) (zincN (n := (ms h).1 + 1) (by rw [mPl pf508, sf508]; rfl) (by omega)) (by omega)
            rw [sf508] at sf515
            refine tw_iload rfl rfl ?_
            refine tw_push rfl ?_
            refine tw_ic_ne rfl (fun q516 => ?_) (fun q516 => ?_)
            · try dsimp only [tvI_i, tvJ_j, tvR_r] at q516
              have q516i := zneq (Y := 61) (by decide) q516
              refine tw_iload rfl rfl ?_
              refine tw_push rfl ?_
              refine tw_ic_ne rfl (fun q517 => ?_) (fun q517 => ?_)
              · try dsimp only [tvI_i, tvJ_j, tvR_r] at q517
                have q517i := zneq (Y := 60) (by decide) q517
                refine tw_iload rfl rfl ?_
                refine tw_if_eq rfl (fun z => absurd z (by decide)) (fun _ => ?_)
                refine tw_push rfl ?_
                refine tw_goto rfl ?_
                have w9 := (sgm_k kp483 62 (by decide)).mp q506
                have hk2 := sgm_k kp510 61 (by decide)
                rw [sf508] at hk2
                have hk2 : _ ↔ ((ms h).1 + 1 < n ∧ T ((ms h).1 + 1) = 61) := hk2
                have hq9 := (cm62 w9).trans (if_pos (hk2.mp q511))
                exact tw_iret rfl ⟨gf515, Or.inr ⟨(100106, (ms h).1 + 2), hq9, Or.inl ⟨np507, ⟨8, rfl, cmw (k := 8) (C := 100106) rfl rfl⟩, pf515, sf515, tf515.trans (tf508.trans tp507), (mI_o ef515 (by decide)).trans ((mI_o ef508 (by decide)).trans dp507)⟩⟩⟩
              · try dsimp only [tvI_i, tvJ_j, tvR_r] at q517
                have q517i := zeqi (Y := 60) (by decide) q517
                exact absurd (q506.symm.trans q517) (by decide)
            · try dsimp only [tvI_i, tvJ_j, tvR_r] at q516
              have q516i := zeqi (Y := 61) (by decide) q516
              exact absurd (q506.symm.trans q516) (by decide)
      · have ggp507 := mFr_t g0 gp507
        refine tw_aload rfl rfl ?_
        refine tw_dup rfl ?_
        refine tw_getS rfl (hi_111_28 ggp507.1) ?_
        refine tw_push rfl ?_
        refine tw_iadd rfl ?_
        refine tw_put rfl (fun f518 => ?_)
        refine tG_setm f518 (hw_111_28 f518 (ggp507).1) (fun hf518 ef518 => ?_)
        try dsimp only [tvI_i] at ef518
        have gf518 := mFr_s ggp507 ef518 (by unfold mFs; omega)
        have zf518 := mFt_s Fp507 ef518 (by decide)
        have ZBf518 : mZp hp507 := mZp_k (mZp_p hp) ip507 jp507
        have yf518 : (tvI (tF hp507 111 28) + 1).toInt = (((ms h).1 + 1 : Nat) : Int) := zp1 (by rw [ip507]; exact mPl hp) (by omega)
        have Zf518 : mZp hf518 := mZp_s ZBf518 ef518 (by omega)
        refine tw_iload rfl rfl ?_
        refine tw_push rfl ?_
        refine tw_ic_eq rfl (fun q519 => ?_) (fun q519 => ?_)
        · try dsimp only [tvI_i, tvJ_j, tvR_r] at q519
          have q519i := zeqi (Y := 61) (by decide) q519
          exact absurd (q506.symm.trans q519) (by decide)
        · try dsimp only [tvI_i, tvJ_j, tvR_r] at q519
          have q519i := zneq (Y := 61) (by decide) q519
          refine tw_aload rfl rfl ?_
          refine tw_virt0 rfl (g_sign hG hX (gf518).1 ((mFr_T gf518).trans hT) ((mFr_n gf518).trans hN) Zf518.1) (fun wp520 hp520 p520 => ?_)
          obtain ⟨⟨cp520, rfl, kp520⟩, rfl⟩ := p520
          refine tw_push rfl ?_
          refine tw_ic_ne rfl (fun q521 => ?_) (fun q521 => ?_)
          · try dsimp only [tvI_i, tvJ_j, tvR_r] at q521
            have q521i := zneq (Y := 61) (by decide) q521
            refine tw_push rfl ?_
            refine tw_istore rfl ?_
            refine tw_aload rfl rfl ?_
            refine tw_dup rfl ?_
            refine tw_getS rfl (hi_111_28 (gf518).1) ?_
            refine tw_iload rfl rfl ?_
            refine tw_if_eq rfl (fun _ => ?_) (fun z => absurd z (by decide))
            refine tw_push rfl ?_
            refine tw_iadd rfl ?_
            refine tw_put rfl (fun f522 => ?_)
            refine tG_setm f522 (hw_111_28 f522 (gf518).1) (fun hf522 ef522 => ?_)
            try dsimp only [tvI_i] at ef522
            have gf522 := mFr_s gf518 ef522 (by unfold mFs; omega)
            have zf522 := mFt_s zf518 ef522 (by decide)
            have xf522 : (tvI (tF hf518 111 28)).toInt = (((ms h).1 + 1 : Nat) : Int) := by rw [mI_x ef518]; exact yf518
            have Zf522 : mZp hf522 := mZp_s Zf518 ef522 (by have y := zp0 xf522; omega)
            refine tw_iload rfl rfl ?_
            refine tw_push rfl ?_
            refine tw_ic_ne rfl (fun q523 => ?_) (fun q523 => ?_)
            · try dsimp only [tvI_i, tvJ_j, tvR_r] at q523
              have q523i := zneq (Y := 61) (by decide) q523
              refine tw_iload rfl rfl ?_
              refine tw_push rfl ?_
              refine tw_ic_ne rfl (fun q524 => ?_) (fun q524 => ?_)
              · try dsimp only [tvI_i, tvJ_j, tvR_r] at q524
                have q524i := zneq (Y := 60) (by decide) q524
                refine tw_iload rfl rfl ?_
                refine tw_if_eq rfl (fun _ => ?_) (fun z => absurd z (by decide))
                refine tw_push rfl ?_
                have w9 := (sgm_k kp483 62 (by decide)).mp q506
                obtain ⟨q9, hq9⟩ := cm_s (Or.inr (Or.inr w9))
                exact tw_iret rfl ⟨gf522, Or.inr ⟨q9, hq9, Or.inr ⟨np507, _, rfl, by decide, by decide, zf522, Zf522⟩⟩⟩
              · try dsimp only [tvI_i, tvJ_j, tvR_r] at q524
                have q524i := zeqi (Y := 60) (by decide) q524
                exact absurd (q506.symm.trans q524) (by decide)
            · try dsimp only [tvI_i, tvJ_j, tvR_r] at q523
              have q523i := zeqi (Y := 61) (by decide) q523
              exact absurd (q506.symm.trans q523) (by decide)
          · try dsimp only [tvI_i, tvJ_j, tvR_r] at q521
            have q521i := zeqi (Y := 61) (by decide) q521
            refine tw_push rfl ?_
            refine tw_goto rfl ?_
            refine tw_istore rfl ?_
            refine tw_aload rfl rfl ?_
            refine tw_dup rfl ?_
            refine tw_getS rfl (hi_111_28 (gf518).1) ?_
            refine tw_iload rfl rfl ?_
            refine tw_if_eq rfl (fun z => absurd z (by decide)) (fun _ => ?_)
            refine tw_push rfl ?_
            refine tw_goto rfl ?_
            refine tw_iadd rfl ?_
            refine tw_put rfl (fun f525 => ?_)
            refine tG_setm f525 (hw_111_28 f525 (gf518).1) (fun hf525 ef525 => ?_)
            try dsimp only [tvI_i] at ef525
            have gf525 := mFr_s gf518 ef525 (by unfold mFs; omega)
            have zf525 := mFt_s zf518 ef525 (by decide)
            have xf525 : (tvI (tF hf518 111 28)).toInt = (((ms h).1 + 1 : Nat) : Int) := by rw [mI_x ef518]; exact yf518
            have Zf525 : mZp hf525 := mZp_s Zf518 ef525 (by have y := zp1 xf525 (by omega); omega)
            refine tw_iload rfl rfl ?_
            refine tw_push rfl ?_
            refine tw_ic_ne rfl (fun q526 => ?_) (fun q526 => ?_)
            · try dsimp only [tvI_i, tvJ_j, tvR_r] at q526
              have q526i := zneq (Y := 61) (by decide) q526
              refine tw_iload rfl rfl ?_
              refine tw_push rfl ?_
              refine tw_ic_ne rfl (fun q527 => ?_) (fun q527 => ?_)
              · try dsimp only [tvI_i, tvJ_j, tvR_r] at q527
                have q527i := zneq (Y := 60) (by decide) q527
                refine tw_iload rfl rfl ?_
                refine tw_if_eq rfl (fun z => absurd z (by decide)) (fun _ => ?_)
                refine tw_push rfl ?_
                refine tw_goto rfl ?_
                have w9 := (sgm_k kp483 62 (by decide)).mp q506
                obtain ⟨q9, hq9⟩ := cm_s (Or.inr (Or.inr w9))
                exact tw_iret rfl ⟨gf525, Or.inr ⟨q9, hq9, Or.inr ⟨np507, _, rfl, by decide, by decide, zf525, Zf525⟩⟩⟩
              · try dsimp only [tvI_i, tvJ_j, tvR_r] at q527
                have q527i := zeqi (Y := 60) (by decide) q527
                exact absurd (q506.symm.trans q527) (by decide)
            · try dsimp only [tvI_i, tvJ_j, tvR_r] at q526
              have q526i := zeqi (Y := 61) (by decide) q526
              exact absurd (q506.symm.trans q526) (by decide)
    · try dsimp only [tvI_i, tvJ_j, tvR_r] at q506
      have q506i := zneq (Y := 62) (by decide) q506
      refine tw_iload rfl rfl ?_
      refine tw_push rfl ?_
      refine tw_ic_eq rfl (fun q528 => ?_) (fun q528 => ?_)
      · try dsimp only [tvI_i, tvJ_j, tvR_r] at q528
        have q528i := zeqi (Y := 61) (by decide) q528
        refine tw_aload rfl rfl ?_
        refine tw_aload rfl rfl ?_
        refine tw_getS rfl (hi_111_28 (g0).1) ?_
        refine tw_virt1 rfl (g_counts hG hX (g0).1 hp ((mFr_T g0).trans hT) ((mFr_n g0).trans hN) (b := (ms h).1) (mPl hp) (by omega)) (fun w9 hp529 p529 => ?_)
        obtain ⟨rfl, gp529, ⟨np529, pp529e, sp529, tp529, dp529⟩ | ⟨np529, Fp529⟩, ip529, jp529⟩ := p529
        · have ggp529 := mFr_t g0 gp529
          refine tw_aload rfl rfl ?_
          refine tw_dup rfl ?_
          refine tw_getS rfl (hi_111_28 ggp529.1) ?_
          refine tw_push rfl ?_
          refine tw_iadd rfl ?_
          refine tw_put rfl (fun f530 => ?_)
          refine tG_setm f530 (hw_111_28 f530 (ggp529).1) (fun hf530 ef530 => ?_)
          try dsimp only [tvI_i] at ef530
          have gf530 := mFr_s ggp529 ef530 (by unfold mFs; omega)
          have wf530 := (sgm_k kp483 61 (by decide)).mp q528
          obtain ⟨pf530, sf530, tf530⟩ := mTo pp529e ((mFr_n ggp529).trans hN) ef530 (v := (ms h).1 + 1) (zincN (n := (ms h).1) (by rw [mPl pp529e, sp529]) (by omega)) wf530.1
          rw [sp529] at sf530
          refine tw_iload rfl rfl ?_
          refine tw_push rfl ?_
          refine tw_ic_eq rfl (fun q531 => ?_) (fun q531 => ?_)
          · try dsimp only [tvI_i, tvJ_j, tvR_r] at q531
            have q531i := zeqi (Y := 61) (by decide) q531
            refine tw_push rfl ?_
            refine tw_istore rfl ?_
            refine tw_aload rfl rfl ?_
            refine tw_dup rfl ?_
            refine tw_getS rfl (hi_111_28 (gf530).1) ?_
            refine tw_iload rfl rfl ?_
            refine tw_if_eq rfl (fun _ => ?_) (fun z => absurd z (by decide))
            refine tw_push rfl ?_
            refine tw_iadd rfl ?_
            refine tw_put rfl (fun f532 => ?_)
            refine tG_setm f532 (hw_111_28 f532 (gf530).1) (fun hf532 ef532 => ?_)
            try dsimp only [tvI_i] at ef532
            have gf532 := mFr_s gf530 ef532 (by unfold mFs; omega)
            obtain ⟨pf532, sf532, tf532⟩ := mTo pf530 ((mFr_n gf530).trans hN) ef532 (v := (ms h).1 + 1 + 0) (zp0 (by rw [mPl pf530, sf530]; rfl)) (by have z := mPle pf530 ((mFr_n gf530).trans hN); rw [sf530] at z; exact z)
            rw [sf530] at sf532
            refine tw_iload rfl rfl ?_
            refine tw_push rfl ?_
            refine tw_ic_ne rfl (fun q533 => ?_) (fun q533 => ?_)
            · try dsimp only [tvI_i, tvJ_j, tvR_r] at q533
              have q533i := zneq (Y := 61) (by decide) q533
              exact absurd q528 q533
            · try dsimp only [tvI_i, tvJ_j, tvR_r] at q533
              have q533i := zeqi (Y := 61) (by decide) q533
              refine tw_push rfl ?_
              refine tw_goto rfl ?_
              have w9 := (sgm_k kp483 61 (by decide)).mp q528
              have hq9 := cm61 w9
              exact tw_iret rfl ⟨gf532, Or.inr ⟨(100105, (ms h).1 + 1), hq9, Or.inl ⟨np529, ⟨7, rfl, cmw (k := 7) (C := 100105) rfl rfl⟩, pf532, sf532, tf532.trans (tf530.trans tp529), (mI_o ef532 (by decide)).trans ((mI_o ef530 (by decide)).trans dp529)⟩⟩⟩
          · try dsimp only [tvI_i, tvJ_j, tvR_r] at q531
            have q531i := zneq (Y := 61) (by decide) q531
            exact absurd q528 q531
        · have ggp529 := mFr_t g0 gp529
          refine tw_aload rfl rfl ?_
          refine tw_dup rfl ?_
          refine tw_getS rfl (hi_111_28 ggp529.1) ?_
          refine tw_push rfl ?_
          refine tw_iadd rfl ?_
          refine tw_put rfl (fun f534 => ?_)
          refine tG_setm f534 (hw_111_28 f534 (ggp529).1) (fun hf534 ef534 => ?_)
          try dsimp only [tvI_i] at ef534
          have gf534 := mFr_s ggp529 ef534 (by unfold mFs; omega)
          have zf534 := mFt_s Fp529 ef534 (by decide)
          have ZBf534 : mZp hp529 := mZp_k (mZp_p hp) ip529 jp529
          have yf534 : (tvI (tF hp529 111 28) + 1).toInt = (((ms h).1 + 1 : Nat) : Int) := zp1 (by rw [ip529]; exact mPl hp) (by omega)
          have Zf534 : mZp hf534 := mZp_s ZBf534 ef534 (by omega)
          refine tw_iload rfl rfl ?_
          refine tw_push rfl ?_
          refine tw_ic_eq rfl (fun q535 => ?_) (fun q535 => ?_)
          · try dsimp only [tvI_i, tvJ_j, tvR_r] at q535
            have q535i := zeqi (Y := 61) (by decide) q535
            refine tw_push rfl ?_
            refine tw_istore rfl ?_
            refine tw_aload rfl rfl ?_
            refine tw_dup rfl ?_
            refine tw_getS rfl (hi_111_28 (gf534).1) ?_
            refine tw_iload rfl rfl ?_
            refine tw_if_eq rfl (fun _ => ?_) (fun z => absurd z (by decide))
            refine tw_push rfl ?_
            refine tw_iadd rfl ?_
            refine tw_put rfl (fun f536 => ?_)
            refine tG_setm f536 (hw_111_28 f536 (gf534).1) (fun hf536 ef536 => ?_)
            try dsimp only [tvI_i] at ef536
            have gf536 := mFr_s gf534 ef536 (by unfold mFs; omega)
            have zf536 := mFt_s zf534 ef536 (by decide)
            have xf536 : (tvI (tF hf534 111 28)).toInt = (((ms h).1 + 1 : Nat) : Int) := by rw [mI_x ef534]; exact yf534
            have Zf536 : mZp hf536 := mZp_s Zf534 ef536 (by have y := zp0 xf536; omega)
            refine tw_iload rfl rfl ?_
            refine tw_push rfl ?_
            refine tw_ic_ne rfl (fun q537 => ?_) (fun q537 => ?_)
            · try dsimp only [tvI_i, tvJ_j, tvR_r] at q537
              have q537i := zneq (Y := 61) (by decide) q537
              exact absurd q528 q537
            · try dsimp only [tvI_i, tvJ_j, tvR_r] at q537
              have q537i := zeqi (Y := 61) (by decide) q537
              refine tw_push rfl ?_
              refine tw_goto rfl ?_
              have w9 := (sgm_k kp483 61 (by decide)).mp q528
              obtain ⟨q9, hq9⟩ := cm_s (Or.inl w9)
              exact tw_iret rfl ⟨gf536, Or.inr ⟨q9, hq9, Or.inr ⟨np529, _, rfl, by decide, by decide, zf536, Zf536⟩⟩⟩
          · try dsimp only [tvI_i, tvJ_j, tvR_r] at q535
            have q535i := zneq (Y := 61) (by decide) q535
            exact absurd q528 q535
      · try dsimp only [tvI_i, tvJ_j, tvR_r] at q528
        have q528i := zneq (Y := 61) (by decide) q528
        refine tw_push rfl ?_
        exact tw_iret rfl ⟨g0, Or.inl ⟨cm_n (fun z => q528 ((sgm_k kp483 61 (by decide)).mpr z)) (fun z => q484 ((sgm_k kp483 60 (by decide)).mpr z)) (fun z => q506 ((sgm_k kp483 62 (by decide)).mpr z)), rfl, rfl⟩⟩
theorem rWd_lo : ∀ k, k < 16 → rWd k = ztx (k + 2) := by
  have a : (List.range 16).all (fun k => Nat.beq (rWn k) (k + 2)) = true := by decide +kernel
  intro k hk
  have e := Nat.eq_of_beq_eq_true (List.all_eq_true.mp a k (List.mem_range.mpr hk))
  unfold rWd
  rw [e]
theorem zl_lo : ∀ k, k < 16 → (ztx (k + 2)).length ≤ 200 ∧ 0 < (ztx (k + 2)).length := by
  have a : (List.range 16).all (fun k => decide ((ztx (k + 2)).length ≤ 200 ∧ 0 < (ztx (k + 2)).length)) = true := by decide +kernel
  intro k hk
  exact of_decide_eq_true (List.all_eq_true.mp a k (List.mem_range.mpr hk))
noncomputable def mOut (y : rMo) (h2 : zH) : Prop := match y with
  | .inl e => mFt h2 e ∧ mZp h2
  | .inr x => mP h2 ∧ mD h2 ∧ mst h2 = x
theorem mOut_l {y : rMo} {h2 : zH} {e : Nat} (hy : y = .inl e) (k : mFt h2 e) (z : mZp h2) : mOut y h2 := by rw [hy]; exact ⟨k, z⟩
theorem mOut_r {y : rMo} {h2 : zH} {x : rMs} (hy : y = .inr x) (k : mP h2) (d : mD h2) (z : mst h2 = x) : mOut y h2 := by rw [hy]; exact ⟨k, d, z⟩
theorem mD_k {h h2 : zH} (d : mD h) (a : mSk h2 = mSk h) (b : tF h2 111 32 = tF h 111 32) : mD h2 := by
  unfold mD
  rw [a, b]
  exact d
theorem g_wordOf {G : zG} (hG : G.1 = zProg) {h : zH} {x : Int32} {k : Nat} (hx : x.toInt = k) (hk : k < 12) : tC zTt G 199 [.int x] h (fun w h2 => w = some (.retAddr (k + 2)) ∧ h = h2) := by
  refine tC_in (by rw [hG]; rfl) (fun dp => ?_)
  refine tw_iload rfl rfl ?_
  refine tw_table rfl (fun q538 => ?_) (fun t9 q538a q538b q538c => ?_)
  · try dsimp only [tvI_i, tvJ_j, tvR_r] at q538
    refine tw_push rfl ?_
    try dsimp only [tvI_i] at q538
    have hk9 : k = 11 := by omega
    subst hk9
    exact tw_aret rfl ⟨rfl, rfl⟩
  · have q538d : (tvI (.int x)).toInt = 0 ∨ (tvI (.int x)).toInt = 1 ∨ (tvI (.int x)).toInt = 2 ∨ (tvI (.int x)).toInt = 3 ∨ (tvI (.int x)).toInt = 4 ∨ (tvI (.int x)).toInt = 5 ∨ (tvI (.int x)).toInt = 6 ∨ (tvI (.int x)).toInt = 7 ∨ (tvI (.int x)).toInt = 8 ∨ (tvI (.int x)).toInt = 9 ∨ (tvI (.int x)).toInt = 10 := by omega
    rcases q538d with q538 | q538 | q538 | q538 | q538 | q538 | q538 | q538 | q538 | q538 | q538
    · obtain rfl : t9 = 60 := by rw [q538] at q538c; exact Option.some.inj (q538c.symm.trans rfl)
      try dsimp only [tvI_i, tvJ_j, tvR_r] at q538
      refine tw_push rfl ?_
      try dsimp only [tvI_i] at q538
      have hk9 : k = 0 := by omega
      subst hk9
      exact tw_aret rfl ⟨rfl, rfl⟩
    · obtain rfl : t9 = 64 := by rw [q538] at q538c; exact Option.some.inj (q538c.symm.trans rfl)
      try dsimp only [tvI_i, tvJ_j, tvR_r] at q538
      refine tw_push rfl ?_
      try dsimp only [tvI_i] at q538
      have hk9 : k = 1 := by omega
      subst hk9
      exact tw_aret rfl ⟨rfl, rfl⟩
    · obtain rfl : t9 = 68 := by rw [q538] at q538c; exact Option.some.inj (q538c.symm.trans rfl)
      try dsimp only [tvI_i, tvJ_j, tvR_r] at q538
      refine tw_push rfl ?_
      try dsimp only [tvI_i] at q538
      have hk9 : k = 2 := by omega
      subst hk9
      exact tw_aret rfl ⟨rfl, rfl⟩
    · obtain rfl : t9 = 72 := by rw [q538] at q538c; exact Option.some.inj (q538c.symm.trans rfl)
      try dsimp only [tvI_i, tvJ_j, tvR_r] at q538
      refine tw_push rfl ?_
      try dsimp only [tvI_i] at q538
      have hk9 : k = 3 := by omega
      subst hk9
      exact tw_aret rfl ⟨rfl, rfl⟩
    · obtain rfl : t9 = 76 := by rw [q538] at q538c; exact Option.some.inj (q538c.symm.trans rfl)
      try dsimp only [tvI_i, tvJ_j, tvR_r] at q538
      refine tw_push rfl ?_
      try dsimp only [tvI_i] at q538
      have hk9 : k = 4 := by omega
      subst hk9
      exact tw_aret rfl ⟨rfl, rfl⟩
    · obtain rfl : t9 = 80 := by rw [q538] at q538c; exact Option.some.inj (q538c.symm.trans rfl)
      try dsimp only [tvI_i, tvJ_j, tvR_r] at q538
      refine tw_push rfl ?_
      try dsimp only [tvI_i] at q538
      have hk9 : k = 5 := by omega
      subst hk9
      exact tw_aret rfl ⟨rfl, rfl⟩
    · obtain rfl : t9 = 84 := by rw [q538] at q538c; exact Option.some.inj (q538c.symm.trans rfl)
      try dsimp only [tvI_i, tvJ_j, tvR_r] at q538
      refine tw_push rfl ?_
      try dsimp only [tvI_i] at q538
      have hk9 : k = 6 := by omega
      subst hk9
      exact tw_aret rfl ⟨rfl, rfl⟩
    · obtain rfl : t9 = 88 := by rw [q538] at q538c; exact Option.some.inj (q538c.symm.trans rfl)
      try dsimp only [tvI_i, tvJ_j, tvR_r] at q538
      refine tw_push rfl ?_
      try dsimp only [tvI_i] at q538
      have hk9 : k = 7 := by omega
      subst hk9
      exact tw_aret rfl ⟨rfl, rfl⟩
    · obtain rfl : t9 = 92 := by rw [q538] at q538c; exact Option.some.inj (q538c.symm.trans rfl)
      try dsimp only [tvI_i, tvJ_j, tvR_r] at q538
      refine tw_push rfl ?_
      try dsimp only [tvI_i] at q538
      have hk9 : k = 8 := by omega
      subst hk9
      exact tw_aret rfl ⟨rfl, rfl⟩
    · obtain rfl : t9 = 96 := by rw [q538] at q538c; exact Option.some.inj (q538c.symm.trans rfl)
      try dsimp only [tvI_i, tvJ_j, tvR_r] at q538
      refine tw_push rfl ?_
      try dsimp only [tvI_i] at q538
      have hk9 : k = 9 := by omega
      subst hk9
      exact tw_aret rfl ⟨rfl, rfl⟩
    · obtain rfl : t9 = 100 := by rw [q538] at q538c; exact Option.some.inj (q538c.symm.trans rfl)
      try dsimp only [tvI_i, tvJ_j, tvR_r] at q538
      refine tw_push rfl ?_
      try dsimp only [tvI_i] at q538
      have hk9 : k = 10 := by omega
      subst hk9
      exact tw_aret rfl ⟨rfl, rfl⟩
theorem g_thingName {G : zG} (hG : G.1 = zProg) {h : zH} {x : Int32} {k : Nat} (hx : x.toInt = k) (hk : k < 4) : tC zTt G 200 [.int x] h (fun w h2 => w = some (.retAddr (k + 14)) ∧ h = h2) := by
  refine tC_in (by rw [hG]; rfl) (fun dp => ?_)
  refine tw_iload rfl rfl ?_
  refine tw_table rfl (fun q539 => ?_) (fun t9 q539a q539b q539c => ?_)
  · try dsimp only [tvI_i, tvJ_j, tvR_r] at q539
    refine tw_push rfl ?_
    try dsimp only [tvI_i] at q539
    have hk9 : k = 3 := by omega
    subst hk9
    exact tw_aret rfl ⟨rfl, rfl⟩
  · have q539d : (tvI (.int x)).toInt = 0 ∨ (tvI (.int x)).toInt = 1 ∨ (tvI (.int x)).toInt = 2 := by omega
    rcases q539d with q539 | q539 | q539
    · obtain rfl : t9 = 28 := by rw [q539] at q539c; exact Option.some.inj (q539c.symm.trans rfl)
      try dsimp only [tvI_i, tvJ_j, tvR_r] at q539
      refine tw_push rfl ?_
      try dsimp only [tvI_i] at q539
      have hk9 : k = 0 := by omega
      subst hk9
      exact tw_aret rfl ⟨rfl, rfl⟩
    · obtain rfl : t9 = 32 := by rw [q539] at q539c; exact Option.some.inj (q539c.symm.trans rfl)
      try dsimp only [tvI_i, tvJ_j, tvR_r] at q539
      refine tw_push rfl ?_
      try dsimp only [tvI_i] at q539
      have hk9 : k = 1 := by omega
      subst hk9
      exact tw_aret rfl ⟨rfl, rfl⟩
    · obtain rfl : t9 = 36 := by rw [q539] at q539c; exact Option.some.inj (q539c.symm.trans rfl)
      try dsimp only [tvI_i, tvJ_j, tvR_r] at q539
      refine tw_push rfl ?_
      try dsimp only [tvI_i] at q539
      have hk9 : k = 2 := by omega
      subst hk9
      exact tw_aret rfl ⟨rfl, rfl⟩
theorem g_value {G : zG} (hG : G.1 = zProg) (hX : G.2.1 = ztx) {h : zH} {T : Nat → Int32} {n : Nat} (hs : tSh h) (hp : mP h) (hT : tA h 132 = T) (hN : mn h = n) (hD : mD h) (hd : mDp (mSk h) ≤ 1000) (h46s : tvI (tF h 111 46) = 1) : tC zTt G 213 [.ref 111] h (fun w h2 => w = none ∧ mFq h h2 ∧ mOut (mS1 T n (mSk h) (ms h)) h2) := by
  refine tC_in (by rw [hG]; rfl) (fun dp => ?_)
  have g0 := mFr_r hs
  have hpn : (ms h).1 ≤ n := mPle hp hN
  have c129 : (12 : Int32).toInt = 12 := rfl
  have hn4 : n ≤ 400 := by have a := mNl hp hN; have b := hp.2.1; omega
  refine tw_aload rfl rfl ?_
  refine tw_virt0 rfl (g_blanks hG hX (g0).1 hp ((mFr_T g0).trans hT) ((mFr_n g0).trans hN)) (fun wp540 hp540 p540 => ?_)
  obtain ⟨rfl, gp540, pp540e, sp540, tp540, dp540⟩ := p540
  have ggp540 := mFr_t g0 gp540
  refine tw_aload rfl rfl ?_
  refine tw_getS rfl (hi_111_28 ggp540.1) ?_
  refine tw_istore rfl ?_
  refine tw_aload rfl rfl ?_
  refine tw_virt0 rfl (g_sign hG hX (ggp540).1 ((mFr_T ggp540).trans hT) ((mFr_n ggp540).trans hN) ⟨pp540e.2.1.1, by have := pp540e.2.1; omega⟩) (fun wp541 hp541 p541 => ?_)
  obtain ⟨⟨cp541, rfl, kp541⟩, rfl⟩ := p541
  refine tw_push rfl ?_
  refine tw_ic_ne rfl (fun q542 => ?_) (fun q542 => ?_)
  · try dsimp only [tvI_i, tvJ_j, tvR_r] at q542
    have q542i := zneq (Y := 40) (by decide) q542
    refine tw_aload rfl rfl ?_
    refine tw_virt0 rfl (g_sign hG hX (ggp540).1 ((mFr_T ggp540).trans hT) ((mFr_n ggp540).trans hN) ⟨pp540e.2.1.1, by have := pp540e.2.1; omega⟩) (fun wp543 hp543 p543 => ?_)
    obtain ⟨⟨cp543, rfl, kp543⟩, rfl⟩ := p543
    refine tw_stat1 rfl (g_isDigit hG) (fun w9 h9 p544 => ?_)
    obtain ⟨⟨p544, rfl⟩ | ⟨p544, rfl⟩, rfl⟩ := p544
    · try dsimp only [tvI_i, tvJ_j, tvR_r] at p544
      refine tw_if_eq rfl (fun z => absurd z (by decide)) (fun _ => ?_)
      refine tw_aload rfl rfl ?_
      refine tw_push rfl ?_
      refine tw_virt1 rfl (g_digits hG hX (ggp540).1 pp540e ((mFr_T ggp540).trans hT) ((mFr_n ggp540).trans hN) (m := 99999) (M := 99999) rfl (by decide) (by rw [sp540]; exact rB_2)) (fun w9 hp545 p545 => ?_)
      obtain ⟨gp545, ⟨vp545, Np545, rfl, pp545e, sp545, tp545, dp545⟩ | ⟨ep545, xp545, Np545, rfl, x0p545, Fp545, Zp545⟩⟩ := p545
      · have ggp545 := mFr_t ggp540 gp545
        refine tw_istore rfl ?_
        refine tw_aload rfl rfl ?_
        refine tw_iload rfl rfl ?_
        refine tw_virt1 rfl (g_counts hG hX (ggp545).1 pp545e ((mFr_T ggp545).trans hT) ((mFr_n ggp545).trans hN) (b := (rB T n (ms h).1)) ((mPl pp540e).trans (by rw [sp540]; rfl)) (by have := rB_le (T := T) hpn; omega)) (fun w9 hp546 p546 => ?_)
        obtain ⟨rfl, gp546, ⟨np546, pp546e, sp546, tp546, dp546⟩ | ⟨np546, Fp546⟩, ip546, jp546⟩ := p546
        · have ggp546 := mFr_t ggp545 gp546
          refine tw_aload rfl rfl ?_
          refine tw_push rfl ?_
          refine tw_iload rfl rfl ?_
          refine tw_virt2 rfl (g_entry hG hX (ggp546).1 pp546e ((mFr_T ggp546).trans hT) ((mFr_n ggp546).trans hN) ⟨by decide, by show 0 ≤ (Int32.ofNat vp545.2).toInt; have z := Np545; rw [sp540] at z; have := (rM_r (rB_le hpn) z).2.2; rw [zofI (by omega)]; omega⟩) (fun wp547 hp547 p547 => ?_)
          obtain ⟨rfl, gp547, pp547e, sp547, tp547, dp547⟩ := p547
          have ggp547 := mFr_t ggp546 gp547
          refine tw_aload rfl rfl ?_
          refine tw_push rfl ?_
          refine tw_put rfl (fun f548 => ?_)
          refine tG_setm f548 (hw_111_46 f548 (ggp547).1) (fun hf548 ef548 => ?_)
          try dsimp only [tvI_i] at ef548
          have gf548 := mFq_s (mFq_f ggp547) ef548 (Or.inr rfl)
          obtain ⟨pf548, sf548, tf548⟩ := mSte pp547e ef548
          refine tw_goto rfl ?_
          have hdg := (sgm_d kp543).mp p544
          rw [sp540] at hdg
          have hk12 : rK12 T n (rB T n (ms h).1) = none := rK12_n (fun k hk z => by have y := rW_l (by omega) z; have y2 : _ ∧ _ := hdg.2; have y3 : T (rB T n (ms h).1) = T (rA (rB T n (ms h).1) (ms h)).1 := rfl; rw [← y3] at y2; omega)
          have hrm : rM T n 99999 (rB T n (ms h).1) = .inr vp545 := by have z := Np545; rw [sp540] at z; exact z
          have h80 : (ms h).2.1 ≠ 80 := by have z := np546; rw [sp545, sp540] at z; exact z
          have hsk : mSk hf548 = mSk h := by rw [tf548, tp547, tp546, tp545, tp540]
          have h32 : tF hf548 111 32 = tF h 111 32 := (mI_o ef548 (by decide)).trans (dp547.trans (dp546.trans (dp545.trans dp540)))
          have hms : ms hf548 = (vp545.1, (ms h).2.1 + 1, (ms h).2.2 ++ [vp545.2]) := by rw [sf548, sp547, sp546, sp545, sp540]; show (_, _, _ ++ [mCode 0 (Int32.ofNat vp545.2).toNatClampNeg]) = _; rw [zoN (by have := (rM_r (rB_le hpn) hrm).2.2; omega)]; rfl
          exact tw_vret rfl ⟨rfl, gf548, mOut_r (by unfold mS1; rw [if_neg (fun z => q542 ((by have y := sgm_k kp541 40 (by decide); rw [sp540] at y; exact y.mpr z))), hk12]; (try dsimp only); rw [hrm]; (try dsimp only); rw [if_neg h80]) pf548 (mD_k hD hsk h32) (by unfold mst; rw [mI_x ef548, hsk, hms]; rfl)⟩
        · have ggp546 := mFr_t ggp545 gp546
          refine tw_aload rfl rfl ?_
          refine tw_push rfl ?_
          refine tw_iload rfl rfl ?_
          refine tw_virt2 rfl (z_entry hG hX (ggp546).1 Fp546 ((mFr_T ggp546).trans hT) ((mFr_n ggp546).trans hN)) (fun wp549 hp549 p549 => ?_)
          obtain ⟨rfl, e9⟩ := p549
          obtain rfl := e9.symm
          refine tw_aload rfl rfl ?_
          refine tw_push rfl ?_
          refine tw_put rfl (fun f550 => ?_)
          refine tG_setm f550 (hw_111_46 f550 (ggp546).1) (fun hf550 ef550 => ?_)
          try dsimp only [tvI_i] at ef550
          have gf550 := mFq_s (mFq_f ggp546) ef550 (Or.inr rfl)
          have zf550 := mFt_s Fp546 ef550 (by decide)
          refine tw_goto rfl ?_
          have hdg := (sgm_d kp543).mp p544
          rw [sp540] at hdg
          have hk12 : rK12 T n (rB T n (ms h).1) = none := rK12_n (fun k hk z => by have y := rW_l (by omega) z; have y2 : _ ∧ _ := hdg.2; have y3 : T (rB T n (ms h).1) = T (rA (rB T n (ms h).1) (ms h)).1 := rfl; rw [← y3] at y2; omega)
          have hrm : rM T n 99999 (rB T n (ms h).1) = .inr vp545 := by have z := Np545; rw [sp540] at z; exact z
          have h80 : (ms h).2.1 = 80 := by have z := np546; rw [sp545, sp540] at z; exact z
          have Zfin : mZp hf550 := mZp_o (mZp_k (mZp_p pp545e) ip546 jp546) ef550 (by decide)
          exact tw_vret rfl ⟨rfl, gf550, mOut_l (by unfold mS1; rw [if_neg (fun z => q542 ((by have y := sgm_k kp541 40 (by decide); rw [sp540] at y; exact y.mpr z))), hk12]; (try dsimp only); rw [hrm]; (try dsimp only); rw [if_pos h80]) zf550 Zfin⟩
      · have ggp545 := mFr_t ggp540 gp545
        refine tw_istore rfl ?_
        refine tw_aload rfl rfl ?_
        refine tw_iload rfl rfl ?_
        refine tw_virt1 rfl (z_counts hG hX (ggp545).1 Fp545 ((mFr_T ggp545).trans hT) ((mFr_n ggp545).trans hN)) (fun w9 hp551 p551 => ?_)
        obtain ⟨rfl, gp551, Fp551, ip551, jp551⟩ := p551
        · have ggp551 := mFr_t ggp545 gp551
          refine tw_aload rfl rfl ?_
          refine tw_push rfl ?_
          refine tw_iload rfl rfl ?_
          refine tw_virt2 rfl (z_entry hG hX (ggp551).1 Fp551 ((mFr_T ggp551).trans hT) ((mFr_n ggp551).trans hN)) (fun wp552 hp552 p552 => ?_)
          obtain ⟨rfl, e9⟩ := p552
          obtain rfl := e9.symm
          refine tw_aload rfl rfl ?_
          refine tw_push rfl ?_
          refine tw_put rfl (fun f553 => ?_)
          refine tG_setm f553 (hw_111_46 f553 (ggp551).1) (fun hf553 ef553 => ?_)
          try dsimp only [tvI_i] at ef553
          have gf553 := mFq_s (mFq_f ggp551) ef553 (Or.inr rfl)
          have zf553 := mFt_s Fp551 ef553 (by decide)
          refine tw_goto rfl ?_
          have hdg := (sgm_d kp543).mp p544
          rw [sp540] at hdg
          have hk12 : rK12 T n (rB T n (ms h).1) = none := rK12_n (fun k hk z => by have y := rW_l (by omega) z; have y2 : _ ∧ _ := hdg.2; have y3 : T (rB T n (ms h).1) = T (rA (rB T n (ms h).1) (ms h)).1 := rfl; rw [← y3] at y2; omega)
          have hrm : rM T n 99999 (rB T n (ms h).1) = .inl ep545 := by have z := Np545; rw [sp540] at z; exact z
          have Zfin : mZp hf553 := mZp_o (mZp_k Zp545 ip551 jp551) ef553 (by decide)
          exact tw_vret rfl ⟨rfl, gf553, mOut_l (by unfold mS1; rw [if_neg (fun z => q542 ((by have y := sgm_k kp541 40 (by decide); rw [sp540] at y; exact y.mpr z))), hk12]; (try dsimp only); rw [hrm]) zf553 Zfin⟩
    · try dsimp only [tvI_i, tvJ_j, tvR_r] at p544
      refine tw_if_eq rfl (fun _ => ?_) (fun z => absurd z (by decide))
      refine tw_push rfl ?_
      refine tw_istore rfl ?_
      refine tG_loop (zW_mono zTt G dp) (zW_conj zTt G dp) (V := fun pc L st h9 _ _ => pc = 82 ∧ st = [] ∧ hp540 = h9 ∧ ∃ (k : Nat) (x : Int32), x.toInt = k ∧ k ≤ 12 ∧ (∀ i, i < k → ¬ rW T n (rB T n (ms h).1) (rWd i) = true) ∧ L = [some (.ref 111), some (.int (tvI (tF hp540 111 28))), some (.int x)]) ?_ (⟨rfl, rfl, rfl, 0, 0, rfl, by omega, fun i hi => by omega, rfl⟩)
      rintro _ _ _ _ _ _ ⟨rfl, rfl, rfl, k, x, hx, hk, hall, rfl⟩
      refine tw_iload rfl rfl ?_
      refine tw_push rfl ?_
      refine tw_ic_ge rfl (fun q554 => ?_) (fun q554 => ?_)
      · try dsimp only [tvI_i, tvJ_j, tvR_r] at q554
        refine tw_iload rfl rfl ?_
        refine tw_push rfl ?_
        refine tw_ic_ne rfl (fun q555 => ?_) (fun q555 => ?_)
        · try dsimp only [tvI_i, tvJ_j, tvR_r] at q555
          have q555i := zneq (Y := 12) (by decide) q555
          exact absurd (show x.toInt = 12 by have z := q554; omega) (fun z => q555i z)
        · try dsimp only [tvI_i, tvJ_j, tvR_r] at q555
          have q555i := zeqi (Y := 12) (by decide) q555
          refine tw_aload rfl rfl ?_
          refine tw_push rfl ?_
          refine tw_iload rfl rfl ?_
          refine tw_virt2 rfl (g_fails hG hX (ggp540).1 pp540e ((mFr_T ggp540).trans hT) ((mFr_n ggp540).trans hN) (w := 0) (b := (rB T n (ms h).1)) rfl (by decide) ((mPl pp540e).trans (by rw [sp540]; rfl)) (by have := rB_le (T := T) hpn; omega)) (fun wp556 hp556 p556 => ?_)
          obtain ⟨rfl, gp556, Fp556, ip556, jp556⟩ := p556
          have ggp556 := mFr_t ggp540 gp556
          refine tw_goto rfl ?_
          have hk12 : rK12 T n (rB T n (ms h).1) = none := rK12_n (fun i hi => hall i (by have z := q555; have z2 : x.toInt = 12 := q555i; omega))
          have hnd : rD T n (rB T n (ms h).1) = (rB T n (ms h).1) := rD_n (fun z => p544 (by have y := sgm_d kp543; rw [sp540] at y; exact y.mpr z))
          have hrm := rM_a (M := 99999) (T := T) (n := n) (p := (rB T n (ms h).1)) (b := (rB T n (ms h).1)) rB_2 hnd
          have Zfin : mZp hp556 := mZp_k (mZp_p pp540e) ip556 jp556
          exact tw_vret rfl ⟨rfl, mFq_f ggp556, mOut_l (by unfold mS1; rw [if_neg (fun z => q542 ((by have y := sgm_k kp541 40 (by decide); rw [sp540] at y; exact y.mpr z))), hk12]; (try dsimp only); rw [hrm]) Fp556 Zfin⟩
      · try dsimp only [tvI_i, tvJ_j, tvR_r] at q554
        refine tw_aload rfl rfl ?_
        refine tw_iload rfl rfl ?_
        refine tw_stat1 rfl (g_wordOf hG (k := k) hx (by omega)) (fun wp557 hp557 p557 => ?_)
        obtain ⟨rfl, rfl⟩ := p557
        refine tw_virt1 rfl (g_stands hG hX (ggp540).1 ((mFr_T ggp540).trans hT) ((mFr_n ggp540).trans hN) (q := (k + 2)) (zl_lo k (by omega)).1 ⟨pp540e.2.1.1, by have := pp540e.2.1; omega⟩ ⟨by have := pp540e.2.1; omega, pp540e.2.1.2.2⟩) (fun w9 h9 p558 => ?_)
        obtain ⟨⟨p558, rfl⟩ | ⟨p558, rfl⟩, rfl⟩ := p558
        · try dsimp only [tvI_i, tvJ_j, tvR_r] at p558
          refine tw_if_ne rfl (fun _ => ?_) (fun z => absurd z (by decide))
          refine tw_iload rfl rfl ?_
          refine tw_push rfl ?_
          refine tw_ic_ne rfl (fun q559 => ?_) (fun q559 => ?_)
          · try dsimp only [tvI_i, tvJ_j, tvR_r] at q559
            have q559i := zneq (Y := 12) (by decide) q559
            refine tw_aload rfl rfl ?_
            refine tw_iload rfl rfl ?_
            have hk11 : k < 12 := by have z := q554; omega
            have hwk : rW T n (rB T n (ms h).1) (rWd k) = true := by have z := p558; rw [sp540] at z; rw [rWd_lo k (by omega)]; exact z
            refine tw_virt1 rfl (g_counts hG hX (ggp540).1 pp540e ((mFr_T ggp540).trans hT) ((mFr_n ggp540).trans hN) (b := (rB T n (ms h).1)) ((mPl pp540e).trans (by rw [sp540]; rfl)) (by have := rB_le (T := T) hpn; omega)) (fun w9 hp560 p560 => ?_)
            obtain ⟨rfl, gp560, ⟨np560, pp560e, sp560, tp560, dp560⟩ | ⟨np560, Fp560⟩, ip560, jp560⟩ := p560
            · have ggp560 := mFr_t ggp540 gp560
              refine tw_aload rfl rfl ?_
              refine tw_push rfl ?_
              refine tw_iload rfl rfl ?_
              refine tw_virt2 rfl (g_entry hG hX (ggp560).1 pp560e ((mFr_T ggp560).trans hT) ((mFr_n ggp560).trans hN) ⟨by decide, by omega⟩) (fun wp561 hp561 p561 => ?_)
              obtain ⟨rfl, gp561, pp561e, sp561, tp561, dp561⟩ := p561
              have ggp561 := mFr_t ggp560 gp561
              refine tw_aload rfl rfl ?_
              refine tw_dup rfl ?_
              refine tw_getS rfl (hi_111_28 ggp561.1) ?_
              refine tw_iload rfl rfl ?_
              refine tw_stat1 rfl (g_wordOf hG (k := k) hx (by omega)) (fun wp562 hp562 p562 => ?_)
              obtain ⟨rfl, rfl⟩ := p562
              refine tw_tlen rfl ?_
              refine tw_iadd rfl ?_
              refine tw_put rfl (fun f563 => ?_)
              refine tG_setm f563 (hw_111_28 f563 (ggp561).1) (fun hf563 ef563 => ?_)
              try dsimp only [tvI_i] at ef563
              have gf563 := mFr_s ggp561 ef563 (by unfold mFs; omega)
              have hln : (Int32.ofNat (G.2.1 (k + 2)).length).toInt = ((ztx (k + 2)).length : Int) := by rw [hX]; exact zofI (by have := (zl_lo k (by omega)).1; omega)
              have hre : rE T n (rB T n (ms h).1) = (rB T n (ms h).1) + (ztx (k + 2)).length := by rw [rW_e hwk, rWd_lo k (by omega)]
              have hre2 := rE_le (T := T) (rB_le (T := T) hpn)
              obtain ⟨pf563, sf563, tf563⟩ := mTo pp561e ((mFr_n ggp561).trans hN) ef563 (v := (rB T n (ms h).1) + (ztx (k + 2)).length) (zadN (a := (rB T n (ms h).1)) (by rw [mPl pp561e, sp561, sp560, sp540]; rfl) hln (by omega) (by have := (zl_lo k (by omega)).1; omega)) (by omega)
              rw [sp561, sp560, sp540, ← hre] at sf563
              refine tw_aload rfl rfl ?_
              refine tw_push rfl ?_
              refine tw_put rfl (fun f564 => ?_)
              refine tG_setm f564 (hw_111_46 f564 (gf563).1) (fun hf564 ef564 => ?_)
              try dsimp only [tvI_i] at ef564
              have gf564 := mFq_s (mFq_f gf563) ef564 (Or.inr rfl)
              obtain ⟨pf564, sf564, tf564⟩ := mSte pf563 ef564
              have hk12 : rK12 T n (rB T n (ms h).1) = some k := rK12_i (by omega) hwk
              have h80 : (ms h).2.1 ≠ 80 := by have z := np560; rw [sp540] at z; exact z
              have hsk : mSk hf564 = mSk h := by rw [tf564, tf563, tp561, tp560, tp540]
              have h32 : tF hf564 111 32 = tF h 111 32 := (mI_o ef564 (by decide)).trans ((mI_o ef563 (by decide)).trans (dp561.trans (dp560.trans dp540)))
              have hms : ms hf564 = (rE T n (rB T n (ms h).1), (ms h).2.1 + 1, (ms h).2.2 ++ [100000 + k]) := by rw [sf564, sf563]; show (_, _, _ ++ [mCode 1 x.toNatClampNeg]) = _; rw [zof_cl hx, mCode_1 (by omega)]; rfl
              exact tw_vret rfl ⟨rfl, gf564, mOut_r (by unfold mS1; rw [if_neg (fun z => q542 ((by have y := sgm_k kp541 40 (by decide); rw [sp540] at y; exact y.mpr z))), hk12]; (try dsimp only); rw [if_neg h80]) pf564 (mD_k hD hsk h32) (by unfold mst; rw [mI_x ef564, hsk, hms]; rfl)⟩
            · have ggp560 := mFr_t ggp540 gp560
              refine tw_aload rfl rfl ?_
              refine tw_push rfl ?_
              refine tw_iload rfl rfl ?_
              refine tw_virt2 rfl (z_entry hG hX (ggp560).1 Fp560 ((mFr_T ggp560).trans hT) ((mFr_n ggp560).trans hN)) (fun wp565 hp565 p565 => ?_)
              obtain ⟨rfl, e9⟩ := p565
              obtain rfl := e9.symm
              refine tw_aload rfl rfl ?_
              refine tw_dup rfl ?_
              refine tw_getS rfl (hi_111_28 (ggp560).1) ?_
              refine tw_iload rfl rfl ?_
              refine tw_stat1 rfl (g_wordOf hG (k := k) hx (by omega)) (fun wp566 hp566 p566 => ?_)
              obtain ⟨rfl, rfl⟩ := p566
              refine tw_tlen rfl ?_
              refine tw_iadd rfl ?_
              refine tw_put rfl (fun f567 => ?_)
              refine tG_setm f567 (hw_111_28 f567 (ggp560).1) (fun hf567 ef567 => ?_)
              try dsimp only [tvI_i] at ef567
              have gf567 := mFr_s ggp560 ef567 (by unfold mFs; omega)
              have zf567 := mFt_s Fp560 ef567 (by decide)
              have Zbf567 : 0 ≤ (tvI (tF hp560 111 27)).toInt ∧ (tvI (tF hp560 111 27)).toInt ≤ 400 := by rw [show tF hp560 111 27 = tF h 111 27 from mFr_27 ggp560]; have := hp.2.1; omega
              have yf567 : (tvI (tF hp560 111 28)).toInt = (((rB T n (ms h).1) : Nat) : Int) := by rw [ip560, mPl pp540e, sp540]; rfl
              have hln : (Int32.ofNat (G.2.1 (k + 2)).length).toInt = ((ztx (k + 2)).length : Int) := by rw [hX]; exact zofI (by have := (zl_lo k (by omega)).1; omega)
              have Zf567 : mZp hf567 := by have y := zadN yf567 hln (by have := rB_le (T := T) hpn; omega) (by have := (zl_lo k (by omega)).1; omega); have y2 := rE_le (T := T) (rB_le (T := T) hpn); rw [rW_e hwk, rWd_lo k (by omega)] at y2; unfold mZp; rw [mI_x ef567, mI_o ef567 (by decide)]; exact ⟨⟨by omega, Zbf567.1⟩, by omega, Zbf567.2⟩
              refine tw_aload rfl rfl ?_
              refine tw_push rfl ?_
              refine tw_put rfl (fun f568 => ?_)
              refine tG_setm f568 (hw_111_46 f568 (gf567).1) (fun hf568 ef568 => ?_)
              try dsimp only [tvI_i] at ef568
              have gf568 := mFq_s (mFq_f gf567) ef568 (Or.inr rfl)
              have zf568 := mFt_s zf567 ef568 (by decide)
              have hk12 : rK12 T n (rB T n (ms h).1) = some k := rK12_i (by omega) hwk
              have h80 : (ms h).2.1 = 80 := by have z := np560; rw [sp540] at z; exact z
              have Zfin : mZp hf568 := mZp_o Zf567 ef568 (by decide)
              exact tw_vret rfl ⟨rfl, gf568, mOut_l (by unfold mS1; rw [if_neg (fun z => q542 ((by have y := sgm_k kp541 40 (by decide); rw [sp540] at y; exact y.mpr z))), hk12]; (try dsimp only); rw [if_pos h80]) zf568 Zfin⟩
          · try dsimp only [tvI_i, tvJ_j, tvR_r] at q559
            have q559i := zeqi (Y := 12) (by decide) q559
            exact absurd (show x.toInt = 12 from q559i) (by have z := q554; omega)
        · try dsimp only [tvI_i, tvJ_j, tvR_r] at p558
          refine tw_if_ne rfl (fun z => absurd z (by decide)) (fun _ => ?_)
          refine tw_iinc rfl rfl ?_
          refine tw_goto rfl ?_
          have hno : ¬ rW T n (rB T n (ms h).1) (rWd k) = true := by have z := p558; rw [sp540] at z; rw [rWd_lo k (by omega)]; exact z
          exact tG_cut (zW_mono zTt G dp) (Or.inr ⟨rfl, rfl, rfl, k + 1, x + 1, zincN hx (by omega), by omega, fun i hi => (Classical.em (i = k)).elim (fun z => by rw [z]; exact hno) (fun z => hall i (by omega)), rfl⟩)
  · try dsimp only [tvI_i, tvJ_j, tvR_r] at q542
    have q542i := zeqi (Y := 40) (by decide) q542
    refine tw_aload rfl rfl ?_
    refine tw_push rfl ?_
    refine tw_iload rfl rfl ?_
    have hw40 : (rB T n (ms h).1) < n ∧ T (rB T n (ms h).1) = 40 := by have y := sgm_k kp541 40 (by decide); rw [sp540] at y; exact y.mp q542
    refine tw_virt2 rfl (g_opensDeep hG hX (ggp540).1 pp540e ((mFr_T ggp540).trans hT) ((mFr_n ggp540).trans hN) (by decide) (by decide) (b := (rB T n (ms h).1)) ((mPl pp540e).trans (by rw [sp540]; rfl)) (by have := rB_le (T := T) hpn; omega) (mD_k hD tp540 dp540) (by rw [tp540]; exact hd)) (fun w9 hp569 p569 => ?_)
    obtain ⟨rfl, gp569, ⟨np569, pp569e, tp569, sp569, ddp569⟩ | ⟨np569, Fp569, ip569, jp569⟩⟩ := p569
    · have ggp569 := mFr_t ggp540 gp569
      refine tw_aload rfl rfl ?_
      refine tw_iload rfl rfl ?_
      refine tw_virt1 rfl (g_counts hG hX (ggp569).1 pp569e ((mFr_T ggp569).trans hT) ((mFr_n ggp569).trans hN) (b := (rB T n (ms h).1)) ((mPl pp540e).trans (by rw [sp540]; rfl)) (by have := rB_le (T := T) hpn; omega)) (fun w9 hp570 p570 => ?_)
      obtain ⟨rfl, gp570, ⟨np570, pp570e, sp570, tp570, dp570⟩ | ⟨np570, Fp570⟩, ip570, jp570⟩ := p570
      · have ggp570 := mFr_t ggp569 gp570
        refine tw_aload rfl rfl ?_
        refine tw_dup rfl ?_
        refine tw_getS rfl (hi_111_28 ggp570.1) ?_
        refine tw_push rfl ?_
        refine tw_iadd rfl ?_
        refine tw_put rfl (fun f571 => ?_)
        refine tG_setm f571 (hw_111_28 f571 (ggp570).1) (fun hf571 ef571 => ?_)
        try dsimp only [tvI_i] at ef571
        have gf571 := mFr_s ggp570 ef571 (by unfold mFs; omega)
        have wf571 := hw40
        obtain ⟨pf571, sf571, tf571⟩ := mTo pp570e ((mFr_n ggp570).trans hN) ef571 (v := (rB T n (ms h).1) + 1) (zincN (n := (rB T n (ms h).1)) (by rw [mPl pp570e, sp570, sp569, sp540]; rfl) (by omega)) wf571.1
        rw [sp570, sp569, sp540] at sf571
        refine tw_goto rfl ?_
        have hnd : mDp (mSk h) ≠ 10 := by rw [← tp540]; exact np569
        have h80 : (ms h).2.1 ≠ 80 := by have z := np570; rw [sp569, sp540] at z; exact z
        have hsk : mSk hf571 = 50 :: mSk h := by rw [tf571, tp570, tp569, tp540]; rfl
        have hdd : mD hf571 := mD_o ef571 (by decide) (by decide) (mD_k ddp569 tp570 dp570)
        have h46 : stN (tvI (tF hf571 111 46)) = 1 := by rw [mFr_46 gf571, h46s]; rfl
        exact tw_vret rfl ⟨rfl, mFq_f gf571, mOut_r (by unfold mS1; rw [if_pos hw40, if_neg hnd, if_neg h80]) pf571 hdd (by unfold mst; rw [h46, hsk, sf571]; rfl)⟩
      · have ggp570 := mFr_t ggp569 gp570
        refine tw_aload rfl rfl ?_
        refine tw_dup rfl ?_
        refine tw_getS rfl (hi_111_28 ggp570.1) ?_
        refine tw_push rfl ?_
        refine tw_iadd rfl ?_
        refine tw_put rfl (fun f572 => ?_)
        refine tG_setm f572 (hw_111_28 f572 (ggp570).1) (fun hf572 ef572 => ?_)
        try dsimp only [tvI_i] at ef572
        have gf572 := mFr_s ggp570 ef572 (by unfold mFs; omega)
        have zf572 := mFt_s Fp570 ef572 (by decide)
        have yf572 : (tvI (tF hp570 111 28)).toInt = (((rB T n (ms h).1) : Nat) : Int) := by rw [ip570, mPl pp569e, sp569, sp540]; rfl
        have Zbf572 : 0 ≤ (tvI (tF hp570 111 27)).toInt ∧ (tvI (tF hp570 111 27)).toInt ≤ 400 := by rw [show tF hp570 111 27 = tF h 111 27 from mFr_27 ggp570]; have := hp.2.1; omega
        have Zf572 : mZp hf572 := by have y := zp1 yf572 (by have := rB_le (T := T) hpn; omega); have y2 := rB_le (T := T) hpn; unfold mZp; rw [mI_x ef572, mI_o ef572 (by decide)]; exact ⟨⟨by omega, Zbf572.1⟩, by omega, Zbf572.2⟩
        refine tw_goto rfl ?_
        have hnd : mDp (mSk h) ≠ 10 := by rw [← tp540]; exact np569
        have h80 : (ms h).2.1 = 80 := by have z := np570; rw [sp569, sp540] at z; exact z
        exact tw_vret rfl ⟨rfl, mFq_f gf572, mOut_l (by unfold mS1; rw [if_pos hw40, if_neg hnd, if_pos h80]) zf572 Zf572⟩
    · have ggp569 := mFr_t ggp540 gp569
      refine tw_aload rfl rfl ?_
      refine tw_iload rfl rfl ?_
      refine tw_virt1 rfl (z_counts hG hX (ggp569).1 Fp569 ((mFr_T ggp569).trans hT) ((mFr_n ggp569).trans hN)) (fun w9 hp573 p573 => ?_)
      obtain ⟨rfl, gp573, Fp573, ip573, jp573⟩ := p573
      · have ggp573 := mFr_t ggp569 gp573
        refine tw_aload rfl rfl ?_
        refine tw_dup rfl ?_
        refine tw_getS rfl (hi_111_28 ggp573.1) ?_
        refine tw_push rfl ?_
        refine tw_iadd rfl ?_
        refine tw_put rfl (fun f574 => ?_)
        refine tG_setm f574 (hw_111_28 f574 (ggp573).1) (fun hf574 ef574 => ?_)
        try dsimp only [tvI_i] at ef574
        have gf574 := mFr_s ggp573 ef574 (by unfold mFs; omega)
        have zf574 := mFt_s Fp573 ef574 (by decide)
        have yf574 : (tvI (tF hp573 111 28)).toInt = (((rB T n (ms h).1) : Nat) : Int) := by rw [ip573, ip569, mPl pp540e, sp540]; rfl
        have Zbf574 : 0 ≤ (tvI (tF hp573 111 27)).toInt ∧ (tvI (tF hp573 111 27)).toInt ≤ 400 := by rw [show tF hp573 111 27 = tF h 111 27 from mFr_27 ggp573]; have := hp.2.1; omega
        have Zf574 : mZp hf574 := by have y := zp1 yf574 (by have := rB_le (T := T) hpn; omega); have y2 := rB_le (T := T) hpn; unfold mZp; rw [mI_x ef574, mI_o ef574 (by decide)]; exact ⟨⟨by omega, Zbf574.1⟩, by omega, Zbf574.2⟩
        refine tw_goto rfl ?_
        exact tw_vret rfl ⟨rfl, mFq_f gf574, mOut_l (by unfold mS1; rw [if_pos hw40, if_pos (by rw [← tp540]; exact np569)]) zf574 Zf574⟩
theorem txt_k : rWd 19 = ztx 18 ∧ rWd 18 = ztx 19 ∧ rWd 17 = ztx 20 ∧ rWd 16 = ztx 21 := by decide +kernel
theorem zp3 {x y : Int32} {k j : Nat} (h : x.toInt = k) (hy : y.toInt = j) (hk : k ≤ 1000) (hj : j ≤ 10) : (x + y).toInt = ((k + j : Nat) : Int) := zadN h hy (by omega) (by omega)
theorem mZ_of {h h0 h3 : zH} {X : Int32} {v : Nat} (g : mFr h0 h) (p : mP h0) (s : mSet 28 X h h3) (hx : X.toInt = v) (hv : v ≤ 500) : mZp h3 := by
  have e := mFr_27 g
  have := p.2.1
  unfold mZp
  rw [mI_x s, mI_o s (by decide), e]
  exact ⟨⟨by omega, by omega⟩, by omega, by omega⟩
theorem g_beginsFact {G : zG} (hG : G.1 = zProg) (hX : G.2.1 = ztx) {h : zH} {T : Nat → Int32} {n : Nat} (hs : tSh h) (hp : mP h) (hT : tA h 132 = T) (hN : mn h = n) (hD : mD h) (hd : mDp (mSk h) ≤ 1000) (h46s : tvI (tF h 111 46) = 0) : tC zTt G 216 [.ref 111] h (fun w h2 => w = none ∧ mFq h h2 ∧ mOut (mS0 T n (mSk h) (ms h)) h2) := by
  refine tC_in (by rw [hG]; rfl) (fun dp => ?_)
  have g0 := mFr_r hs
  have hpn : (ms h).1 ≤ n := mPle hp hN
  have hn4 : n ≤ 400 := by have a := mNl hp hN; have b := hp.2.1; omega
  refine tw_aload rfl rfl ?_
  refine tw_virt0 rfl (g_blanks hG hX (g0).1 hp ((mFr_T g0).trans hT) ((mFr_n g0).trans hN)) (fun wp575 hp575 p575 => ?_)
  obtain ⟨rfl, gp575, pp575e, sp575, tp575, dp575⟩ := p575
  have ggp575 := mFr_t g0 gp575
  refine tw_aload rfl rfl ?_
  refine tw_push rfl ?_
  refine tw_virt1 rfl (g_stands hG hX (ggp575).1 ((mFr_T ggp575).trans hT) ((mFr_n ggp575).trans hN) (q := 18) (by decide +kernel) ⟨pp575e.2.1.1, by have := pp575e.2.1; omega⟩ ⟨by have := pp575e.2.1; omega, pp575e.2.1.2.2⟩) (fun w9 h9 p576 => ?_)
  obtain ⟨⟨p576, rfl⟩ | ⟨p576, rfl⟩, rfl⟩ := p576
  · try dsimp only [tvI_i, tvJ_j, tvR_r] at p576
    refine tw_if_eq rfl (fun z => absurd z (by decide)) (fun _ => ?_)
    refine tw_aload rfl rfl ?_
    refine tw_push rfl ?_
    refine tw_aload rfl rfl ?_
    refine tw_getS rfl (hi_111_28 ggp575.1) ?_
    have hwn : rW T n (rB T n (ms h).1) (rWd 19) = true := by have z := p576; rw [sp575] at z; rw [txt_k.1]; exact z
    refine tw_virt2 rfl (g_opensDeep hG hX (ggp575).1 pp575e ((mFr_T ggp575).trans hT) ((mFr_n ggp575).trans hN) (by decide) (by decide) (b := (rB T n (ms h).1)) ((mPl pp575e).trans (by rw [sp575]; rfl)) (by have := rB_le (T := T) hpn; omega) (mD_k hD tp575 dp575) (by rw [tp575]; exact hd)) (fun w9 hp577 p577 => ?_)
    obtain ⟨rfl, gp577, ⟨np577, pp577e, tp577, sp577, ddp577⟩ | ⟨np577, Fp577, ip577, jp577⟩⟩ := p577
    · have ggp577 := mFr_t ggp575 gp577
      refine tw_aload rfl rfl ?_
      refine tw_dup rfl ?_
      refine tw_getS rfl (hi_111_28 ggp577.1) ?_
      refine tw_push rfl ?_
      refine tw_iadd rfl ?_
      refine tw_put rfl (fun f578 => ?_)
      refine tG_setm f578 (hw_111_28 f578 (ggp577).1) (fun hf578 ef578 => ?_)
      try dsimp only [tvI_i] at ef578
      have gf578 := mFr_s ggp577 ef578 (by unfold mFs; omega)
      have h9w : rE T n (rB T n (ms h).1) = (rB T n (ms h).1) + 3 := by rw [rW_e hwn, wlen_k.2.2.1]
      have hr9 := rE_le (T := T) (rB_le (T := T) hpn)
      rw [h9w] at hr9
      obtain ⟨pf578, sf578, tf578⟩ := mTo pp577e ((mFr_n ggp577).trans hN) ef578 (v := (rB T n (ms h).1) + 3) (zp3 (k := (rB T n (ms h).1)) (j := 3) (by rw [mPl pp577e, sp577, sp575]; rfl) rfl (by have := rB_le (T := T) hpn; omega) (by decide)) hr9
      rw [sp577, sp575] at sf578
      refine tw_goto rfl ?_
      have hsk : mSk hf578 = 10 :: mSk h := by rw [tf578, tp577, tp575]; rfl
      have h46 : stN (tvI (tF hf578 111 46)) = 0 := by rw [mFr_46 gf578, h46s]; rfl
      exact tw_vret rfl ⟨rfl, mFq_f gf578, mOut_r (by unfold mS0; rw [if_pos hwn, if_neg (by rw [← tp575]; exact np577)]) pf578 (mD_o ef578 (by decide) (by decide) ddp577) (by unfold mst; rw [h46, hsk, sf578]; rfl)⟩
    · have ggp577 := mFr_t ggp575 gp577
      refine tw_aload rfl rfl ?_
      refine tw_dup rfl ?_
      refine tw_getS rfl (hi_111_28 ggp577.1) ?_
      refine tw_push rfl ?_
      refine tw_iadd rfl ?_
      refine tw_put rfl (fun f579 => ?_)
      refine tG_setm f579 (hw_111_28 f579 (ggp577).1) (fun hf579 ef579 => ?_)
      try dsimp only [tvI_i] at ef579
      have gf579 := mFr_s ggp577 ef579 (by unfold mFs; omega)
      have zf579 := mFt_s Fp577 ef579 (by decide)
      have yf579 : (tvI (tF hp577 111 28)).toInt = (((rB T n (ms h).1) : Nat) : Int) := by rw [ip577, mPl pp575e, sp575]; rfl
      have Zf579 : mZp hf579 := mZ_of ggp577 hp ef579 (zp3 yf579 (j := 3) rfl (by have := rB_le (T := T) hpn; omega) (by decide)) (by have := rB_le (T := T) hpn; omega)
      refine tw_goto rfl ?_
      exact tw_vret rfl ⟨rfl, mFq_f gf579, mOut_l (by unfold mS0; rw [if_pos hwn, if_pos (by rw [← tp575]; exact np577)]) zf579 Zf579⟩
  · try dsimp only [tvI_i, tvJ_j, tvR_r] at p576
    refine tw_if_eq rfl (fun _ => ?_) (fun z => absurd z (by decide))
    refine tw_aload rfl rfl ?_
    refine tw_virt0 rfl (g_sign hG hX (ggp575).1 ((mFr_T ggp575).trans hT) ((mFr_n ggp575).trans hN) ⟨pp575e.2.1.1, by have := pp575e.2.1; omega⟩) (fun wp580 hp580 p580 => ?_)
    obtain ⟨⟨cp580, rfl, kp580⟩, rfl⟩ := p580
    refine tw_push rfl ?_
    refine tw_ic_ne rfl (fun q581 => ?_) (fun q581 => ?_)
    · try dsimp only [tvI_i, tvJ_j, tvR_r] at q581
      have q581i := zneq (Y := 91) (by decide) q581
      refine tw_aload rfl rfl ?_
      refine tw_push rfl ?_
      refine tw_put rfl (fun f582 => ?_)
      refine tG_setm f582 (hw_111_46 f582 (ggp575).1) (fun hf582 ef582 => ?_)
      try dsimp only [tvI_i] at ef582
      have gf582 := mFq_s (mFq_f ggp575) ef582 (Or.inr rfl)
      obtain ⟨pf582, sf582, tf582⟩ := mSte pp575e ef582
      exact tw_vret rfl ⟨rfl, gf582, mOut_r (by unfold mS0; rw [if_neg (fun z => p576 (by have y := z; rw [txt_k.1] at y; rw [sp575]; exact y)), if_neg (fun z => q581 (by have y := sgm_k kp580 91 (by decide); rw [sp575] at y; exact y.mpr z))]) pf582 (mD_k hD (tf582.trans tp575) ((mI_o ef582 (by decide)).trans dp575)) (by unfold mst; rw [mI_x ef582, tf582, tp575, sf582, sp575]; rfl)⟩
    · try dsimp only [tvI_i, tvJ_j, tvR_r] at q581
      have q581i := zeqi (Y := 91) (by decide) q581
      refine tw_aload rfl rfl ?_
      refine tw_push rfl ?_
      refine tw_aload rfl rfl ?_
      refine tw_getS rfl (hi_111_28 (ggp575).1) ?_
      have hw91 : (rB T n (ms h).1) < n ∧ T (rB T n (ms h).1) = 91 := by have y := sgm_k kp580 91 (by decide); rw [sp575] at y; exact y.mp q581
      refine tw_virt2 rfl (g_opensDeep hG hX (ggp575).1 pp575e ((mFr_T ggp575).trans hT) ((mFr_n ggp575).trans hN) (by decide) (by decide) (b := (rB T n (ms h).1)) ((mPl pp575e).trans (by rw [sp575]; rfl)) (by have := rB_le (T := T) hpn; omega) (mD_k hD tp575 dp575) (by rw [tp575]; exact hd)) (fun w9 hp583 p583 => ?_)
      obtain ⟨rfl, gp583, ⟨np583, pp583e, tp583, sp583, ddp583⟩ | ⟨np583, Fp583, ip583, jp583⟩⟩ := p583
      · have ggp583 := mFr_t ggp575 gp583
        refine tw_aload rfl rfl ?_
        refine tw_dup rfl ?_
        refine tw_getS rfl (hi_111_28 ggp583.1) ?_
        refine tw_push rfl ?_
        refine tw_iadd rfl ?_
        refine tw_put rfl (fun f584 => ?_)
        refine tG_setm f584 (hw_111_28 f584 (ggp583).1) (fun hf584 ef584 => ?_)
        try dsimp only [tvI_i] at ef584
        have gf584 := mFr_s ggp583 ef584 (by unfold mFs; omega)
        have hr9 : (rB T n (ms h).1) + 1 ≤ n := hw91.1
        obtain ⟨pf584, sf584, tf584⟩ := mTo pp583e ((mFr_n ggp583).trans hN) ef584 (v := (rB T n (ms h).1) + 1) (zp3 (k := (rB T n (ms h).1)) (j := 1) (by rw [mPl pp583e, sp583, sp575]; rfl) rfl (by have := rB_le (T := T) hpn; omega) (by decide)) hr9
        rw [sp583, sp575] at sf584
        refine tw_goto rfl ?_
        have hsk : mSk hf584 = 13 :: mSk h := by rw [tf584, tp583, tp575]; rfl
        have h46 : stN (tvI (tF hf584 111 46)) = 0 := by rw [mFr_46 gf584, h46s]; rfl
        exact tw_vret rfl ⟨rfl, mFq_f gf584, mOut_r (by unfold mS0; rw [if_neg (fun z => p576 (by have y := z; rw [txt_k.1] at y; rw [sp575]; exact y)), if_pos hw91, if_neg (by rw [← tp575]; exact np583)]) pf584 (mD_o ef584 (by decide) (by decide) ddp583) (by unfold mst; rw [h46, hsk, sf584]; rfl)⟩
      · have ggp583 := mFr_t ggp575 gp583
        refine tw_aload rfl rfl ?_
        refine tw_dup rfl ?_
        refine tw_getS rfl (hi_111_28 ggp583.1) ?_
        refine tw_push rfl ?_
        refine tw_iadd rfl ?_
        refine tw_put rfl (fun f585 => ?_)
        refine tG_setm f585 (hw_111_28 f585 (ggp583).1) (fun hf585 ef585 => ?_)
        try dsimp only [tvI_i] at ef585
        have gf585 := mFr_s ggp583 ef585 (by unfold mFs; omega)
        have zf585 := mFt_s Fp583 ef585 (by decide)
        have yf585 : (tvI (tF hp583 111 28)).toInt = (((rB T n (ms h).1) : Nat) : Int) := by rw [ip583, mPl pp575e, sp575]; rfl
        have Zf585 : mZp hf585 := mZ_of ggp583 hp ef585 (zp3 yf585 (j := 1) rfl (by have := rB_le (T := T) hpn; omega) (by decide)) (by have := rB_le (T := T) hpn; omega)
        refine tw_goto rfl ?_
        exact tw_vret rfl ⟨rfl, mFq_f gf585, mOut_l (by unfold mS0; rw [if_neg (fun z => p576 (by have y := z; rw [txt_k.1] at y; rw [sp575]; exact y)), if_pos hw91, if_pos (by rw [← tp575]; exact np583)]) zf585 Zf585⟩
theorem g_closesRound {G : zG} (hG : G.1 = zProg) (hX : G.2.1 = ztx) {h : zH} {T : Nat → Int32} {n : Nat} (hs : tSh h) (hp : mP h) (hT : tA h 132 = T) (hN : mn h = n) {c : Int32} (hc : sgm T n (ms h).1 c) (hhd : (mSk h).headD 0 = 50) (hD : mD h) : tC zTt G 218 [.ref 111, .int c] h (fun w h2 => w = none ∧ mFr h h2 ∧ ((((ms h).1 < n ∧ T (ms h).1 = 41) ∧ mP h2 ∧ ms h2 = rA ((ms h).1 + 1) (ms h) ∧ mSk h2 = (mSk h).tail ∧ mD h2) ∨ (¬ ((ms h).1 < n ∧ T (ms h).1 = 41) ∧ mFt h2 (1 + 8 * (ms h).1 + 0) ∧ mZp h2))) := by
  refine tC_in (by rw [hG]; rfl) (fun dp => ?_)
  have g0 := mFr_r hs
  have hpn : (ms h).1 ≤ n := mPle hp hN
  have hn4 : n ≤ 400 := by have a := mNl hp hN; have b := hp.2.1; omega
  refine tw_iload rfl rfl ?_
  refine tw_push rfl ?_
  refine tw_ic_eq rfl (fun q586 => ?_) (fun q586 => ?_)
  · try dsimp only [tvI_i, tvJ_j, tvR_r] at q586
    have q586i := zeqi (Y := 41) (by decide) q586
    refine tw_aload rfl rfl ?_
    refine tw_dup rfl ?_
    refine tw_getS rfl (hi_111_28 hs) ?_
    refine tw_push rfl ?_
    refine tw_iadd rfl ?_
    refine tw_put rfl (fun f587 => ?_)
    refine tG_setm f587 (hw_111_28 f587 (g0).1) (fun hf587 ef587 => ?_)
    try dsimp only [tvI_i] at ef587
    have gf587 := mFr_s g0 ef587 (by unfold mFs; omega)
    have w9 := (sgm_k hc 41 (by decide)).mp q586
    obtain ⟨pf587, sf587, tf587⟩ := mTo hp ((mFr_n g0).trans hN) ef587 (v := (ms h).1 + 1) (zp1 (mPl hp) (by omega)) w9.1
    refine tw_aload rfl rfl ?_
    refine tw_dup rfl ?_
    refine tw_getS rfl (hi_111_34 (gf587).1) ?_
    refine tw_push rfl ?_
    refine tw_isub rfl ?_
    refine tw_put rfl (fun f588 => ?_)
    refine tG_setm f588 (hw_111_34 f588 (gf587).1) (fun hf588 ef588 => ?_)
    try dsimp only [tvI_i] at ef588
    have gf588 := mFr_s gf587 ef588 (by unfold mFs; omega)
    have hst : mSk hf587 = 50 :: (mSk h).tail := tf587.trans (mhead (k := 49) hhd)
    obtain ⟨pf588, tf588, sf588, df588⟩ := mSk_pop pf587 (by rw [hst]; exact List.cons_ne_nil _ _) ef588
    rw [hst] at tf588
    have tf588 : mSk hf588 = (mSk h).tail := tf588
    refine tw_aload rfl rfl ?_
    refine tw_dup rfl ?_
    refine tw_getS rfl (hi_111_32 (gf588).1) ?_
    refine tw_push rfl ?_
    refine tw_isub rfl ?_
    refine tw_put rfl (fun f589 => ?_)
    refine tG_setm f589 (hw_111_32 f589 (gf588).1) (fun hf589 ef589 => ?_)
    try dsimp only [tvI_i] at ef589
    have gf589 := mFr_s gf588 ef589 (by unfold mFs; omega)
    have hdf589 : (tvI (tF hf588 111 32)).toInt = ((mDp (mSk hf588) + 1 : Nat) : Int) := by
      rw [df588, mI_o ef587 (by decide)]
      refine (show (tvI (tF h 111 32)).toInt = (mDp (mSk h) : Int) from hD).trans ?_
      rw [tf588]
      exact congrArg (fun z : Nat => (z : Int)) ((congrArg mDp (mhead (k := 49) hhd)).trans (mDp_c (by decide)))
    obtain ⟨pf589, tf589, sf589, ddf589⟩ := mDn pf588 ef589 hdf589 rfl
    exact tw_vret rfl ⟨rfl, gf589, Or.inl ⟨w9, pf589, by rw [sf589, sf588, sf587], by rw [tf589, tf588], ddf589⟩⟩
  · try dsimp only [tvI_i, tvJ_j, tvR_r] at q586
    have q586i := zneq (Y := 41) (by decide) q586
    refine tw_aload rfl rfl ?_
    refine tw_push rfl ?_
    refine tw_aload rfl rfl ?_
    refine tw_getS rfl (hi_111_28 hs) ?_
    refine tw_virt2 rfl (g_fails hG hX (g0).1 hp ((mFr_T g0).trans hT) ((mFr_n g0).trans hN) (w := 0) (b := (ms h).1) rfl (by decide) (mPl hp) (by omega)) (fun wp590 hp590 p590 => ?_)
    obtain ⟨rfl, gp590, Fp590, ip590, jp590⟩ := p590
    have ggp590 := mFr_t g0 gp590
    refine tw_aload rfl rfl ?_
    refine tw_dup rfl ?_
    refine tw_getS rfl (hi_111_28 ggp590.1) ?_
    refine tw_push rfl ?_
    refine tw_iadd rfl ?_
    refine tw_put rfl (fun f591 => ?_)
    refine tG_setm f591 (hw_111_28 f591 (ggp590).1) (fun hf591 ef591 => ?_)
    try dsimp only [tvI_i] at ef591
    have gf591 := mFr_s ggp590 ef591 (by unfold mFs; omega)
    have zf591 := mFt_s Fp590 ef591 (by decide)
    have yf591 : (tvI (tF hp590 111 28)).toInt = (((ms h).1 : Nat) : Int) := by rw [ip590]; exact mPl hp
    have Zf591 : mZp hf591 := mZ_of ggp590 hp ef591 (zp1 yf591 (by omega)) (by omega)
    refine tw_aload rfl rfl ?_
    refine tw_dup rfl ?_
    refine tw_getS rfl (hi_111_34 (gf591).1) ?_
    refine tw_push rfl ?_
    refine tw_isub rfl ?_
    refine tw_put rfl (fun f592 => ?_)
    refine tG_setm f592 (hw_111_34 f592 (gf591).1) (fun hf592 ef592 => ?_)
    try dsimp only [tvI_i] at ef592
    have gf592 := mFr_s gf591 ef592 (by unfold mFs; omega)
    have zf592 := mFt_s zf591 ef592 (by decide)
    have Zf592 : mZp hf592 := mZp_o Zf591 ef592 (by decide)
    refine tw_aload rfl rfl ?_
    refine tw_dup rfl ?_
    refine tw_getS rfl (hi_111_32 (gf592).1) ?_
    refine tw_push rfl ?_
    refine tw_isub rfl ?_
    refine tw_put rfl (fun f593 => ?_)
    refine tG_setm f593 (hw_111_32 f593 (gf592).1) (fun hf593 ef593 => ?_)
    try dsimp only [tvI_i] at ef593
    have gf593 := mFr_s gf592 ef593 (by unfold mFs; omega)
    have zf593 := mFt_s zf592 ef593 (by decide)
    have Zf593 : mZp hf593 := mZp_o Zf592 ef593 (by decide)
    exact tw_vret rfl ⟨rfl, gf593, Or.inr ⟨fun z => q586 ((sgm_k hc 41 (by decide)).mpr z), zf593, Zf593⟩⟩
theorem mDp_T : ∀ (S o : List Nat), mDp (mT S o).1 = mDp S
  | [], _ => rfl
  | x :: r, o => by
    unfold mT
    by_cases z : x = 102
    · rw [if_pos z, mDp_T r, z, mDp_e (by decide)]
    · rw [if_neg z]
theorem mDp_P : ∀ (S o : List Nat), mDp (mPm S o).1 = mDp S
  | [], _ => rfl
  | x :: r, o => by
    unfold mPm
    by_cases z : x = 103
    · rw [if_pos z, mDp_P r, z, mDp_e (by decide)]
    · rw [if_neg z]
      by_cases y : x = 104
      · rw [if_pos y, mDp_P r, y, mDp_e (by decide)]
      · rw [if_neg y]
theorem mDp_S (S o : List Nat) : mDp (mS S o).1 = mDp S := (mDp_P _ _).trans (mDp_T _ _)
theorem mDp_A : ∀ (S o : List Nat), mDp (mA S o).1 = mDp S
  | [], _ => rfl
  | x :: r, o => by
    unfold mA
    by_cases z : x = 11
    · rw [if_pos z, mDp_A r, z, mDp_e (by decide)]
    · rw [if_neg z]
theorem mDp_O1 : ∀ (S o : List Nat), mDp (mO1 S o).1 = mDp S
  | [], _ => rfl
  | x :: r, o => by
    unfold mO1
    by_cases z : x = 12
    · rw [if_pos z, mDp_O1 r, z, mDp_e (by decide)]
    · rw [if_neg z]
theorem mDp_O (S o : List Nat) : mDp (mO S o).1 = mDp S := (mDp_O1 _ _).trans (mDp_A _ _)
theorem mD_m {h h2 : zH} (d : mD h) (a : mDp (mSk h2) = mDp (mSk h)) (b : tF h2 111 32 = tF h 111 32) : mD h2 := by
  unfold mD
  rw [a, b]
  exact d
theorem mfst {α β : Type} {x : α} {y : β} {p : α × β} (h : (x, y) = p) : x = p.1 := congrArg Prod.fst h
theorem mA1 {h1 h2 : zH} {b : Nat} {s : rS} (e : ms h1 = rA b s) (a : (ms h2).1 = (ms h1).1) : (ms h2).1 = b := by
  rw [a, e]
  rfl
theorem mA2 {h1 h2 : zH} {b y0 : Nat} {s : rS} (e : ms h1 = rA b s) (c : (ms h2).2.1 = (ms h1).2.1) (y : s.2.1 = y0) : (ms h2).2.1 = y0 := by
  rw [c, e]
  exact y
theorem mA3 {h1 h2 : zH} {b y0 : Nat} {s : rS} {z : List Nat} (e : ms h1 = rA b s) (a : (ms h2).1 = (ms h1).1) (c : (ms h2).2.1 = (ms h1).2.1) (y : s.2.1 = y0) (k : (ms h2).2.2 = z) : ms h2 = (b, y0, z) :=
  Prod.ext (mA1 e a) (Prod.ext (mA2 e c y) k)
theorem mA6 {b y0 : Nat} {s : rS} {z : List Nat} (y : s.2.1 = y0) (k : s.2.2 = z) : rA b s = (b, y0, z) := by
  rw [← y, ← k]
  rfl
theorem mA4 {h1 h2 h3 : zH} {b y0 : Nat} {s : rS} {z : List Nat} (g : ms h3 = rA ((ms h2).1 + 1) (ms h2)) (e : ms h1 = rA b s) (a : (ms h2).1 = (ms h1).1) (c : (ms h2).2.1 = (ms h1).2.1) (y : s.2.1 = y0) (k : (ms h2).2.2 = z) : ms h3 = (b + 1, y0, z) := by
  rw [g, mA1 e a]
  exact mA6 (mA2 e c y) k
theorem cm_d {q : Nat} {x : Int32} (h1 : 100103 ≤ q) (hx : x.toInt + 100098 = (q : Int)) : ∃ d, q = 100103 + d ∧ x.toInt = ((d + 5 : Nat) : Int) := ⟨q - 100103, by omega, by omega⟩
theorem cm_x {q : Nat} {x : Int32} (h1 : 100103 ≤ q) (h2 : q ≤ 100107) (hx : x.toInt + 100098 = (q : Int)) : (200 + x).toNatClampNeg = q - 99898 := by
  obtain ⟨d, rfl, h⟩ := cm_d h1 hx
  rw [zof_cl (zadN (x := 200) (a := 200) rfl h (by omega) (by omega))]
  omega
theorem cm_0 {q : Nat} {x : Int32} (h1 : 100103 ≤ q) (h2 : q ≤ 100107) (hx : x.toInt + 100098 = (q : Int)) : 0 ≤ (200 + x).toInt := by
  obtain ⟨d, rfl, h⟩ := cm_d h1 hx
  rw [zadN (x := 200) (a := 200) rfl h (by omega) (by omega)]
  omega
theorem cm_z {q : Nat} {x : Int32} (h1 : 100103 ≤ q) (hx : x.toInt + 100098 = (q : Int)) (h : x = 0) : False := by
  obtain ⟨d, -, h4⟩ := cm_d h1 hx
  rw [h] at h4
  have h5 : (0 : Int) = ((d + 5 : Nat) : Int) := h4
  omega
theorem msnd {α β : Type} {x : α} {y : β} {p : α × β} (h : (x, y) = p) : y = p.2 := congrArg Prod.snd h
theorem mDp_tl {S : List Nat} (h : 205 ≤ S.headD 0 ∧ S.headD 0 ≤ 209) : mDp S.tail = mDp S := by
  cases S with
  | nil => exact absurd h.1 (by decide)
  | cons x r =>
    have h : 205 ≤ x ∧ x ≤ 209 := h
    exact (mDp_e (by omega)).symm
theorem g_behindValue {G : zG} (hG : G.1 = zProg) (hX : G.2.1 = ztx) {h : zH} {T : Nat → Int32} {n : Nat} (hs : tSh h) (hp : mP h) (hT : tA h 132 = T) (hN : mn h = n) (hD : mD h) (hd : mDp (mSk h) ≤ 1000) {tst : Bool} (hts : ¬ tvI (tF h 111 47) = 0 ↔ tst = true) (h46s : tvI (tF h 111 46) = 2) : tC zTt G 217 [.ref 111] h (fun w h2 => w = none ∧ mFq h h2 ∧ mOut (mS2 T n tst (mSk h) (ms h)) h2) := by
  refine tC_in (by rw [hG]; rfl) (fun dp => ?_)
  have g0 := mFr_r hs
  have hpn : (ms h).1 ≤ n := mPle hp hN
  have hn4 : n ≤ 400 := by have a := mNl hp hN; have b := hp.2.1; omega
  refine tw_aload rfl rfl ?_
  refine tw_virt0 rfl (g_blanks hG hX (g0).1 hp ((mFr_T g0).trans hT) ((mFr_n g0).trans hN)) (fun wp594 hp594 p594 => ?_)
  obtain ⟨rfl, gp594, pp594e, sp594, tp594, dp594⟩ := p594
  have ggp594 := mFr_t g0 gp594
  refine tw_aload rfl rfl ?_
  refine tw_virt0 rfl (g_sign hG hX (ggp594).1 ((mFr_T ggp594).trans hT) ((mFr_n ggp594).trans hN) ⟨pp594e.2.1.1, by have := pp594e.2.1; omega⟩) (fun wp595 hp595 p595 => ?_)
  obtain ⟨⟨cp595, rfl, kp595⟩, rfl⟩ := p595
  refine tw_istore rfl ?_
  refine tw_iload rfl rfl ?_
  refine tw_push rfl ?_
  refine tw_ic_ne rfl (fun q596 => ?_) (fun q596 => ?_)
  · try dsimp only [tvI_i, tvJ_j, tvR_r] at q596
    have q596i := zneq (Y := 42) (by decide) q596
    refine tw_iload rfl rfl ?_
    refine tw_push rfl ?_
    refine tw_ic_eq rfl (fun q597 => ?_) (fun q597 => ?_)
    · try dsimp only [tvI_i, tvJ_j, tvR_r] at q597
      have q597i := zeqi (Y := 43) (by decide) q597
      refine tw_aload rfl rfl ?_
      refine tw_virt0 rfl (g_makesSums hG hX (ggp594).1 pp594e ((mFr_T ggp594).trans hT) ((mFr_n ggp594).trans hN)) (fun wp598 hp598 p598 => ?_)
      obtain ⟨rfl, gp598, pp598e, ap598, bp598, mp598, dp598⟩ := p598
      have ggp598 := mFr_t ggp594 gp598
      refine tw_aload rfl rfl ?_
      refine tw_push rfl ?_
      refine tw_iload rfl rfl ?_
      refine tw_push rfl ?_
      refine tw_ic_ne rfl (fun q599 => ?_) (fun q599 => ?_)
      · try dsimp only [tvI_i, tvJ_j, tvR_r] at q599
        have q599i := zneq (Y := 43) (by decide) q599
        exact absurd q597 q599
      · try dsimp only [tvI_i, tvJ_j, tvR_r] at q599
        have q599i := zeqi (Y := 43) (by decide) q599
        refine tw_push rfl ?_
        refine tw_goto rfl ?_
        refine tw_iadd rfl ?_
        refine tw_virt1 rfl (g_opens hG hX (ggp598).1 pp598e ((mFr_T ggp598).trans hT) ((mFr_n ggp598).trans hN) (by decide)) (fun wp600 hp600 p600 => ?_)
        obtain ⟨rfl, gp600, pp600e, tp600, sp600, dp600⟩ := p600
        have ggp600 := mFr_t ggp598 gp600
        refine tw_aload rfl rfl ?_
        refine tw_dup rfl ?_
        refine tw_getS rfl (hi_111_28 ggp600.1) ?_
        refine tw_push rfl ?_
        refine tw_iadd rfl ?_
        refine tw_put rfl (fun f601 => ?_)
        refine tG_setm f601 (hw_111_28 f601 (ggp600).1) (fun hf601 ef601 => ?_)
        try dsimp only [tvI_i] at ef601
        have gf601 := mFr_s ggp600 ef601 (by unfold mFs; omega)
        have hk42 : cp595 = 42 ↔ ((rB T n (ms h).1) < n ∧ T (rB T n (ms h).1) = 42) := by have y := sgm_k kp595 42 (by decide); rw [sp594] at y; exact y
        have hs42 : ¬ ((rB T n (ms h).1) < n ∧ T (rB T n (ms h).1) = 42) := fun z => q596 (hk42.mpr z)
        have hk43 : cp595 = 43 ↔ ((rB T n (ms h).1) < n ∧ T (rB T n (ms h).1) = 43) := by have y := sgm_k kp595 43 (by decide); rw [sp594] at y; exact y
        have hs43 := hk43.mp q597
        have hmsf601 : ms hp600 = ((rB T n (ms h).1), (ms h).2.1, (ms hp598).2.2) := (sp600).trans (mA3 sp594 ap598 bp598 rfl rfl)
        obtain ⟨pf601, sf601, tf601⟩ := mTo pp600e ((mFr_n ggp600).trans hN) ef601 (v := (rB T n (ms h).1) + 1) (zp1 (by rw [mPl pp600e, hmsf601]) (by have := rB_le (T := T) hpn; omega)) hs43.1
        rw [hmsf601] at sf601
        refine tw_aload rfl rfl ?_
        refine tw_push rfl ?_
        refine tw_put rfl (fun f602 => ?_)
        refine tG_setm f602 (hw_111_46 f602 (gf601).1) (fun hf602 ef602 => ?_)
        try dsimp only [tvI_i] at ef602
        have gf602 := mFq_s (mFq_f gf601) ef602 (Or.inr rfl)
        obtain ⟨pf602, sf602, tf602⟩ := mSte pf601 ef602
        refine tw_goto rfl ?_
        have hmb : (mSk hp598, (ms hp598).2.2) = mS (mSk h) (ms h).2.2 := by rw [mp598, tp594, sp594]; rfl
        have hsk : mSk hf602 = 103 :: (mS (mSk h) (ms h).2.2).1 := by rw [tf602, tf601, tp600, ← mfst hmb]; rfl
        have hdd : mD hf602 := mD_m hD (by rw [hsk, mDp_e (by decide)]; exact mDp_S _ _) ((mI_o ef602 (by decide)).trans ((mI_o ef601 (by decide)).trans (dp600.trans (dp598.trans dp594))))
        exact tw_vret rfl ⟨rfl, gf602, mOut_r (by unfold mS2; rw [if_neg hs42, if_pos hs43]) pf602 hdd (by unfold mst; rw [mI_x ef602, hsk, sf602, sf601, msnd hmb]; rfl)⟩
    · try dsimp only [tvI_i, tvJ_j, tvR_r] at q597
      have q597i := zneq (Y := 43) (by decide) q597
      refine tw_iload rfl rfl ?_
      refine tw_push rfl ?_
      refine tw_ic_ne rfl (fun q603 => ?_) (fun q603 => ?_)
      · try dsimp only [tvI_i, tvJ_j, tvR_r] at q603
        have q603i := zneq (Y := 45) (by decide) q603
        refine tw_aload rfl rfl ?_
        refine tw_virt0 rfl (g_makesSums hG hX (ggp594).1 pp594e ((mFr_T ggp594).trans hT) ((mFr_n ggp594).trans hN)) (fun wp604 hp604 p604 => ?_)
        obtain ⟨rfl, gp604, pp604e, ap604, bp604, mp604, dp604⟩ := p604
        have ggp604 := mFr_t ggp594 gp604
        refine tw_aload rfl rfl ?_
        refine tw_virt0 rfl (g_top hG hX (ggp604).1 pp604e ((mFr_T ggp604).trans hT) ((mFr_n ggp604).trans hN)) (fun wp605 hp605 p605 => ?_)
        obtain ⟨⟨cp605, rfl, Tp605⟩, rfl⟩ := p605
        refine tw_push rfl ?_
        refine tw_ic_ne rfl (fun q606 => ?_) (fun q606 => ?_)
        · try dsimp only [tvI_i, tvJ_j, tvR_r] at q606
          have q606i := zneq (Y := 50) (by decide) q606
          refine tw_aload rfl rfl ?_
          refine tw_getS rfl (hi_111_47 (ggp604).1) ?_
          refine tw_if_eq rfl (fun q607 => ?_) (fun q607 => ?_)
          · try dsimp only [tvI_i, tvJ_j, tvR_r] at q607
            have q607i := zeqi (Y := 0) (by decide) q607
            refine tw_aload rfl rfl ?_
            refine tw_getS rfl (hi_111_47 (ggp604).1) ?_
            refine tw_if_eq rfl (fun q608 => ?_) (fun q608 => ?_)
            · try dsimp only [tvI_i, tvJ_j, tvR_r] at q608
              have q608i := zeqi (Y := 0) (by decide) q608
              refine tw_aload rfl rfl ?_
              refine tw_push rfl ?_
              refine tw_put rfl (fun f609 => ?_)
              refine tG_setm f609 (hw_111_46 f609 (ggp604).1) (fun hf609 ef609 => ?_)
              try dsimp only [tvI_i] at ef609
              have gf609 := mFq_s (mFq_f ggp604) ef609 (Or.inr rfl)
              obtain ⟨pf609, sf609, tf609⟩ := mSte pp604e ef609
              have hk42 : cp595 = 42 ↔ ((rB T n (ms h).1) < n ∧ T (rB T n (ms h).1) = 42) := by have y := sgm_k kp595 42 (by decide); rw [sp594] at y; exact y
              have hs42 : ¬ ((rB T n (ms h).1) < n ∧ T (rB T n (ms h).1) = 42) := fun z => q596 (hk42.mpr z)
              have hk43 : cp595 = 43 ↔ ((rB T n (ms h).1) < n ∧ T (rB T n (ms h).1) = 43) := by have y := sgm_k kp595 43 (by decide); rw [sp594] at y; exact y
              have hs43 : ¬ ((rB T n (ms h).1) < n ∧ T (rB T n (ms h).1) = 43) := fun z => q597 (hk43.mpr z)
              have hk45 : cp595 = 45 ↔ ((rB T n (ms h).1) < n ∧ T (rB T n (ms h).1) = 45) := by have y := sgm_k kp595 45 (by decide); rw [sp594] at y; exact y
              have hs45 : ¬ ((rB T n (ms h).1) < n ∧ T (rB T n (ms h).1) = 45) := fun z => q603 (hk45.mpr z)
              have ht50 := tpm_k Tp605 (k := 50) (K := 50) rfl (by decide)
              have hn50 : ¬ (mSk hp604).headD 0 = 50 := fun z => q606 (ht50.mpr z)
              have hin : tvI (tF h 111 47) = 0 := by have z := q607; rw [mFr_47 ggp604] at z; exact z
              have hmb : (mSk hp604, (ms hp604).2.2) = mS (mSk h) (ms h).2.2 := by rw [mp604, tp594, sp594]; rfl
              have hms : ms hf609 = ((rB T n (ms h).1), (ms h).2.1, (mS (mSk h) (ms h).2.2).2) := (sf609).trans (mA3 sp594 ap604 bp604 rfl (msnd hmb))
              have hsk : mSk hf609 = (mS (mSk h) (ms h).2.2).1 := by rw [tf609, mfst hmb]
              have hdd : mD hf609 := mD_m hD (by rw [hsk]; exact mDp_S _ _) ((mI_o ef609 (by decide)).trans (dp604.trans dp594))
              exact tw_vret rfl ⟨rfl, gf609, mOut_r (by unfold mS2; rw [if_neg hs42, if_neg hs43, if_neg hs45, if_neg (show ¬ (mS (mSk h) (ms h).2.2).1.headD 0 = 50 from by rw [← mfst hmb]; exact hn50), if_neg (fun z => hts.mpr z hin)]) pf609 hdd (by unfold mst; rw [mI_x ef609, hsk, hms]; rfl)⟩
            · try dsimp only [tvI_i, tvJ_j, tvR_r] at q608
              have q608i := zneq (Y := 0) (by decide) q608
              exact absurd q607 q608
          · try dsimp only [tvI_i, tvJ_j, tvR_r] at q607
            have q607i := zneq (Y := 0) (by decide) q607
            refine tw_aload rfl rfl ?_
            refine tw_virt0 rfl (g_top hG hX (ggp604).1 pp604e ((mFr_T ggp604).trans hT) ((mFr_n ggp604).trans hN)) (fun wp610 hp610 p610 => ?_)
            obtain ⟨⟨cp610, rfl, Tp610⟩, rfl⟩ := p610
            refine tw_push rfl ?_
            refine tw_ic_lt rfl (fun q611 => ?_) (fun q611 => ?_)
            · try dsimp only [tvI_i, tvJ_j, tvR_r] at q611
              refine tw_aload rfl rfl ?_
              refine tw_virt0 rfl (g_compares hG hX (ggp604).1 pp604e ((mFr_T ggp604).trans hT) ((mFr_n ggp604).trans hN)) (fun w9 hp612 p612 => ?_)
              obtain ⟨gp612, ⟨np612, rfl, e9⟩ | ⟨vp612, np612, ⟨mp612, ⟨xp612, rfl, yp612⟩, pp612e, sp612, tp612, dp612⟩ | ⟨mp612, xp612, rfl, x5p612, x9p612, Fp612, Zp612⟩⟩⟩ := p612
              · have ggp612 := mFr_t ggp604 gp612
                obtain rfl := e9.symm
                have pp612e := pp604e
                refine tw_istore rfl ?_
                refine tw_iload rfl rfl ?_
                refine tw_if_ne rfl (fun z => absurd z (by decide)) (fun _ => ?_)
                refine tw_aload rfl rfl ?_
                refine tw_push rfl ?_
                refine tw_aload rfl rfl ?_
                refine tw_getS rfl (hi_111_28 ggp612.1) ?_
                refine tw_virt2 rfl (g_fails hG hX (ggp612).1 pp612e ((mFr_T ggp612).trans hT) ((mFr_n ggp612).trans hN) (w := 0) (b := (rB T n (ms h).1)) rfl (by decide) ((mPl pp612e).trans (by rw [(show (ms hp604).1 = (rB T n (ms h).1) from by rw [ap604, sp594]; rfl)])) (by have := rB_le (T := T) hpn; omega)) (fun wp613 hp613 p613 => ?_)
                obtain ⟨rfl, gp613, Fp613, ip613, jp613⟩ := p613
                have ggp613 := mFr_t ggp612 gp613
                refine tw_aload rfl rfl ?_
                refine tw_push rfl ?_
                refine tw_iload rfl rfl ?_
                refine tw_iadd rfl ?_
                refine tw_virt1 rfl (z_opens hG hX (ggp613).1 Fp613 ((mFr_T ggp613).trans hT) ((mFr_n ggp613).trans hN)) (fun wp614 hp614 p614 => ?_)
                obtain ⟨rfl, gp614, Fp614, ip614, jp614⟩ := p614
                have ggp614 := mFr_t ggp613 gp614
                refine tw_aload rfl rfl ?_
                refine tw_push rfl ?_
                refine tw_put rfl (fun f615 => ?_)
                refine tG_setm f615 (hw_111_46 f615 (ggp614).1) (fun hf615 ef615 => ?_)
                try dsimp only [tvI_i] at ef615
                have gf615 := mFq_s (mFq_f ggp614) ef615 (Or.inr rfl)
                have zf615 := mFt_s Fp614 ef615 (by decide)
                refine tw_goto rfl ?_
                have hk42 : cp595 = 42 ↔ ((rB T n (ms h).1) < n ∧ T (rB T n (ms h).1) = 42) := by have y := sgm_k kp595 42 (by decide); rw [sp594] at y; exact y
                have hs42 : ¬ ((rB T n (ms h).1) < n ∧ T (rB T n (ms h).1) = 42) := fun z => q596 (hk42.mpr z)
                have hk43 : cp595 = 43 ↔ ((rB T n (ms h).1) < n ∧ T (rB T n (ms h).1) = 43) := by have y := sgm_k kp595 43 (by decide); rw [sp594] at y; exact y
                have hs43 : ¬ ((rB T n (ms h).1) < n ∧ T (rB T n (ms h).1) = 43) := fun z => q597 (hk43.mpr z)
                have hk45 : cp595 = 45 ↔ ((rB T n (ms h).1) < n ∧ T (rB T n (ms h).1) = 45) := by have y := sgm_k kp595 45 (by decide); rw [sp594] at y; exact y
                have hs45 : ¬ ((rB T n (ms h).1) < n ∧ T (rB T n (ms h).1) = 45) := fun z => q603 (hk45.mpr z)
                have ht50 := tpm_k Tp605 (k := 50) (K := 50) rfl (by decide)
                have hn50 : ¬ (mSk hp604).headD 0 = 50 := fun z => q606 (ht50.mpr z)
                have hin : ¬ tvI (tF h 111 47) = 0 := by have z := q607; rw [mFr_47 ggp604] at z; exact z
                have c2059 : (205 : Int32).toInt = 205 := rfl
                have c2099 : (209 : Int32).toInt = 209 := rfl
                have hcmp : ¬ (205 ≤ (mSk hp604).headD 0 ∧ (mSk hp604).headD 0 ≤ 209) := by have z := tpm_e Tp610; have z2 := q611; omega
                have hmb : (mSk hp604, (ms hp604).2.2) = mS (mSk h) (ms h).2.2 := by rw [mp604, tp594, sp594]; rfl
                have hr9 : rCm T n (rB T n (ms h).1) = none := by have z := np612; rw [ap604, sp594] at z; exact z
                have hZ : mZp hf615 := mZp_o (mZp_k (mZp_k (mZp_p pp612e) ip613 jp613) ip614 jp614) ef615 (by decide)
                exact tw_vret rfl ⟨rfl, gf615, mOut_l (by unfold mS2; rw [if_neg hs42, if_neg hs43, if_neg hs45, if_neg (show ¬ (mS (mSk h) (ms h).2.2).1.headD 0 = 50 from by rw [← mfst hmb]; exact hn50), if_pos (show tst = true from hts.mp hin), if_neg (show ¬ (205 ≤ (mS (mSk h) (ms h).2.2).1.headD 0 ∧ (mS (mSk h) (ms h).2.2).1.headD 0 ≤ 209) from by rw [← mfst hmb]; exact hcmp), hr9]) zf615 hZ⟩
              · have ggp612 := mFr_t ggp604 gp612
                refine tw_istore rfl ?_
                refine tw_iload rfl rfl ?_
                refine tw_if_ne rfl (fun q616 => ?_) (fun q616 => ?_)
                · try dsimp only [tvI_i, tvJ_j, tvR_r] at q616
                  have q616i := zneq (Y := 0) (by decide) q616
                  refine tw_aload rfl rfl ?_
                  refine tw_push rfl ?_
                  refine tw_iload rfl rfl ?_
                  refine tw_iadd rfl ?_
                  refine tw_virt1 rfl (g_opens hG hX (ggp612).1 pp612e ((mFr_T ggp612).trans hT) ((mFr_n ggp612).trans hN) (cm_0 (rCm_r np612).1 (rCm_r np612).2.1 yp612)) (fun wp617 hp617 p617 => ?_)
                  obtain ⟨rfl, gp617, pp617e, tp617, sp617, dp617⟩ := p617
                  have ggp617 := mFr_t ggp612 gp617
                  refine tw_aload rfl rfl ?_
                  refine tw_push rfl ?_
                  refine tw_put rfl (fun f618 => ?_)
                  refine tG_setm f618 (hw_111_46 f618 (ggp617).1) (fun hf618 ef618 => ?_)
                  try dsimp only [tvI_i] at ef618
                  have gf618 := mFq_s (mFq_f ggp617) ef618 (Or.inr rfl)
                  obtain ⟨pf618, sf618, tf618⟩ := mSte pp617e ef618
                  refine tw_goto rfl ?_
                  have hk42 : cp595 = 42 ↔ ((rB T n (ms h).1) < n ∧ T (rB T n (ms h).1) = 42) := by have y := sgm_k kp595 42 (by decide); rw [sp594] at y; exact y
                  have hs42 : ¬ ((rB T n (ms h).1) < n ∧ T (rB T n (ms h).1) = 42) := fun z => q596 (hk42.mpr z)
                  have hk43 : cp595 = 43 ↔ ((rB T n (ms h).1) < n ∧ T (rB T n (ms h).1) = 43) := by have y := sgm_k kp595 43 (by decide); rw [sp594] at y; exact y
                  have hs43 : ¬ ((rB T n (ms h).1) < n ∧ T (rB T n (ms h).1) = 43) := fun z => q597 (hk43.mpr z)
                  have hk45 : cp595 = 45 ↔ ((rB T n (ms h).1) < n ∧ T (rB T n (ms h).1) = 45) := by have y := sgm_k kp595 45 (by decide); rw [sp594] at y; exact y
                  have hs45 : ¬ ((rB T n (ms h).1) < n ∧ T (rB T n (ms h).1) = 45) := fun z => q603 (hk45.mpr z)
                  have ht50 := tpm_k Tp605 (k := 50) (K := 50) rfl (by decide)
                  have hn50 : ¬ (mSk hp604).headD 0 = 50 := fun z => q606 (ht50.mpr z)
                  have hin : ¬ tvI (tF h 111 47) = 0 := by have z := q607; rw [mFr_47 ggp604] at z; exact z
                  have c2059 : (205 : Int32).toInt = 205 := rfl
                  have c2099 : (209 : Int32).toInt = 209 := rfl
                  have hcmp : ¬ (205 ≤ (mSk hp604).headD 0 ∧ (mSk hp604).headD 0 ≤ 209) := by have z := tpm_e Tp610; have z2 := q611; omega
                  have hmb : (mSk hp604, (ms hp604).2.2) = mS (mSk h) (ms h).2.2 := by rw [mp604, tp594, sp594]; rfl
                  have hr9 : rCm T n (rB T n (ms h).1) = some vp612 := by have z := np612; rw [ap604, sp594] at z; exact z
                  have h80 : (ms h).2.1 ≠ 80 := by have z := mp612; rw [bp604, sp594] at z; exact z
                  have hv1 := (rCm_r hr9).1
                  have hv2 := (rCm_r hr9).2.1
                  have hx := cm_x hv1 hv2 yp612
                  have hsk : mSk hf618 = (vp612.1 - 99898) :: (mS (mSk h) (ms h).2.2).1 := by rw [tf618, tp617]; show (200 + xp612).toNatClampNeg :: mSk hp612 = _; rw [hx, tp612, mfst hmb]
                  have hms : ms hf618 = (vp612.2, (ms h).2.1 + 1, (mS (mSk h) (ms h).2.2).2) := by rw [sf618, sp617, sp612]; exact Prod.ext rfl (Prod.ext (by show (ms hp604).2.1 + 1 = _; rw [bp604, sp594]; rfl) (by have z := msnd hmb; exact z))
                  have hdd : mD hf618 := mD_m hD (by rw [hsk, mDp_e (by omega)]; exact mDp_S _ _) ((mI_o ef618 (by decide)).trans (dp617.trans (dp612.trans (dp604.trans dp594))))
                  exact tw_vret rfl ⟨rfl, gf618, mOut_r (by unfold mS2; rw [if_neg hs42, if_neg hs43, if_neg hs45, if_neg (show ¬ (mS (mSk h) (ms h).2.2).1.headD 0 = 50 from by rw [← mfst hmb]; exact hn50), if_pos (show tst = true from hts.mp hin), if_neg (show ¬ (205 ≤ (mS (mSk h) (ms h).2.2).1.headD 0 ∧ (mS (mSk h) (ms h).2.2).1.headD 0 ≤ 209) from by rw [← mfst hmb]; exact hcmp), hr9]; (try dsimp only); rw [if_neg h80]) pf618 hdd (by unfold mst; rw [mI_x ef618, hsk, hms]; rfl)⟩
                · try dsimp only [tvI_i, tvJ_j, tvR_r] at q616
                  have q616i := zeqi (Y := 0) (by decide) q616
                  exact (cm_z (rCm_r np612).1 yp612 q616).elim
              · have ggp612 := mFr_t ggp604 gp612
                refine tw_istore rfl ?_
                refine tw_iload rfl rfl ?_
                refine tw_if_ne rfl (fun q619 => ?_) (fun q619 => ?_)
                · try dsimp only [tvI_i, tvJ_j, tvR_r] at q619
                  have q619i := zneq (Y := 0) (by decide) q619
                  refine tw_aload rfl rfl ?_
                  refine tw_push rfl ?_
                  refine tw_iload rfl rfl ?_
                  refine tw_iadd rfl ?_
                  refine tw_virt1 rfl (z_opens hG hX (ggp612).1 Fp612 ((mFr_T ggp612).trans hT) ((mFr_n ggp612).trans hN)) (fun wp620 hp620 p620 => ?_)
                  obtain ⟨rfl, gp620, Fp620, ip620, jp620⟩ := p620
                  have ggp620 := mFr_t ggp612 gp620
                  refine tw_aload rfl rfl ?_
                  refine tw_push rfl ?_
                  refine tw_put rfl (fun f621 => ?_)
                  refine tG_setm f621 (hw_111_46 f621 (ggp620).1) (fun hf621 ef621 => ?_)
                  try dsimp only [tvI_i] at ef621
                  have gf621 := mFq_s (mFq_f ggp620) ef621 (Or.inr rfl)
                  have zf621 := mFt_s Fp620 ef621 (by decide)
                  refine tw_goto rfl ?_
                  have hk42 : cp595 = 42 ↔ ((rB T n (ms h).1) < n ∧ T (rB T n (ms h).1) = 42) := by have y := sgm_k kp595 42 (by decide); rw [sp594] at y; exact y
                  have hs42 : ¬ ((rB T n (ms h).1) < n ∧ T (rB T n (ms h).1) = 42) := fun z => q596 (hk42.mpr z)
                  have hk43 : cp595 = 43 ↔ ((rB T n (ms h).1) < n ∧ T (rB T n (ms h).1) = 43) := by have y := sgm_k kp595 43 (by decide); rw [sp594] at y; exact y
                  have hs43 : ¬ ((rB T n (ms h).1) < n ∧ T (rB T n (ms h).1) = 43) := fun z => q597 (hk43.mpr z)
                  have hk45 : cp595 = 45 ↔ ((rB T n (ms h).1) < n ∧ T (rB T n (ms h).1) = 45) := by have y := sgm_k kp595 45 (by decide); rw [sp594] at y; exact y
                  have hs45 : ¬ ((rB T n (ms h).1) < n ∧ T (rB T n (ms h).1) = 45) := fun z => q603 (hk45.mpr z)
                  have ht50 := tpm_k Tp605 (k := 50) (K := 50) rfl (by decide)
                  have hn50 : ¬ (mSk hp604).headD 0 = 50 := fun z => q606 (ht50.mpr z)
                  have hin : ¬ tvI (tF h 111 47) = 0 := by have z := q607; rw [mFr_47 ggp604] at z; exact z
                  have c2059 : (205 : Int32).toInt = 205 := rfl
                  have c2099 : (209 : Int32).toInt = 209 := rfl
                  have hcmp : ¬ (205 ≤ (mSk hp604).headD 0 ∧ (mSk hp604).headD 0 ≤ 209) := by have z := tpm_e Tp610; have z2 := q611; omega
                  have hmb : (mSk hp604, (ms hp604).2.2) = mS (mSk h) (ms h).2.2 := by rw [mp604, tp594, sp594]; rfl
                  have hr9 : rCm T n (rB T n (ms h).1) = some vp612 := by have z := np612; rw [ap604, sp594] at z; exact z
                  have h80 : (ms h).2.1 = 80 := by have z := mp612; rw [bp604, sp594] at z; exact z
                  have hF : mFt hf621 (1 + 8 * (rB T n (ms h).1) + 3) := by have z := zf621; rw [ap604, sp594] at z; exact z
                  have hZ : mZp hf621 := mZp_o (mZp_k Zp612 ip620 jp620) ef621 (by decide)
                  exact tw_vret rfl ⟨rfl, gf621, mOut_l (by unfold mS2; rw [if_neg hs42, if_neg hs43, if_neg hs45, if_neg (show ¬ (mS (mSk h) (ms h).2.2).1.headD 0 = 50 from by rw [← mfst hmb]; exact hn50), if_pos (show tst = true from hts.mp hin), if_neg (show ¬ (205 ≤ (mS (mSk h) (ms h).2.2).1.headD 0 ∧ (mS (mSk h) (ms h).2.2).1.headD 0 ≤ 209) from by rw [← mfst hmb]; exact hcmp), hr9]; (try dsimp only); rw [if_pos h80]) hF hZ⟩
                · try dsimp only [tvI_i, tvJ_j, tvR_r] at q619
                  have q619i := zeqi (Y := 0) (by decide) q619
                  have hv4 : xp612.toInt = 0 := congrArg Int32.toInt q619
                  exfalso
                  omega
            · try dsimp only [tvI_i, tvJ_j, tvR_r] at q611
              refine tw_aload rfl rfl ?_
              refine tw_virt0 rfl (g_top hG hX (ggp604).1 pp604e ((mFr_T ggp604).trans hT) ((mFr_n ggp604).trans hN)) (fun wp622 hp622 p622 => ?_)
              obtain ⟨⟨cp622, rfl, Tp622⟩, rfl⟩ := p622
              refine tw_push rfl ?_
              refine tw_ic_le rfl (fun q623 => ?_) (fun q623 => ?_)
              · try dsimp only [tvI_i, tvJ_j, tvR_r] at q623
                refine tw_aload rfl rfl ?_
                refine tw_getS rfl (hi_111_47 (ggp604).1) ?_
                refine tw_if_eq rfl (fun q624 => ?_) (fun q624 => ?_)
                · try dsimp only [tvI_i, tvJ_j, tvR_r] at q624
                  have q624i := zeqi (Y := 0) (by decide) q624
                  exact absurd q624 q607
                · try dsimp only [tvI_i, tvJ_j, tvR_r] at q624
                  have q624i := zneq (Y := 0) (by decide) q624
                  refine tw_aload rfl rfl ?_
                  refine tw_aload rfl rfl ?_
                  refine tw_virt0 rfl (g_top hG hX (ggp604).1 pp604e ((mFr_T ggp604).trans hT) ((mFr_n ggp604).trans hN)) (fun wp625 hp625 p625 => ?_)
                  obtain ⟨⟨cp625, rfl, Tp625⟩, rfl⟩ := p625
                  refine tw_push rfl ?_
                  refine tw_isub rfl ?_
                  refine tw_push rfl ?_
                  have hk42 : cp595 = 42 ↔ ((rB T n (ms h).1) < n ∧ T (rB T n (ms h).1) = 42) := by have y := sgm_k kp595 42 (by decide); rw [sp594] at y; exact y
                  have hs42 : ¬ ((rB T n (ms h).1) < n ∧ T (rB T n (ms h).1) = 42) := fun z => q596 (hk42.mpr z)
                  have hk43 : cp595 = 43 ↔ ((rB T n (ms h).1) < n ∧ T (rB T n (ms h).1) = 43) := by have y := sgm_k kp595 43 (by decide); rw [sp594] at y; exact y
                  have hs43 : ¬ ((rB T n (ms h).1) < n ∧ T (rB T n (ms h).1) = 43) := fun z => q597 (hk43.mpr z)
                  have hk45 : cp595 = 45 ↔ ((rB T n (ms h).1) < n ∧ T (rB T n (ms h).1) = 45) := by have y := sgm_k kp595 45 (by decide); rw [sp594] at y; exact y
                  have hs45 : ¬ ((rB T n (ms h).1) < n ∧ T (rB T n (ms h).1) = 45) := fun z => q603 (hk45.mpr z)
                  have ht50 := tpm_k Tp605 (k := 50) (K := 50) rfl (by decide)
                  have hn50 : ¬ (mSk hp604).headD 0 = 50 := fun z => q606 (ht50.mpr z)
                  have hin : ¬ tvI (tF h 111 47) = 0 := by have z := q607; rw [mFr_47 ggp604] at z; exact z
                  have c2059 : (205 : Int32).toInt = 205 := rfl
                  have c2099 : (209 : Int32).toInt = 209 := rfl
                  have hcmp : (205 ≤ (mSk hp604).headD 0 ∧ (mSk hp604).headD 0 ≤ 209) := by have z := tpm_e Tp610; have z1 := tpm_e Tp622; have z2 := q611; have z3 := q623; omega
                  have hc200 : (cp625 - 200).toInt = (((mSk hp604).headD 0 - 200 : Nat) : Int) := by have z := tpm_e Tp625; have z2 := hcmp; rw [zsb (x := cp625) (y := 200) (a := (mSk hp604).headD 0) (b := 200) (by omega) rfl (by omega) (by omega)]; omega
                  have hne : mSk hp604 ≠ [] := fun z => by rw [z] at hcmp; exact absurd hcmp.1 (by decide)
                  refine tw_virt2 rfl (g_entry hG hX (ggp604).1 pp604e ((mFr_T ggp604).trans hT) ((mFr_n ggp604).trans hN) ⟨by show 0 ≤ (cp625 - 200).toInt; rw [hc200]; omega, by decide⟩) (fun wp626 hp626 p626 => ?_)
                  obtain ⟨rfl, gp626, pp626e, sp626, tp626, dp626⟩ := p626
                  have ggp626 := mFr_t ggp604 gp626
                  refine tw_aload rfl rfl ?_
                  refine tw_dup rfl ?_
                  refine tw_getS rfl (hi_111_34 ggp626.1) ?_
                  refine tw_push rfl ?_
                  refine tw_isub rfl ?_
                  refine tw_put rfl (fun f627 => ?_)
                  refine tG_setm f627 (hw_111_34 f627 (ggp626).1) (fun hf627 ef627 => ?_)
                  try dsimp only [tvI_i] at ef627
                  have gf627 := mFr_s ggp626 ef627 (by unfold mFs; omega)
                  obtain ⟨pf627, tf627, sf627, df627⟩ := mSk_pop pp626e (by rw [tp626]; exact hne) ef627
                  refine tw_aload rfl rfl ?_
                  refine tw_push rfl ?_
                  refine tw_put rfl (fun f628 => ?_)
                  refine tG_setm f628 (hw_111_46 f628 (gf627).1) (fun hf628 ef628 => ?_)
                  try dsimp only [tvI_i] at ef628
                  have gf628 := mFq_s (mFq_f gf627) ef628 (Or.inr rfl)
                  obtain ⟨pf628, sf628, tf628⟩ := mSte pf627 ef628
                  refine tw_goto rfl ?_
                  have hmb : (mSk hp604, (ms hp604).2.2) = mS (mSk h) (ms h).2.2 := by rw [mp604, tp594, sp594]; rfl
                  have hx : mCode (cp625 - 200).toNatClampNeg 0 = (mS (mSk h) (ms h).2.2).1.headD 0 + 99898 := by rw [zof_cl hc200, ← mfst hmb]; have z := hcmp; unfold mCode; rw [if_neg (by omega), if_neg (by omega), if_neg (by omega), if_neg (by omega), if_neg (by omega), if_neg (by omega), if_neg (by omega), if_neg (by omega)]; omega
                  have hsk : mSk hf628 = (mS (mSk h) (ms h).2.2).1.tail := by rw [tf628, tf627, tp626, mfst hmb]
                  have hms : ms hf628 = ((rB T n (ms h).1), (ms h).2.1, (mS (mSk h) (ms h).2.2).2 ++ [(mS (mSk h) (ms h).2.2).1.headD 0 + 99898]) := by rw [sf628, sf627, sp626]; exact Prod.ext (mA1 sp594 ap604) (Prod.ext (mA2 sp594 bp604 rfl) (by show (ms hp604).2.2 ++ [mCode (cp625 - 200).toNatClampNeg 0] = _; rw [hx, msnd hmb]))
                  have hdd : mD hf628 := mD_m hD (by rw [hsk, ← mDp_S (mSk h) (ms h).2.2]; have z := hcmp; rw [mfst hmb] at z; exact mDp_tl z) ((mI_o ef628 (by decide)).trans (df627.trans (dp626.trans (dp604.trans dp594))))
                  exact tw_vret rfl ⟨rfl, gf628, mOut_r (by unfold mS2; rw [if_neg hs42, if_neg hs43, if_neg hs45, if_neg (show ¬ (mS (mSk h) (ms h).2.2).1.headD 0 = 50 from by rw [← mfst hmb]; exact hn50), if_pos (show tst = true from hts.mp hin), if_pos (show 205 ≤ (mS (mSk h) (ms h).2.2).1.headD 0 ∧ (mS (mSk h) (ms h).2.2).1.headD 0 ≤ 209 from by rw [← mfst hmb]; exact hcmp)]) pf628 hdd (by unfold mst; rw [mI_x ef628, hsk, hms]; rfl)⟩
              · try dsimp only [tvI_i, tvJ_j, tvR_r] at q623
                refine tw_aload rfl rfl ?_
                refine tw_virt0 rfl (g_compares hG hX (ggp604).1 pp604e ((mFr_T ggp604).trans hT) ((mFr_n ggp604).trans hN)) (fun w9 hp629 p629 => ?_)
                obtain ⟨gp629, ⟨np629, rfl, e9⟩ | ⟨vp629, np629, ⟨mp629, ⟨xp629, rfl, yp629⟩, pp629e, sp629, tp629, dp629⟩ | ⟨mp629, xp629, rfl, x5p629, x9p629, Fp629, Zp629⟩⟩⟩ := p629
                · have ggp629 := mFr_t ggp604 gp629
                  obtain rfl := e9.symm
                  have pp629e := pp604e
                  refine tw_istore rfl ?_
                  refine tw_iload rfl rfl ?_
                  refine tw_if_ne rfl (fun z => absurd z (by decide)) (fun _ => ?_)
                  refine tw_aload rfl rfl ?_
                  refine tw_push rfl ?_
                  refine tw_aload rfl rfl ?_
                  refine tw_getS rfl (hi_111_28 ggp629.1) ?_
                  refine tw_virt2 rfl (g_fails hG hX (ggp629).1 pp629e ((mFr_T ggp629).trans hT) ((mFr_n ggp629).trans hN) (w := 0) (b := (rB T n (ms h).1)) rfl (by decide) ((mPl pp629e).trans (by rw [(show (ms hp604).1 = (rB T n (ms h).1) from by rw [ap604, sp594]; rfl)])) (by have := rB_le (T := T) hpn; omega)) (fun wp630 hp630 p630 => ?_)
                  obtain ⟨rfl, gp630, Fp630, ip630, jp630⟩ := p630
                  have ggp630 := mFr_t ggp629 gp630
                  refine tw_aload rfl rfl ?_
                  refine tw_push rfl ?_
                  refine tw_iload rfl rfl ?_
                  refine tw_iadd rfl ?_
                  refine tw_virt1 rfl (z_opens hG hX (ggp630).1 Fp630 ((mFr_T ggp630).trans hT) ((mFr_n ggp630).trans hN)) (fun wp631 hp631 p631 => ?_)
                  obtain ⟨rfl, gp631, Fp631, ip631, jp631⟩ := p631
                  have ggp631 := mFr_t ggp630 gp631
                  refine tw_aload rfl rfl ?_
                  refine tw_push rfl ?_
                  refine tw_put rfl (fun f632 => ?_)
                  refine tG_setm f632 (hw_111_46 f632 (ggp631).1) (fun hf632 ef632 => ?_)
                  try dsimp only [tvI_i] at ef632
                  have gf632 := mFq_s (mFq_f ggp631) ef632 (Or.inr rfl)
                  have zf632 := mFt_s Fp631 ef632 (by decide)
                  refine tw_goto rfl ?_
                  have hk42 : cp595 = 42 ↔ ((rB T n (ms h).1) < n ∧ T (rB T n (ms h).1) = 42) := by have y := sgm_k kp595 42 (by decide); rw [sp594] at y; exact y
                  have hs42 : ¬ ((rB T n (ms h).1) < n ∧ T (rB T n (ms h).1) = 42) := fun z => q596 (hk42.mpr z)
                  have hk43 : cp595 = 43 ↔ ((rB T n (ms h).1) < n ∧ T (rB T n (ms h).1) = 43) := by have y := sgm_k kp595 43 (by decide); rw [sp594] at y; exact y
                  have hs43 : ¬ ((rB T n (ms h).1) < n ∧ T (rB T n (ms h).1) = 43) := fun z => q597 (hk43.mpr z)
                  have hk45 : cp595 = 45 ↔ ((rB T n (ms h).1) < n ∧ T (rB T n (ms h).1) = 45) := by have y := sgm_k kp595 45 (by decide); rw [sp594] at y; exact y
                  have hs45 : ¬ ((rB T n (ms h).1) < n ∧ T (rB T n (ms h).1) = 45) := fun z => q603 (hk45.mpr z)
                  have ht50 := tpm_k Tp605 (k := 50) (K := 50) rfl (by decide)
                  have hn50 : ¬ (mSk hp604).headD 0 = 50 := fun z => q606 (ht50.mpr z)
                  have hin : ¬ tvI (tF h 111 47) = 0 := by have z := q607; rw [mFr_47 ggp604] at z; exact z
                  have c2059 : (205 : Int32).toInt = 205 := rfl
                  have c2099 : (209 : Int32).toInt = 209 := rfl
                  have hcmp : ¬ (205 ≤ (mSk hp604).headD 0 ∧ (mSk hp604).headD 0 ≤ 209) := by have z := tpm_e Tp610; have z1 := tpm_e Tp622; have z2 := q611; have z3 := q623; omega
                  have hmb : (mSk hp604, (ms hp604).2.2) = mS (mSk h) (ms h).2.2 := by rw [mp604, tp594, sp594]; rfl
                  have hr9 : rCm T n (rB T n (ms h).1) = none := by have z := np629; rw [ap604, sp594] at z; exact z
                  have hZ : mZp hf632 := mZp_o (mZp_k (mZp_k (mZp_p pp629e) ip630 jp630) ip631 jp631) ef632 (by decide)
                  exact tw_vret rfl ⟨rfl, gf632, mOut_l (by unfold mS2; rw [if_neg hs42, if_neg hs43, if_neg hs45, if_neg (show ¬ (mS (mSk h) (ms h).2.2).1.headD 0 = 50 from by rw [← mfst hmb]; exact hn50), if_pos (show tst = true from hts.mp hin), if_neg (show ¬ (205 ≤ (mS (mSk h) (ms h).2.2).1.headD 0 ∧ (mS (mSk h) (ms h).2.2).1.headD 0 ≤ 209) from by rw [← mfst hmb]; exact hcmp), hr9]) zf632 hZ⟩
                · have ggp629 := mFr_t ggp604 gp629
                  refine tw_istore rfl ?_
                  refine tw_iload rfl rfl ?_
                  refine tw_if_ne rfl (fun q633 => ?_) (fun q633 => ?_)
                  · try dsimp only [tvI_i, tvJ_j, tvR_r] at q633
                    have q633i := zneq (Y := 0) (by decide) q633
                    refine tw_aload rfl rfl ?_
                    refine tw_push rfl ?_
                    refine tw_iload rfl rfl ?_
                    refine tw_iadd rfl ?_
                    refine tw_virt1 rfl (g_opens hG hX (ggp629).1 pp629e ((mFr_T ggp629).trans hT) ((mFr_n ggp629).trans hN) (cm_0 (rCm_r np629).1 (rCm_r np629).2.1 yp629)) (fun wp634 hp634 p634 => ?_)
                    obtain ⟨rfl, gp634, pp634e, tp634, sp634, dp634⟩ := p634
                    have ggp634 := mFr_t ggp629 gp634
                    refine tw_aload rfl rfl ?_
                    refine tw_push rfl ?_
                    refine tw_put rfl (fun f635 => ?_)
                    refine tG_setm f635 (hw_111_46 f635 (ggp634).1) (fun hf635 ef635 => ?_)
                    try dsimp only [tvI_i] at ef635
                    have gf635 := mFq_s (mFq_f ggp634) ef635 (Or.inr rfl)
                    obtain ⟨pf635, sf635, tf635⟩ := mSte pp634e ef635
                    refine tw_goto rfl ?_
                    have hk42 : cp595 = 42 ↔ ((rB T n (ms h).1) < n ∧ T (rB T n (ms h).1) = 42) := by have y := sgm_k kp595 42 (by decide); rw [sp594] at y; exact y
                    have hs42 : ¬ ((rB T n (ms h).1) < n ∧ T (rB T n (ms h).1) = 42) := fun z => q596 (hk42.mpr z)
                    have hk43 : cp595 = 43 ↔ ((rB T n (ms h).1) < n ∧ T (rB T n (ms h).1) = 43) := by have y := sgm_k kp595 43 (by decide); rw [sp594] at y; exact y
                    have hs43 : ¬ ((rB T n (ms h).1) < n ∧ T (rB T n (ms h).1) = 43) := fun z => q597 (hk43.mpr z)
                    have hk45 : cp595 = 45 ↔ ((rB T n (ms h).1) < n ∧ T (rB T n (ms h).1) = 45) := by have y := sgm_k kp595 45 (by decide); rw [sp594] at y; exact y
                    have hs45 : ¬ ((rB T n (ms h).1) < n ∧ T (rB T n (ms h).1) = 45) := fun z => q603 (hk45.mpr z)
                    have ht50 := tpm_k Tp605 (k := 50) (K := 50) rfl (by decide)
                    have hn50 : ¬ (mSk hp604).headD 0 = 50 := fun z => q606 (ht50.mpr z)
                    have hin : ¬ tvI (tF h 111 47) = 0 := by have z := q607; rw [mFr_47 ggp604] at z; exact z
                    have c2059 : (205 : Int32).toInt = 205 := rfl
                    have c2099 : (209 : Int32).toInt = 209 := rfl
                    have hcmp : ¬ (205 ≤ (mSk hp604).headD 0 ∧ (mSk hp604).headD 0 ≤ 209) := by have z := tpm_e Tp610; have z1 := tpm_e Tp622; have z2 := q611; have z3 := q623; omega
                    have hmb : (mSk hp604, (ms hp604).2.2) = mS (mSk h) (ms h).2.2 := by rw [mp604, tp594, sp594]; rfl
                    have hr9 : rCm T n (rB T n (ms h).1) = some vp629 := by have z := np629; rw [ap604, sp594] at z; exact z
                    have h80 : (ms h).2.1 ≠ 80 := by have z := mp629; rw [bp604, sp594] at z; exact z
                    have hv1 := (rCm_r hr9).1
                    have hv2 := (rCm_r hr9).2.1
                    have hx := cm_x hv1 hv2 yp629
                    have hsk : mSk hf635 = (vp629.1 - 99898) :: (mS (mSk h) (ms h).2.2).1 := by rw [tf635, tp634]; show (200 + xp629).toNatClampNeg :: mSk hp629 = _; rw [hx, tp629, mfst hmb]
                    have hms : ms hf635 = (vp629.2, (ms h).2.1 + 1, (mS (mSk h) (ms h).2.2).2) := by rw [sf635, sp634, sp629]; exact Prod.ext rfl (Prod.ext (by show (ms hp604).2.1 + 1 = _; rw [bp604, sp594]; rfl) (by have z := msnd hmb; exact z))
                    have hdd : mD hf635 := mD_m hD (by rw [hsk, mDp_e (by omega)]; exact mDp_S _ _) ((mI_o ef635 (by decide)).trans (dp634.trans (dp629.trans (dp604.trans dp594))))
                    exact tw_vret rfl ⟨rfl, gf635, mOut_r (by unfold mS2; rw [if_neg hs42, if_neg hs43, if_neg hs45, if_neg (show ¬ (mS (mSk h) (ms h).2.2).1.headD 0 = 50 from by rw [← mfst hmb]; exact hn50), if_pos (show tst = true from hts.mp hin), if_neg (show ¬ (205 ≤ (mS (mSk h) (ms h).2.2).1.headD 0 ∧ (mS (mSk h) (ms h).2.2).1.headD 0 ≤ 209) from by rw [← mfst hmb]; exact hcmp), hr9]; (try dsimp only); rw [if_neg h80]) pf635 hdd (by unfold mst; rw [mI_x ef635, hsk, hms]; rfl)⟩
                  · try dsimp only [tvI_i, tvJ_j, tvR_r] at q633
                    have q633i := zeqi (Y := 0) (by decide) q633
                    exact (cm_z (rCm_r np629).1 yp629 q633).elim
                · have ggp629 := mFr_t ggp604 gp629
                  refine tw_istore rfl ?_
                  refine tw_iload rfl rfl ?_
                  refine tw_if_ne rfl (fun q636 => ?_) (fun q636 => ?_)
                  · try dsimp only [tvI_i, tvJ_j, tvR_r] at q636
                    have q636i := zneq (Y := 0) (by decide) q636
                    refine tw_aload rfl rfl ?_
                    refine tw_push rfl ?_
                    refine tw_iload rfl rfl ?_
                    refine tw_iadd rfl ?_
                    refine tw_virt1 rfl (z_opens hG hX (ggp629).1 Fp629 ((mFr_T ggp629).trans hT) ((mFr_n ggp629).trans hN)) (fun wp637 hp637 p637 => ?_)
                    obtain ⟨rfl, gp637, Fp637, ip637, jp637⟩ := p637
                    have ggp637 := mFr_t ggp629 gp637
                    refine tw_aload rfl rfl ?_
                    refine tw_push rfl ?_
                    refine tw_put rfl (fun f638 => ?_)
                    refine tG_setm f638 (hw_111_46 f638 (ggp637).1) (fun hf638 ef638 => ?_)
                    try dsimp only [tvI_i] at ef638
                    have gf638 := mFq_s (mFq_f ggp637) ef638 (Or.inr rfl)
                    have zf638 := mFt_s Fp637 ef638 (by decide)
                    refine tw_goto rfl ?_
                    have hk42 : cp595 = 42 ↔ ((rB T n (ms h).1) < n ∧ T (rB T n (ms h).1) = 42) := by have y := sgm_k kp595 42 (by decide); rw [sp594] at y; exact y
                    have hs42 : ¬ ((rB T n (ms h).1) < n ∧ T (rB T n (ms h).1) = 42) := fun z => q596 (hk42.mpr z)
                    have hk43 : cp595 = 43 ↔ ((rB T n (ms h).1) < n ∧ T (rB T n (ms h).1) = 43) := by have y := sgm_k kp595 43 (by decide); rw [sp594] at y; exact y
                    have hs43 : ¬ ((rB T n (ms h).1) < n ∧ T (rB T n (ms h).1) = 43) := fun z => q597 (hk43.mpr z)
                    have hk45 : cp595 = 45 ↔ ((rB T n (ms h).1) < n ∧ T (rB T n (ms h).1) = 45) := by have y := sgm_k kp595 45 (by decide); rw [sp594] at y; exact y
                    have hs45 : ¬ ((rB T n (ms h).1) < n ∧ T (rB T n (ms h).1) = 45) := fun z => q603 (hk45.mpr z)
                    have ht50 := tpm_k Tp605 (k := 50) (K := 50) rfl (by decide)
                    have hn50 : ¬ (mSk hp604).headD 0 = 50 := fun z => q606 (ht50.mpr z)
                    have hin : ¬ tvI (tF h 111 47) = 0 := by have z := q607; rw [mFr_47 ggp604] at z; exact z
                    have c2059 : (205 : Int32).toInt = 205 := rfl
                    have c2099 : (209 : Int32).toInt = 209 := rfl
                    have hcmp : ¬ (205 ≤ (mSk hp604).headD 0 ∧ (mSk hp604).headD 0 ≤ 209) := by have z := tpm_e Tp610; have z1 := tpm_e Tp622; have z2 := q611; have z3 := q623; omega
                    have hmb : (mSk hp604, (ms hp604).2.2) = mS (mSk h) (ms h).2.2 := by rw [mp604, tp594, sp594]; rfl
                    have hr9 : rCm T n (rB T n (ms h).1) = some vp629 := by have z := np629; rw [ap604, sp594] at z; exact z
                    have h80 : (ms h).2.1 = 80 := by have z := mp629; rw [bp604, sp594] at z; exact z
                    have hF : mFt hf638 (1 + 8 * (rB T n (ms h).1) + 3) := by have z := zf638; rw [ap604, sp594] at z; exact z
                    have hZ : mZp hf638 := mZp_o (mZp_k Zp629 ip637 jp637) ef638 (by decide)
                    exact tw_vret rfl ⟨rfl, gf638, mOut_l (by unfold mS2; rw [if_neg hs42, if_neg hs43, if_neg hs45, if_neg (show ¬ (mS (mSk h) (ms h).2.2).1.headD 0 = 50 from by rw [← mfst hmb]; exact hn50), if_pos (show tst = true from hts.mp hin), if_neg (show ¬ (205 ≤ (mS (mSk h) (ms h).2.2).1.headD 0 ∧ (mS (mSk h) (ms h).2.2).1.headD 0 ≤ 209) from by rw [← mfst hmb]; exact hcmp), hr9]; (try dsimp only); rw [if_pos h80]) hF hZ⟩
                  · try dsimp only [tvI_i, tvJ_j, tvR_r] at q636
                    have q636i := zeqi (Y := 0) (by decide) q636
                    have hv4 : xp629.toInt = 0 := congrArg Int32.toInt q636
                    exfalso
                    omega
        · try dsimp only [tvI_i, tvJ_j, tvR_r] at q606
          have q606i := zeqi (Y := 50) (by decide) q606
          refine tw_aload rfl rfl ?_
          refine tw_iload rfl rfl ?_
          have hk42 : cp595 = 42 ↔ ((rB T n (ms h).1) < n ∧ T (rB T n (ms h).1) = 42) := by have y := sgm_k kp595 42 (by decide); rw [sp594] at y; exact y
          have hs42 : ¬ ((rB T n (ms h).1) < n ∧ T (rB T n (ms h).1) = 42) := fun z => q596 (hk42.mpr z)
          have hk43 : cp595 = 43 ↔ ((rB T n (ms h).1) < n ∧ T (rB T n (ms h).1) = 43) := by have y := sgm_k kp595 43 (by decide); rw [sp594] at y; exact y
          have hs43 : ¬ ((rB T n (ms h).1) < n ∧ T (rB T n (ms h).1) = 43) := fun z => q597 (hk43.mpr z)
          have hk45 : cp595 = 45 ↔ ((rB T n (ms h).1) < n ∧ T (rB T n (ms h).1) = 45) := by have y := sgm_k kp595 45 (by decide); rw [sp594] at y; exact y
          have hs45 : ¬ ((rB T n (ms h).1) < n ∧ T (rB T n (ms h).1) = 45) := fun z => q603 (hk45.mpr z)
          have ht50 := tpm_k Tp605 (k := 50) (K := 50) rfl (by decide)
          have hn50 : (mSk hp604).headD 0 = 50 := ht50.mp q606
          have hDm : mD hp604 := mD_m hD (by rw [mfst mp604, tp594, show (ms hp594).2.2 = (ms h).2.2 by rw [sp594]; rfl]; exact mDp_S _ _) (dp604.trans dp594)
          have hcl9 : sgm T n (ms hp604).1 cp595 := by rw [ap604]; exact kp595
          refine tw_virt1 rfl (g_closesRound hG hX (ggp604).1 pp604e ((mFr_T ggp604).trans hT) ((mFr_n ggp604).trans hN) hcl9 hn50 hDm) (fun w9 hp639 p639 => ?_)
          obtain ⟨rfl, gp639, ⟨wp639, pp639e, sp639, tp639, ddp639⟩ | ⟨wp639, Fp639, Zp639⟩⟩ := p639
          · have ggp639 := mFr_t ggp604 gp639
            refine tw_goto rfl ?_
            have hmb : (mSk hp604, (ms hp604).2.2) = mS (mSk h) (ms h).2.2 := by rw [mp604, tp594, sp594]; rfl
            have w9 : ((rB T n (ms h).1) < n ∧ T (rB T n (ms h).1) = 41) := by have z := wp639; rw [ap604, sp594] at z; exact z
            have hms : ms hp639 = ((rB T n (ms h).1) + 1, (ms h).2.1, (mS (mSk h) (ms h).2.2).2) := mA4 sp639 sp594 ap604 bp604 rfl (msnd hmb)
            have h46 : stN (tvI (tF hp639 111 46)) = 2 := by rw [mFr_46 ggp639, h46s]; rfl
            exact tw_vret rfl ⟨rfl, mFq_f ggp639, mOut_r (by unfold mS2; rw [if_neg hs42, if_neg hs43, if_neg hs45, if_pos (show (mS (mSk h) (ms h).2.2).1.headD 0 = 50 from by rw [← mfst hmb]; exact hn50), if_pos w9]) pp639e ddp639 (by unfold mst; rw [h46, hms, tp639, mfst hmb])⟩
          · have ggp639 := mFr_t ggp604 gp639
            refine tw_goto rfl ?_
            have hmb : (mSk hp604, (ms hp604).2.2) = mS (mSk h) (ms h).2.2 := by rw [mp604, tp594, sp594]; rfl
            have w9 : ¬ ((rB T n (ms h).1) < n ∧ T (rB T n (ms h).1) = 41) := by have z := wp639; rw [ap604, sp594] at z; exact z
            have hpl : (ms hp604).1 = (rB T n (ms h).1) := by rw [ap604, sp594]; rfl
            have hF := Fp639
            rw [hpl] at hF
            exact tw_vret rfl ⟨rfl, mFq_f ggp639, mOut_l (by unfold mS2; rw [if_neg hs42, if_neg hs43, if_neg hs45, if_pos (show (mS (mSk h) (ms h).2.2).1.headD 0 = 50 from by rw [← mfst hmb]; exact hn50), if_neg w9]) hF Zp639⟩
      · try dsimp only [tvI_i, tvJ_j, tvR_r] at q603
        have q603i := zeqi (Y := 45) (by decide) q603
        refine tw_aload rfl rfl ?_
        refine tw_virt0 rfl (g_makesSums hG hX (ggp594).1 pp594e ((mFr_T ggp594).trans hT) ((mFr_n ggp594).trans hN)) (fun wp640 hp640 p640 => ?_)
        obtain ⟨rfl, gp640, pp640e, ap640, bp640, mp640, dp640⟩ := p640
        have ggp640 := mFr_t ggp594 gp640
        refine tw_aload rfl rfl ?_
        refine tw_push rfl ?_
        refine tw_iload rfl rfl ?_
        refine tw_push rfl ?_
        refine tw_ic_ne rfl (fun q641 => ?_) (fun q641 => ?_)
        · try dsimp only [tvI_i, tvJ_j, tvR_r] at q641
          have q641i := zneq (Y := 43) (by decide) q641
          refine tw_push rfl ?_
          refine tw_iadd rfl ?_
          refine tw_virt1 rfl (g_opens hG hX (ggp640).1 pp640e ((mFr_T ggp640).trans hT) ((mFr_n ggp640).trans hN) (by decide)) (fun wp642 hp642 p642 => ?_)
          obtain ⟨rfl, gp642, pp642e, tp642, sp642, dp642⟩ := p642
          have ggp642 := mFr_t ggp640 gp642
          refine tw_aload rfl rfl ?_
          refine tw_dup rfl ?_
          refine tw_getS rfl (hi_111_28 ggp642.1) ?_
          refine tw_push rfl ?_
          refine tw_iadd rfl ?_
          refine tw_put rfl (fun f643 => ?_)
          refine tG_setm f643 (hw_111_28 f643 (ggp642).1) (fun hf643 ef643 => ?_)
          try dsimp only [tvI_i] at ef643
          have gf643 := mFr_s ggp642 ef643 (by unfold mFs; omega)
          have hk42 : cp595 = 42 ↔ ((rB T n (ms h).1) < n ∧ T (rB T n (ms h).1) = 42) := by have y := sgm_k kp595 42 (by decide); rw [sp594] at y; exact y
          have hs42 : ¬ ((rB T n (ms h).1) < n ∧ T (rB T n (ms h).1) = 42) := fun z => q596 (hk42.mpr z)
          have hk43 : cp595 = 43 ↔ ((rB T n (ms h).1) < n ∧ T (rB T n (ms h).1) = 43) := by have y := sgm_k kp595 43 (by decide); rw [sp594] at y; exact y
          have hs43 : ¬ ((rB T n (ms h).1) < n ∧ T (rB T n (ms h).1) = 43) := fun z => q597 (hk43.mpr z)
          have hk45 : cp595 = 45 ↔ ((rB T n (ms h).1) < n ∧ T (rB T n (ms h).1) = 45) := by have y := sgm_k kp595 45 (by decide); rw [sp594] at y; exact y
          have hs45 := hk45.mp q603
          have hmsf643 : ms hp642 = ((rB T n (ms h).1), (ms h).2.1, (ms hp640).2.2) := (sp642).trans (mA3 sp594 ap640 bp640 rfl rfl)
          obtain ⟨pf643, sf643, tf643⟩ := mTo pp642e ((mFr_n ggp642).trans hN) ef643 (v := (rB T n (ms h).1) + 1) (zp1 (by rw [mPl pp642e, hmsf643]) (by have := rB_le (T := T) hpn; omega)) hs45.1
          rw [hmsf643] at sf643
          refine tw_aload rfl rfl ?_
          refine tw_push rfl ?_
          refine tw_put rfl (fun f644 => ?_)
          refine tG_setm f644 (hw_111_46 f644 (gf643).1) (fun hf644 ef644 => ?_)
          try dsimp only [tvI_i] at ef644
          have gf644 := mFq_s (mFq_f gf643) ef644 (Or.inr rfl)
          obtain ⟨pf644, sf644, tf644⟩ := mSte pf643 ef644
          refine tw_goto rfl ?_
          have hmb : (mSk hp640, (ms hp640).2.2) = mS (mSk h) (ms h).2.2 := by rw [mp640, tp594, sp594]; rfl
          have hsk : mSk hf644 = 104 :: (mS (mSk h) (ms h).2.2).1 := by rw [tf644, tf643, tp642, ← mfst hmb]; rfl
          have hdd : mD hf644 := mD_m hD (by rw [hsk, mDp_e (by decide)]; exact mDp_S _ _) ((mI_o ef644 (by decide)).trans ((mI_o ef643 (by decide)).trans (dp642.trans (dp640.trans dp594))))
          exact tw_vret rfl ⟨rfl, gf644, mOut_r (by unfold mS2; rw [if_neg hs42, if_neg hs43, if_pos hs45]) pf644 hdd (by unfold mst; rw [mI_x ef644, hsk, sf644, sf643, msnd hmb]; rfl)⟩
        · try dsimp only [tvI_i, tvJ_j, tvR_r] at q641
          have q641i := zeqi (Y := 43) (by decide) q641
          exact absurd q641 q597
  · try dsimp only [tvI_i, tvJ_j, tvR_r] at q596
    have q596i := zeqi (Y := 42) (by decide) q596
    refine tw_aload rfl rfl ?_
    refine tw_virt0 rfl (g_makesProducts hG hX (ggp594).1 pp594e ((mFr_T ggp594).trans hT) ((mFr_n ggp594).trans hN)) (fun wp645 hp645 p645 => ?_)
    obtain ⟨rfl, gp645, pp645e, ap645, bp645, mp645, dp645⟩ := p645
    have ggp645 := mFr_t ggp594 gp645
    refine tw_aload rfl rfl ?_
    refine tw_push rfl ?_
    refine tw_virt1 rfl (g_opens hG hX (ggp645).1 pp645e ((mFr_T ggp645).trans hT) ((mFr_n ggp645).trans hN) (by decide)) (fun wp646 hp646 p646 => ?_)
    obtain ⟨rfl, gp646, pp646e, tp646, sp646, dp646⟩ := p646
    have ggp646 := mFr_t ggp645 gp646
    refine tw_aload rfl rfl ?_
    refine tw_dup rfl ?_
    refine tw_getS rfl (hi_111_28 ggp646.1) ?_
    refine tw_push rfl ?_
    refine tw_iadd rfl ?_
    refine tw_put rfl (fun f647 => ?_)
    refine tG_setm f647 (hw_111_28 f647 (ggp646).1) (fun hf647 ef647 => ?_)
    try dsimp only [tvI_i] at ef647
    have gf647 := mFr_s ggp646 ef647 (by unfold mFs; omega)
    have hk42 : cp595 = 42 ↔ ((rB T n (ms h).1) < n ∧ T (rB T n (ms h).1) = 42) := by have y := sgm_k kp595 42 (by decide); rw [sp594] at y; exact y
    have hs42 := hk42.mp q596
    have hmsf647 : ms hp646 = ((rB T n (ms h).1), (ms h).2.1, (ms hp645).2.2) := (sp646).trans (mA3 sp594 ap645 bp645 rfl rfl)
    obtain ⟨pf647, sf647, tf647⟩ := mTo pp646e ((mFr_n ggp646).trans hN) ef647 (v := (rB T n (ms h).1) + 1) (zp1 (by rw [mPl pp646e, hmsf647]) (by have := rB_le (T := T) hpn; omega)) hs42.1
    rw [hmsf647] at sf647
    refine tw_aload rfl rfl ?_
    refine tw_push rfl ?_
    refine tw_put rfl (fun f648 => ?_)
    refine tG_setm f648 (hw_111_46 f648 (gf647).1) (fun hf648 ef648 => ?_)
    try dsimp only [tvI_i] at ef648
    have gf648 := mFq_s (mFq_f gf647) ef648 (Or.inr rfl)
    obtain ⟨pf648, sf648, tf648⟩ := mSte pf647 ef648
    refine tw_goto rfl ?_
    have hmb : (mSk hp645, (ms hp645).2.2) = mT (mSk h) (ms h).2.2 := by rw [mp645, tp594, sp594]; rfl
    have hsk : mSk hf648 = 102 :: (mT (mSk h) (ms h).2.2).1 := by rw [tf648, tf647, tp646, ← mfst hmb]; rfl
    have hdd : mD hf648 := mD_m hD (by rw [hsk, mDp_e (by decide)]; exact mDp_T _ _) ((mI_o ef648 (by decide)).trans ((mI_o ef647 (by decide)).trans (dp646.trans (dp645.trans dp594))))
    exact tw_vret rfl ⟨rfl, gf648, mOut_r (by unfold mS2; rw [if_pos hs42]) pf648 hdd (by unfold mst; rw [mI_x ef648, hsk, sf648, sf647, msnd hmb]; rfl)⟩
