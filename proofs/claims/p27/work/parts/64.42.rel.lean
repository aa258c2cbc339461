theorem txt_k : rWd 19 = ztx 18 ∧ rWd 18 = ztx 19 ∧ rWd 17 = ztx 20 ∧ rWd 16 = ztx 21 := by decide +kernel
theorem zp3 {x y : Int32} {k j : Nat} (h : x.toInt = k) (hy : y.toInt = j) (hk : k ≤ 1000) (hj : j ≤ 10) : (x + y).toInt = ((k + j : Nat) : Int) := zadN h hy (by omega) (by omega)
theorem mZ_of {h h0 h3 : zH} {X : Int32} {v : Nat} (g : mFr h0 h) (p : mP h0) (s : mSet 28 X h h3) (hx : X.toInt = v) (hv : v ≤ 500) : mZp h3 := by
  have e := mFr_27 g
  have := p.2.1
  unfold mZp
  rw [mI_x s, mI_o s (by decide), e]
  exact ⟨⟨by omega, by omega⟩, by omega, by omega⟩
theorem g_beginsFact {G : zG} (hG : G.1 = zProg) (hX : G.2.1 = ztx) {h : zH} {T : Nat → Int32} {n : Nat} (hs : tSh h) (hp : mP h) (hT : tA h 132 = T) (hN : mn h = n) (hD : mD h) (hd : mDp (mSk h) ≤ 1000) (h46s : tvI (tF h 111 46) = 0) : tC zTt G 216 [.ref 111] h (fun w h2 => w = none ∧ mFq h h2 ∧ mOut (mS0 T n (mSk h) (ms h)) h2) := by
  refine tC_in (by rw [hG]; rfl) (fun dp => ?_)
  have g0 := mFr_r hs
  have hpn : (ms h).1 ≤ n := mPle hp hN
  have hn4 : n ≤ 400 := by have a := mNl hp hN; have b := hp.2.1; omega
  refine tw_aload rfl rfl ?_
  refine tw_virt0 rfl (g_blanks hG hX (g0).1 hp ((mFr_T g0).trans hT) ((mFr_n g0).trans hN)) (fun wp619 hp619 p619 => ?_)
  obtain ⟨rfl, gp619, pp619e, sp619, tp619, dp619⟩ := p619
  have ggp619 := mFr_t g0 gp619
  refine tw_aload rfl rfl ?_
  refine tw_push rfl ?_
  refine tw_virt1 rfl (g_stands hG hX (ggp619).1 ((mFr_T ggp619).trans hT) ((mFr_n ggp619).trans hN) (q := 18) (by decide +kernel) ⟨pp619e.2.1.1, by have := pp619e.2.1; omega⟩ ⟨by have := pp619e.2.1; omega, pp619e.2.1.2.2⟩) (fun w9 h9 p620 => ?_)
  obtain ⟨⟨p620, rfl⟩ | ⟨p620, rfl⟩, rfl⟩ := p620
  · try dsimp only [tvI_i, tvJ_j, tvR_r] at p620
    refine tw_if_eq rfl (fun z => absurd z (by decide)) (fun _ => ?_)
    refine tw_aload rfl rfl ?_
    refine tw_push rfl ?_
    refine tw_aload rfl rfl ?_
    refine tw_getS rfl (hi_111_28 ggp619.1) ?_
    have hwn : rW T n (rB T n (ms h).1) (rWd 19) = true := by have z := p620; rw [sp619] at z; rw [txt_k.1]; exact z
    refine tw_virt2 rfl (g_opensDeep hG hX (ggp619).1 pp619e ((mFr_T ggp619).trans hT) ((mFr_n ggp619).trans hN) (by decide) (by decide) (b := (rB T n (ms h).1)) ((mPl pp619e).trans (by rw [sp619]; rfl)) (by have := rB_le (T := T) hpn; omega) (mD_k hD tp619 dp619) (by rw [tp619]; exact hd)) (fun w9 hp621 p621 => ?_)
    obtain ⟨rfl, gp621, ⟨np621, pp621e, tp621, sp621, ddp621⟩ | ⟨np621, Fp621, ip621, jp621⟩⟩ := p621
    · have ggp621 := mFr_t ggp619 gp621
      refine tw_aload rfl rfl ?_
      refine tw_dup rfl ?_
      refine tw_getS rfl (hi_111_28 ggp621.1) ?_
      refine tw_push rfl ?_
      refine tw_iadd rfl ?_
      refine tw_put rfl (fun f622 => ?_)
      refine tG_setm f622 (hw_111_28 f622 (ggp621).1) (fun hf622 ef622 => ?_)
      try dsimp only [tvI_i] at ef622
      have gf622 := mFr_s ggp621 ef622 (by unfold mFs; omega)
      have h9w : rE T n (rB T n (ms h).1) = (rB T n (ms h).1) + 3 := by rw [rW_e hwn, wlen_k.2.2.1]
      have hr9 := rE_le (T := T) (rB_le (T := T) hpn)
      rw [h9w] at hr9
      obtain ⟨pf622, sf622, tf622⟩ := mTo pp621e ((mFr_n ggp621).trans hN) ef622 (v := (rB T n (ms h).1) + 3) (zp3 (k := (rB T n (ms h).1)) (j := 3) (by rw [mPl pp621e, sp621, sp619]; rfl) rfl (by have := rB_le (T := T) hpn; omega) (by decide)) hr9
      rw [sp621, sp619] at sf622
      refine tw_goto rfl ?_
      have hsk : mSk hf622 = 10 :: mSk h := by rw [tf622, tp621, tp619]; rfl
      have h46 : stN (tvI (tF hf622 111 46)) = 0 := by rw [mFr_46 gf622, h46s]; rfl
      exact tw_vret rfl ⟨rfl, mFq_f gf622, mOut_r (by unfold mS0; rw [if_pos hwn, if_neg (by rw [← tp619]; exact np621)]) pf622 (mD_o ef622 (by decide) (by decide) ddp621) (by unfold mst; rw [h46, hsk, sf622]; rfl)⟩
    · have ggp621 := mFr_t ggp619 gp621
      refine tw_aload rfl rfl ?_
      refine tw_dup rfl ?_
      refine tw_getS rfl (hi_111_28 ggp621.1) ?_
      refine tw_push rfl ?_
      refine tw_iadd rfl ?_
      refine tw_put rfl (fun f623 => ?_)
      refine tG_setm f623 (hw_111_28 f623 (ggp621).1) (fun hf623 ef623 => ?_)
      try dsimp only [tvI_i] at ef623
      have gf623 := mFr_s ggp621 ef623 (by unfold mFs; omega)
      have zf623 := mFt_s Fp621 ef623 (by decide)
      have yf623 : (tvI (tF hp621 111 28)).toInt = (((rB T n (ms h).1) : Nat) : Int) := by rw [ip621, mPl pp619e, sp619]; rfl
      have Zf623 : mZp hf623 := mZ_of ggp621 hp ef623 (zp3 yf623 (j := 3) rfl (by have := rB_le (T := T) hpn; omega) (by decide)) (by have := rB_le (T := T) hpn; omega)
      refine tw_goto rfl ?_
      exact tw_vret rfl ⟨rfl, mFq_f gf623, mOut_l (by unfold mS0; rw [if_pos hwn, if_pos (by rw [← tp619]; exact np621)]) zf623 Zf623⟩
  · try dsimp only [tvI_i, tvJ_j, tvR_r] at p620
    refine tw_if_eq rfl (fun _ => ?_) (fun z => absurd z (by decide))
    refine tw_aload rfl rfl ?_
    refine tw_virt0 rfl (g_sign hG hX (ggp619).1 ((mFr_T ggp619).trans hT) ((mFr_n ggp619).trans hN) ⟨pp619e.2.1.1, by have := pp619e.2.1; omega⟩) (fun wp624 hp624 p624 => ?_)
    obtain ⟨⟨cp624, rfl, kp624⟩, rfl⟩ := p624
    refine tw_push rfl ?_
    refine tw_ic_ne rfl (fun q625 => ?_) (fun q625 => ?_)
    · try dsimp only [tvI_i, tvJ_j, tvR_r] at q625
      have q625i := zneq (Y := 91) (by decide) q625
      refine tw_aload rfl rfl ?_
      refine tw_push rfl ?_
      refine tw_put rfl (fun f626 => ?_)
      refine tG_setm f626 (hw_111_46 f626 (ggp619).1) (fun hf626 ef626 => ?_)
      try dsimp only [tvI_i] at ef626
      have gf626 := mFq_s (mFq_f ggp619) ef626 (Or.inr rfl)
      obtain ⟨pf626, sf626, tf626⟩ := mSte pp619e ef626
      exact tw_vret rfl ⟨rfl, gf626, mOut_r (by unfold mS0; rw [if_neg (fun z => p620 (by have y := z; rw [txt_k.1] at y; rw [sp619]; exact y)), if_neg (fun z => q625 (by have y := sgm_k kp624 91 (by decide); rw [sp619] at y; exact y.mpr z))]) pf626 (mD_k hD (tf626.trans tp619) ((mI_o ef626 (by decide)).trans dp619)) (by unfold mst; rw [mI_x ef626, tf626, tp619, sf626, sp619]; rfl)⟩
    · try dsimp only [tvI_i, tvJ_j, tvR_r] at q625
      have q625i := zeqi (Y := 91) (by decide) q625
      refine tw_aload rfl rfl ?_
      refine tw_push rfl ?_
      refine tw_aload rfl rfl ?_
      refine tw_getS rfl (hi_111_28 (ggp619).1) ?_
      have hw91 : (rB T n (ms h).1) < n ∧ T (rB T n (ms h).1) = 91 := by have y := sgm_k kp624 91 (by decide); rw [sp619] at y; exact y.mp q625
      refine tw_virt2 rfl (g_opensDeep hG hX (ggp619).1 pp619e ((mFr_T ggp619).trans hT) ((mFr_n ggp619).trans hN) (by decide) (by decide) (b := (rB T n (ms h).1)) ((mPl pp619e).trans (by rw [sp619]; rfl)) (by have := rB_le (T := T) hpn; omega) (mD_k hD tp619 dp619) (by rw [tp619]; exact hd)) (fun w9 hp627 p627 => ?_)
      obtain ⟨rfl, gp627, ⟨np627, pp627e, tp627, sp627, ddp627⟩ | ⟨np627, Fp627, ip627, jp627⟩⟩ := p627
      · have ggp627 := mFr_t ggp619 gp627
        refine tw_aload rfl rfl ?_
        refine tw_dup rfl ?_
        refine tw_getS rfl (hi_111_28 ggp627.1) ?_
        refine tw_push rfl ?_
        refine tw_iadd rfl ?_
        refine tw_put rfl (fun f628 => ?_)
        refine tG_setm f628 (hw_111_28 f628 (ggp627).1) (fun hf628 ef628 => ?_)
        try dsimp only [tvI_i] at ef628
        have gf628 := mFr_s ggp627 ef628 (by unfold mFs; omega)
        have hr9 : (rB T n (ms h).1) + 1 ≤ n := hw91.1
        obtain ⟨pf628, sf628, tf628⟩ := mTo pp627e ((mFr_n ggp627).trans hN) ef628 (v := (rB T n (ms h).1) + 1) (zp3 (k := (rB T n (ms h).1)) (j := 1) (by rw [mPl pp627e, sp627, sp619]; rfl) rfl (by have := rB_le (T := T) hpn; omega) (by decide)) hr9
        rw [sp627, sp619] at sf628
        refine tw_goto rfl ?_
        have hsk : mSk hf628 = 13 :: mSk h := by rw [tf628, tp627, tp619]; rfl
        have h46 : stN (tvI (tF hf628 111 46)) = 0 := by rw [mFr_46 gf628, h46s]; rfl
        exact tw_vret rfl ⟨rfl, mFq_f gf628, mOut_r (by unfold mS0; rw [if_neg (fun z => p620 (by have y := z; rw [txt_k.1] at y; rw [sp619]; exact y)), if_pos hw91, if_neg (by rw [← tp619]; exact np627)]) pf628 (mD_o ef628 (by decide) (by decide) ddp627) (by unfold mst; rw [h46, hsk, sf628]; rfl)⟩
      · have ggp627 := mFr_t ggp619 gp627
        refine tw_aload rfl rfl ?_
        refine tw_dup rfl ?_
        refine tw_getS rfl (hi_111_28 ggp627.1) ?_
        refine tw_push rfl ?_
        refine tw_iadd rfl ?_
        refine tw_put rfl (fun f629 => ?_)
        refine tG_setm f629 (hw_111_28 f629 (ggp627).1) (fun hf629 ef629 => ?_)
        try dsimp only [tvI_i] at ef629
        have gf629 := mFr_s ggp627 ef629 (by unfold mFs; omega)
        have zf629 := mFt_s Fp627 ef629 (by decide)
        have yf629 : (tvI (tF hp627 111 28)).toInt = (((rB T n (ms h).1) : Nat) : Int) := by rw [ip627, mPl pp619e, sp619]; rfl
        have Zf629 : mZp hf629 := mZ_of ggp627 hp ef629 (zp3 yf629 (j := 1) rfl (by have := rB_le (T := T) hpn; omega) (by decide)) (by have := rB_le (T := T) hpn; omega)
        refine tw_goto rfl ?_
        exact tw_vret rfl ⟨rfl, mFq_f gf629, mOut_l (by unfold mS0; rw [if_neg (fun z => p620 (by have y := z; rw [txt_k.1] at y; rw [sp619]; exact y)), if_pos hw91, if_pos (by rw [← tp619]; exact np627)]) zf629 Zf629⟩
theorem g_closesRound {G : zG} (hG : G.1 = zProg) (hX : G.2.1 = ztx) {h : zH} {T : Nat → Int32} {n : Nat} (hs : tSh h) (hp : mP h) (hT : tA h 132 = T) (hN : mn h = n) {c : Int32} (hc : sgm T n (ms h).1 c) (hhd : (mSk h).headD 0 = 50) (hD : mD h) : tC zTt G 218 [.ref 111, .int c] h (fun w h2 => w = none ∧ mFr h h2 ∧ ((((ms h).1 < n ∧ T (ms h).1 = 41) ∧ mP h2 ∧ ms h2 = rA ((ms h).1 + 1) (ms h) ∧ mSk h2 = (mSk h).tail ∧ mD h2) ∨ (¬ ((ms h).1 < n ∧ T (ms h).1 = 41) ∧ mFt h2 (1 + 8 * (ms h).1 + 0) ∧ mZp h2))) := by
  refine tC_in (by rw [hG]; rfl) (fun dp => ?_)
  have g0 := mFr_r hs
  have hpn : (ms h).1 ≤ n := mPle hp hN
  have hn4 : n ≤ 400 := by have a := mNl hp hN; have b := hp.2.1; omega
  refine tw_iload rfl rfl ?_
  refine tw_push rfl ?_
  refine tw_ic_eq rfl (fun q630 => ?_) (fun q630 => ?_)
  · try dsimp only [tvI_i, tvJ_j, tvR_r] at q630
    have q630i := zeqi (Y := 41) (by decide) q630
    refine tw_aload rfl rfl ?_
    refine tw_dup rfl ?_
    refine tw_getS rfl (hi_111_28 hs) ?_
    refine tw_push rfl ?_
    refine tw_iadd rfl ?_
    refine tw_put rfl (fun f631 => ?_)
    refine tG_setm f631 (hw_111_28 f631 (g0).1) (fun hf631 ef631 => ?_)
    try dsimp only [tvI_i] at ef631
    have gf631 := mFr_s g0 ef631 (by unfold mFs; omega)
    have w9 := (sgm_k hc 41 (by decide)).mp q630
    obtain ⟨pf631, sf631, tf631⟩ := mTo hp ((mFr_n g0).trans hN) ef631 (v := (ms h).1 + 1) (zp1 (mPl hp) (by omega)) w9.1
    refine tw_aload rfl rfl ?_
    refine tw_dup rfl ?_
    refine tw_getS rfl (hi_111_34 (gf631).1) ?_
    refine tw_push rfl ?_
    refine tw_isub rfl ?_
    refine tw_put rfl (fun f632 => ?_)
    refine tG_setm f632 (hw_111_34 f632 (gf631).1) (fun hf632 ef632 => ?_)
    try dsimp only [tvI_i] at ef632
    have gf632 := mFr_s gf631 ef632 (by unfold mFs; omega)
    have hst : mSk hf631 = 50 :: (mSk h).tail := tf631.trans (mhead (k := 49) hhd)
    obtain ⟨pf632, tf632, sf632, df632⟩ := mSk_pop pf631 (by rw [hst]; exact List.cons_ne_nil _ _) ef632
    rw [hst] at tf632
    have tf632 : mSk hf632 = (mSk h).tail := tf632
    refine tw_aload rfl rfl ?_
    refine tw_dup rfl ?_
    refine tw_getS rfl (hi_111_32 (gf632).1) ?_
    refine tw_push rfl ?_
    refine tw_isub rfl ?_
    refine tw_put rfl (fun f633 => ?_)
    refine tG_setm f633 (hw_111_32 f633 (gf632).1) (fun hf633 ef633 => ?_)
    try dsimp only [tvI_i] at ef633
    have gf633 := mFr_s gf632 ef633 (by unfold mFs; omega)
    have hdf633 : (tvI (tF hf632 111 32)).toInt = ((mDp (mSk hf632) + 1 : Nat) : Int) := by
      rw [df632, mI_o ef631 (by decide)]
      refine (show (tvI (tF h 111 32)).toInt = (mDp (mSk h) : Int) from hD).trans ?_
      rw [tf632]
      exact congrArg (fun z : Nat => (z : Int)) ((congrArg mDp (mhead (k := 49) hhd)).trans (mDp_c (by decide)))
    obtain ⟨pf633, tf633, sf633, ddf633⟩ := mDn pf632 ef633 hdf633 rfl
    exact tw_vret rfl ⟨rfl, gf633, Or.inl ⟨w9, pf633, by rw [sf633, sf632, sf631], by rw [tf633, tf632], ddf633⟩⟩
  · try dsimp only [tvI_i, tvJ_j, tvR_r] at q630
    have q630i := zneq (Y := 41) (by decide) q630
    refine tw_aload rfl rfl ?_
    refine tw_push rfl ?_
    refine tw_aload rfl rfl ?_
    refine tw_getS rfl (hi_111_28 hs) ?_
    refine tw_virt2 rfl (g_fails hG hX (g0).1 hp ((mFr_T g0).trans hT) ((mFr_n g0).trans hN) (w := 0) (b := (ms h).1) rfl (by decide) (mPl hp) (by omega)) (fun wp634 hp634 p634 => ?_)
    obtain ⟨rfl, gp634, Fp634, ip634, jp634⟩ := p634
    have ggp634 := mFr_t g0 gp634
    refine tw_aload rfl rfl ?_
    refine tw_dup rfl ?_
    refine tw_getS rfl (hi_111_28 ggp634.1) ?_
    refine tw_push rfl ?_
    refine tw_iadd rfl ?_
    refine tw_put rfl (fun f635 => ?_)
    refine tG_setm f635 (hw_111_28 f635 (ggp634).1) (fun hf635 ef635 => ?_)
    try dsimp only [tvI_i] at ef635
    have gf635 := mFr_s ggp634 ef635 (by unfold mFs; omega)
    have zf635 := mFt_s Fp634 ef635 (by decide)
    have yf635 : (tvI (tF hp634 111 28)).toInt = (((ms h).1 : Nat) : Int) := by rw [ip634]; exact mPl hp
    have Zf635 : mZp hf635 := mZ_of ggp634 hp ef635 (zp1 yf635 (by omega)) (by omega)
    refine tw_aload rfl rfl ?_
    refine tw_dup rfl ?_
    refine tw_getS rfl (hi_111_34 (gf635).1) ?_
    refine tw_push rfl ?_
    refine tw_isub rfl ?_
    refine tw_put rfl (fun f636 => ?_)
    refine tG_setm f636 (hw_111_34 f636 (gf635).1) (fun hf636 ef636 => ?_)
    try dsimp only [tvI_i] at ef636
    have gf636 := mFr_s gf635 ef636 (by unfold mFs; omega)
    have zf636 := mFt_s zf635 ef636 (by decide)
    have Zf636 : mZp hf636 := mZp_o Zf635 ef636 (by decide)
    refine tw_aload rfl rfl ?_
    refine tw_dup rfl ?_
    refine tw_getS rfl (hi_111_32 (gf636).1) ?_
    refine tw_push rfl ?_
    refine tw_isub rfl ?_
    refine tw_put rfl (fun f637 => ?_)
    refine tG_setm f637 (hw_111_32 f637 (gf636).1) (fun hf637 ef637 => ?_)
    try dsimp only [tvI_i] at ef637
    have gf637 := mFr_s gf636 ef637 (by unfold mFs; omega)
    have zf637 := mFt_s zf636 ef637 (by decide)
    have Zf637 : mZp hf637 := mZp_o Zf636 ef637 (by decide)
    exact tw_vret rfl ⟨rfl, gf637, Or.inr ⟨fun z => q630 ((sgm_k hc 41 (by decide)).mpr z), zf637, Zf637⟩⟩
theorem mDp_T : ∀ (S o : List Nat), mDp (mT S o).1 = mDp S
  | [], _ => rfl
  | x :: r, o => by
    unfold mT
    by_cases z : x = 102
    · rw [if_pos z, mDp_T r, z, mDp_e (by decide)]
    · rw [if_neg z]
theorem mDp_P : ∀ (S o : List Nat), mDp (mPm S o).1 = mDp S
  | [], _ => rfl
  | x :: r, o => by
    unfold mPm
    by_cases z : x = 103
    · rw [if_pos z, mDp_P r, z, mDp_e (by decide)]
    · rw [if_neg z]
      by_cases y : x = 104
      · rw [if_pos y, mDp_P r, y, mDp_e (by decide)]
      · rw [if_neg y]
theorem mDp_S (S o : List Nat) : mDp (mS S o).1 = mDp S := (mDp_P _ _).trans (mDp_T _ _)
theorem mDp_A : ∀ (S o : List Nat), mDp (mA S o).1 = mDp S
  | [], _ => rfl
  | x :: r, o => by
    unfold mA
    by_cases z : x = 11
    · rw [if_pos z, mDp_A r, z, mDp_e (by decide)]
    · rw [if_neg z]
theorem mDp_O1 : ∀ (S o : List Nat), mDp (mO1 S o).1 = mDp S
  | [], _ => rfl
  | x :: r, o => by
    unfold mO1
    by_cases z : x = 12
    · rw [if_pos z, mDp_O1 r, z, mDp_e (by decide)]
    · rw [if_neg z]
theorem mDp_O (S o : List Nat) : mDp (mO S o).1 = mDp S := (mDp_O1 _ _).trans (mDp_A _ _)
theorem mD_m {h h2 : zH} (d : mD h) (a : mDp (mSk h2) = mDp (mSk h)) (b : tF h2 111 32 = tF h 111 32) : mD h2 := by
  unfold mD
  rw [a, b]
  exact d
theorem mfst {α β : Type} {x : α} {y : β} {p : α × β} (h : (x, y) = p) : x = p.1 := congrArg Prod.fst h
theorem mA1 {h1 h2 : zH} {b : Nat} {s : rS} (e : ms h1 = rA b s) (a : (ms h2).1 = (ms h1).1) : (ms h2).1 = b := by
  rw [a, e]
  rfl
theorem mA2 {h1 h2 : zH} {b y0 : Nat} {s : rS} (e : ms h1 = rA b s) (c : (ms h2).2.1 = (ms h1).2.1) (y : s.2.1 = y0) : (ms h2).2.1 = y0 := by
  rw [c, e]
  exact y
theorem mA3 {h1 h2 : zH} {b y0 : Nat} {s : rS} {z : List Nat} (e : ms h1 = rA b s) (a : (ms h2).1 = (ms h1).1) (c : (ms h2).2.1 = (ms h1).2.1) (y : s.2.1 = y0) (k : (ms h2).2.2 = z) : ms h2 = (b, y0, z) :=
  Prod.ext (mA1 e a) (Prod.ext (mA2 e c y) k)
theorem mA6 {b y0 : Nat} {s : rS} {z : List Nat} (y : s.2.1 = y0) (k : s.2.2 = z) : rA b s = (b, y0, z) := by
  rw [← y, ← k]
  rfl
theorem mA4 {h1 h2 h3 : zH} {b y0 : Nat} {s : rS} {z : List Nat} (g : ms h3 = rA ((ms h2).1 + 1) (ms h2)) (e : ms h1 = rA b s) (a : (ms h2).1 = (ms h1).1) (c : (ms h2).2.1 = (ms h1).2.1) (y : s.2.1 = y0) (k : (ms h2).2.2 = z) : ms h3 = (b + 1, y0, z) := by
  rw [g, mA1 e a]
  exact mA6 (mA2 e c y) k
theorem cm_d {q : Nat} {x : Int32} (h1 : 100103 ≤ q) (hx : x.toInt + 100098 = (q : Int)) : ∃ d, q = 100103 + d ∧ x.toInt = ((d + 5 : Nat) : Int) := ⟨q - 100103, by omega, by omega⟩
theorem cm_x {q : Nat} {x : Int32} (h1 : 100103 ≤ q) (h2 : q ≤ 100107) (hx : x.toInt + 100098 = (q : Int)) : (200 + x).toNatClampNeg = q - 99898 := by
  obtain ⟨d, rfl, h⟩ := cm_d h1 hx
  rw [zof_cl (zadN (x := 200) (a := 200) rfl h (by omega) (by omega))]
  omega
theorem cm_0 {q : Nat} {x : Int32} (h1 : 100103 ≤ q) (h2 : q ≤ 100107) (hx : x.toInt + 100098 = (q : Int)) : 0 ≤ (200 + x).toInt := by
  obtain ⟨d, rfl, h⟩ := cm_d h1 hx
  rw [zadN (x := 200) (a := 200) rfl h (by omega) (by omega)]
  omega
theorem cm_z {q : Nat} {x : Int32} (h1 : 100103 ≤ q) (hx : x.toInt + 100098 = (q : Int)) (h : x = 0) : False := by
  obtain ⟨d, -, h4⟩ := cm_d h1 hx
  rw [h] at h4
  have h5 : (0 : Int) = ((d + 5 : Nat) : Int) := h4
  omega
theorem msnd {α β : Type} {x : α} {y : β} {p : α × β} (h : (x, y) = p) : y = p.2 := congrArg Prod.snd h
theorem mDp_tl {S : List Nat} (h : 205 ≤ S.headD 0 ∧ S.headD 0 ≤ 209) : mDp S.tail = mDp S := by
  cases S with
  | nil => exact absurd h.1 (by decide)
  | cons x r =>
    have h : 205 ≤ x ∧ x ≤ 209 := h
    exact (mDp_e (by omega)).symm
theorem g_behindValue {G : zG} (hG : G.1 = zProg) (hX : G.2.1 = ztx) {h : zH} {T : Nat → Int32} {n : Nat} (hs : tSh h) (hp : mP h) (hT : tA h 132 = T) (hN : mn h = n) (hD : mD h) (hd : mDp (mSk h) ≤ 1000) {tst : Bool} (hts : ¬ tvI (tF h 111 47) = 0 ↔ tst = true) (h46s : tvI (tF h 111 46) = 2) : tC zTt G 217 [.ref 111] h (fun w h2 => w = none ∧ mFq h h2 ∧ mOut (mS2 T n tst (mSk h) (ms h)) h2) := by
  refine tC_in (by rw [hG]; rfl) (fun dp => ?_)
  have g0 := mFr_r hs
  have hpn : (ms h).1 ≤ n := mPle hp hN
  have hn4 : n ≤ 400 := by have a := mNl hp hN; have b := hp.2.1; omega
  refine tw_aload rfl rfl ?_
  refine tw_virt0 rfl (g_blanks hG hX (g0).1 hp ((mFr_T g0).trans hT) ((mFr_n g0).trans hN)) (fun wp638 hp638 p638 => ?_)
  obtain ⟨rfl, gp638, pp638e, sp638, tp638, dp638⟩ := p638
  have ggp638 := mFr_t g0 gp638
  refine tw_aload rfl rfl ?_
  refine tw_virt0 rfl (g_sign hG hX (ggp638).1 ((mFr_T ggp638).trans hT) ((mFr_n ggp638).trans hN) ⟨pp638e.2.1.1, by have := pp638e.2.1; omega⟩) (fun wp639 hp639 p639 => ?_)
  obtain ⟨⟨cp639, rfl, kp639⟩, rfl⟩ := p639
  refine tw_istore rfl ?_
  refine tw_iload rfl rfl ?_
  refine tw_push rfl ?_
  refine tw_ic_ne rfl (fun q640 => ?_) (fun q640 => ?_)
  · try dsimp only [tvI_i, tvJ_j, tvR_r] at q640
    have q640i := zneq (Y := 42) (by decide) q640
    refine tw_iload rfl rfl ?_
    refine tw_push rfl ?_
    refine tw_ic_eq rfl (fun q641 => ?_) (fun q641 => ?_)
    · try dsimp only [tvI_i, tvJ_j, tvR_r] at q641
      have q641i := zeqi (Y := 43) (by decide) q641
      refine tw_aload rfl rfl ?_
      refine tw_virt0 rfl (g_makesSums hG hX (ggp638).1 pp638e ((mFr_T ggp638).trans hT) ((mFr_n ggp638).trans hN)) (fun wp642 hp642 p642 => ?_)
      obtain ⟨rfl, gp642, pp642e, ap642, bp642, mp642, dp642⟩ := p642
      have ggp642 := mFr_t ggp638 gp642
      refine tw_aload rfl rfl ?_
      refine tw_push rfl ?_
      refine tw_iload rfl rfl ?_
      refine tw_push rfl ?_
      refine tw_ic_ne rfl (fun q643 => ?_) (fun q643 => ?_)
      · try dsimp only [tvI_i, tvJ_j, tvR_r] at q643
        have q643i := zneq (Y := 43) (by decide) q643
        exact absurd q641 q643
      · try dsimp only [tvI_i, tvJ_j, tvR_r] at q643
        have q643i := zeqi (Y := 43) (by decide) q643
        refine tw_push rfl ?_
        refine tw_goto rfl ?_
        refine tw_iadd rfl ?_
        refine tw_virt1 rfl (g_opens hG hX (ggp642).1 pp642e ((mFr_T ggp642).trans hT) ((mFr_n ggp642).trans hN) (by decide)) (fun wp644 hp644 p644 => ?_)
        obtain ⟨rfl, gp644, pp644e, tp644, sp644, dp644⟩ := p644
        have ggp644 := mFr_t ggp642 gp644
        refine tw_aload rfl rfl ?_
        refine tw_dup rfl ?_
        refine tw_getS rfl (hi_111_28 ggp644.1) ?_
        refine tw_push rfl ?_
        refine tw_iadd rfl ?_
        refine tw_put rfl (fun f645 => ?_)
        refine tG_setm f645 (hw_111_28 f645 (ggp644).1) (fun hf645 ef645 => ?_)
        try dsimp only [tvI_i] at ef645
        have gf645 := mFr_s ggp644 ef645 (by unfold mFs; omega)
        have hk42 : cp639 = 42 ↔ ((rB T n (ms h).1) < n ∧ T (rB T n (ms h).1) = 42) := by have y := sgm_k kp639 42 (by decide); rw [sp638] at y; exact y
        have hs42 : ¬ ((rB T n (ms h).1) < n ∧ T (rB T n (ms h).1) = 42) := fun z => q640 (hk42.mpr z)
        have hk43 : cp639 = 43 ↔ ((rB T n (ms h).1) < n ∧ T (rB T n (ms h).1) = 43) := by have y := sgm_k kp639 43 (by decide); rw [sp638] at y; exact y
        have hs43 := hk43.mp q641
        have hmsf645 : ms hp644 = ((rB T n (ms h).1), (ms h).2.1, (ms hp642).2.2) := (sp644).trans (mA3 sp638 ap642 bp642 rfl rfl)
        obtain ⟨pf645, sf645, tf645⟩ := mTo pp644e ((mFr_n ggp644).trans hN) ef645 (v := (rB T n (ms h).1) + 1) (zp1 (by rw [mPl pp644e, hmsf645]) (by have := rB_le (T := T) hpn; omega)) hs43.1
        rw [hmsf645] at sf645
        refine tw_aload rfl rfl ?_
        refine tw_push rfl ?_
        refine tw_put rfl (fun f646 => ?_)
        refine tG_setm f646 (hw_111_46 f646 (gf645).1) (fun hf646 ef646 => ?_)
        try dsimp only [tvI_i] at ef646
        have gf646 := mFq_s (mFq_f gf645) ef646 (Or.inr rfl)
        obtain ⟨pf646, sf646, tf646⟩ := mSte pf645 ef646
        refine tw_goto rfl ?_
        have hmb : (mSk hp642, (ms hp642).2.2) = mS (mSk h) (ms h).2.2 := by rw [mp642, tp638, sp638]; rfl
        have hsk : mSk hf646 = 103 :: (mS (mSk h) (ms h).2.2).1 := by rw [tf646, tf645, tp644, ← mfst hmb]; rfl
        have hdd : mD hf646 := mD_m hD (by rw [hsk, mDp_e (by decide)]; exact mDp_S _ _) ((mI_o ef646 (by decide)).trans ((mI_o ef645 (by decide)).trans (dp644.trans (dp642.trans dp638))))
        exact tw_vret rfl ⟨rfl, gf646, mOut_r (by unfold mS2; rw [if_neg hs42, if_pos hs43]) pf646 hdd (by unfold mst; rw [mI_x ef646, hsk, sf646, sf645, msnd hmb]; rfl)⟩
    · try dsimp only [tvI_i, tvJ_j, tvR_r] at q641
      have q641i := zneq (Y := 43) (by decide) q641
      refine tw_iload rfl rfl ?_
      refine tw_push rfl ?_
      refine tw_ic_ne rfl (fun q647 => ?_) (fun q647 => ?_)
      · try dsimp only [tvI_i, tvJ_j, tvR_r] at q647
        have q647i := zneq (Y := 45) (by decide) q647
        refine tw_aload rfl rfl ?_
        refine tw_virt0 rfl (g_makesSums hG hX (ggp638).1 pp638e ((mFr_T ggp638).trans hT) ((mFr_n ggp638).trans hN)) (fun wp648 hp648 p648 => ?_)
        obtain ⟨rfl, gp648, pp648e, ap648, bp648, mp648, dp648⟩ := p648
        have ggp648 := mFr_t ggp638 gp648
        refine tw_aload rfl rfl ?_
        refine tw_virt0 rfl (g_top hG hX (ggp648).1 pp648e ((mFr_T ggp648).trans hT) ((mFr_n ggp648).trans hN)) (fun wp649 hp649 p649 => ?_)
        obtain ⟨⟨cp649, rfl, Tp649⟩, rfl⟩ := p649
        refine tw_push rfl ?_
        refine tw_ic_ne rfl (fun q650 => ?_) (fun q650 => ?_)
        · try dsimp only [tvI_i, tvJ_j, tvR_r] at q650
          have q650i := zneq (Y := 50) (by decide) q650
          refine tw_aload rfl rfl ?_
          refine tw_getS rfl (hi_111_47 (ggp648).1) ?_
          refine tw_if_eq rfl (fun q651 => ?_) (fun q651 => ?_)
          · try dsimp only [tvI_i, tvJ_j, tvR_r] at q651
            have q651i := zeqi (Y := 0) (by decide) q651
            refine tw_aload rfl rfl ?_
            refine tw_getS rfl (hi_111_47 (ggp648).1) ?_
            refine tw_if_eq rfl (fun q652 => ?_) (fun q652 => ?_)
            · try dsimp only [tvI_i, tvJ_j, tvR_r] at q652
              have q652i := zeqi (Y := 0) (by decide) q652
              refine tw_aload rfl rfl ?_
              refine tw_push rfl ?_
              refine tw_put rfl (fun f653 => ?_)
              refine tG_setm f653 (hw_111_46 f653 (ggp648).1) (fun hf653 ef653 => ?_)
              try dsimp only [tvI_i] at ef653
              have gf653 := mFq_s (mFq_f ggp648) ef653 (Or.inr rfl)
              obtain ⟨pf653, sf653, tf653⟩ := mSte pp648e ef653
              have hk42 : cp639 = 42 ↔ ((rB T n (ms h).1) < n ∧ T (rB T n (ms h).1) = 42) := by have y := sgm_k kp639 42 (by decide); rw [sp638] at y; exact y
              have hs42 : ¬ ((rB T n (ms h).1) < n ∧ T (rB T n (ms h).1) = 42) := fun z => q640 (hk42.mpr z)
              have hk43 : cp639 = 43 ↔ ((rB T n (ms h).1) < n ∧ T (rB T n (ms h).1) = 43) := by have y := sgm_k kp639 43 (by decide); rw [sp638] at y; exact y
              have hs43 : ¬ ((rB T n (ms h).1) < n ∧ T (rB T n (ms h).1) = 43) := fun z => q641 (hk43.mpr z)
              have hk45 : cp639 = 45 ↔ ((rB T n (ms h).1) < n ∧ T (rB T n (ms h).1) = 45) := by have y := sgm_k kp639 45 (by decide); rw [sp638] at y; exact y
              have hs45 : ¬ ((rB T n (ms h).1) < n ∧ T (rB T n (ms h).1) = 45) := fun z => q647 (hk45.mpr z)
              have ht50 := tpm_k Tp649 (k := 50) (K := 50) rfl (by decide)
              have hn50 : ¬ (mSk hp648).headD 0 = 50 := fun z => q650 (ht50.mpr z)
              have hin : tvI (tF h 111 47) = 0 := by have z := q651; rw [mFr_47 ggp648] at z; exact z
              have hmb : (mSk hp648, (ms hp648).2.2) = mS (mSk h) (ms h).2.2 := by rw [mp648, tp638, sp638]; rfl
              have hms : ms hf653 = ((rB T n (ms h).1), (ms h).2.1, (mS (mSk h) (ms h).2.2).2) := (sf653).trans (mA3 sp638 ap648 bp648 rfl (msnd hmb))
              have hsk : mSk hf653 = (mS (mSk h) (ms h).2.2).1 := by rw [tf653, mfst hmb]
              have hdd : mD hf653 := mD_m hD (by rw [hsk]; exact mDp_S _ _) ((mI_o ef653 (by decide)).trans (dp648.trans dp638))
              exact tw_vret rfl ⟨rfl, gf653, mOut_r (by unfold mS2; rw [if_neg hs42, if_neg hs43, if_neg hs45, if_neg (show ¬ (mS (mSk h) (ms h).2.2).1.headD 0 = 50 from by rw [← mfst hmb]; exact hn50), if_neg (fun z => hts.mpr z hin)]) pf653 hdd (by unfold mst; rw [mI_x ef653, hsk, hms]; rfl)⟩
            · try dsimp only [tvI_i, tvJ_j, tvR_r] at q652
              have q652i := zneq (Y := 0) (by decide) q652
              exact absurd q651 q652
          · try dsimp only [tvI_i, tvJ_j, tvR_r] at q651
            have q651i := zneq (Y := 0) (by decide) q651
            refine tw_aload rfl rfl ?_
            refine tw_virt0 rfl (g_top hG hX (ggp648).1 pp648e ((mFr_T ggp648).trans hT) ((mFr_n ggp648).trans hN)) (fun wp654 hp654 p654 => ?_)
            obtain ⟨⟨cp654, rfl, Tp654⟩, rfl⟩ := p654
            refine tw_push rfl ?_
            refine tw_ic_lt rfl (fun q655 => ?_) (fun q655 => ?_)
            · try dsimp only [tvI_i, tvJ_j, tvR_r] at q655
              refine tw_aload rfl rfl ?_
              refine tw_virt0 rfl (g_compares hG hX (ggp648).1 pp648e ((mFr_T ggp648).trans hT) ((mFr_n ggp648).trans hN)) (fun w9 hp656 p656 => ?_)
              obtain ⟨gp656, ⟨np656, rfl, e9⟩ | ⟨vp656, np656, ⟨mp656, ⟨xp656, rfl, yp656⟩, pp656e, sp656, tp656, dp656⟩ | ⟨mp656, xp656, rfl, x5p656, x9p656, Fp656, Zp656⟩⟩⟩ := p656
              · have ggp656 := mFr_t ggp648 gp656
                obtain rfl := e9.symm
                have pp656e := pp648e
                refine tw_istore rfl ?_
                refine tw_iload rfl rfl ?_
                refine tw_if_ne rfl (fun z => absurd z (by decide)) (fun _ => ?_)
                refine tw_aload rfl rfl ?_
                refine tw_push rfl ?_
                refine tw_aload rfl rfl ?_
                refine tw_getS rfl (hi_111_28 ggp656.1) ?_
                refine tw_virt2 rfl (g_fails hG hX (ggp656).1 pp656e ((mFr_T ggp656).trans hT) ((mFr_n ggp656).trans hN) (w := 0) (b := (rB T n (ms h).1)) rfl (by decide) ((mPl pp656e).trans (by rw [(show (ms hp648).1 = (rB T n (ms h).1) from by rw [ap648, sp638]; rfl)])) (by have := rB_le (T := T) hpn; omega)) (fun wp657 hp657 p657 => ?_)
                obtain ⟨rfl, gp657, Fp657, ip657, jp657⟩ := p657
                have ggp657 := mFr_t ggp656 gp657
                refine tw_aload rfl rfl ?_
                refine tw_push rfl ?_
                refine tw_iload rfl rfl ?_
                refine tw_iadd rfl ?_
                refine tw_virt1 rfl (z_opens hG hX (ggp657).1 Fp657 ((mFr_T ggp657).trans hT) ((mFr_n ggp657).trans hN)) (fun wp658 hp658 p658 => ?_)
                obtain ⟨rfl, gp658, Fp658, ip658, jp658⟩ := p658
                have ggp658 := mFr_t ggp657 gp658
                refine tw_aload rfl rfl ?_
                refine tw_push rfl ?_
                refine tw_put rfl (fun f659 => ?_)
                refine tG_setm f659 (hw_111_46 f659 (ggp658).1) (fun hf659 ef659 => ?_)
                try dsimp only [tvI_i] at ef659
                have gf659 := mFq_s (mFq_f ggp658) ef659 (Or.inr rfl)
                have zf659 := mFt_s Fp658 ef659 (by decide)
                refine tw_goto rfl ?_
                have hk42 : cp639 = 42 ↔ ((rB T n (ms h).1) < n ∧ T (rB T n (ms h).1) = 42) := by have y := sgm_k kp639 42 (by decide); rw [sp638] at y; exact y
                have hs42 : ¬ ((rB T n (ms h).1) < n ∧ T (rB T n (ms h).1) = 42) := fun z => q640 (hk42.mpr z)
                have hk43 : cp639 = 43 ↔ ((rB T n (ms h).1) < n ∧ T (rB T n (ms h).1) = 43) := by have y := sgm_k kp639 43 (by decide); rw [sp638] at y; exact y
                have hs43 : ¬ ((rB T n (ms h).1) < n ∧ T (rB T n (ms h).1) = 43) := fun z => q641 (hk43.mpr z)
                have hk45 : cp639 = 45 ↔ ((rB T n (ms h).1) < n ∧ T (rB T n (ms h).1) = 45) := by have y := sgm_k kp639 45 (by decide); rw [sp638] at y; exact y
                have hs45 : ¬ ((rB T n (ms h).1) < n ∧ T (rB T n (ms h).1) = 45) := fun z => q647 (hk45.mpr z)
                have ht50 := tpm_k Tp649 (k := 50) (K := 50) rfl (by decide)
                have hn50 : ¬ (mSk hp648).headD 0 = 50 := fun z => q650 (ht50.mpr z)
                have hin : ¬ tvI (tF h 111 47) = 0 := by have z := q651; rw [mFr_47 ggp648] at z; exact z
                have c2059 : (205 : Int32).toInt = 205 := rfl
                have c2099 : (209 : Int32).toInt = 209 := rfl
                have hcmp : ¬ (205 ≤ (mSk hp648).headD 0 ∧ (mSk hp648).headD 0 ≤ 209) := by have z := tpm_e Tp654; have z2 := q655; omega
                have hmb : (mSk hp648, (ms hp648).2.2) = mS (mSk h) (ms h).2.2 := by rw [mp648, tp638, sp638]; rfl
                have hr9 : rCm T n (rB T n (ms h).1) = none := by have z := np656; rw [ap648, sp638] at z; exact z
                have hZ : mZp hf659 := mZp_o (mZp_k (mZp_k (mZp_p pp656e) ip657 jp657) ip658 jp658) ef659 (by decide)
                exact tw_vret rfl ⟨rfl, gf659, mOut_l (by unfold mS2; rw [if_neg hs42, if_neg hs43, if_neg hs45, if_neg (show ¬ (mS (mSk h) (ms h).2.2).1.headD 0 = 50 from by rw [← mfst hmb]; exact hn50), if_pos (show tst = true from hts.mp hin), if_neg (show ¬ (205 ≤ (mS (mSk h) (ms h).2.2).1.headD 0 ∧ (mS (mSk h) (ms h).2.2).1.headD 0 ≤ 209) from by rw [← mfst hmb]; exact hcmp), hr9]) zf659 hZ⟩
              · have ggp656 := mFr_t ggp648 gp656
                refine tw_istore rfl ?_
                refine tw_iload rfl rfl ?_
                refine tw_if_ne rfl (fun q660 => ?_) (fun q660 => ?_)
                · try dsimp only [tvI_i, tvJ_j, tvR_r] at q660
                  have q660i := zneq (Y := 0) (by decide) q660
                  refine tw_aload rfl rfl ?_
                  refine tw_push rfl ?_
                  refine tw_iload rfl rfl ?_
                  refine tw_iadd rfl ?_
                  refine tw_virt1 rfl (g_opens hG hX (ggp656).1 pp656e ((mFr_T ggp656).trans hT) ((mFr_n ggp656).trans hN) (cm_0 (rCm_r np656).1 (rCm_r np656).2.1 yp656)) (fun wp661 hp661 p661 => ?_)
                  obtain ⟨rfl, gp661, pp661e, tp661, sp661, dp661⟩ := p661
                  have ggp661 := mFr_t ggp656 gp661
                  refine tw_aload rfl rfl ?_
                  refine tw_push rfl ?_
                  refine tw_put rfl (fun f662 => ?_)
                  refine tG_setm f662 (hw_111_46 f662 (ggp661).1) (fun hf662 ef662 => ?_)
                  try dsimp only [tvI_i] at ef662
                  have gf662 := mFq_s (mFq_f ggp661) ef662 (Or.inr rfl)
                  obtain ⟨pf662, sf662, tf662⟩ := mSte pp661e ef662
                  refine tw_goto rfl ?_
                  have hk42 : cp639 = 42 ↔ ((rB T n (ms h).1) < n ∧ T (rB T n (ms h).1) = 42) := by have y := sgm_k kp639 42 (by decide); rw [sp638] at y; exact y
                  have hs42 : ¬ ((rB T n (ms h).1) < n ∧ T (rB T n (ms h).1) = 42) := fun z => q640 (hk42.mpr z)
                  have hk43 : cp639 = 43 ↔ ((rB T n (ms h).1) < n ∧ T (rB T n (ms h).1) = 43) := by have y := sgm_k kp639 43 (by decide); rw [sp638] at y; exact y
                  have hs43 : ¬ ((rB T n (ms h).1) < n ∧ T (rB T n (ms h).1) = 43) := fun z => q641 (hk43.mpr z)
                  have hk45 : cp639 = 45 ↔ ((rB T n (ms h).1) < n ∧ T (rB T n (ms h).1) = 45) := by have y := sgm_k kp639 45 (by decide); rw [sp638] at y; exact y
                  have hs45 : ¬ ((rB T n (ms h).1) < n ∧ T (rB T n (ms h).1) = 45) := fun z => q647 (hk45.mpr z)
                  have ht50 := tpm_k Tp649 (k := 50) (K := 50) rfl (by decide)
                  have hn50 : ¬ (mSk hp648).headD 0 = 50 := fun z => q650 (ht50.mpr z)
                  have hin : ¬ tvI (tF h 111 47) = 0 := by have z := q651; rw [mFr_47 ggp648] at z; exact z
                  have c2059 : (205 : Int32).toInt = 205 := rfl
                  have c2099 : (209 : Int32).toInt = 209 := rfl
                  have hcmp : ¬ (205 ≤ (mSk hp648).headD 0 ∧ (mSk hp648).headD 0 ≤ 209) := by have z := tpm_e Tp654; have z2 := q655; omega
                  have hmb : (mSk hp648, (ms hp648).2.2) = mS (mSk h) (ms h).2.2 := by rw [mp648, tp638, sp638]; rfl
                  have hr9 : rCm T n (rB T n (ms h).1) = some vp656 := by have z := np656; rw [ap648, sp638] at z; exact z
                  have h80 : (ms h).2.1 ≠ 80 := by have z := mp656; rw [bp648, sp638] at z; exact z
                  have hv1 := (rCm_r hr9).1
                  have hv2 := (rCm_r hr9).2.1
                  have hx := cm_x hv1 hv2 yp656
                  have hsk : mSk hf662 = (vp656.1 - 99898) :: (mS (mSk h) (ms h).2.2).1 := by rw [tf662, tp661]; show (200 + xp656).toNatClampNeg :: mSk hp656 = _; rw [hx, tp656, mfst hmb]
                  have hms : ms hf662 = (vp656.2, (ms h).2.1 + 1, (mS (mSk h) (ms h).2.2).2) := by rw [sf662, sp661, sp656]; exact Prod.ext rfl (Prod.ext (by show (ms hp648).2.1 + 1 = _; rw [bp648, sp638]; rfl) (by have z := msnd hmb; exact z))
                  have hdd : mD hf662 := mD_m hD (by rw [hsk, mDp_e (by omega)]; exact mDp_S _ _) ((mI_o ef662 (by decide)).trans (dp661.trans (dp656.trans (dp648.trans dp638))))
                  exact tw_vret rfl ⟨rfl, gf662, mOut_r (by unfold mS2; rw [if_neg hs42, if_neg hs43, if_neg hs45, if_neg (show ¬ (mS (mSk h) (ms h).2.2).1.headD 0 = 50 from by rw [← mfst hmb]; exact hn50), if_pos (show tst = true from hts.mp hin), if_neg (show ¬ (205 ≤ (mS (mSk h) (ms h).2.2).1.headD 0 ∧ (mS (mSk h) (ms h).2.2).1.headD 0 ≤ 209) from by rw [← mfst hmb]; exact hcmp), hr9]; (try dsimp only); rw [if_neg h80]) pf662 hdd (by unfold mst; rw [mI_x ef662, hsk, hms]; rfl)⟩
                · try dsimp only [tvI_i, tvJ_j, tvR_r] at q660
                  have q660i := zeqi (Y := 0) (by decide) q660
                  exact (cm_z (rCm_r np656).1 yp656 q660).elim
              · have ggp656 := mFr_t ggp648 gp656
                refine tw_istore rfl ?_
                refine tw_iload rfl rfl ?_
                refine tw_if_ne rfl (fun q663 => ?_) (fun q663 => ?_)
                · try dsimp only [tvI_i, tvJ_j, tvR_r] at q663
                  have q663i := zneq (Y := 0) (by decide) q663
                  refine tw_aload rfl rfl ?_
                  refine tw_push rfl ?_
                  refine tw_iload rfl rfl ?_
                  refine tw_iadd rfl ?_
                  refine tw_virt1 rfl (z_opens hG hX (ggp656).1 Fp656 ((mFr_T ggp656).trans hT) ((mFr_n ggp656).trans hN)) (fun wp664 hp664 p664 => ?_)
                  obtain ⟨rfl, gp664, Fp664, ip664, jp664⟩ := p664
                  have ggp664 := mFr_t ggp656 gp664
                  refine tw_aload rfl rfl ?_
                  refine tw_push rfl ?_
                  refine tw_put rfl (fun f665 => ?_)
                  refine tG_setm f665 (hw_111_46 f665 (ggp664).1) (fun hf665 ef665 => ?_)
                  try dsimp only [tvI_i] at ef665
                  have gf665 := mFq_s (mFq_f ggp664) ef665 (Or.inr rfl)
                  have zf665 := mFt_s Fp664 ef665 (by decide)
                  refine tw_goto rfl ?_
                  have hk42 : cp639 = 42 ↔ ((rB T n (ms h).1) < n ∧ T (rB T n (ms h).1) = 42) := by have y := sgm_k kp639 42 (by decide); rw [sp638] at y; exact y
                  have hs42 : ¬ ((rB T n (ms h).1) < n ∧ T (rB T n (ms h).1) = 42) := fun z => q640 (hk42.mpr z)
                  have hk43 : cp639 = 43 ↔ ((rB T n (ms h).1) < n ∧ T (rB T n (ms h).1) = 43) := by have y := sgm_k kp639 43 (by decide); rw [sp638] at y; exact y
                  have hs43 : ¬ ((rB T n (ms h).1) < n ∧ T (rB T n (ms h).1) = 43) := fun z => q641 (hk43.mpr z)
                  have hk45 : cp639 = 45 ↔ ((rB T n (ms h).1) < n ∧ T (rB T n (ms h).1) = 45) := by have y := sgm_k kp639 45 (by decide); rw [sp638] at y; exact y
                  have hs45 : ¬ ((rB T n (ms h).1) < n ∧ T (rB T n (ms h).1) = 45) := fun z => q647 (hk45.mpr z)
                  have ht50 := tpm_k Tp649 (k := 50) (K := 50) rfl (by decide)
                  have hn50 : ¬ (mSk hp648).headD 0 = 50 := fun z => q650 (ht50.mpr z)
                  have hin : ¬ tvI (tF h 111 47) = 0 := by have z := q651; rw [mFr_47 ggp648] at z; exact z
                  have c2059 : (205 : Int32).toInt = 205 := rfl
                  have c2099 : (209 : Int32).toInt = 209 := rfl
                  have hcmp : ¬ (205 ≤ (mSk hp648).headD 0 ∧ (mSk hp648).headD 0 ≤ 209) := by have z := tpm_e Tp654; have z2 := q655; omega
                  have hmb : (mSk hp648, (ms hp648).2.2) = mS (mSk h) (ms h).2.2 := by rw [mp648, tp638, sp638]; rfl
                  have hr9 : rCm T n (rB T n (ms h).1) = some vp656 := by have z := np656; rw [ap648, sp638] at z; exact z
                  have h80 : (ms h).2.1 = 80 := by have z := mp656; rw [bp648, sp638] at z; exact z
                  have hF : mFt hf665 (1 + 8 * (rB T n (ms h).1) + 3) := by have z := zf665; rw [ap648, sp638] at z; exact z
                  have hZ : mZp hf665 := mZp_o (mZp_k Zp656 ip664 jp664) ef665 (by decide)
                  exact tw_vret rfl ⟨rfl, gf665, mOut_l (by unfold mS2; rw [if_neg hs42, if_neg hs43, if_neg hs45, if_neg (show ¬ (mS (mSk h) (ms h).2.2).1.headD 0 = 50 from by rw [← mfst hmb]; exact hn50), if_pos (show tst = true from hts.mp hin), if_neg (show ¬ (205 ≤ (mS (mSk h) (ms h).2.2).1.headD 0 ∧ (mS (mSk h) (ms h).2.2).1.headD 0 ≤ 209) from by rw [← mfst hmb]; exact hcmp), hr9]; (try dsimp only); rw [if_pos h80]) hF hZ⟩
                · try dsimp only [tvI_i, tvJ_j, tvR_r] at q663
                  have q663i := zeqi (Y := 0) (by decide) q663
                  have hv4 : xp656.toInt = 0 := congrArg Int32.toInt q663
                  exfalso
                  omega
            · try dsimp only [tvI_i, tvJ_j, tvR_r] at q655
              refine tw_aload rfl rfl ?_
              refine tw_virt0 rfl (g_top hG hX (ggp648).1 pp648e ((mFr_T ggp648).trans hT) ((mFr_n ggp648).trans hN)) (fun wp666 hp666 p666 => ?_)
              obtain ⟨⟨cp666, rfl, Tp666⟩, rfl⟩ := p666
              refine tw_push rfl ?_
              refine tw_ic_le rfl (fun q667 => ?_) (fun q667 => ?_)
              · try dsimp only [tvI_i, tvJ_j, tvR_r] at q667
                refine tw_aload rfl rfl ?_
                refine tw_getS rfl (hi_111_47 (ggp648).1) ?_
                refine tw_if_eq rfl (fun q668 => ?_) (fun q668 => ?_)
                · try dsimp only [tvI_i, tvJ_j, tvR_r] at q668
                  have q668i := zeqi (Y := 0) (by decide) q668
                  exact absurd q668 q651
                · try dsimp only [tvI_i, tvJ_j, tvR_r] at q668
                  have q668i := zneq (Y := 0) (by decide) q668
                  refine tw_aload rfl rfl ?_
                  refine tw_aload rfl rfl ?_
                  refine tw_virt0 rfl (g_top hG hX (ggp648).1 pp648e ((mFr_T ggp648).trans hT) ((mFr_n ggp648).trans hN)) (fun wp669 hp669 p669 => ?_)
                  obtain ⟨⟨cp669, rfl, Tp669⟩, rfl⟩ := p669
                  refine tw_push rfl ?_
                  refine tw_isub rfl ?_
                  refine tw_push rfl ?_
                  have hk42 : cp639 = 42 ↔ ((rB T n (ms h).1) < n ∧ T (rB T n (ms h).1) = 42) := by have y := sgm_k kp639 42 (by decide); rw [sp638] at y; exact y
                  have hs42 : ¬ ((rB T n (ms h).1) < n ∧ T (rB T n (ms h).1) = 42) := fun z => q640 (hk42.mpr z)
                  have hk43 : cp639 = 43 ↔ ((rB T n (ms h).1) < n ∧ T (rB T n (ms h).1) = 43) := by have y := sgm_k kp639 43 (by decide); rw [sp638] at y; exact y
                  have hs43 : ¬ ((rB T n (ms h).1) < n ∧ T (rB T n (ms h).1) = 43) := fun z => q641 (hk43.mpr z)
                  have hk45 : cp639 = 45 ↔ ((rB T n (ms h).1) < n ∧ T (rB T n (ms h).1) = 45) := by have y := sgm_k kp639 45 (by decide); rw [sp638] at y; exact y
                  have hs45 : ¬ ((rB T n (ms h).1) < n ∧ T (rB T n (ms h).1) = 45) := fun z => q647 (hk45.mpr z)
                  have ht50 := tpm_k Tp649 (k := 50) (K := 50) rfl (by decide)
                  have hn50 : ¬ (mSk hp648).headD 0 = 50 := fun z => q650 (ht50.mpr z)
                  have hin : ¬ tvI (tF h 111 47) = 0 := by have z := q651; rw [mFr_47 ggp648] at z; exact z
                  have c2059 : (205 : Int32).toInt = 205 := rfl
                  have c2099 : (209 : Int32).toInt = 209 := rfl
                  have hcmp : (205 ≤ (mSk hp648).headD 0 ∧ (mSk hp648).headD 0 ≤ 209) := by have z := tpm_e Tp654; have z1 := tpm_e Tp666; have z2 := q655; have z3 := q667; omega
                  have hc200 : (cp669 - 200).toInt = (((mSk hp648).headD 0 - 200 : Nat) : Int) := by have z := tpm_e Tp669; have z2 := hcmp; rw [zsb (x := cp669) (y := 200) (a := (mSk hp648).headD 0) (b := 200) (by omega) rfl (by omega) (by omega)]; omega
                  have hne : mSk hp648 ≠ [] := fun z => by rw [z] at hcmp; exact absurd hcmp.1 (by decide)
                  refine tw_virt2 rfl (g_entry hG hX (ggp648).1 pp648e ((mFr_T ggp648).trans hT) ((mFr_n ggp648).trans hN) ⟨by show 0 ≤ (cp669 - 200).toInt; rw [hc200]; omega, by decide⟩) (fun wp670 hp670 p670 => ?_)
                  obtain ⟨rfl, gp670, pp670e, sp670, tp670, dp670⟩ := p670
                  have ggp670 := mFr_t ggp648 gp670
                  refine tw_aload rfl rfl ?_
                  refine tw_dup rfl ?_
                  refine tw_getS rfl (hi_111_34 ggp670.1) ?_
                  refine tw_push rfl ?_
                  refine tw_isub rfl ?_
                  refine tw_put rfl (fun f671 => ?_)
                  refine tG_setm f671 (hw_111_34 f671 (ggp670).1) (fun hf671 ef671 => ?_)
                  try dsimp only [tvI_i] at ef671
                  have gf671 := mFr_s ggp670 ef671 (by unfold mFs; omega)
                  obtain ⟨pf671, tf671, sf671, df671⟩ := mSk_pop pp670e (by rw [tp670]; exact hne) ef671
                  refine tw_aload rfl rfl ?_
                  refine tw_push rfl ?_
                  refine tw_put rfl (fun f672 => ?_)
                  refine tG_setm f672 (hw_111_46 f672 (gf671).1) (fun hf672 ef672 => ?_)
                  try dsimp only [tvI_i] at ef672
                  have gf672 := mFq_s (mFq_f gf671) ef672 (Or.inr rfl)
                  obtain ⟨pf672, sf672, tf672⟩ := mSte pf671 ef672
                  refine tw_goto rfl ?_
                  have hmb : (mSk hp648, (ms hp648).2.2) = mS (mSk h) (ms h).2.2 := by rw [mp648, tp638, sp638]; rfl
                  have hx : mCode (cp669 - 200).toNatClampNeg 0 = (mS (mSk h) (ms h).2.2).1.headD 0 + 99898 := by rw [zof_cl hc200, ← mfst hmb]; have z := hcmp; unfold mCode; rw [if_neg (by omega), if_neg (by omega), if_neg (by omega), if_neg (by omega), if_neg (by omega), if_neg (by omega), if_neg (by omega), if_neg (by omega)]; omega
                  have hsk : mSk hf672 = (mS (mSk h) (ms h).2.2).1.tail := by rw [tf672, tf671, tp670, mfst hmb]
                  have hms : ms hf672 = ((rB T n (ms h).1), (ms h).2.1, (mS (mSk h) (ms h).2.2).2 ++ [(mS (mSk h) (ms h).2.2).1.headD 0 + 99898]) := by rw [sf672, sf671, sp670]; exact Prod.ext (mA1 sp638 ap648) (Prod.ext (mA2 sp638 bp648 rfl) (by show (ms hp648).2.2 ++ [mCode (cp669 - 200).toNatClampNeg 0] = _; rw [hx, msnd hmb]))
                  have hdd : mD hf672 := mD_m hD (by rw [hsk, ← mDp_S (mSk h) (ms h).2.2]; have z := hcmp; rw [mfst hmb] at z; exact mDp_tl z) ((mI_o ef672 (by decide)).trans (df671.trans (dp670.trans (dp648.trans dp638))))
                  exact tw_vret rfl ⟨rfl, gf672, mOut_r (by unfold mS2; rw [if_neg hs42, if_neg hs43, if_neg hs45, if_neg (show ¬ (mS (mSk h) (ms h).2.2).1.headD 0 = 50 from by rw [← mfst hmb]; exact hn50), if_pos (show tst = true from hts.mp hin), if_pos (show 205 ≤ (mS (mSk h) (ms h).2.2).1.headD 0 ∧ (mS (mSk h) (ms h).2.2).1.headD 0 ≤ 209 from by rw [← mfst hmb]; exact hcmp)]) pf672 hdd (by unfold mst; rw [mI_x ef672, hsk, hms]; rfl)⟩
              · try dsimp only [tvI_i, tvJ_j, tvR_r] at q667
                refine tw_aload rfl rfl ?_
                refine tw_virt0 rfl (g_compares hG hX (ggp648).1 pp648e ((mFr_T ggp648).trans hT) ((mFr_n ggp648).trans hN)) (fun w9 hp673 p673 => ?_)
                obtain ⟨gp673, ⟨np673, rfl, e9⟩ | ⟨vp673, np673, ⟨mp673, ⟨xp673, rfl, yp673⟩, pp673e, sp673, tp673, dp673⟩ | ⟨mp673, xp673, rfl, x5p673, x9p673, Fp673, Zp673⟩⟩⟩ := p673
                · have ggp673 := mFr_t ggp648 gp673
                  obtain rfl := e9.symm
                  have pp673e := pp648e
                  refine tw_istore rfl ?_
                  refine tw_iload rfl rfl ?_
                  refine tw_if_ne rfl (fun z => absurd z (by decide)) (fun _ => ?_)
                  refine tw_aload rfl rfl ?_
                  refine tw_push rfl ?_
                  refine tw_aload rfl rfl ?_
                  refine tw_getS rfl (hi_111_28 ggp673.1) ?_
                  refine tw_virt2 rfl (g_fails hG hX (ggp673).1 pp673e ((mFr_T ggp673).trans hT) ((mFr_n ggp673).trans hN) (w := 0) (b := (rB T n (ms h).1)) rfl (by decide) ((mPl pp673e).trans (by rw [(show (ms hp648).1 = (rB T n (ms h).1) from by rw [ap648, sp638]; rfl)])) (by have := rB_le (T := T) hpn; omega)) (fun wp674 hp674 p674 => ?_)
                  obtain ⟨rfl, gp674, Fp674, ip674, jp674⟩ := p674
                  have ggp674 := mFr_t ggp673 gp674
                  refine tw_aload rfl rfl ?_
                  refine tw_push rfl ?_
                  refine tw_iload rfl rfl ?_
                  refine tw_iadd rfl ?_
                  refine tw_virt1 rfl (z_opens hG hX (ggp674).1 Fp674 ((mFr_T ggp674).trans hT) ((mFr_n ggp674).trans hN)) (fun wp675 hp675 p675 => ?_)
                  obtain ⟨rfl, gp675, Fp675, ip675, jp675⟩ := p675
                  have ggp675 := mFr_t ggp674 gp675
                  refine tw_aload rfl rfl ?_
                  refine tw_push rfl ?_
                  refine tw_put rfl (fun f676 => ?_)
                  refine tG_setm f676 (hw_111_46 f676 (ggp675).1) (fun hf676 ef676 => ?_)
                  try dsimp only [tvI_i] at ef676
                  have gf676 := mFq_s (mFq_f ggp675) ef676 (Or.inr rfl)
                  have zf676 := mFt_s Fp675 ef676 (by decide)
                  refine tw_goto rfl ?_
                  have hk42 : cp639 = 42 ↔ ((rB T n (ms h).1) < n ∧ T (rB T n (ms h).1) = 42) := by have y := sgm_k kp639 42 (by decide); rw [sp638] at y; exact y
                  have hs42 : ¬ ((rB T n (ms h).1) < n ∧ T (rB T n (ms h).1) = 42) := fun z => q640 (hk42.mpr z)
                  have hk43 : cp639 = 43 ↔ ((rB T n (ms h).1) < n ∧ T (rB T n (ms h).1) = 43) := by have y := sgm_k kp639 43 (by decide); rw [sp638] at y; exact y
                  have hs43 : ¬ ((rB T n (ms h).1) < n ∧ T (rB T n (ms h).1) = 43) := fun z => q641 (hk43.mpr z)
                  have hk45 : cp639 = 45 ↔ ((rB T n (ms h).1) < n ∧ T (rB T n (ms h).1) = 45) := by have y := sgm_k kp639 45 (by decide); rw [sp638] at y; exact y
                  have hs45 : ¬ ((rB T n (ms h).1) < n ∧ T (rB T n (ms h).1) = 45) := fun z => q647 (hk45.mpr z)
                  have ht50 := tpm_k Tp649 (k := 50) (K := 50) rfl (by decide)
                  have hn50 : ¬ (mSk hp648).headD 0 = 50 := fun z => q650 (ht50.mpr z)
                  have hin : ¬ tvI (tF h 111 47) = 0 := by have z := q651; rw [mFr_47 ggp648] at z; exact z
                  have c2059 : (205 : Int32).toInt = 205 := rfl
                  have c2099 : (209 : Int32).toInt = 209 := rfl
                  have hcmp : ¬ (205 ≤ (mSk hp648).headD 0 ∧ (mSk hp648).headD 0 ≤ 209) := by have z := tpm_e Tp654; have z1 := tpm_e Tp666; have z2 := q655; have z3 := q667; omega
                  have hmb : (mSk hp648, (ms hp648).2.2) = mS (mSk h) (ms h).2.2 := by rw [mp648, tp638, sp638]; rfl
                  have hr9 : rCm T n (rB T n (ms h).1) = none := by have z := np673; rw [ap648, sp638] at z; exact z
                  have hZ : mZp hf676 := mZp_o (mZp_k (mZp_k (mZp_p pp673e) ip674 jp674) ip675 jp675) ef676 (by decide)
                  exact tw_vret rfl ⟨rfl, gf676, mOut_l (by unfold mS2; rw [if_neg hs42, if_neg hs43, if_neg hs45, if_neg (show ¬ (mS (mSk h) (ms h).2.2).1.headD 0 = 50 from by rw [← mfst hmb]; exact hn50), if_pos (show tst = true from hts.mp hin), if_neg (show ¬ (205 ≤ (mS (mSk h) (ms h).2.2).1.headD 0 ∧ (mS (mSk h) (ms h).2.2).1.headD 0 ≤ 209) from by rw [← mfst hmb]; exact hcmp), hr9]) zf676 hZ⟩
                · have ggp673 := mFr_t ggp648 gp673
                  refine tw_istore rfl ?_
                  refine tw_iload rfl rfl ?_
                  refine tw_if_ne rfl (fun q677 => ?_) (fun q677 => ?_)
                  · try dsimp only [tvI_i, tvJ_j, tvR_r] at q677
                    have q677i := zneq (Y := 0) (by decide) q677
                    refine tw_aload rfl rfl ?_
                    refine tw_push rfl ?_
                    refine tw_iload rfl rfl ?_
                    refine tw_iadd rfl ?_
                    refine tw_virt1 rfl (g_opens hG hX (ggp673).1 pp673e ((mFr_T ggp673).trans hT) ((mFr_n ggp673).trans hN) (cm_0 (rCm_r np673).1 (rCm_r np673).2.1 yp673)) (fun wp678 hp678 p678 => ?_)
                    obtain ⟨rfl, gp678, pp678e, tp678, sp678, dp678⟩ := p678
                    have ggp678 := mFr_t ggp673 gp678
                    refine tw_aload rfl rfl ?_
                    refine tw_push rfl ?_
                    refine tw_put rfl (fun f679 => ?_)
                    refine tG_setm f679 (hw_111_46 f679 (ggp678).1) (fun hf679 ef679 => ?_)
                    try dsimp only [tvI_i] at ef679
                    have gf679 := mFq_s (mFq_f ggp678) ef679 (Or.inr rfl)
                    obtain ⟨pf679, sf679, tf679⟩ := mSte pp678e ef679
                    refine tw_goto rfl ?_
                    have hk42 : cp639 = 42 ↔ ((rB T n (ms h).1) < n ∧ T (rB T n (ms h).1) = 42) := by have y := sgm_k kp639 42 (by decide); rw [sp638] at y; exact y
                    have hs42 : ¬ ((rB T n (ms h).1) < n ∧ T (rB T n (ms h).1) = 42) := fun z => q640 (hk42.mpr z)
                    have hk43 : cp639 = 43 ↔ ((rB T n (ms h).1) < n ∧ T (rB T n (ms h).1) = 43) := by have y := sgm_k kp639 43 (by decide); rw [sp638] at y; exact y
                    have hs43 : ¬ ((rB T n (ms h).1) < n ∧ T (rB T n (ms h).1) = 43) := fun z => q641 (hk43.mpr z)
                    have hk45 : cp639 = 45 ↔ ((rB T n (ms h).1) < n ∧ T (rB T n (ms h).1) = 45) := by have y := sgm_k kp639 45 (by decide); rw [sp638] at y; exact y
                    have hs45 : ¬ ((rB T n (ms h).1) < n ∧ T (rB T n (ms h).1) = 45) := fun z => q647 (hk45.mpr z)
                    have ht50 := tpm_k Tp649 (k := 50) (K := 50) rfl (by decide)
                    have hn50 : ¬ (mSk hp648).headD 0 = 50 := fun z => q650 (ht50.mpr z)
                    have hin : ¬ tvI (tF h 111 47) = 0 := by have z := q651; rw [mFr_47 ggp648] at z; exact z
                    have c2059 : (205 : Int32).toInt = 205 := rfl
                    have c2099 : (209 : Int32).toInt = 209 := rfl
                    have hcmp : ¬ (205 ≤ (mSk hp648).headD 0 ∧ (mSk hp648).headD 0 ≤ 209) := by have z := tpm_e Tp654; have z1 := tpm_e Tp666; have z2 := q655; have z3 := q667; omega
                    have hmb : (mSk hp648, (ms hp648).2.2) = mS (mSk h) (ms h).2.2 := by rw [mp648, tp638, sp638]; rfl
                    have hr9 : rCm T n (rB T n (ms h).1) = some vp673 := by have z := np673; rw [ap648, sp638] at z; exact z
                    have h80 : (ms h).2.1 ≠ 80 := by have z := mp673; rw [bp648, sp638] at z; exact z
                    have hv1 := (rCm_r hr9).1
                    have hv2 := (rCm_r hr9).2.1
                    have hx := cm_x hv1 hv2 yp673
                    have hsk : mSk hf679 = (vp673.1 - 99898) :: (mS (mSk h) (ms h).2.2).1 := by rw [tf679, tp678]; show (200 + xp673).toNatClampNeg :: mSk hp673 = _; rw [hx, tp673, mfst hmb]
                    have hms : ms hf679 = (vp673.2, (ms h).2.1 + 1, (mS (mSk h) (ms h).2.2).2) := by rw [sf679, sp678, sp673]; exact Prod.ext rfl (Prod.ext (by show (ms hp648).2.1 + 1 = _; rw [bp648, sp638]; rfl) (by have z := msnd hmb; exact z))
                    have hdd : mD hf679 := mD_m hD (by rw [hsk, mDp_e (by omega)]; exact mDp_S _ _) ((mI_o ef679 (by decide)).trans (dp678.trans (dp673.trans (dp648.trans dp638))))
                    exact tw_vret rfl ⟨rfl, gf679, mOut_r (by unfold mS2; rw [if_neg hs42, if_neg hs43, if_neg hs45, if_neg (show ¬ (mS (mSk h) (ms h).2.2).1.headD 0 = 50 from by rw [← mfst hmb]; exact hn50), if_pos (show tst = true from hts.mp hin), if_neg (show ¬ (205 ≤ (mS (mSk h) (ms h).2.2).1.headD 0 ∧ (mS (mSk h) (ms h).2.2).1.headD 0 ≤ 209) from by rw [← mfst hmb]; exact hcmp), hr9]; (try dsimp only); rw [if_neg h80]) pf679 hdd (by unfold mst; rw [mI_x ef679, hsk, hms]; rfl)⟩
                  · try dsimp only [tvI_i, tvJ_j, tvR_r] at q677
                    have q677i := zeqi (Y := 0) (by decide) q677
                    exact (cm_z (rCm_r np673).1 yp673 q677).elim
                · have ggp673 := mFr_t ggp648 gp673
                  refine tw_istore rfl ?_
                  refine tw_iload rfl rfl ?_
                  refine tw_if_ne rfl (fun q680 => ?_) (fun q680 => ?_)
                  · try dsimp only [tvI_i, tvJ_j, tvR_r] at q680
                    have q680i := zneq (Y := 0) (by decide) q680
                    refine tw_aload rfl rfl ?_
                    refine tw_push rfl ?_
                    refine tw_iload rfl rfl ?_
                    refine tw_iadd rfl ?_
                    refine tw_virt1 rfl (z_opens hG hX (ggp673).1 Fp673 ((mFr_T ggp673).trans hT) ((mFr_n ggp673).trans hN)) (fun wp681 hp681 p681 => ?_)
                    obtain ⟨rfl, gp681, Fp681, ip681, jp681⟩ := p681
                    have ggp681 := mFr_t ggp673 gp681
                    refine tw_aload rfl rfl ?_
                    refine tw_push rfl ?_
                    refine tw_put rfl (fun f682 => ?_)
                    refine tG_setm f682 (hw_111_46 f682 (ggp681).1) (fun hf682 ef682 => ?_)
                    try dsimp only [tvI_i] at ef682
                    have gf682 := mFq_s (mFq_f ggp681) ef682 (Or.inr rfl)
                    have zf682 := mFt_s Fp681 ef682 (by decide)
                    refine tw_goto rfl ?_
                    have hk42 : cp639 = 42 ↔ ((rB T n (ms h).1) < n ∧ T (rB T n (ms h).1) = 42) := by have y := sgm_k kp639 42 (by decide); rw [sp638] at y; exact y
                    have hs42 : ¬ ((rB T n (ms h).1) < n ∧ T (rB T n (ms h).1) = 42) := fun z => q640 (hk42.mpr z)
                    have hk43 : cp639 = 43 ↔ ((rB T n (ms h).1) < n ∧ T (rB T n (ms h).1) = 43) := by have y := sgm_k kp639 43 (by decide); rw [sp638] at y; exact y
                    have hs43 : ¬ ((rB T n (ms h).1) < n ∧ T (rB T n (ms h).1) = 43) := fun z => q641 (hk43.mpr z)
                    have hk45 : cp639 = 45 ↔ ((rB T n (ms h).1) < n ∧ T (rB T n (ms h).1) = 45) := by have y := sgm_k kp639 45 (by decide); rw [sp638] at y; exact y
                    have hs45 : ¬ ((rB T n (ms h).1) < n ∧ T (rB T n (ms h).1) = 45) := fun z => q647 (hk45.mpr z)
                    have ht50 := tpm_k Tp649 (k := 50) (K := 50) rfl (by decide)
                    have hn50 : ¬ (mSk hp648).headD 0 = 50 := fun z => q650 (ht50.mpr z)
                    have hin : ¬ tvI (tF h 111 47) = 0 := by have z := q651; rw [mFr_47 ggp648] at z; exact z
                    have c2059 : (205 : Int32).toInt = 205 := rfl
                    have c2099 : (209 : Int32).toInt = 209 := rfl
                    have hcmp : ¬ (205 ≤ (mSk hp648).headD 0 ∧ (mSk hp648).headD 0 ≤ 209) := by have z := tpm_e Tp654; have z1 := tpm_e Tp666; have z2 := q655; have z3 := q667; omega
                    have hmb : (mSk hp648, (ms hp648).2.2) = mS (mSk h) (ms h).2.2 := by rw [mp648, tp638, sp638]; rfl
                    have hr9 : rCm T n (rB T n (ms h).1) = some vp673 := by have z := np673; rw [ap648, sp638] at z; exact z
                    have h80 : (ms h).2.1 = 80 := by have z := mp673; rw [bp648, sp638] at z; exact z
                    have hF : mFt hf682 (1 + 8 * (rB T n (ms h).1) + 3) := by have z := zf682; rw [ap648, sp638] at z; exact z
                    have hZ : mZp hf682 := mZp_o (mZp_k Zp673 ip681 jp681) ef682 (by decide)
                    exact tw_vret rfl ⟨rfl, gf682, mOut_l (by unfold mS2; rw [if_neg hs42, if_neg hs43, if_neg hs45, if_neg (show ¬ (mS (mSk h) (ms h).2.2).1.headD 0 = 50 from by rw [← mfst hmb]; exact hn50), if_pos (show tst = true from hts.mp hin), if_neg (show ¬ (205 ≤ (mS (mSk h) (ms h).2.2).1.headD 0 ∧ (mS (mSk h) (ms h).2.2).1.headD 0 ≤ 209) from by rw [← mfst hmb]; exact hcmp), hr9]; (try dsimp only); rw [if_pos h80]) hF hZ⟩
                  · try dsimp only [tvI_i, tvJ_j, tvR_r] at q680
                    have q680i := zeqi (Y := 0) (by decide) q680
                    have hv4 : xp673.toInt = 0 := congrArg Int32.toInt q680
                    exfalso
                    omega
        · try dsimp only [tvI_i, tvJ_j, tvR_r] at q650
          have q650i := zeqi (Y := 50) (by decide) q650
          refine tw_aload rfl rfl ?_
          refine tw_iload rfl rfl ?_
          have hk42 : cp639 = 42 ↔ ((rB T n (ms h).1) < n ∧ T (rB T n (ms h).1) = 42) := by have y := sgm_k kp639 42 (by decide); rw [sp638] at y; exact y
          have hs42 : ¬ ((rB T n (ms h).1) < n ∧ T (rB T n (ms h).1) = 42) := fun z => q640 (hk42.mpr z)
          have hk43 : cp639 = 43 ↔ ((rB T n (ms h).1) < n ∧ T (rB T n (ms h).1) = 43) := by have y := sgm_k kp639 43 (by decide); rw [sp638] at y; exact y
          have hs43 : ¬ ((rB T n (ms h).1) < n ∧ T (rB T n (ms h).1) = 43) := fun z => q641 (hk43.mpr z)
          have hk45 : cp639 = 45 ↔ ((rB T n (ms h).1) < n ∧ T (rB T n (ms h).1) = 45) := by have y := sgm_k kp639 45 (by decide); rw [sp638] at y; exact y
          have hs45 : ¬ ((rB T n (ms h).1) < n ∧ T (rB T n (ms h).1) = 45) := fun z => q647 (hk45.mpr z)
          have ht50 := tpm_k Tp649 (k := 50) (K := 50) rfl (by decide)
          have hn50 : (mSk hp648).headD 0 = 50 := ht50.mp q650
          have hDm : mD hp648 := mD_m hD (by rw [mfst mp648, tp638, show (ms hp638).2.2 = (ms h).2.2 by rw [sp638]; rfl]; exact mDp_S _ _) (dp648.trans dp638)
          have hcl9 : sgm T n (ms hp648).1 cp639 := by rw [ap648]; exact kp639
          refine tw_virt1 rfl (g_closesRound hG hX (ggp648).1 pp648e ((mFr_T ggp648).trans hT) ((mFr_n ggp648).trans hN) hcl9 hn50 hDm) (fun w9 hp683 p683 => ?_)
          obtain ⟨rfl, gp683, ⟨wp683, pp683e, sp683, tp683, ddp683⟩ | ⟨wp683, Fp683, Zp683⟩⟩ := p683
          · have ggp683 := mFr_t ggp648 gp683
            refine tw_goto rfl ?_
            have hmb : (mSk hp648, (ms hp648).2.2) = mS (mSk h) (ms h).2.2 := by rw [mp648, tp638, sp638]; rfl
            have w9 : ((rB T n (ms h).1) < n ∧ T (rB T n (ms h).1) = 41) := by have z := wp683; rw [ap648, sp638] at z; exact z
            have hms : ms hp683 = ((rB T n (ms h).1) + 1, (ms h).2.1, (mS (mSk h) (ms h).2.2).2) := mA4 sp683 sp638 ap648 bp648 rfl (msnd hmb)
            have h46 : stN (tvI (tF hp683 111 46)) = 2 := by rw [mFr_46 ggp683, h46s]; rfl
            exact tw_vret rfl ⟨rfl, mFq_f ggp683, mOut_r (by unfold mS2; rw [if_neg hs42, if_neg hs43, if_neg hs45, if_pos (show (mS (mSk h) (ms h).2.2).1.headD 0 = 50 from by rw [← mfst hmb]; exact hn50), if_pos w9]) pp683e ddp683 (by unfold mst; rw [h46, hms, tp683, mfst hmb])⟩
          · have ggp683 := mFr_t ggp648 gp683
            refine tw_goto rfl ?_
            have hmb : (mSk hp648, (ms hp648).2.2) = mS (mSk h) (ms h).2.2 := by rw [mp648, tp638, sp638]; rfl
            have w9 : ¬ ((rB T n (ms h).1) < n ∧ T (rB T n (ms h).1) = 41) := by have z := wp683; rw [ap648, sp638] at z; exact z
            have hpl : (ms hp648).1 = (rB T n (ms h).1) := by rw [ap648, sp638]; rfl
            have hF := Fp683
            rw [hpl] at hF
            exact tw_vret rfl ⟨rfl, mFq_f ggp683, mOut_l (by unfold mS2; rw [if_neg hs42, if_neg hs43, if_neg hs45, if_pos (show (mS (mSk h) (ms h).2.2).1.headD 0 = 50 from by rw [← mfst hmb]; exact hn50), if_neg w9]) hF Zp683⟩
      · try dsimp only [tvI_i, tvJ_j, tvR_r] at q647
        have q647i := zeqi (Y := 45) (by decide) q647
        refine tw_aload rfl rfl ?_
        refine tw_virt0 rfl (g_makesSums hG hX (ggp638).1 pp638e ((mFr_T ggp638).trans hT) ((mFr_n ggp638).trans hN)) (fun wp684 hp684 p684 => ?_)
        obtain ⟨rfl, gp684, pp684e, ap684, bp684, mp684, dp684⟩ := p684
        have ggp684 := mFr_t ggp638 gp684
        refine tw_aload rfl rfl ?_
        refine tw_push rfl ?_
        refine tw_iload rfl rfl ?_
        refine tw_push rfl ?_
        refine tw_ic_ne rfl (fun q685 => ?_) (fun q685 => ?_)
        · try dsimp only [tvI_i, tvJ_j, tvR_r] at q685
          have q685i := zneq (Y := 43) (by decide) q685
          refine tw_push rfl ?_
          refine tw_iadd rfl ?_
          refine tw_virt1 rfl (g_opens hG hX (ggp684).1 pp684e ((mFr_T ggp684).trans hT) ((mFr_n ggp684).trans hN) (by decide)) (fun wp686 hp686 p686 => ?_)
          obtain ⟨rfl, gp686, pp686e, tp686, sp686, dp686⟩ := p686
          have ggp686 := mFr_t ggp684 gp686
          refine tw_aload rfl rfl ?_
          refine tw_dup rfl ?_
          refine tw_getS rfl (hi_111_28 ggp686.1) ?_
          refine tw_push rfl ?_
          refine tw_iadd rfl ?_
          refine tw_put rfl (fun f687 => ?_)
          refine tG_setm f687 (hw_111_28 f687 (ggp686).1) (fun hf687 ef687 => ?_)
          try dsimp only [tvI_i] at ef687
          have gf687 := mFr_s ggp686 ef687 (by unfold mFs; omega)
          have hk42 : cp639 = 42 ↔ ((rB T n (ms h).1) < n ∧ T (rB T n (ms h).1) = 42) := by have y := sgm_k kp639 42 (by decide); rw [sp638] at y; exact y
          have hs42 : ¬ ((rB T n (ms h).1) < n ∧ T (rB T n (ms h).1) = 42) := fun z => q640 (hk42.mpr z)
          have hk43 : cp639 = 43 ↔ ((rB T n (ms h).1) < n ∧ T (rB T n (ms h).1) = 43) := by have y := sgm_k kp639 43 (by decide); rw [sp638] at y; exact y
          have hs43 : ¬ ((rB T n (ms h).1) < n ∧ T (rB T n (ms h).1) = 43) := fun z => q641 (hk43.mpr z)
          have hk45 : cp639 = 45 ↔ ((rB T n (ms h).1) < n ∧ T (rB T n (ms h).1) = 45) := by have y := sgm_k kp639 45 (by decide); rw [sp638] at y; exact y
          have hs45 := hk45.mp q647
          have hmsf687 : ms hp686 = ((rB T n (ms h).1), (ms h).2.1, (ms hp684).2.2) := (sp686).trans (mA3 sp638 ap684 bp684 rfl rfl)
          obtain ⟨pf687, sf687, tf687⟩ := mTo pp686e ((mFr_n ggp686).trans hN) ef687 (v := (rB T n (ms h).1) + 1) (zp1 (by rw [mPl pp686e, hmsf687]) (by have := rB_le (T := T) hpn; omega)) hs45.1
          rw [hmsf687] at sf687
          refine tw_aload rfl rfl ?_
          refine tw_push rfl ?_
          refine tw_put rfl (fun f688 => ?_)
          refine tG_setm f688 (hw_111_46 f688 (gf687).1) (fun hf688 ef688 => ?_)
          try dsimp only [tvI_i] at ef688
          have gf688 := mFq_s (mFq_f gf687) ef688 (Or.inr rfl)
          obtain ⟨pf688, sf688, tf688⟩ := mSte pf687 ef688
          refine tw_goto rfl ?_
          have hmb : (mSk hp684, (ms hp684).2.2) = mS (mSk h) (ms h).2.2 := by rw [mp684, tp638, sp638]; rfl
          have hsk : mSk hf688 = 104 :: (mS (mSk h) (ms h).2.2).1 := by rw [tf688, tf687, tp686, ← mfst hmb]; rfl
          have hdd : mD hf688 := mD_m hD (by rw [hsk, mDp_e (by decide)]; exact mDp_S _ _) ((mI_o ef688 (by decide)).trans ((mI_o ef687 (by decide)).trans (dp686.trans (dp684.trans dp638))))
          exact tw_vret rfl ⟨rfl, gf688, mOut_r (by unfold mS2; rw [if_neg hs42, if_neg hs43, if_pos hs45]) pf688 hdd (by unfold mst; rw [mI_x ef688, hsk, sf688, sf687, msnd hmb]; rfl)⟩
        · try dsimp only [tvI_i, tvJ_j, tvR_r] at q685
          have q685i := zeqi (Y := 43) (by decide) q685
          exact absurd q685 q641
  · try dsimp only [tvI_i, tvJ_j, tvR_r] at q640
    have q640i := zeqi (Y := 42) (by decide) q640
    refine tw_aload rfl rfl ?_
    refine tw_virt0 rfl (g_makesProducts hG hX (ggp638).1 pp638e ((mFr_T ggp638).trans hT) ((mFr_n ggp638).trans hN)) (fun wp689 hp689 p689 => ?_)
    obtain ⟨rfl, gp689, pp689e, ap689, bp689, mp689, dp689⟩ := p689
    have ggp689 := mFr_t ggp638 gp689
    refine tw_aload rfl rfl ?_
    refine tw_push rfl ?_
    refine tw_virt1 rfl (g_opens hG hX (ggp689).1 pp689e ((mFr_T ggp689).trans hT) ((mFr_n ggp689).trans hN) (by decide)) (fun wp690 hp690 p690 => ?_)
    obtain ⟨rfl, gp690, pp690e, tp690, sp690, dp690⟩ := p690
    have ggp690 := mFr_t ggp689 gp690
    refine tw_aload rfl rfl ?_
    refine tw_dup rfl ?_
    refine tw_getS rfl (hi_111_28 ggp690.1) ?_
    refine tw_push rfl ?_
    refine tw_iadd rfl ?_
    refine tw_put rfl (fun f691 => ?_)
    refine tG_setm f691 (hw_111_28 f691 (ggp690).1) (fun hf691 ef691 => ?_)
    try dsimp only [tvI_i] at ef691
    have gf691 := mFr_s ggp690 ef691 (by unfold mFs; omega)
    have hk42 : cp639 = 42 ↔ ((rB T n (ms h).1) < n ∧ T (rB T n (ms h).1) = 42) := by have y := sgm_k kp639 42 (by decide); rw [sp638] at y; exact y
    have hs42 := hk42.mp q640
    have hmsf691 : ms hp690 = ((rB T n (ms h).1), (ms h).2.1, (ms hp689).2.2) := (sp690).trans (mA3 sp638 ap689 bp689 rfl rfl)
    obtain ⟨pf691, sf691, tf691⟩ := mTo pp690e ((mFr_n ggp690).trans hN) ef691 (v := (rB T n (ms h).1) + 1) (zp1 (by rw [mPl pp690e, hmsf691]) (by have := rB_le (T := T) hpn; omega)) hs42.1
    rw [hmsf691] at sf691
    refine tw_aload rfl rfl ?_
    refine tw_push rfl ?_
    refine tw_put rfl (fun f692 => ?_)
    refine tG_setm f692 (hw_111_46 f692 (gf691).1) (fun hf692 ef692 => ?_)
    try dsimp only [tvI_i] at ef692
    have gf692 := mFq_s (mFq_f gf691) ef692 (Or.inr rfl)
    obtain ⟨pf692, sf692, tf692⟩ := mSte pf691 ef692
    refine tw_goto rfl ?_
    have hmb : (mSk hp689, (ms hp689).2.2) = mT (mSk h) (ms h).2.2 := by rw [mp689, tp638, sp638]; rfl
    have hsk : mSk hf692 = 102 :: (mT (mSk h) (ms h).2.2).1 := by rw [tf692, tf691, tp690, ← mfst hmb]; rfl
    have hdd : mD hf692 := mD_m hD (by rw [hsk, mDp_e (by decide)]; exact mDp_T _ _) ((mI_o ef692 (by decide)).trans ((mI_o ef691 (by decide)).trans (dp690.trans (dp689.trans dp638))))
    exact tw_vret rfl ⟨rfl, gf692, mOut_r (by unfold mS2; rw [if_pos hs42]) pf692 hdd (by unfold mst; rw [mI_x ef692, hsk, sf692, sf691, msnd hmb]; rfl)⟩
theorem g_behindFact {G : zG} (hG : G.1 = zProg) (hX : G.2.1 = ztx) {h : zH} {T : Nat → Int32} {n : Nat} (hs : tSh h) (hp : mP h) (hT : tA h 132 = T) (hN : mn h = n) (hD : mD h) (hd : mDp (mSk h) ≤ 1000) (h46s : tvI (tF h 111 46) = 3) : tC zTt G 222 [.ref 111] h (fun w h2 => w = none ∧ mFq h h2 ∧ mOut (mS3 T n (mSk h) (ms h)) h2) := by
  refine tC_in (by rw [hG]; rfl) (fun dp => ?_)
  have g0 := mFr_r hs
  have hpn : (ms h).1 ≤ n := mPle hp hN
  have hn4 : n ≤ 400 := by have a := mNl hp hN; have b := hp.2.1; omega
  refine tw_aload rfl rfl ?_
  refine tw_virt0 rfl (g_makesNots hG hX (g0).1 hp ((mFr_T g0).trans hT) ((mFr_n g0).trans hN) hD) (fun wp693 hp693 p693 => ?_)
  obtain ⟨rfl, gp693, pp693e, ap693, bp693, mp693, dp693⟩ := p693
  have ggp693 := mFr_t g0 gp693
  refine tw_aload rfl rfl ?_
  refine tw_virt0 rfl (g_blanks hG hX (ggp693).1 pp693e ((mFr_T ggp693).trans hT) ((mFr_n ggp693).trans hN)) (fun wp694 hp694 p694 => ?_)
  obtain ⟨rfl, gp694, pp694e, sp694, tp694, dp694⟩ := p694
  have ggp694 := mFr_t ggp693 gp694
  rw [ap693] at sp694
  refine tw_aload rfl rfl ?_
  refine tw_push rfl ?_
  refine tw_virt1 rfl (g_stands hG hX (ggp694).1 ((mFr_T ggp694).trans hT) ((mFr_n ggp694).trans hN) (q := 19) (by decide +kernel) ⟨pp694e.2.1.1, by have := pp694e.2.1; omega⟩ ⟨by have := pp694e.2.1; omega, pp694e.2.1.2.2⟩) (fun w9 h9 p695 => ?_)
  obtain ⟨⟨p695, rfl⟩ | ⟨p695, rfl⟩, rfl⟩ := p695
  · try dsimp only [tvI_i, tvJ_j, tvR_r] at p695
    refine tw_if_eq rfl (fun z => absurd z (by decide)) (fun _ => ?_)
    refine tw_aload rfl rfl ?_
    refine tw_virt0 rfl (g_makesAnds hG hX (ggp694).1 pp694e ((mFr_T ggp694).trans hT) ((mFr_n ggp694).trans hN)) (fun wp696 hp696 p696 => ?_)
    obtain ⟨rfl, gp696, pp696e, ap696, bp696, mp696, dp696⟩ := p696
    have ggp696 := mFr_t ggp694 gp696
    refine tw_aload rfl rfl ?_
    refine tw_push rfl ?_
    refine tw_virt1 rfl (g_opens hG hX (ggp696).1 pp696e ((mFr_T ggp696).trans hT) ((mFr_n ggp696).trans hN) (by decide)) (fun wp697 hp697 p697 => ?_)
    obtain ⟨rfl, gp697, pp697e, tp697, sp697, dp697⟩ := p697
    have ggp697 := mFr_t ggp696 gp697
    refine tw_aload rfl rfl ?_
    refine tw_dup rfl ?_
    refine tw_getS rfl (hi_111_28 ggp697.1) ?_
    refine tw_push rfl ?_
    refine tw_iadd rfl ?_
    refine tw_put rfl (fun f698 => ?_)
    refine tG_setm f698 (hw_111_28 f698 (ggp697).1) (fun hf698 ef698 => ?_)
    try dsimp only [tvI_i] at ef698
    have gf698 := mFr_s ggp697 ef698 (by unfold mFs; omega)
    have hw18 : rW T n (rB T n (ms h).1) (rWd 18) = true := by have z := p695; rw [sp694] at z; rw [txt_k.2.1]; exact z
    have h9w : rE T n (rB T n (ms h).1) = (rB T n (ms h).1) + 3 := by rw [rW_e hw18, wlen_k.1]
    have hr9 := rE_le (T := T) (rB_le (T := T) hpn)
    rw [h9w] at hr9
    have hmsf698 : ms hp697 = ((rB T n (ms h).1), (ms h).2.1, (ms hp696).2.2) := (sp697).trans (mA3 sp694 ap696 bp696 bp693 rfl)
    obtain ⟨pf698, sf698, tf698⟩ := mTo pp697e ((mFr_n ggp697).trans hN) ef698 (v := (rB T n (ms h).1) + 3) (zp3 (k := (rB T n (ms h).1)) (j := 3) (by rw [mPl pp697e, hmsf698]) rfl (by have := rB_le (T := T) hpn; omega) (by decide)) hr9
    rw [hmsf698] at sf698
    refine tw_aload rfl rfl ?_
    refine tw_push rfl ?_
    refine tw_put rfl (fun f699 => ?_)
    refine tG_setm f699 (hw_111_46 f699 (gf698).1) (fun hf699 ef699 => ?_)
    try dsimp only [tvI_i] at ef699
    have gf699 := mFq_s (mFq_f gf698) ef699 (Or.inr rfl)
    obtain ⟨pf699, sf699, tf699⟩ := mSte pf698 ef699
    refine tw_goto rfl ?_
    have hmn : (mSk hp694, (ms hp694).2.2) = (mN (mSk h) (ms h).2.2) := by rw [tp694, sp694]; exact mp693
    have hmb : (mSk hp696, (ms hp696).2.2) = mA (mN (mSk h) (ms h).2.2).1 (mN (mSk h) (ms h).2.2).2 := by rw [mp696, mfst hmn, msnd hmn]
    have hsk : mSk hf699 = 11 :: (mA (mN (mSk h) (ms h).2.2).1 (mN (mSk h) (ms h).2.2).2).1 := by rw [tf699, tf698, tp697, ← mfst hmb]; rfl
    have hdd : mD hf699 := mD_m (mD_k dp693 tp694 dp694) (by rw [hsk, mDp_e (by decide), mDp_A, mfst hmn]) ((mI_o ef699 (by decide)).trans ((mI_o ef698 (by decide)).trans (dp697.trans dp696)))
    exact tw_vret rfl ⟨rfl, gf699, mOut_r (by unfold mS3; rw [if_pos hw18]) pf699 hdd (by unfold mst; rw [mI_x ef699, hsk, sf699, sf698, msnd hmb]; rfl)⟩
  · try dsimp only [tvI_i, tvJ_j, tvR_r] at p695
    refine tw_if_eq rfl (fun _ => ?_) (fun z => absurd z (by decide))
    refine tw_aload rfl rfl ?_
    refine tw_push rfl ?_
    refine tw_virt1 rfl (g_stands hG hX (ggp694).1 ((mFr_T ggp694).trans hT) ((mFr_n ggp694).trans hN) (q := 20) (by decide +kernel) ⟨pp694e.2.1.1, by have := pp694e.2.1; omega⟩ ⟨by have := pp694e.2.1; omega, pp694e.2.1.2.2⟩) (fun w9 h9 p700 => ?_)
    obtain ⟨⟨p700, rfl⟩ | ⟨p700, rfl⟩, rfl⟩ := p700
    · try dsimp only [tvI_i, tvJ_j, tvR_r] at p700
      refine tw_if_eq rfl (fun z => absurd z (by decide)) (fun _ => ?_)
      refine tw_aload rfl rfl ?_
      refine tw_virt0 rfl (g_makesOrs hG hX (ggp694).1 pp694e ((mFr_T ggp694).trans hT) ((mFr_n ggp694).trans hN)) (fun wp701 hp701 p701 => ?_)
      obtain ⟨rfl, gp701, pp701e, ap701, bp701, mp701, dp701⟩ := p701
      have ggp701 := mFr_t ggp694 gp701
      refine tw_aload rfl rfl ?_
      refine tw_push rfl ?_
      refine tw_virt1 rfl (g_opens hG hX (ggp701).1 pp701e ((mFr_T ggp701).trans hT) ((mFr_n ggp701).trans hN) (by decide)) (fun wp702 hp702 p702 => ?_)
      obtain ⟨rfl, gp702, pp702e, tp702, sp702, dp702⟩ := p702
      have ggp702 := mFr_t ggp701 gp702
      refine tw_aload rfl rfl ?_
      refine tw_dup rfl ?_
      refine tw_getS rfl (hi_111_28 ggp702.1) ?_
      refine tw_push rfl ?_
      refine tw_iadd rfl ?_
      refine tw_put rfl (fun f703 => ?_)
      refine tG_setm f703 (hw_111_28 f703 (ggp702).1) (fun hf703 ef703 => ?_)
      try dsimp only [tvI_i] at ef703
      have gf703 := mFr_s ggp702 ef703 (by unfold mFs; omega)
      have hw18 : ¬ rW T n (rB T n (ms h).1) (rWd 18) = true := by have z := p695; rw [sp694] at z; rw [txt_k.2.1]; exact z
      have hw17 : rW T n (rB T n (ms h).1) (rWd 17) = true := by have z := p700; rw [sp694] at z; rw [txt_k.2.2.1]; exact z
      have h9w : rE T n (rB T n (ms h).1) = (rB T n (ms h).1) + 2 := by rw [rW_e hw17, wlen_k.2.1]
      have hr9 := rE_le (T := T) (rB_le (T := T) hpn)
      rw [h9w] at hr9
      have hmsf703 : ms hp702 = ((rB T n (ms h).1), (ms h).2.1, (ms hp701).2.2) := (sp702).trans (mA3 sp694 ap701 bp701 bp693 rfl)
      obtain ⟨pf703, sf703, tf703⟩ := mTo pp702e ((mFr_n ggp702).trans hN) ef703 (v := (rB T n (ms h).1) + 2) (zp3 (k := (rB T n (ms h).1)) (j := 2) (by rw [mPl pp702e, hmsf703]) rfl (by have := rB_le (T := T) hpn; omega) (by decide)) hr9
      rw [hmsf703] at sf703
      refine tw_aload rfl rfl ?_
      refine tw_push rfl ?_
      refine tw_put rfl (fun f704 => ?_)
      refine tG_setm f704 (hw_111_46 f704 (gf703).1) (fun hf704 ef704 => ?_)
      try dsimp only [tvI_i] at ef704
      have gf704 := mFq_s (mFq_f gf703) ef704 (Or.inr rfl)
      obtain ⟨pf704, sf704, tf704⟩ := mSte pf703 ef704
      refine tw_goto rfl ?_
      have hmn : (mSk hp694, (ms hp694).2.2) = (mN (mSk h) (ms h).2.2) := by rw [tp694, sp694]; exact mp693
      have hmb : (mSk hp701, (ms hp701).2.2) = mO (mN (mSk h) (ms h).2.2).1 (mN (mSk h) (ms h).2.2).2 := by rw [mp701, mfst hmn, msnd hmn]
      have hsk : mSk hf704 = 12 :: (mO (mN (mSk h) (ms h).2.2).1 (mN (mSk h) (ms h).2.2).2).1 := by rw [tf704, tf703, tp702, ← mfst hmb]; rfl
      have hdd : mD hf704 := mD_m (mD_k dp693 tp694 dp694) (by rw [hsk, mDp_e (by decide), mDp_O, mfst hmn]) ((mI_o ef704 (by decide)).trans ((mI_o ef703 (by decide)).trans (dp702.trans dp701)))
      exact tw_vret rfl ⟨rfl, gf704, mOut_r (by unfold mS3; rw [if_neg hw18, if_pos hw17]) pf704 hdd (by unfold mst; rw [mI_x ef704, hsk, sf704, sf703, msnd hmb]; rfl)⟩
    · try dsimp only [tvI_i, tvJ_j, tvR_r] at p700
      refine tw_if_eq rfl (fun _ => ?_) (fun z => absurd z (by decide))
      refine tw_aload rfl rfl ?_
      refine tw_virt0 rfl (g_makesOrs hG hX (ggp694).1 pp694e ((mFr_T ggp694).trans hT) ((mFr_n ggp694).trans hN)) (fun wp705 hp705 p705 => ?_)
      obtain ⟨rfl, gp705, pp705e, ap705, bp705, mp705, dp705⟩ := p705
      have ggp705 := mFr_t ggp694 gp705
      refine tw_aload rfl rfl ?_
      refine tw_virt0 rfl (g_top hG hX (ggp705).1 pp705e ((mFr_T ggp705).trans hT) ((mFr_n ggp705).trans hN)) (fun wp706 hp706 p706 => ?_)
      obtain ⟨⟨cp706, rfl, Tp706⟩, rfl⟩ := p706
      refine tw_push rfl ?_
      refine tw_ic_ne rfl (fun q707 => ?_) (fun q707 => ?_)
      · try dsimp only [tvI_i, tvJ_j, tvR_r] at q707
        have q707i := zneq (Y := 13) (by decide) q707
        refine tw_aload rfl rfl ?_
        refine tw_push rfl ?_
        refine tw_put rfl (fun f708 => ?_)
        refine tG_setm f708 (hw_111_46 f708 (ggp705).1) (fun hf708 ef708 => ?_)
        try dsimp only [tvI_i] at ef708
        have gf708 := mFq_s (mFq_f ggp705) ef708 (Or.inr rfl)
        obtain ⟨pf708, sf708, tf708⟩ := mSte pp705e ef708
        have hw18 : ¬ rW T n (rB T n (ms h).1) (rWd 18) = true := by have z := p695; rw [sp694] at z; rw [txt_k.2.1]; exact z
        have hw17 : ¬ rW T n (rB T n (ms h).1) (rWd 17) = true := by have z := p700; rw [sp694] at z; rw [txt_k.2.2.1]; exact z
        have ht13 := tpm_k Tp706 (k := 13) (K := 13) rfl (by decide)
        have hn13 : ¬ (mSk hp705).headD 0 = 13 := fun z => q707 (ht13.mpr z)
        have hmn : (mSk hp694, (ms hp694).2.2) = (mN (mSk h) (ms h).2.2) := by rw [tp694, sp694]; exact mp693
        have hmb : (mSk hp705, (ms hp705).2.2) = mO (mN (mSk h) (ms h).2.2).1 (mN (mSk h) (ms h).2.2).2 := by rw [mp705, mfst hmn, msnd hmn]
        have hms : ms hf708 = ((rB T n (ms h).1), (ms h).2.1, (mO (mN (mSk h) (ms h).2.2).1 (mN (mSk h) (ms h).2.2).2).2) := (sf708).trans (mA3 sp694 ap705 bp705 bp693 (msnd hmb))
        have hsk : mSk hf708 = (mO (mN (mSk h) (ms h).2.2).1 (mN (mSk h) (ms h).2.2).2).1 := by rw [tf708, mfst hmb]
        have hdd : mD hf708 := mD_m (mD_k dp693 tp694 dp694) (by rw [hsk, mDp_O, mfst hmn]) ((mI_o ef708 (by decide)).trans dp705)
        exact tw_vret rfl ⟨rfl, gf708, mOut_r (by unfold mS3; rw [if_neg hw18, if_neg hw17, if_neg (show ¬ (mO (mN (mSk h) (ms h).2.2).1 (mN (mSk h) (ms h).2.2).2).1.headD 0 = 13 from by rw [← mfst hmb]; exact hn13)]) pf708 hdd (by unfold mst; rw [mI_x ef708, hsk, hms]; rfl)⟩
      · try dsimp only [tvI_i, tvJ_j, tvR_r] at q707
        have q707i := zeqi (Y := 13) (by decide) q707
        refine tw_aload rfl rfl ?_
        refine tw_virt0 rfl (g_sign hG hX (ggp705).1 ((mFr_T ggp705).trans hT) ((mFr_n ggp705).trans hN) ⟨pp705e.2.1.1, by have := pp705e.2.1; omega⟩) (fun wp709 hp709 p709 => ?_)
        obtain ⟨⟨cp709, rfl, kp709⟩, rfl⟩ := p709
        refine tw_push rfl ?_
        refine tw_ic_eq rfl (fun q710 => ?_) (fun q710 => ?_)
        · try dsimp only [tvI_i, tvJ_j, tvR_r] at q710
          have q710i := zeqi (Y := 93) (by decide) q710
          refine tw_aload rfl rfl ?_
          refine tw_dup rfl ?_
          refine tw_getS rfl (hi_111_28 (ggp705).1) ?_
          refine tw_push rfl ?_
          refine tw_iadd rfl ?_
          refine tw_put rfl (fun f711 => ?_)
          refine tG_setm f711 (hw_111_28 f711 (ggp705).1) (fun hf711 ef711 => ?_)
          try dsimp only [tvI_i] at ef711
          have gf711 := mFr_s ggp705 ef711 (by unfold mFs; omega)
          have hw18 : ¬ rW T n (rB T n (ms h).1) (rWd 18) = true := by have z := p695; rw [sp694] at z; rw [txt_k.2.1]; exact z
          have hw17 : ¬ rW T n (rB T n (ms h).1) (rWd 17) = true := by have z := p700; rw [sp694] at z; rw [txt_k.2.2.1]; exact z
          have ht13 := tpm_k Tp706 (k := 13) (K := 13) rfl (by decide)
          have hn13 : (mSk hp705).headD 0 = 13 := ht13.mp q707
          have hk93 : cp709 = 93 ↔ ((rB T n (ms h).1) < n ∧ T (rB T n (ms h).1) = 93) := by have y := sgm_k kp709 93 (by decide); rw [ap705, sp694] at y; exact y
          have hs93 : ((rB T n (ms h).1) < n ∧ T (rB T n (ms h).1) = 93) := hk93.mp q710
          have hDm : mD hp705 := mD_m (mD_k dp693 tp694 dp694) (by rw [mfst mp705]; exact mDp_O _ _) dp705
          obtain ⟨pf711, sf711, tf711⟩ := mTo pp705e ((mFr_n ggp705).trans hN) ef711 (v := (rB T n (ms h).1) + 1) (zp1 (by rw [mPl pp705e, show (ms hp705).1 = (rB T n (ms h).1) from by rw [ap705, sp694]; rfl]) (by have := rB_le (T := T) hpn; omega)) hs93.1
          refine tw_aload rfl rfl ?_
          refine tw_dup rfl ?_
          refine tw_getS rfl (hi_111_34 (gf711).1) ?_
          refine tw_push rfl ?_
          refine tw_isub rfl ?_
          refine tw_put rfl (fun f712 => ?_)
          refine tG_setm f712 (hw_111_34 f712 (gf711).1) (fun hf712 ef712 => ?_)
          try dsimp only [tvI_i] at ef712
          have gf712 := mFr_s gf711 ef712 (by unfold mFs; omega)
          have hst : mSk hf711 = 13 :: (mSk hp705).tail := tf711.trans (mhead (k := 12) hn13)
          obtain ⟨pf712, tf712, sf712, df712⟩ := mSk_pop pf711 (by rw [hst]; exact List.cons_ne_nil _ _) ef712
          rw [hst] at tf712
          have tf712 : mSk hf712 = (mSk hp705).tail := tf712
          refine tw_aload rfl rfl ?_
          refine tw_dup rfl ?_
          refine tw_getS rfl (hi_111_32 (gf712).1) ?_
          refine tw_push rfl ?_
          refine tw_isub rfl ?_
          refine tw_put rfl (fun f713 => ?_)
          refine tG_setm f713 (hw_111_32 f713 (gf712).1) (fun hf713 ef713 => ?_)
          try dsimp only [tvI_i] at ef713
          have gf713 := mFr_s gf712 ef713 (by unfold mFs; omega)
          have hdf713 : (tvI (tF hf712 111 32)).toInt = ((mDp (mSk hf712) + 1 : Nat) : Int) := by
            rw [df712, mI_o ef711 (by decide)]
            refine (show (tvI (tF hp705 111 32)).toInt = (mDp (mSk hp705) : Int) from hDm).trans ?_
            rw [tf712]
            exact congrArg (fun z : Nat => (z : Int)) ((congrArg mDp (mhead (k := 12) hn13)).trans (mDp_c (by decide)))
          obtain ⟨pf713, tf713, sf713, ddf713⟩ := mDn pf712 ef713 hdf713 rfl
          refine tw_goto rfl ?_
          have hmn : (mSk hp694, (ms hp694).2.2) = (mN (mSk h) (ms h).2.2) := by rw [tp694, sp694]; exact mp693
          have hmb : (mSk hp705, (ms hp705).2.2) = mO (mN (mSk h) (ms h).2.2).1 (mN (mSk h) (ms h).2.2).2 := by rw [mp705, mfst hmn, msnd hmn]
          have hms : ms hf713 = ((rB T n (ms h).1) + 1, (ms h).2.1, (mO (mN (mSk h) (ms h).2.2).1 (mN (mSk h) (ms h).2.2).2).2) := by rw [sf713, sf712, sf711]; exact mA6 (mA2 sp694 bp705 bp693) (msnd hmb)
          have hsk : mSk hf713 = (mO (mN (mSk h) (ms h).2.2).1 (mN (mSk h) (ms h).2.2).2).1.tail := by rw [tf713, tf712, mfst hmb]
          have h46 : stN (tvI (tF hf713 111 46)) = 3 := by rw [mFr_46 gf713, h46s]; rfl
          exact tw_vret rfl ⟨rfl, mFq_f gf713, mOut_r (by unfold mS3; rw [if_neg hw18, if_neg hw17, if_pos (show (mO (mN (mSk h) (ms h).2.2).1 (mN (mSk h) (ms h).2.2).2).1.headD 0 = 13 from by rw [← mfst hmb]; exact hn13), if_pos hs93]) pf713 ddf713 (by unfold mst; rw [h46, hsk, hms])⟩
        · try dsimp only [tvI_i, tvJ_j, tvR_r] at q710
          have q710i := zneq (Y := 93) (by decide) q710
          refine tw_aload rfl rfl ?_
          refine tw_push rfl ?_
          refine tw_aload rfl rfl ?_
          refine tw_getS rfl (hi_111_28 (ggp705).1) ?_
          refine tw_virt2 rfl (g_fails hG hX (ggp705).1 pp705e ((mFr_T ggp705).trans hT) ((mFr_n ggp705).trans hN) (w := 0) (b := (rB T n (ms h).1)) rfl (by decide) ((mPl pp705e).trans (by rw [show (ms hp705).1 = (rB T n (ms h).1) from by rw [ap705, sp694]; rfl])) (by have := rB_le (T := T) hpn; omega)) (fun wp714 hp714 p714 => ?_)
          obtain ⟨rfl, gp714, Fp714, ip714, jp714⟩ := p714
          have ggp714 := mFr_t ggp705 gp714
          refine tw_aload rfl rfl ?_
          refine tw_dup rfl ?_
          refine tw_getS rfl (hi_111_28 ggp714.1) ?_
          refine tw_push rfl ?_
          refine tw_iadd rfl ?_
          refine tw_put rfl (fun f715 => ?_)
          refine tG_setm f715 (hw_111_28 f715 (ggp714).1) (fun hf715 ef715 => ?_)
          try dsimp only [tvI_i] at ef715
          have gf715 := mFr_s ggp714 ef715 (by unfold mFs; omega)
          have zf715 := mFt_s Fp714 ef715 (by decide)
          have yf715 : (tvI (tF hp714 111 28)).toInt = (((rB T n (ms h).1) : Nat) : Int) := by rw [ip714, mPl pp705e, show (ms hp705).1 = (rB T n (ms h).1) from by rw [ap705, sp694]; rfl]
          have Zf715 : mZp hf715 := mZ_of ggp714 hp ef715 (zp1 yf715 (by have := rB_le (T := T) hpn; omega)) (by have := rB_le (T := T) hpn; omega)
          refine tw_aload rfl rfl ?_
          refine tw_dup rfl ?_
          refine tw_getS rfl (hi_111_34 (gf715).1) ?_
          refine tw_push rfl ?_
          refine tw_isub rfl ?_
          refine tw_put rfl (fun f716 => ?_)
          refine tG_setm f716 (hw_111_34 f716 (gf715).1) (fun hf716 ef716 => ?_)
          try dsimp only [tvI_i] at ef716
          have gf716 := mFr_s gf715 ef716 (by unfold mFs; omega)
          have zf716 := mFt_s zf715 ef716 (by decide)
          have Zf716 : mZp hf716 := mZp_o Zf715 ef716 (by decide)
          refine tw_aload rfl rfl ?_
          refine tw_dup rfl ?_
          refine tw_getS rfl (hi_111_32 (gf716).1) ?_
          refine tw_push rfl ?_
          refine tw_isub rfl ?_
          refine tw_put rfl (fun f717 => ?_)
          refine tG_setm f717 (hw_111_32 f717 (gf716).1) (fun hf717 ef717 => ?_)
          try dsimp only [tvI_i] at ef717
          have gf717 := mFr_s gf716 ef717 (by unfold mFs; omega)
          have zf717 := mFt_s zf716 ef717 (by decide)
          have Zf717 : mZp hf717 := mZp_o Zf716 ef717 (by decide)
          refine tw_goto rfl ?_
          have hw18 : ¬ rW T n (rB T n (ms h).1) (rWd 18) = true := by have z := p695; rw [sp694] at z; rw [txt_k.2.1]; exact z
          have hw17 : ¬ rW T n (rB T n (ms h).1) (rWd 17) = true := by have z := p700; rw [sp694] at z; rw [txt_k.2.2.1]; exact z
          have ht13 := tpm_k Tp706 (k := 13) (K := 13) rfl (by decide)
          have hn13 : (mSk hp705).headD 0 = 13 := ht13.mp q707
          have hk93 : cp709 = 93 ↔ ((rB T n (ms h).1) < n ∧ T (rB T n (ms h).1) = 93) := by have y := sgm_k kp709 93 (by decide); rw [ap705, sp694] at y; exact y
          have hs93 : ¬ ((rB T n (ms h).1) < n ∧ T (rB T n (ms h).1) = 93) := fun z => q710 (hk93.mpr z)
          have hDm : mD hp705 := mD_m (mD_k dp693 tp694 dp694) (by rw [mfst mp705]; exact mDp_O _ _) dp705
          have hmn : (mSk hp694, (ms hp694).2.2) = (mN (mSk h) (ms h).2.2) := by rw [tp694, sp694]; exact mp693
          have hmb : (mSk hp705, (ms hp705).2.2) = mO (mN (mSk h) (ms h).2.2).1 (mN (mSk h) (ms h).2.2).2 := by rw [mp705, mfst hmn, msnd hmn]
          exact tw_vret rfl ⟨rfl, mFq_f gf717, mOut_l (by unfold mS3; rw [if_neg hw18, if_neg hw17, if_pos (show (mO (mN (mSk h) (ms h).2.2).1 (mN (mSk h) (ms h).2.2).2).1.headD 0 = 13 from by rw [← mfst hmb]; exact hn13), if_neg hs93]) zf717 Zf717⟩
theorem mDp_N : ∀ (S o : List Nat), mDp (mN S o).1 ≤ mDp S
  | [], _ => Nat.le_refl _
  | x :: r, o => by
    unfold mN
    by_cases z : x = 10
    · rw [if_pos z, z, mDp_c (by decide)]
      exact Nat.le_succ_of_le (mDp_N r _)
    · rw [if_neg z]
      exact Nat.le_refl _
theorem mDp_t : ∀ (S : List Nat), mDp S.tail ≤ mDp S
  | [] => Nat.le_refl _
  | x :: r => by
    show mDp r ≤ (if _ then mDp r + 1 else mDp r)
    split
    · exact Nat.le_succ _
    · exact Nat.le_refl _
theorem mSt_dp {T : Nat → Int32} {n : Nat} {tst : Bool} {a : Nat} {S : List Nat} {s : rS} {x2 : rMs} (h : mDp S ≤ 10) (ha : a ≤ 3) (e : mSt T n tst (a, S, s) = .inr x2) : mDp x2.2.1 ≤ 10 ∧ x2.1 ≤ 4 := by
  match a, ha, e with
  | 0, _, e =>
    have e : mS0 T n S s = .inr x2 := e
    unfold mS0 at e
    split at e
    · split at e
      · cases e
      · rename_i z
        cases e
        exact ⟨by show mDp (10 :: S) ≤ 10; rw [mDp_c (by decide)]; omega, Nat.le_of_ble_eq_true rfl⟩
    · split at e
      · split at e
        · cases e
        · rename_i z
          cases e
          exact ⟨by show mDp (13 :: S) ≤ 10; rw [mDp_c (by decide)]; omega, Nat.le_of_ble_eq_true rfl⟩
      · cases e
        exact ⟨h, Nat.le_of_ble_eq_true rfl⟩
  | 1, _, e =>
    have e : mS1 T n S s = .inr x2 := e
    unfold mS1 at e
    split at e
    · split at e
      · cases e
      · split at e
        · cases e
        · rename_i z _
          cases e
          exact ⟨by show mDp (50 :: S) ≤ 10; rw [mDp_c (by decide)]; omega, Nat.le_of_ble_eq_true rfl⟩
    · split at e
      · split at e
        · cases e
        · cases e; exact ⟨h, Nat.le_of_ble_eq_true rfl⟩
      · split at e
        · cases e
        · split at e
          · cases e
          · cases e; exact ⟨h, Nat.le_of_ble_eq_true rfl⟩
  | 2, _, e =>
    have e : mS2 T n tst S s = .inr x2 := e
    have hT := mDp_T S s.2.2
    have hS := mDp_S S s.2.2
    have ht := mDp_t (mS S s.2.2).1
    unfold mS2 at e
    split at e
    · cases e
      exact ⟨by show mDp (102 :: _) ≤ 10; rw [mDp_e (by decide)]; omega, Nat.le_of_ble_eq_true rfl⟩
    · split at e
      · cases e
        exact ⟨by show mDp (103 :: _) ≤ 10; rw [mDp_e (by decide)]; omega, Nat.le_of_ble_eq_true rfl⟩
      · split at e
        · cases e
          exact ⟨by show mDp (104 :: _) ≤ 10; rw [mDp_e (by decide)]; omega, Nat.le_of_ble_eq_true rfl⟩
        · split at e
          · split at e
            · cases e
              exact ⟨by show mDp (mS S s.2.2).1.tail ≤ 10; omega, Nat.le_of_ble_eq_true rfl⟩
            · cases e
          · split at e
            · split at e
              · cases e
                exact ⟨by show mDp (mS S s.2.2).1.tail ≤ 10; omega, Nat.le_of_ble_eq_true rfl⟩
              · split at e
                · cases e
                · rename_i q hq
                  split at e
                  · cases e
                  · cases e
                    have r1 := (rCm_r hq).1
                    have r2 := (rCm_r hq).2.1
                    exact ⟨by show mDp ((q.1 - 99898) :: _) ≤ 10; rw [mDp_e (by omega)]; omega, Nat.le_of_ble_eq_true rfl⟩
            · cases e
              exact ⟨by show mDp (mS S s.2.2).1 ≤ 10; omega, Nat.le_of_ble_eq_true rfl⟩
  | 3, _, e =>
    have e : mS3 T n S s = .inr x2 := e
    have hN := mDp_N S s.2.2
    have hA := mDp_A (mN S s.2.2).1 (mN S s.2.2).2
    have hO := mDp_O (mN S s.2.2).1 (mN S s.2.2).2
    have ht := mDp_t (mO (mN S s.2.2).1 (mN S s.2.2).2).1
    unfold mS3 at e
    split at e
    · cases e
      exact ⟨by show mDp (11 :: _) ≤ 10; rw [mDp_e (by decide)]; omega, Nat.le_of_ble_eq_true rfl⟩
    · split at e
      · cases e
        exact ⟨by show mDp (12 :: _) ≤ 10; rw [mDp_e (by decide)]; omega, Nat.le_of_ble_eq_true rfl⟩
      · split at e
        · split at e
          · cases e
            exact ⟨by show mDp (mO (mN S s.2.2).1 (mN S s.2.2).2).1.tail ≤ 10; omega, Nat.le_of_ble_eq_true rfl⟩
          · cases e
        · cases e
          exact ⟨by show mDp (mO (mN S s.2.2).1 (mN S s.2.2).2).1 ≤ 10; omega, Nat.le_of_ble_eq_true rfl⟩
theorem mRst {h a b c : zH} {x y : Int32} (hx : 0 ≤ x.toInt) (p : mP h) (d0 : tvI (tF h 111 32) = 0) (e46 : mSet 46 x h a) (e34 : mSet 34 0 a b) (e47 : mSet 47 y b c) : mFw h c ∧ mP c ∧ mD c ∧ mst c = (stN x, [], ms h) ∧ tvI (tF c 111 47) = y := by
  have F : ∀ q, q ≠ 46 → q ≠ 34 → q ≠ 47 → tF c 111 q = tF h 111 q := fun q h1 h2 h3 => (mI_o e47 h3).trans ((mI_o e34 h2).trans (mI_o e46 h1))
  have A : tA c = tA h := e47.2.2.2.1.trans (e34.2.2.2.1.trans e46.2.2.2.1)
  have NN : tN c = tN h := e47.2.2.2.2.trans (e34.2.2.2.2.trans e46.2.2.2.2)
  have f34 : tvI (tF c 111 34) = 0 := by rw [mI_o e47 (by decide)]; exact mI_x e34
  have f46 : tvI (tF c 111 46) = x := by rw [mI_o e47 (by decide), mI_o e34 (by decide)]; exact mI_x e46
  have hk : mSk c = [] := mSk_nil (by rw [f34]; rfl)
  obtain ⟨p1, p2, p3, p4, p5, p6, p7, p8, t1, t2⟩ := p
  refine ⟨⟨e47.1, fun p q z => ?_, fun p _ _ _ => congrFun A p, NN, mLo_A A mLo_r⟩, ⟨?_, ?_, ?_, ?_, ?_, ?_, ?_, ?_, by rw [NN]; exact t1, by rw [NN]; exact t2⟩, ?_, ?_, mI_x e47⟩
  · refine (e47.2.2.1 p q (fun w => z ⟨w.1, Or.inr (Or.inr w.2)⟩)).trans ((e34.2.2.1 p q (fun w => z ⟨w.1, Or.inl (by unfold mFs; omega)⟩)).trans (e46.2.2.1 p q (fun w => z ⟨w.1, Or.inr (Or.inl w.2)⟩)))
  · rw [F 29 (by decide) (by decide) (by decide)]; exact p1
  · rw [F 28 (by decide) (by decide) (by decide), F 27 (by decide) (by decide) (by decide)]; exact p2
  · rw [F 33 (by decide) (by decide) (by decide)]; exact p3
  · rw [F 31 (by decide) (by decide) (by decide)]; exact p4
  · rw [f34]; decide
  · rw [F 30 (by decide) (by decide) (by decide)]; exact p6
  · rw [A, NN]; exact p7
  · exact p8
  · unfold mD
    rw [F 32 (by decide) (by decide) (by decide), d0, hk]
    rfl
  · unfold mst ms mEn
    rw [f46, hk, F 28 (by decide) (by decide) (by decide), F 33 (by decide) (by decide) (by decide), F 31 (by decide) (by decide) (by decide), F 30 (by decide) (by decide) (by decide), A]
theorem g_readsR {G : zG} (hG : G.1 = zProg) (hX : G.2.1 = ztx) {h : zH} {T : Nat → Int32} {n : Nat} (hs : tSh h) (hp : mP h) (hT : tA h 132 = T) (hN : mn h = n) {x : Int32} {tst : Bool} (hx0 : 0 ≤ x.toInt) (hx4 : stN x ≤ 4) (hts : x = 0 ↔ tst = true) (hd0 : tvI (tF h 111 32) = 0) : tC zTt G 223 [.ref 111, .int x] h (fun w h2 => w = none ∧ mFw h h2 ∧ ((mP h2 ∧ mD h2 ∧ mRe T n tst (stN x, [], ms h) (.inr (4, mSk h2, ms h2))) ∨ ∃ e, mFt h2 e ∧ mZp h2 ∧ mRe T n tst (stN x, [], ms h) (.inl e))) := by
  refine tC_in (by rw [hG]; rfl) (fun dp => ?_)
  refine tw_aload rfl rfl ?_
  refine tw_iload rfl rfl ?_
  refine tw_put rfl (fun f718 => ?_)
  refine tG_setm f718 (hw_111_46 f718 hs) (fun hf718 ef718 => ?_)
  try dsimp only [tvI_i] at ef718
  refine tw_aload rfl rfl ?_
  refine tw_push rfl ?_
  refine tw_put rfl (fun f719 => ?_)
  refine tG_setm f719 (hw_111_34 f719 ef718.1) (fun hf719 ef719 => ?_)
  try dsimp only [tvI_i] at ef719
  refine tw_aload rfl rfl ?_
  refine tw_iload rfl rfl ?_
  refine tw_if_ne rfl (fun q720 => ?_) (fun q720 => ?_)
  · try dsimp only [tvI_i, tvJ_j, tvR_r] at q720
    have q720i := zneq (Y := 0) (by decide) q720
    refine tw_push rfl ?_
    refine tw_put rfl (fun f721 => ?_)
    refine tG_setm f721 (hw_111_47 f721 ef719.1) (fun hf721 ef721 => ?_)
    try dsimp only [tvI_i] at ef721
    refine tG_loop (zW_mono zTt G dp) (zW_conj zTt G dp) (V := fun pc L st h9 _ _ => pc = 23 ∧ st = [] ∧ ∃ h1, h1 = h9 ∧ mFw h h1 ∧ (¬ tvI (tF h1 111 47) = 0 ↔ tst = true) ∧ ((mP h1 ∧ mD h1 ∧ mDp (mSk h1) ≤ 10 ∧ (mst h1).1 ≤ 4 ∧ mRe T n tst (stN x, [], ms h) (.inr (mst h1))) ∨ ∃ e, mFt h1 e ∧ mZp h1 ∧ mRe T n tst (stN x, [], ms h) (.inl e)) ∧ L = [some (.ref 111), some (.int x)]) ?_ (⟨rfl, rfl, _, rfl, (mRst hx0 hp hd0 ef718 ef719 ef721).1, (by rw [(mRst hx0 hp hd0 ef718 ef719 ef721).2.2.2.2]; exact ⟨fun z => absurd rfl z, fun z => absurd (hts.mpr z) q720⟩), Or.inl ⟨(mRst hx0 hp hd0 ef718 ef719 ef721).2.1, (mRst hx0 hp hd0 ef718 ef719 ef721).2.2.1, (by have z := congrArg (fun q : rMs => q.2.1) (mRst hx0 hp hd0 ef718 ef719 ef721).2.2.2.1; have z : mSk _ = [] := z; rw [z]; exact Nat.zero_le _), (by rw [(mRst hx0 hp hd0 ef718 ef719 ef721).2.2.2.1]; exact hx4), by rw [(mRst hx0 hp hd0 ef718 ef719 ef721).2.2.2.1]; exact mRe_0⟩, rfl⟩)
    rintro _ _ _ _ _ _ ⟨rfl, rfl, h1, rfl, gw, hT1, hv, rfl⟩
    refine tw_aload rfl rfl ?_
    refine tw_getS rfl (hi_111_46 gw.1) ?_
    refine tw_push rfl ?_
    refine tw_ic_eq rfl (fun q722 => ?_) (fun q722 => ?_)
    · try dsimp only [tvI_i, tvJ_j, tvR_r] at q722
      have q722i := zeqi (Y := 4) (by decide) q722
      rcases hv with ⟨hv1, hv2, hv3, hv4, hv6⟩ | ⟨e, hv1, hv2, hv3⟩
      · have hm1 : mst h1 = (4, mSk h1, ms h1) := by unfold mst; rw [q722]; rfl
        rw [hm1] at hv6
        exact tw_vret rfl ⟨rfl, gw, Or.inl ⟨hv1, hv2, hv6⟩⟩
      · exact tw_vret rfl ⟨rfl, gw, Or.inr ⟨e, hv1, hv2, hv3⟩⟩
    · try dsimp only [tvI_i, tvJ_j, tvR_r] at q722
      have q722i := zneq (Y := 4) (by decide) q722
      refine tw_aload rfl rfl ?_
      refine tw_getS rfl (hi_111_29 gw.1) ?_
      refine tw_if_ne rfl (fun q723 => ?_) (fun q723 => ?_)
      · try dsimp only [tvI_i, tvJ_j, tvR_r] at q723
        have q723i := zneq (Y := 0) (by decide) q723
        rcases hv with ⟨hv1, -⟩ | ⟨e, hv1, hv2, hv3⟩
        · exact absurd (mP_0 hv1) q723
        · exact tw_vret rfl ⟨rfl, gw, Or.inr ⟨e, hv1, hv2, hv3⟩⟩
      · try dsimp only [tvI_i, tvJ_j, tvR_r] at q723
        have q723i := zeqi (Y := 0) (by decide) q723
        refine tw_aload rfl rfl ?_
        refine tw_getS rfl (hi_111_46 gw.1) ?_
        refine tw_table rfl (fun q724 => ?_) (fun t9 q724a q724b q724c => ?_)
        · try dsimp only [tvI_i, tvJ_j, tvR_r] at q724
          refine tw_aload rfl rfl ?_
          obtain ⟨hv1, hv2, hv3, hv4, hv6⟩ := hv.resolve_right (fun z => by obtain ⟨e, z, -⟩ := z; exact mFt_n z q723)
          have hst : tvI (tF h1 111 46) = 3 := by
            refine Int32.toInt_inj.mp ?_
            show (tvI (tF h1 111 46)).toInt = 3
            have a4 : stN (tvI (tF h1 111 46)) ≤ 4 := hv4
            unfold stN at a4
            have a6 : ¬ (tvI (tF h1 111 46)).toInt < 0 := fun z => by rw [if_pos z] at a4; omega
            rw [if_neg a6] at a4
            have c29 : (2 : Int32).toInt = 2 := rfl
            have a5 : (tvI (tF h1 111 46)).toInt ≠ 4 := fun z => q722 (Int32.toInt_inj.mp z)
            have z0 := q724
            try dsimp only [tvI_i] at z0
            omega
          refine tw_virt0 rfl (g_behindFact hG hX gw.1 hv1 ((mFw_T gw).trans hT) ((mFw_n gw).trans hN) hv2 (Nat.le_trans hv3 (by decide)) hst) (fun wp725 hp725 p725 => ?_)
          obtain ⟨rfl, gp725, op725⟩ := p725
          refine tw_goto rfl ?_
          have hm1 : mst h1 = (3, mSk h1, ms h1) := by unfold mst; rw [hst]; rfl
          rw [hm1] at hv6
          refine tG_cut (zW_mono zTt G dp) (Or.inr ⟨rfl, rfl, _, rfl, mFw_t gw (mFw_q gp725), (by rw [mFq_47 gp725]; exact hT1), ?_, rfl⟩)
          cases hy : mSt T n tst (3, mSk h1, ms h1) with
          | inl e =>
            have op725 : mOut (mSt T n tst (3, mSk h1, ms h1)) hp725 := op725
            rw [hy] at op725
            exact Or.inr ⟨e, op725.1, op725.2, mRe_t hv6 (mRe_f hy)⟩
          | inr x2 =>
            have op725 : mOut (mSt T n tst (3, mSk h1, ms h1)) hp725 := op725
            rw [hy] at op725
            obtain ⟨o1, o2, o3⟩ := op725
            have hdp := mSt_dp hv3 (by decide) hy
            have o4 := mRe_t hv6 (mRe_s hy mRe_0)
            rw [← o3] at hdp o4
            exact Or.inl ⟨o1, o2, hdp.1, hdp.2, o4⟩
        · have q724d : (tvI (.int (tvI (tF h1 111 46)))).toInt = 0 ∨ (tvI (.int (tvI (tF h1 111 46)))).toInt = 1 ∨ (tvI (.int (tvI (tF h1 111 46)))).toInt = 2 := by omega
          rcases q724d with q724 | q724 | q724
          · obtain rfl : t9 = 68 := by rw [q724] at q724c; exact Option.some.inj (q724c.symm.trans rfl)
            try dsimp only [tvI_i, tvJ_j, tvR_r] at q724
            refine tw_aload rfl rfl ?_
            obtain ⟨hv1, hv2, hv3, hv4, hv6⟩ := hv.resolve_right (fun z => by obtain ⟨e, z, -⟩ := z; exact mFt_n z q723)
            have hst : tvI (tF h1 111 46) = 0 := by
              refine Int32.toInt_inj.mp ?_
              show (tvI (tF h1 111 46)).toInt = 0
              have a4 : stN (tvI (tF h1 111 46)) ≤ 4 := hv4
              unfold stN at a4
              have a6 : ¬ (tvI (tF h1 111 46)).toInt < 0 := fun z => by rw [if_pos z] at a4; omega
              rw [if_neg a6] at a4
              have c29 : (2 : Int32).toInt = 2 := rfl
              have a5 : (tvI (tF h1 111 46)).toInt ≠ 4 := fun z => q722 (Int32.toInt_inj.mp z)
              have z0 := q724
              try dsimp only [tvI_i] at z0
              omega
            refine tw_virt0 rfl (g_beginsFact hG hX gw.1 hv1 ((mFw_T gw).trans hT) ((mFw_n gw).trans hN) hv2 (Nat.le_trans hv3 (by decide)) hst) (fun wp726 hp726 p726 => ?_)
            obtain ⟨rfl, gp726, op726⟩ := p726
            refine tw_goto rfl ?_
            have hm1 : mst h1 = (0, mSk h1, ms h1) := by unfold mst; rw [hst]; rfl
            rw [hm1] at hv6
            refine tG_cut (zW_mono zTt G dp) (Or.inr ⟨rfl, rfl, _, rfl, mFw_t gw (mFw_q gp726), (by rw [mFq_47 gp726]; exact hT1), ?_, rfl⟩)
            cases hy : mSt T n tst (0, mSk h1, ms h1) with
            | inl e =>
              have op726 : mOut (mSt T n tst (0, mSk h1, ms h1)) hp726 := op726
              rw [hy] at op726
              exact Or.inr ⟨e, op726.1, op726.2, mRe_t hv6 (mRe_f hy)⟩
            | inr x2 =>
              have op726 : mOut (mSt T n tst (0, mSk h1, ms h1)) hp726 := op726
              rw [hy] at op726
              obtain ⟨o1, o2, o3⟩ := op726
              have hdp := mSt_dp hv3 (by decide) hy
              have o4 := mRe_t hv6 (mRe_s hy mRe_0)
              rw [← o3] at hdp o4
              exact Or.inl ⟨o1, o2, hdp.1, hdp.2, o4⟩
          · obtain rfl : t9 = 75 := by rw [q724] at q724c; exact Option.some.inj (q724c.symm.trans rfl)
            try dsimp only [tvI_i, tvJ_j, tvR_r] at q724
            refine tw_aload rfl rfl ?_
            obtain ⟨hv1, hv2, hv3, hv4, hv6⟩ := hv.resolve_right (fun z => by obtain ⟨e, z, -⟩ := z; exact mFt_n z q723)
            have hst : tvI (tF h1 111 46) = 1 := by
              refine Int32.toInt_inj.mp ?_
              show (tvI (tF h1 111 46)).toInt = 1
              have a4 : stN (tvI (tF h1 111 46)) ≤ 4 := hv4
              unfold stN at a4
              have a6 : ¬ (tvI (tF h1 111 46)).toInt < 0 := fun z => by rw [if_pos z] at a4; omega
              rw [if_neg a6] at a4
              have c29 : (2 : Int32).toInt = 2 := rfl
              have a5 : (tvI (tF h1 111 46)).toInt ≠ 4 := fun z => q722 (Int32.toInt_inj.mp z)
              have z0 := q724
              try dsimp only [tvI_i] at z0
              omega
            refine tw_virt0 rfl (g_value hG hX gw.1 hv1 ((mFw_T gw).trans hT) ((mFw_n gw).trans hN) hv2 (Nat.le_trans hv3 (by decide)) hst) (fun wp727 hp727 p727 => ?_)
            obtain ⟨rfl, gp727, op727⟩ := p727
            refine tw_goto rfl ?_
            have hm1 : mst h1 = (1, mSk h1, ms h1) := by unfold mst; rw [hst]; rfl
            rw [hm1] at hv6
            refine tG_cut (zW_mono zTt G dp) (Or.inr ⟨rfl, rfl, _, rfl, mFw_t gw (mFw_q gp727), (by rw [mFq_47 gp727]; exact hT1), ?_, rfl⟩)
            cases hy : mSt T n tst (1, mSk h1, ms h1) with
            | inl e =>
              have op727 : mOut (mSt T n tst (1, mSk h1, ms h1)) hp727 := op727
              rw [hy] at op727
              exact Or.inr ⟨e, op727.1, op727.2, mRe_t hv6 (mRe_f hy)⟩
            | inr x2 =>
              have op727 : mOut (mSt T n tst (1, mSk h1, ms h1)) hp727 := op727
              rw [hy] at op727
              obtain ⟨o1, o2, o3⟩ := op727
              have hdp := mSt_dp hv3 (by decide) hy
              have o4 := mRe_t hv6 (mRe_s hy mRe_0)
              rw [← o3] at hdp o4
              exact Or.inl ⟨o1, o2, hdp.1, hdp.2, o4⟩
          · obtain rfl : t9 = 82 := by rw [q724] at q724c; exact Option.some.inj (q724c.symm.trans rfl)
            try dsimp only [tvI_i, tvJ_j, tvR_r] at q724
            refine tw_aload rfl rfl ?_
            obtain ⟨hv1, hv2, hv3, hv4, hv6⟩ := hv.resolve_right (fun z => by obtain ⟨e, z, -⟩ := z; exact mFt_n z q723)
            have hst : tvI (tF h1 111 46) = 2 := by
              refine Int32.toInt_inj.mp ?_
              show (tvI (tF h1 111 46)).toInt = 2
              have a4 : stN (tvI (tF h1 111 46)) ≤ 4 := hv4
              unfold stN at a4
              have a6 : ¬ (tvI (tF h1 111 46)).toInt < 0 := fun z => by rw [if_pos z] at a4; omega
              rw [if_neg a6] at a4
              have c29 : (2 : Int32).toInt = 2 := rfl
              have a5 : (tvI (tF h1 111 46)).toInt ≠ 4 := fun z => q722 (Int32.toInt_inj.mp z)
              have z0 := q724
              try dsimp only [tvI_i] at z0
              omega
            refine tw_virt0 rfl (g_behindValue hG hX gw.1 hv1 ((mFw_T gw).trans hT) ((mFw_n gw).trans hN) hv2 (Nat.le_trans hv3 (by decide)) (tst := tst) hT1 hst) (fun wp728 hp728 p728 => ?_)
            obtain ⟨rfl, gp728, op728⟩ := p728
            refine tw_goto rfl ?_
            have hm1 : mst h1 = (2, mSk h1, ms h1) := by unfold mst; rw [hst]; rfl
            rw [hm1] at hv6
            refine tG_cut (zW_mono zTt G dp) (Or.inr ⟨rfl, rfl, _, rfl, mFw_t gw (mFw_q gp728), (by rw [mFq_47 gp728]; exact hT1), ?_, rfl⟩)
            cases hy : mSt T n tst (2, mSk h1, ms h1) with
            | inl e =>
              have op728 : mOut (mSt T n tst (2, mSk h1, ms h1)) hp728 := op728
              rw [hy] at op728
              exact Or.inr ⟨e, op728.1, op728.2, mRe_t hv6 (mRe_f hy)⟩
            | inr x2 =>
              have op728 : mOut (mSt T n tst (2, mSk h1, ms h1)) hp728 := op728
              rw [hy] at op728
              obtain ⟨o1, o2, o3⟩ := op728
              have hdp := mSt_dp hv3 (by decide) hy
              have o4 := mRe_t hv6 (mRe_s hy mRe_0)
              rw [← o3] at hdp o4
              exact Or.inl ⟨o1, o2, hdp.1, hdp.2, o4⟩
  · try dsimp only [tvI_i, tvJ_j, tvR_r] at q720
    have q720i := zeqi (Y := 0) (by decide) q720
    refine tw_push rfl ?_
    refine tw_goto rfl ?_
    refine tw_put rfl (fun f729 => ?_)
    refine tG_setm f729 (hw_111_47 f729 ef719.1) (fun hf729 ef729 => ?_)
    try dsimp only [tvI_i] at ef729
    refine tG_loop (zW_mono zTt G dp) (zW_conj zTt G dp) (V := fun pc L st h9 _ _ => pc = 23 ∧ st = [] ∧ ∃ h1, h1 = h9 ∧ mFw h h1 ∧ (¬ tvI (tF h1 111 47) = 0 ↔ tst = true) ∧ ((mP h1 ∧ mD h1 ∧ mDp (mSk h1) ≤ 10 ∧ (mst h1).1 ≤ 4 ∧ mRe T n tst (stN x, [], ms h) (.inr (mst h1))) ∨ ∃ e, mFt h1 e ∧ mZp h1 ∧ mRe T n tst (stN x, [], ms h) (.inl e)) ∧ L = [some (.ref 111), some (.int x)]) ?_ (⟨rfl, rfl, _, rfl, (mRst hx0 hp hd0 ef718 ef719 ef729).1, (by rw [(mRst hx0 hp hd0 ef718 ef719 ef729).2.2.2.2]; exact ⟨fun _ => hts.mp q720, fun _ => by decide⟩), Or.inl ⟨(mRst hx0 hp hd0 ef718 ef719 ef729).2.1, (mRst hx0 hp hd0 ef718 ef719 ef729).2.2.1, (by have z := congrArg (fun q : rMs => q.2.1) (mRst hx0 hp hd0 ef718 ef719 ef729).2.2.2.1; have z : mSk _ = [] := z; rw [z]; exact Nat.zero_le _), (by rw [(mRst hx0 hp hd0 ef718 ef719 ef729).2.2.2.1]; exact hx4), by rw [(mRst hx0 hp hd0 ef718 ef719 ef729).2.2.2.1]; exact mRe_0⟩, rfl⟩)
    rintro _ _ _ _ _ _ ⟨rfl, rfl, h1, rfl, gw, hT1, hv, rfl⟩
    refine tw_aload rfl rfl ?_
    refine tw_getS rfl (hi_111_46 gw.1) ?_
    refine tw_push rfl ?_
    refine tw_ic_eq rfl (fun q730 => ?_) (fun q730 => ?_)
    · try dsimp only [tvI_i, tvJ_j, tvR_r] at q730
      have q730i := zeqi (Y := 4) (by decide) q730
      rcases hv with ⟨hv1, hv2, hv3, hv4, hv6⟩ | ⟨e, hv1, hv2, hv3⟩
      · have hm1 : mst h1 = (4, mSk h1, ms h1) := by unfold mst; rw [q730]; rfl
        rw [hm1] at hv6
        exact tw_vret rfl ⟨rfl, gw, Or.inl ⟨hv1, hv2, hv6⟩⟩
      · exact tw_vret rfl ⟨rfl, gw, Or.inr ⟨e, hv1, hv2, hv3⟩⟩
    · try dsimp only [tvI_i, tvJ_j, tvR_r] at q730
      have q730i := zneq (Y := 4) (by decide) q730
      refine tw_aload rfl rfl ?_
      refine tw_getS rfl (hi_111_29 gw.1) ?_
      refine tw_if_ne rfl (fun q731 => ?_) (fun q731 => ?_)
      · try dsimp only [tvI_i, tvJ_j, tvR_r] at q731
        have q731i := zneq (Y := 0) (by decide) q731
        rcases hv with ⟨hv1, -⟩ | ⟨e, hv1, hv2, hv3⟩
        · exact absurd (mP_0 hv1) q731
        · exact tw_vret rfl ⟨rfl, gw, Or.inr ⟨e, hv1, hv2, hv3⟩⟩
      · try dsimp only [tvI_i, tvJ_j, tvR_r] at q731
        have q731i := zeqi (Y := 0) (by decide) q731
        refine tw_aload rfl rfl ?_
        refine tw_getS rfl (hi_111_46 gw.1) ?_
        refine tw_table rfl (fun q732 => ?_) (fun t9 q732a q732b q732c => ?_)
        · try dsimp only [tvI_i, tvJ_j, tvR_r] at q732
          refine tw_aload rfl rfl ?_
          obtain ⟨hv1, hv2, hv3, hv4, hv6⟩ := hv.resolve_right (fun z => by obtain ⟨e, z, -⟩ := z; exact mFt_n z q731)
          have hst : tvI (tF h1 111 46) = 3 := by
            refine Int32.toInt_inj.mp ?_
            show (tvI (tF h1 111 46)).toInt = 3
            have a4 : stN (tvI (tF h1 111 46)) ≤ 4 := hv4
            unfold stN at a4
            have a6 : ¬ (tvI (tF h1 111 46)).toInt < 0 := fun z => by rw [if_pos z] at a4; omega
            rw [if_neg a6] at a4
            have c29 : (2 : Int32).toInt = 2 := rfl
            have a5 : (tvI (tF h1 111 46)).toInt ≠ 4 := fun z => q730 (Int32.toInt_inj.mp z)
            have z0 := q732
            try dsimp only [tvI_i] at z0
            omega
          refine tw_virt0 rfl (g_behindFact hG hX gw.1 hv1 ((mFw_T gw).trans hT) ((mFw_n gw).trans hN) hv2 (Nat.le_trans hv3 (by decide)) hst) (fun wp733 hp733 p733 => ?_)
          obtain ⟨rfl, gp733, op733⟩ := p733
          refine tw_goto rfl ?_
          have hm1 : mst h1 = (3, mSk h1, ms h1) := by unfold mst; rw [hst]; rfl
          rw [hm1] at hv6
          refine tG_cut (zW_mono zTt G dp) (Or.inr ⟨rfl, rfl, _, rfl, mFw_t gw (mFw_q gp733), (by rw [mFq_47 gp733]; exact hT1), ?_, rfl⟩)
          cases hy : mSt T n tst (3, mSk h1, ms h1) with
          | inl e =>
            have op733 : mOut (mSt T n tst (3, mSk h1, ms h1)) hp733 := op733
            rw [hy] at op733
            exact Or.inr ⟨e, op733.1, op733.2, mRe_t hv6 (mRe_f hy)⟩
          | inr x2 =>
            have op733 : mOut (mSt T n tst (3, mSk h1, ms h1)) hp733 := op733
            rw [hy] at op733
            obtain ⟨o1, o2, o3⟩ := op733
            have hdp := mSt_dp hv3 (by decide) hy
            have o4 := mRe_t hv6 (mRe_s hy mRe_0)
            rw [← o3] at hdp o4
            exact Or.inl ⟨o1, o2, hdp.1, hdp.2, o4⟩
        · have q732d : (tvI (.int (tvI (tF h1 111 46)))).toInt = 0 ∨ (tvI (.int (tvI (tF h1 111 46)))).toInt = 1 ∨ (tvI (.int (tvI (tF h1 111 46)))).toInt = 2 := by omega
          rcases q732d with q732 | q732 | q732
          · obtain rfl : t9 = 68 := by rw [q732] at q732c; exact Option.some.inj (q732c.symm.trans rfl)
            try dsimp only [tvI_i, tvJ_j, tvR_r] at q732
            refine tw_aload rfl rfl ?_
            obtain ⟨hv1, hv2, hv3, hv4, hv6⟩ := hv.resolve_right (fun z => by obtain ⟨e, z, -⟩ := z; exact mFt_n z q731)
            have hst : tvI (tF h1 111 46) = 0 := by
              refine Int32.toInt_inj.mp ?_
              show (tvI (tF h1 111 46)).toInt = 0
              have a4 : stN (tvI (tF h1 111 46)) ≤ 4 := hv4
              unfold stN at a4
              have a6 : ¬ (tvI (tF h1 111 46)).toInt < 0 := fun z => by rw [if_pos z] at a4; omega
              rw [if_neg a6] at a4
              have c29 : (2 : Int32).toInt = 2 := rfl
              have a5 : (tvI (tF h1 111 46)).toInt ≠ 4 := fun z => q730 (Int32.toInt_inj.mp z)
              have z0 := q732
              try dsimp only [tvI_i] at z0
              omega
            refine tw_virt0 rfl (g_beginsFact hG hX gw.1 hv1 ((mFw_T gw).trans hT) ((mFw_n gw).trans hN) hv2 (Nat.le_trans hv3 (by decide)) hst) (fun wp734 hp734 p734 => ?_)
            obtain ⟨rfl, gp734, op734⟩ := p734
            refine tw_goto rfl ?_
            have hm1 : mst h1 = (0, mSk h1, ms h1) := by unfold mst; rw [hst]; rfl
            rw [hm1] at hv6
            refine tG_cut (zW_mono zTt G dp) (Or.inr ⟨rfl, rfl, _, rfl, mFw_t gw (mFw_q gp734), (by rw [mFq_47 gp734]; exact hT1), ?_, rfl⟩)
            cases hy : mSt T n tst (0, mSk h1, ms h1) with
            | inl e =>
              have op734 : mOut (mSt T n tst (0, mSk h1, ms h1)) hp734 := op734
              rw [hy] at op734
              exact Or.inr ⟨e, op734.1, op734.2, mRe_t hv6 (mRe_f hy)⟩
            | inr x2 =>
              have op734 : mOut (mSt T n tst (0, mSk h1, ms h1)) hp734 := op734
              rw [hy] at op734
              obtain ⟨o1, o2, o3⟩ := op734
              have hdp := mSt_dp hv3 (by decide) hy
              have o4 := mRe_t hv6 (mRe_s hy mRe_0)
              rw [← o3] at hdp o4
              exact Or.inl ⟨o1, o2, hdp.1, hdp.2, o4⟩
          · obtain rfl : t9 = 75 := by rw [q732] at q732c; exact Option.some.inj (q732c.symm.trans rfl)
            try dsimp only [tvI_i, tvJ_j, tvR_r] at q732
            refine tw_aload rfl rfl ?_
            obtain ⟨hv1, hv2, hv3, hv4, hv6⟩ := hv.resolve_right (fun z => by obtain ⟨e, z, -⟩ := z; exact mFt_n z q731)
            have hst : tvI (tF h1 111 46) = 1 := by
              refine Int32.toInt_inj.mp ?_
              show (tvI (tF h1 111 46)).toInt = 1
              have a4 : stN (tvI (tF h1 111 46)) ≤ 4 := hv4
              unfold stN at a4
              have a6 : ¬ (tvI (tF h1 111 46)).toInt < 0 := fun z => by rw [if_pos z] at a4; omega
              rw [if_neg a6] at a4
              have c29 : (2 : Int32).toInt = 2 := rfl
              have a5 : (tvI (tF h1 111 46)).toInt ≠ 4 := fun z => q730 (Int32.toInt_inj.mp z)
              have z0 := q732
              try dsimp only [tvI_i] at z0
              omega
            refine tw_virt0 rfl (g_value hG hX gw.1 hv1 ((mFw_T gw).trans hT) ((mFw_n gw).trans hN) hv2 (Nat.le_trans hv3 (by decide)) hst) (fun wp735 hp735 p735 => ?_)
            obtain ⟨rfl, gp735, op735⟩ := p735
            refine tw_goto rfl ?_
            have hm1 : mst h1 = (1, mSk h1, ms h1) := by unfold mst; rw [hst]; rfl
            rw [hm1] at hv6
            refine tG_cut (zW_mono zTt G dp) (Or.inr ⟨rfl, rfl, _, rfl, mFw_t gw (mFw_q gp735), (by rw [mFq_47 gp735]; exact hT1), ?_, rfl⟩)
            cases hy : mSt T n tst (1, mSk h1, ms h1) with
            | inl e =>
              have op735 : mOut (mSt T n tst (1, mSk h1, ms h1)) hp735 := op735
              rw [hy] at op735
              exact Or.inr ⟨e, op735.1, op735.2, mRe_t hv6 (mRe_f hy)⟩
            | inr x2 =>
              have op735 : mOut (mSt T n tst (1, mSk h1, ms h1)) hp735 := op735
              rw [hy] at op735
              obtain ⟨o1, o2, o3⟩ := op735
              have hdp := mSt_dp hv3 (by decide) hy
              have o4 := mRe_t hv6 (mRe_s hy mRe_0)
              rw [← o3] at hdp o4
              exact Or.inl ⟨o1, o2, hdp.1, hdp.2, o4⟩
          · obtain rfl : t9 = 82 := by rw [q732] at q732c; exact Option.some.inj (q732c.symm.trans rfl)
            try dsimp only [tvI_i, tvJ_j, tvR_r] at q732
            refine tw_aload rfl rfl ?_
            obtain ⟨hv1, hv2, hv3, hv4, hv6⟩ := hv.resolve_right (fun z => by obtain ⟨e, z, -⟩ := z; exact mFt_n z q731)
            have hst : tvI (tF h1 111 46) = 2 := by
              refine Int32.toInt_inj.mp ?_
              show (tvI (tF h1 111 46)).toInt = 2
              have a4 : stN (tvI (tF h1 111 46)) ≤ 4 := hv4
              unfold stN at a4
              have a6 : ¬ (tvI (tF h1 111 46)).toInt < 0 := fun z => by rw [if_pos z] at a4; omega
              rw [if_neg a6] at a4
              have c29 : (2 : Int32).toInt = 2 := rfl
              have a5 : (tvI (tF h1 111 46)).toInt ≠ 4 := fun z => q730 (Int32.toInt_inj.mp z)
              have z0 := q732
              try dsimp only [tvI_i] at z0
              omega
            refine tw_virt0 rfl (g_behindValue hG hX gw.1 hv1 ((mFw_T gw).trans hT) ((mFw_n gw).trans hN) hv2 (Nat.le_trans hv3 (by decide)) (tst := tst) hT1 hst) (fun wp736 hp736 p736 => ?_)
            obtain ⟨rfl, gp736, op736⟩ := p736
            refine tw_goto rfl ?_
            have hm1 : mst h1 = (2, mSk h1, ms h1) := by unfold mst; rw [hst]; rfl
            rw [hm1] at hv6
            refine tG_cut (zW_mono zTt G dp) (Or.inr ⟨rfl, rfl, _, rfl, mFw_t gw (mFw_q gp736), (by rw [mFq_47 gp736]; exact hT1), ?_, rfl⟩)
            cases hy : mSt T n tst (2, mSk h1, ms h1) with
            | inl e =>
              have op736 : mOut (mSt T n tst (2, mSk h1, ms h1)) hp736 := op736
              rw [hy] at op736
              exact Or.inr ⟨e, op736.1, op736.2, mRe_t hv6 (mRe_f hy)⟩
            | inr x2 =>
              have op736 : mOut (mSt T n tst (2, mSk h1, ms h1)) hp736 := op736
              rw [hy] at op736
              obtain ⟨o1, o2, o3⟩ := op736
              have hdp := mSt_dp hv3 (by decide) hy
              have o4 := mRe_t hv6 (mRe_s hy mRe_0)
              rw [← o3] at hdp o4
              exact Or.inl ⟨o1, o2, hdp.1, hdp.2, o4⟩
/-! the model's clause, held against what the class found -/
section R8
variable {T : Nat → Int32} {n c k : Nat} {s s0 s1 s2 s9 : rS} {r : Nat ⊕ (rS × rCt)} {e th f0 : Nat}
theorem rM_bb {M p : Nat} : rM T n M (rB T n p) = rM T n M p := by
  unfold rM
  rw [rB_2]
theorem rCl_0 (h : rCl T n c s r) (hk : ∀ k, 12 ≤ k → k ≤ 15 → ¬ rW T n (rB T n s.1) (rWd k) = true) : r = .inl (1 + 8 * rB T n s.1 + 0) := by
  rcases h with ⟨_, h⟩ | ⟨j, h1, h2, h3, _⟩
  · exact h
  · exact absurd h3 (hk j h1 h2)
theorem rCl_w (h : rCl T n c s r) (h1 : 12 ≤ k) (h2 : k ≤ 15) (hw : rW T n (rB T n s.1) (rWd k) = true) : (c = 12 ∧ r = .inl (1 + 8 * rB T n s.1 + 4)) ∨ (c ≠ 12 ∧ rCl1 T n k (rA (rE T n (rB T n s.1)) s) r) := by
  rcases h with ⟨h, _⟩ | ⟨j, j1, j2, j3, h⟩
  · exact absurd hw (h k h1 h2)
  · obtain rfl := rW_ij (by omega) (by omega) j3 hw
    exact h
theorem rCl_cc (h : rCl T n c s r) (h1 : 12 ≤ k) (h2 : k ≤ 15) (hw : rW T n (rB T n s.1) (rWd k) = true) (hc : c = 12) : r = .inl (1 + 8 * rB T n s.1 + 4) := by
  rcases rCl_w h h1 h2 hw with ⟨_, z⟩ | ⟨z, _⟩
  · exact z
  · exact absurd hc z
theorem rCl_g (h : rCl T n c s r) (h1 : 12 ≤ k) (h2 : k ≤ 15) (hw : rW T n (rB T n s.1) (rWd k) = true) (hc : c ≠ 12) : rCl1 T n k (rA (rE T n (rB T n s.1)) s) r := by
  rcases rCl_w h h1 h2 hw with ⟨z, _⟩ | ⟨_, z⟩
  · exact absurd z hc
  · exact z
theorem rCl1_e (h : rCl1 T n k s0 r) (hk : k = 12) (hm : rM T n 2 s0.1 = .inl e) : r = .inl e := by
  rcases h with ⟨_, ⟨e2, h2, h3⟩ | ⟨q, h2, _⟩⟩ | ⟨z, _⟩
  · rw [hm] at h2; cases h2; exact h3
  · rw [hm] at h2; cases h2
  · exact absurd hk z
theorem rCl1_q {q : Nat × Nat} (h : rCl1 T n k s0 r) (hk : k = 12) (hm : rM T n 2 s0.1 = .inr q) : rCl2 T n k q.2 (rA q.1 s0) r := by
  rcases h with ⟨_, ⟨e2, h2, h3⟩ | ⟨q2, h2, h3⟩⟩ | ⟨z, _⟩
  · rw [hm] at h2; cases h2
  · rw [hm] at h2; cases h2; exact h3
  · exact absurd hk z
theorem rCl1_n (h : rCl1 T n k s0 r) (hk : k ≠ 12) : rCl2 T n k k s0 r := by
  rcases h with ⟨z, _⟩ | ⟨_, h⟩
  · exact absurd z hk
  · exact h
theorem rCl2_15 (h : rCl2 T n k th s1 r) (hk : k = 15) : rCl3 T n k th s1.2.2.length s1 r := by
  rcases h with ⟨_, h⟩ | ⟨z, _⟩
  · exact h
  · exact absurd hk z
theorem pE_mS {r : Nat ⊕ rS} {y : rMo} (h : pE T n 3 0 s r) (m : mRe T n false (1, [], s) y) (hy : mHt y) : y = mEnd (r.map id (fun z => rA (rB T n z.1) z)) := by
  obtain ⟨N, hN⟩ := h
  refine mRe_u m (mSum (hN N (Nat.le_refl _))) hy ?_
  cases r with
  | inl e => exact trivial
  | inr s2 => exact Nat.le_refl 4
theorem pE_mT {r : Nat ⊕ rS} {y : rMo} (h : pE T n 9 0 s r) (m : mRe T n true (0, [], s) y) (hy : mHt y) : y = mEnd (r.map id (fun z => rA (rB T n z.1) z)) := by
  obtain ⟨N, hN⟩ := h
  refine mRe_u m (mTst (hN N (Nat.le_refl _))) hy ?_
  cases r with
  | inl e => exact trivial
  | inr s2 => exact Nat.le_refl 4
theorem rCl2_e (h : rCl2 T n k th s1 r) (hk : k ≠ 15) (hm : mRe T n false (1, [], s1) (.inl e)) : r = .inl e := by
  rcases h with ⟨z, _⟩ | ⟨_, ⟨e2, h2, h3⟩ | ⟨s2, h2, _⟩⟩
  · exact absurd z hk
  · have z := pE_mS h2 hm trivial
    cases z
    exact h3
  · have z := pE_mS h2 hm trivial
    cases z
theorem rCl2_s {S : List Nat} (h : rCl2 T n k th s1 r) (hk : k ≠ 15) (hm : mRe T n false (1, [], s1) (.inr (4, S, s9))) : S = [] ∧ ∃ s2, s9 = rA (rB T n s2.1) s2 ∧ rCl3 T n k th s1.2.2.length s2 r := by
  rcases h with ⟨z, _⟩ | ⟨_, ⟨e2, h2, _⟩ | ⟨s2, h2, h3⟩⟩
  · exact absurd z hk
  · have z := pE_mS h2 hm (Nat.le_refl 4)
    cases z
  · have z := pE_mS h2 hm (Nat.le_refl 4)
    have z : (Sum.inr (4, S, s9) : rMo) = .inr (4, [], rA (rB T n s2.1) s2) := z
    cases z
    exact ⟨rfl, s2, rfl, h3⟩
theorem rCl3_e (h : rCl3 T n k th f0 s2 r) (hw : rW T n (rB T n s2.1) (rWd 16) = true) (hm : mRe T n true (0, [], rA (rB T n s2.1 + 2) s2) (.inl e)) : r = .inl e := by
  rcases h with ⟨_, ⟨e2, h2, h3⟩ | ⟨s3, h2, _⟩⟩ | ⟨z, _⟩ | ⟨z, _⟩
  · have z := pE_mT h2 hm trivial
    cases z
    exact h3
  · have z := pE_mT h2 hm trivial
    cases z
  · exact absurd hw z
  · exact absurd hw z
theorem rCl3_s {S : List Nat} (h : rCl3 T n k th f0 s2 r) (hw : rW T n (rB T n s2.1) (rWd 16) = true) (hm : mRe T n true (0, [], rA (rB T n s2.1 + 2) s2) (.inr (4, S, s9))) : S = [] ∧ ∃ s3, s9 = rA (rB T n s3.1) s3 ∧ r = .inr (s3, th, f0, s2.2.2.length, s3.2.2.length) := by
  rcases h with ⟨_, ⟨e2, h2, _⟩ | ⟨s3, h2, h3⟩⟩ | ⟨z, _⟩ | ⟨z, _⟩
  · have z := pE_mT h2 hm (Nat.le_refl 4)
    cases z
  · have z := pE_mT h2 hm (Nat.le_refl 4)
    have z : (Sum.inr (4, S, s9) : rMo) = .inr (4, [], rA (rB T n s3.1) s3) := z
    cases z
    exact ⟨rfl, s3, rfl, h3⟩
  · exact absurd hw z
  · exact absurd hw z
theorem rCl3_1 (h : rCl3 T n k th f0 s2 r) (hw : ¬ rW T n (rB T n s2.1) (rWd 16) = true) (hk : k = 15) : r = .inl (1 + 8 * rB T n s2.1 + 0) := by
  rcases h with ⟨z, _⟩ | ⟨_, _, h⟩ | ⟨_, z, _⟩
  · exact absurd z hw
  · exact h
  · exact absurd hk z
theorem rCl3_2 (h : rCl3 T n k th f0 s2 r) (hw : ¬ rW T n (rB T n s2.1) (rWd 16) = true) (hk : k ≠ 15) : r = .inr (rA (rB T n s2.1) s2, th, f0, s2.2.2.length, s2.2.2.length) := by
  rcases h with ⟨z, _⟩ | ⟨_, z, _⟩ | ⟨_, _, h⟩
  · exact absurd z hw
  · exact absurd z hk
  · exact h
end R8
/-! a whole clause's frame: what lies below lo stays -/
noncomputable def mFz (lo : Nat) (h h2 : zH) : Prop := tSh h2 ∧ (∀ p b, ¬ (p = 111 ∧ (mFs b ∨ b = 46 ∨ b = 47)) → tF h2 p b = tF h p b) ∧ (∀ p, p ≠ 133 → p ≠ 134 → p ≠ 142 → (p < 135 ∨ 139 < p) → tA h2 p = tA h p) ∧ tN h2 = tN h ∧ mLo h h2 ∧ ∀ p q, 135 ≤ p → p ≤ 139 → q < lo → tA h2 p q = tA h p q
noncomputable def mAs (p i : Nat) (x : Int32) (h h3 : zH) : Prop := tSh h3 ∧ tF h3 = tF h ∧ tN h3 = tN h ∧ tA h3 = fun q j => if q = p ∧ j = i then x else tA h q j
section MZ
variable {h h1 h2 h3 : zH} {b e lo p i : Nat} {X x : Int32}
theorem mFz_r (hs : tSh h) : mFz lo h h := ⟨hs, fun _ _ _ => rfl, fun _ _ _ _ _ => rfl, rfl, mLo_r, fun _ _ _ _ _ => rfl⟩
theorem mFz_w (k : mFw h h2) : mFz lo h h2 := ⟨k.1, k.2.1, fun p a b c _ => k.2.2.1 p a b c, k.2.2.2.1, k.2.2.2.2, fun p q h1 h2 _ => congrFun (k.2.2.1 p (by omega) (by omega) (by omega)) q⟩
theorem mFw_f (k : mFr h h2) : mFw h h2 := mFw_q (mFq_f k)
theorem mFz_t (a : mFz lo h h1) (k : mFz lo h1 h2) : mFz lo h h2 := ⟨k.1, fun p q z => (k.2.1 p q z).trans (a.2.1 p q z), fun p z w y v => (k.2.2.1 p z w y v).trans (a.2.2.1 p z w y v), k.2.2.2.1.trans a.2.2.2.1, mLo_t (a.2.1 111 30 (fun z => by have z := z.2; unfold mFs at z; omega)) a.2.2.2.2.1 k.2.2.2.2.1, fun p q z w v => (k.2.2.2.2.2 p q z w v).trans (a.2.2.2.2.2 p q z w v)⟩
theorem mFz_l {l2 : Nat} (hl : l2 ≤ lo) (a : mFz lo h h1) : mFz l2 h h1 := ⟨a.1, a.2.1, a.2.2.1, a.2.2.2.1, a.2.2.2.2.1, fun p q z w v => a.2.2.2.2.2 p q z w (by omega)⟩
theorem mFz_s (a : mFz lo h h1) (k : mSet b X h1 h2) (hb : mFs b ∨ b = 46 ∨ b = 47) : mFz lo h h2 := mFz_t a (mFz_w (mFw_s ⟨a.1, fun _ _ _ => rfl, fun _ _ _ _ => rfl, rfl, mLo_r⟩ k hb))
theorem mFz_a (a : mFz lo h h1) (k : mAs p i x h1 h2) (hp : 135 ≤ p ∧ p ≤ 139) (hi : lo ≤ i) : mFz lo h h2 := mFz_t a ⟨k.1, fun p q _ => by rw [k.2.1], fun q h1 h2 h3 h4 => by rw [k.2.2.2]; funext j; exact if_neg (fun z => by omega), k.2.2.1, fun q _ => ⟨by rw [k.2.2.2]; exact if_neg (fun z => by omega), by rw [k.2.2.2]; exact if_neg (fun z => by omega)⟩, fun q j h1 h2 h3 => by rw [k.2.2.2]; exact if_neg (fun z => by omega)⟩
theorem mFz_T (a : mFz lo h h1) : tA h1 132 = tA h 132 := a.2.2.1 132 (by decide) (by decide) (by decide) (by decide)
theorem mFz_i {q : Nat} (a : mFz lo h h1) (hq : ¬ (mFs q ∨ q = 46 ∨ q = 47)) : tF h1 111 q = tF h 111 q := a.2.1 111 q (fun z => hq z.2)
theorem mFz_27 (a : mFz lo h h1) : tF h1 111 27 = tF h 111 27 := mFz_i a (fun z => by unfold mFs at z; omega)
theorem mFz_30 (a : mFz lo h h1) : tF h1 111 30 = tF h 111 30 := mFz_i a (fun z => by unfold mFs at z; omega)
theorem mFz_n (a : mFz lo h h1) : mn h1 = mn h := by
  unfold mn
  rw [mFz_27 a]
theorem tG_ast {tt : zT} {G : zG} {cd : zK} {bc bs : Nat} {rt : Option FieldType} {M : zM} {Q : zQ} {Z : zX} {f : Bool} {pc : Nat} {L : zL} {st : List Value} {c n kd : Nat} {i : Int32} (hf : tIn h p kd i) (hs : tSh h) (k : ∀ h3, mAs p i.toNatClampNeg x h h3 → tG tt G cd bc bs rt M Q Z f pc L st h3 c n) : tG tt G cd bc bs rt M Q Z f pc L st (tSA h p i.toNatClampNeg x) c n := k _ ⟨tSh_SA hs, tF_tSA _ _ _ _, tN_tSA _ _ _ _, tA_tSA hf.cell _ _⟩
theorem mAs_x (k : mAs p i x h h3) : tA h3 p i = x := by rw [k.2.2.2]; exact if_pos ⟨rfl, rfl⟩
theorem mAs_o {q j : Nat} (k : mAs p i x h h3) (hq : q ≠ p) : tA h3 q j = tA h q j := by rw [k.2.2.2]; exact if_neg (fun z => hq z.1)
theorem mAs_A {q : Nat} (k : mAs p i x h h3) (hq : q ≠ p) : tA h3 q = tA h q := by funext j; exact mAs_o k hq
theorem mAs_P (k : mAs p i x h h3) (hp : 135 ≤ p ∧ p ≤ 139) (P : mP h) : mP h3 := by
  unfold mP
  rw [k.2.1, k.2.2.1, mAs_A k (q := 142) (by omega)]
  exact P
theorem mAs_m (k : mAs p i x h h3) (hp : 135 ≤ p ∧ p ≤ 139) : ms h3 = ms h ∧ mSk h3 = mSk h := by
  unfold ms mEn mSk
  rw [k.2.1, mAs_A k (q := 142) (by omega), mAs_A k (q := 133) (by omega), mAs_A k (q := 134) (by omega)]
  exact ⟨rfl, rfl⟩
theorem mAs_F {w : Nat} (k : mAs p i x h h3) (F : mFt h w) : mFt h3 w := by
  unfold mFt
  rw [k.2.1]
  exact F
theorem mAs_Z (k : mAs p i x h h3) (z : mZp h) : mZp h3 := mZp_k z (by rw [k.2.1]) (by rw [k.2.1])
/-- a clause as it stands in its row -/
noncomputable def mRow (h : zH) (i : Nat) : rCt := (if (tA h 135 i).toNatClampNeg = 0 ∧ (tA h 136 i).toNatClampNeg < 12 then (tA h 136 i).toNatClampNeg else 12 + (tA h 135 i).toNatClampNeg + 100 * (tA h 136 i).toNatClampNeg, (tA h 137 i).toNatClampNeg, (tA h 138 i).toNatClampNeg, (tA h 139 i).toNatClampNeg)
theorem mEn_len : (mEn h).length = (tvI (tF h 111 31)).toNatClampNeg := by unfold mEn; rw [List.length_map, List.length_range]
theorem rB_A {T : Nat → Int32} {n : Nat} {s : rS} : rA (rB T n (rA (rB T n s.1) s).1) (rA (rB T n s.1) s) = rA (rB T n s.1) s := by
  show rA (rB T n (rB T n s.1)) _ = _
  rw [rB_2]
  rfl
end MZ
theorem zl_14 {k : Nat} (hk : k < 4) : (ztx (k + 14)).length ≤ 200 ∧ 0 < (ztx (k + 14)).length := zl_lo (k + 12) (by omega)
theorem rWd_14 {k : Nat} (hk : k < 4) : rWd (k + 12) = ztx (k + 14) := rWd_lo (k + 12) (by omega)
theorem mFw_A {h h2 : zH} {p : Nat} (k : mFw h h2) (hp : 135 ≤ p ∧ p ≤ 139) : tA h2 p = tA h p := k.2.2.1 p (by omega) (by omega) (by omega)
theorem mFt_pos {h : zH} {e : Nat} (k : mFt h e) : 0 < e ∧ e < 100000 := k.2
theorem mSk_0 {h : zH} (d : mD h) (e : mSk h = []) : tvI (tF h 111 32) = 0 := by
  refine Int32.toInt_inj.mp (d.trans ?_)
  rw [e]
  rfl
theorem rA_1 {b : Nat} {s : rS} : (rA b s).1 = b := rfl
theorem rA_A {b v : Nat} {s : rS} : rA v (rA b s) = rA v s := rfl
theorem mIx {a y : Int32} {c : Nat} (ha : 0 ≤ a.toInt ∧ a.toInt ≤ 10) (hy : y.toInt = c) (hc : c ≤ 12) : (12 * a + y).toNatClampNeg = 12 * a.toNatClampNeg + c := by
  have n1 : (12 * a).toInt = 12 * a.toInt := by
    rw [Int32.toInt_mul, show (12 : Int32).toInt = 12 from rfl]
    exact Int.bmod_eq_of_le (by show (-2147483648 : Int) ≤ 12 * a.toInt; omega) (by show 12 * a.toInt < (2147483648 : Int); omega)
  have n2 : (12 * a + y).toInt = 12 * a.toInt + c := by
    rw [Int32.toInt_add, n1, hy]
    exact Int.bmod_eq_of_le (by show (-2147483648 : Int) ≤ 12 * a.toInt + c; omega) (by show 12 * a.toInt + c < (2147483648 : Int); omega)
  rw [zclE, zclE, n2]
  omega
noncomputable def mCo (T : Nat → Int32) (n I : Nat) (r : Nat ⊕ (rS × rCt)) (h2 : zH) : Prop := match r with
  | .inl e => mFt h2 e ∧ mZp h2
  | .inr x => mP h2 ∧ ms h2 = rA (rB T n x.1.1) x.1 ∧ tvI (tF h2 111 32) = 0 ∧ mRow h2 I = x.2
theorem mCo_l {T : Nat → Int32} {n I e : Nat} {r : Nat ⊕ (rS × rCt)} {h2 : zH} (hr : r = .inl e) (F : mFt h2 e) (Z : mZp h2) : mCo T n I r h2 := by
  rw [hr]
  exact ⟨F, Z⟩
theorem mCo_r {T : Nat → Int32} {n I : Nat} {r : Nat ⊕ (rS × rCt)} {h2 : zH} {s : rS} {t : rCt} (hr : r = .inr (s, t)) (p : mP h2) (e : ms h2 = rA (rB T n s.1) s) (d : tvI (tF h2 111 32) = 0) (w : mRow h2 I = t) : mCo T n I r h2 := by
  rw [hr]
  exact ⟨p, e, d, w⟩
theorem y_blanks {G : zG} (hG : G.1 = zProg) (hX : G.2.1 = ztx) {h : zH} {T : Nat → Int32} {n : Nat} (hs : tSh h) {ef : Nat} (hp : mFt h ef) (hT : tA h 132 = T) (hN : mn h = n) (h0 : mZp h) : tC zTt G 203 [.ref 111] h (fun w h2 => w = none ∧ mFr h h2 ∧ mFt h2 ef ∧ mZp h2) := by
  refine tC_in (by rw [hG]; rfl) (fun dp => ?_)
  have g0 := mFr_r hs
  refine tG_loop (zW_mono zTt G dp) (zW_conj zTt G dp) (V := fun pc L st h9 _ _ => pc = 0 ∧ st = [] ∧ ∃ h1, h1 = h9 ∧ mFr h h1 ∧ mFt h1 ef ∧ mZp h1 ∧ L = [some (.ref 111)]) ?_ (⟨rfl, rfl, _, rfl, g0, hp, h0, rfl⟩)
  rintro _ _ _ _ _ _ ⟨rfl, rfl, h1, rfl, g1, z1, h0, rfl⟩
  refine tw_aload rfl rfl ?_
  refine tw_virt0 rfl (g_sign hG hX (g1).1 ((mFr_T g1).trans hT) ((mFr_n g1).trans hN) h0.1) (fun wp737 hp737 p737 => ?_)
  obtain ⟨⟨cp737, rfl, kp737⟩, rfl⟩ := p737
  refine tw_push rfl ?_
  refine tw_ic_ne rfl (fun q738 => ?_) (fun q738 => ?_)
  · try dsimp only [tvI_i, tvJ_j, tvR_r] at q738
    have q738i := zneq (Y := 32) (by decide) q738
    exact tw_vret rfl ⟨rfl, g1, z1, h0⟩
  · try dsimp only [tvI_i, tvJ_j, tvR_r] at q738
    have q738i := zeqi (Y := 32) (by decide) q738
    refine tw_aload rfl rfl ?_
    refine tw_dup rfl ?_
    refine tw_getS rfl (hi_111_28 (g1).1) ?_
    refine tw_push rfl ?_
    refine tw_iadd rfl ?_
    refine tw_put rfl (fun f739 => ?_)
    refine tG_setm f739 (hw_111_28 f739 (g1).1) (fun hf739 ef739 => ?_)
    try dsimp only [tvI_i] at ef739
    have gf739 := mFr_s g1 ef739 (by unfold mFs; omega)
    have zf739 := mFt_s z1 ef739 (by decide)
    have wf739 := (sgm_k kp737 32 (by decide)).mp q738
    have if739 : mZp hf739 := by
      have y := (mpos h0.1).mpr (by rw [((mFr_n g1).trans hN)]; exact wf739.1)
      have a := zj1 h0.1.1 y
      have b := h0
      unfold mZp at b ⊢
      rw [mI_x ef739, mI_o ef739 (by decide), a]
      exact ⟨⟨by omega, by omega⟩, by omega, by omega⟩
    refine tw_goto rfl ?_
    exact tG_cut (zW_mono zTt G dp) (Or.inr ⟨rfl, rfl, _, rfl, gf739, zf739, if739, rfl⟩)
theorem g_clause {G : zG} (hG : G.1 = zProg) (hX : G.2.1 = ztx) {h : zH} {T : Nat → Int32} {n : Nat} (hs : tSh h) (hp : mP h) (hT : tA h 132 = T) (hN : mn h = n) {y : Int32} {c I : Nat} (hy : y.toInt = c) (hc : c ≤ 12) (hI : I = 12 * (tvI (tF h 111 30)).toNatClampNeg + c) (hd9 : tvI (tF h 111 32) = 0) {r : Nat ⊕ (rS × rCt)} (hr0 : rCl T n c (ms h) r) : tC zTt G 224 [.ref 111, .int y] h (fun w h2 => w = none ∧ mFz I h h2 ∧ mCo T n I r h2) := by
  refine tC_in (by rw [hG]; rfl) (fun dp => ?_)
  have g0 : mFz I h h := mFz_r hs
  have hpn : (ms h).1 ≤ n := mPle hp hN
  have hn4 : n ≤ 400 := by have a := mNl hp hN; have b := hp.2.1; omega
  have c09 : (0 : Int32).toInt = 0 := rfl
  have c39 : (3 : Int32).toInt = 3 := rfl
  have c49 : (4 : Int32).toInt = 4 := rfl
  have c129 : (12 : Int32).toInt = 12 := rfl
  refine tw_aload rfl rfl ?_
  refine tw_virt0 rfl (g_blanks hG hX (g0).1 hp ((mFz_T g0).trans hT) ((mFz_n g0).trans hN)) (fun wp740 hp740 p740 => ?_)
  obtain ⟨rfl, gp740, pp740e, sp740, tp740, dp740⟩ := p740
  have gwp740 := mFw_f gp740
  have gzp740 : mFz I h hp740 := mFz_t g0 (mFz_w gwp740)
  have Dp740 : tvI (tF hp740 111 32) = 0 := by rw [dp740]; exact hd9
  have Sp740 : ms hp740 = (rA (rB T n (ms h).1) (ms h)) := sp740
  refine tw_aload rfl rfl ?_
  refine tw_getS rfl (hi_111_28 gzp740.1) ?_
  refine tw_istore rfl ?_
  refine tw_push rfl ?_
  refine tw_istore rfl ?_
  refine tG_loop (zW_mono zTt G dp) (zW_conj zTt G dp) (V := fun pc L st h9 _ _ => pc = 11 ∧ st = [] ∧ hp740 = h9 ∧ ∃ (k : Nat) (x : Int32), x.toInt = k ∧ k ≤ 4 ∧ (∀ i, i < k → ¬ rW T n (rB T n (ms h).1) (rWd (i + 12)) = true) ∧ L = [some (.ref 111), some (.int y), some (.int (tvI (tF hp740 111 28))), some (.int x), none, none]) ?_ (⟨rfl, rfl, rfl, 0, 0, rfl, by decide, fun i hi => absurd hi (Nat.not_lt_zero _), rfl⟩)
  rintro _ _ _ _ _ _ ⟨rfl, rfl, rfl, k, x, hx, hk5, hall, rfl⟩
  refine tw_iload rfl rfl ?_
  refine tw_push rfl ?_
  refine tw_ic_ge rfl (fun q741 => ?_) (fun q741 => ?_)
  · try dsimp only [tvI_i, tvJ_j, tvR_r] at q741
    refine tw_iload rfl rfl ?_
    refine tw_push rfl ?_
    refine tw_ic_ne rfl (fun q742 => ?_) (fun q742 => ?_)
    · try dsimp only [tvI_i, tvJ_j, tvR_r] at q742
      have q742i := zneq (Y := 4) (by decide) q742
      exfalso
      have z1 := q741
      have z2 := q742i
      omega
    · try dsimp only [tvI_i, tvJ_j, tvR_r] at q742
      have q742i := zeqi (Y := 4) (by decide) q742
      refine tw_aload rfl rfl ?_
      refine tw_push rfl ?_
      refine tw_iload rfl rfl ?_
      refine tw_virt2 rfl (g_fails hG hX (gzp740).1 pp740e ((mFz_T gzp740).trans hT) ((mFz_n gzp740).trans hN) (w := 0) rfl (by decide) (mPl pp740e) (by have := mPle pp740e ((mFz_n gzp740).trans hN); have := mNl pp740e ((mFz_n gzp740).trans hN); have := pp740e.2.1; omega)) (fun wp743 hp743 p743 => ?_)
      obtain ⟨rfl, gp743, Fp743, ip743, jp743⟩ := p743
      have gwp743 := mFw_f gp743
      have gzp743 : mFz I h hp743 := mFz_t gzp740 (mFz_w gwp743)
      have Zp743 : mZp hp743 := mZp_k (mZp_p pp740e) ip743 jp743
      rw [Sp740, rA_1] at Fp743
      have hk : k = 4 := by have z := q742i; omega
      have hr := rCl_0 hr0 (fun j h1 h2 => by have z := hall (j - 12) (by omega); rw [show j - 12 + 12 = j by omega] at z; exact z)
      exact tw_vret rfl ⟨rfl, gzp743, mCo_l hr Fp743 Zp743⟩
  · try dsimp only [tvI_i, tvJ_j, tvR_r] at q741
    refine tw_aload rfl rfl ?_
    refine tw_iload rfl rfl ?_
    refine tw_stat1 rfl (g_thingName hG (k := k) hx (by have z := q741; omega)) (fun wp744 hp744 p744 => ?_)
    obtain ⟨rfl, rfl⟩ := p744
    refine tw_virt1 rfl (g_stands hG hX (gzp740).1 ((mFz_T gzp740).trans hT) ((mFz_n gzp740).trans hN) (q := (k + 14)) (zl_14 (by have z := q741; omega)).1 ⟨pp740e.2.1.1, by have := pp740e.2.1; omega⟩ ⟨by have := pp740e.2.1; omega, pp740e.2.1.2.2⟩) (fun w9 h9 p745 => ?_)
    obtain ⟨⟨p745, rfl⟩ | ⟨p745, rfl⟩, rfl⟩ := p745
    · try dsimp only [tvI_i, tvJ_j, tvR_r] at p745
      refine tw_if_ne rfl (fun _ => ?_) (fun z => absurd z (by decide))
      refine tw_iload rfl rfl ?_
      refine tw_push rfl ?_
      refine tw_ic_ne rfl (fun q746 => ?_) (fun q746 => ?_)
      · try dsimp only [tvI_i, tvJ_j, tvR_r] at q746
        have q746i := zneq (Y := 4) (by decide) q746
        refine tw_iload rfl rfl ?_
        refine tw_push rfl ?_
        refine tw_ic_ne rfl (fun q747 => ?_) (fun q747 => ?_)
        · try dsimp only [tvI_i, tvJ_j, tvR_r] at q747
          have q747i := zneq (Y := 12) (by decide) q747
          refine tw_aload rfl rfl ?_
          refine tw_dup rfl ?_
          refine tw_getS rfl (hi_111_28 (gzp740).1) ?_
          refine tw_iload rfl rfl ?_
          have hk4 : k < 4 := by have z := q741; omega
          refine tw_stat1 rfl (g_thingName hG (k := k) hx hk4) (fun wp748 hp748 p748 => ?_)
          obtain ⟨rfl, rfl⟩ := p748
          refine tw_tlen rfl ?_
          refine tw_iadd rfl ?_
          refine tw_put rfl (fun f749 => ?_)
          refine tG_setm f749 (hw_111_28 f749 (gzp740).1) (fun hf749 ef749 => ?_)
          try dsimp only [tvI_i] at ef749
          have gf749 : mFz I h hf749 := mFz_s gzp740 ef749 (Or.inl (by unfold mFs; omega))
          have hk4 : k < 4 := by have z := q741; omega
          have hw : rW T n (rB T n (ms h).1) (rWd (k + 12)) = true := by have z := p745; rw [Sp740, rA_1] at z; rw [rWd_14 hk4]; exact z
          have hcn : c ≠ 12 := by have z := q747i; omega
          have K1 := rCl_g hr0 (k := k + 12) (by omega) (by omega) hw hcn
          have hre : rE T n (rB T n (ms h).1) = (rB T n (ms h).1) + (ztx (k + 14)).length := by rw [rW_e hw, rWd_14 hk4]
          have hre2 := rE_le (T := T) (rB_le (T := T) hpn)
          have hln : (Int32.ofNat (G.2.1 (k + 14)).length).toInt = ((ztx (k + 14)).length : Int) := by rw [hX]; exact zofI (by have := (zl_14 hk4).1; omega)
          obtain ⟨pf749, sf749, tf749⟩ := mTo pp740e ((mFz_n gzp740).trans hN) ef749 (v := (rB T n (ms h).1) + (ztx (k + 14)).length) (zadN (a := (rB T n (ms h).1)) (by rw [mPl pp740e, Sp740, rA_1]) hln (by omega) (by have := (zl_14 hk4).1; omega)) (by omega)
          have Sf749 : ms hf749 = (rA (rE T n (rB T n (ms h).1)) (ms h)) := by rw [sf749, Sp740, ← hre, rA_A]
          have Df749 : tvI (tF hf749 111 32) = 0 := by rw [mI_o ef749 (by decide)]; exact Dp740
          have gwf749 : tA hf749 = tA hp740 := ef749.2.2.2.1
          refine tw_push rfl ?_
          refine tw_aload rfl rfl ?_
          refine tw_getS rfl (hi_111_30 (gf749).1) ?_
          refine tw_imul rfl ?_
          refine tw_iload rfl rfl ?_
          refine tw_iadd rfl ?_
          refine tw_istore rfl ?_
          refine tw_aload rfl rfl ?_
          refine tw_getS rfl (hs_111_38 (gf749).1) ?_
          refine tw_iload rfl rfl ?_
          refine tw_iload rfl rfl ?_
          refine tw_iast rfl (fun f750 => ?_)
          have hI9 : (12 * tvI (tF hf749 111 30) + y).toNatClampNeg = I := by rw [mIx (pf749.2.2.2.2.2.1) hy hc, show tF hf749 111 30 = tF h 111 30 from mFz_30 gf749, ← hI]
          refine tG_ast f750 (gf749).1 (fun hf750 af750 => ?_)
          try dsimp only [tvI_i, tvR_r] at af750
          rw [hI9] at af750
          have gf750 : mFz I h hf750 := mFz_a gf749 af750 (by decide) (Nat.le_refl _)
          have pf750 := mAs_P af750 (by decide) pf749
          have Sf750 : ms hf750 = (rA (rE T n (rB T n (ms h).1)) (ms h)) := (mAs_m af750 (by decide)).1.trans Sf749
          have Df750 : tvI (tF hf750 111 32) = 0 := by rw [af750.2.1]; exact Df749
          refine tw_aload rfl rfl ?_
          refine tw_getS rfl (hs_111_39 (gf750).1) ?_
          refine tw_iload rfl rfl ?_
          refine tw_push rfl ?_
          refine tw_iast rfl (fun f751 => ?_)
          refine tG_ast f751 (gf750).1 (fun hf751 af751 => ?_)
          try dsimp only [tvI_i, tvR_r] at af751
          rw [hI9] at af751
          have gf751 : mFz I h hf751 := mFz_a gf750 af751 (by decide) (Nat.le_refl _)
          have pf751 := mAs_P af751 (by decide) pf750
          have Sf751 : ms hf751 = (rA (rE T n (rB T n (ms h).1)) (ms h)) := (mAs_m af751 (by decide)).1.trans Sf750
          have Df751 : tvI (tF hf751 111 32) = 0 := by rw [af751.2.1]; exact Df750
          refine tw_iload rfl rfl ?_
          refine tw_if_ne rfl (fun q752 => ?_) (fun q752 => ?_)
          · try dsimp only [tvI_i, tvJ_j, tvR_r] at q752
            have q752i := zneq (Y := 0) (by decide) q752
            refine tw_aload rfl rfl ?_
            refine tw_getS rfl (hs_111_40 (gf751).1) ?_
            refine tw_iload rfl rfl ?_
            refine tw_aload rfl rfl ?_
            refine tw_getS rfl (hi_111_31 (gf751).1) ?_
            refine tw_iast rfl (fun f753 => ?_)
            have Lf753 : (tvI (tF hf751 111 31)).toNatClampNeg = (rA (rE T n (rB T n (ms h).1)) (ms h)).2.2.length := by rw [← mEn_len]; exact congrArg (fun z : rS => z.2.2.length) Sf751
            have K2 : rCl2 T n (k + 12) (k + 12) (rA (rE T n (rB T n (ms h).1)) (ms h)) r := rCl1_n K1 (by have z := q752i; omega)
            refine tG_ast f753 (gf751).1 (fun hf753 af753 => ?_)
            try dsimp only [tvI_i, tvR_r] at af753
            rw [hI9] at af753
            have gf753 : mFz I h hf753 := mFz_a gf751 af753 (by decide) (Nat.le_refl _)
            have pf753 := mAs_P af753 (by decide) pf751
            have Sf753 : ms hf753 = (rA (rE T n (rB T n (ms h).1)) (ms h)) := (mAs_m af753 (by decide)).1.trans Sf751
            have Df753 : tvI (tF hf753 111 32) = 0 := by rw [af753.2.1]; exact Df751
            refine tw_iload rfl rfl ?_
            refine tw_push rfl ?_
            refine tw_ic_eq rfl (fun q754 => ?_) (fun q754 => ?_)
            · try dsimp only [tvI_i, tvJ_j, tvR_r] at q754
              have q754i := zeqi (Y := 3) (by decide) q754
              refine tw_aload rfl rfl ?_
              refine tw_getS rfl (hs_111_41 (gf753).1) ?_
              refine tw_iload rfl rfl ?_
              refine tw_aload rfl rfl ?_
              refine tw_getS rfl (hi_111_31 (gf753).1) ?_
              refine tw_iast rfl (fun f755 => ?_)
              have Lf755 : (tvI (tF hf753 111 31)).toNatClampNeg = (rA (rE T n (rB T n (ms h).1)) (ms h)).2.2.length := by rw [← mEn_len]; exact congrArg (fun z : rS => z.2.2.length) Sf753
              refine tG_ast f755 (gf753).1 (fun hf755 af755 => ?_)
              try dsimp only [tvI_i, tvR_r] at af755
              rw [hI9] at af755
              have gf755 : mFz I h hf755 := mFz_a gf753 af755 (by decide) (Nat.le_refl _)
              have pf755 := mAs_P af755 (by decide) pf753
              have Sf755 : ms hf755 = (rA (rE T n (rB T n (ms h).1)) (ms h)) := (mAs_m af755 (by decide)).1.trans Sf753
              have Df755 : tvI (tF hf755 111 32) = 0 := by rw [af755.2.1]; exact Df753
              refine tw_aload rfl rfl ?_
              obtain ⟨s2, hs2⟩ : ∃ s2, (rA (rE T n (rB T n (ms h).1)) (ms h)) = s2 := ⟨_, rfl⟩
              have K3 := rCl2_15 K2 (by have z := q754i; omega)
              rw [hs2] at K3
              have sm2 := Sf755.trans hs2
              refine tw_virt0 rfl (g_blanks hG hX (gf755).1 pf755 ((mFz_T gf755).trans hT) ((mFz_n gf755).trans hN)) (fun wp756 hp756 p756 => ?_)
              obtain ⟨rfl, gp756, pp756e, sp756, tp756, dp756⟩ := p756
              have gwp756 := mFw_f gp756
              have gzp756 : mFz I h hp756 := mFz_t gf755 (mFz_w gwp756)
              have Dp756 : tvI (tF hp756 111 32) = 0 := by rw [dp756]; exact Df755
              have Sp756 : ms hp756 = (rA (rB T n s2.1) s2) := (by rw [sp756, sm2])
              refine tw_aload rfl rfl ?_
              refine tw_push rfl ?_
              refine tw_virt1 rfl (g_stands hG hX (gzp756).1 ((mFz_T gzp756).trans hT) ((mFz_n gzp756).trans hN) (q := 21) (by decide +kernel) ⟨pp756e.2.1.1, by have := pp756e.2.1; omega⟩ ⟨by have := pp756e.2.1; omega, pp756e.2.1.2.2⟩) (fun w9 h9 p757 => ?_)
              obtain ⟨⟨p757, rfl⟩ | ⟨p757, rfl⟩, rfl⟩ := p757
              · try dsimp only [tvI_i, tvJ_j, tvR_r] at p757
                refine tw_istore rfl ?_
                refine tw_iload rfl rfl ?_
                refine tw_push rfl ?_
                refine tw_ic_ne rfl (fun q758 => ?_) (fun q758 => ?_)
                · try dsimp only [tvI_i, tvJ_j, tvR_r] at q758
                  have q758i := zneq (Y := 3) (by decide) q758
                  exact absurd q754 q758
                · try dsimp only [tvI_i, tvJ_j, tvR_r] at q758
                  have q758i := zeqi (Y := 3) (by decide) q758
                  refine tw_iload rfl rfl ?_
                  refine tw_if_ne rfl (fun _ => ?_) (fun z => absurd z (by decide))
                  refine tw_iload rfl rfl ?_
                  refine tw_if_eq rfl (fun z => absurd z (by decide)) (fun _ => ?_)
                  refine tw_aload rfl rfl ?_
                  refine tw_getS rfl (hi_111_29 gzp756.1) ?_
                  refine tw_if_ne rfl (fun q759 => ?_) (fun q759 => ?_)
                  · try dsimp only [tvI_i, tvJ_j, tvR_r] at q759
                    have q759i := zneq (Y := 0) (by decide) q759
                    exact absurd (mP_0 pp756e) q759
                  · try dsimp only [tvI_i, tvJ_j, tvR_r] at q759
                    have q759i := zeqi (Y := 0) (by decide) q759
                    refine tw_aload rfl rfl ?_
                    refine tw_dup rfl ?_
                    refine tw_getS rfl (hi_111_28 gzp756.1) ?_
                    refine tw_push rfl ?_
                    refine tw_iadd rfl ?_
                    refine tw_put rfl (fun f760 => ?_)
                    have hw16 : rW T n (rB T n s2.1) (rWd 16) = true := by have z := p757; rw [Sp756, rA_1] at z; exact z
                    refine tG_setm f760 (hw_111_28 f760 (gzp756).1) (fun hf760 ef760 => ?_)
                    try dsimp only [tvI_i] at ef760
                    have gf760 : mFz I h hf760 := mFz_s gzp756 ef760 (Or.inl (by unfold mFs; omega))
                    have h9w : rE T n (rB T n s2.1) = rB T n s2.1 + 2 := by rw [rW_e hw16, wlen_k.2.2.2]
                    have hpB : rB T n s2.1 ≤ n := by have z := mPle pp756e ((mFz_n gzp756).trans hN); rw [Sp756, rA_1] at z; exact z
                    have hr9 := rE_le (T := T) hpB
                    rw [h9w] at hr9
                    obtain ⟨pf760, sf760, tf760⟩ := mTo pp756e ((mFz_n gzp756).trans hN) ef760 (v := rB T n s2.1 + 2) (zadN (a := rB T n s2.1) (b := 2) (by rw [mPl pp756e, Sp756, rA_1]) rfl (by omega) (by decide)) (by omega)
                    have Sf760 : ms hf760 = (rA (rB T n s2.1 + 2) s2) := by rw [sf760, Sp756, rA_A]
                    have Df760 : tvI (tF hf760 111 32) = 0 := by rw [mI_o ef760 (by decide)]; exact Dp756
                    have gwf760 : tA hf760 = tA hp756 := ef760.2.2.2.1
                    refine tw_aload rfl rfl ?_
                    refine tw_push rfl ?_
                    refine tw_virt1 rfl (g_readsR hG hX (gf760).1 pf760 ((mFz_T gf760).trans hT) ((mFz_n gf760).trans hN) (x := 0) (tst := true) (by decide) (by decide) ⟨fun _ => rfl, fun _ => rfl⟩ Df760) (fun w9 hp761 p761 => ?_)
                    obtain ⟨rfl, gp761, ⟨pp761e, dp761, mp761⟩ | ⟨ep761, Fp761, Zp761, mp761⟩⟩ := p761
                    · have gwp761 := id gp761
                      have gzp761 : mFz I h hp761 := mFz_t gf760 (mFz_w gwp761)
                      have m9 := mp761
                      rw [Sf760, show stN 0 = 0 from rfl] at m9
                      obtain ⟨hS3, s3, hs3, hr⟩ := rCl3_s K3 hw16 m9
                      have Dp761 := mSk_0 dp761 hS3
                      refine tw_aload rfl rfl ?_
                      refine tw_getS rfl (hs_111_42 gzp761.1) ?_
                      refine tw_iload rfl rfl ?_
                      refine tw_aload rfl rfl ?_
                      refine tw_getS rfl (hi_111_31 gzp761.1) ?_
                      refine tw_iast rfl (fun f762 => ?_)
                      have Lf762 : (tvI (tF hp761 111 31)).toNatClampNeg = (rA (rB T n s3.1) s3).2.2.length := by rw [← mEn_len]; exact congrArg (fun z : rS => z.2.2.length) hs3
                      refine tG_ast f762 (gzp761).1 (fun hf762 af762 => ?_)
                      try dsimp only [tvI_i, tvR_r] at af762
                      rw [hI9] at af762
                      have gf762 : mFz I h hf762 := mFz_a gzp761 af762 (by decide) (Nat.le_refl _)
                      have pf762 := mAs_P af762 (by decide) pp761e
                      have Sf762 : ms hf762 = (rA (rB T n s3.1) s3) := (mAs_m af762 (by decide)).1.trans hs3
                      have Df762 : tvI (tF hf762 111 32) = 0 := by rw [af762.2.1]; exact Dp761
                      have c135 : tA hf762 135 I = x := ((congrFun ((mAs_A af762 (q := 135) (by decide)).trans ((mFw_A gwp761 (p := 135) (by decide)).trans ((congrFun gwf760 135).trans ((mFw_A gwp756 (p := 135) (by decide)).trans ((mAs_A af755 (q := 135) (by decide)).trans ((mAs_A af753 (q := 135) (by decide)).trans (mAs_A af751 (q := 135) (by decide)))))))) I).trans (mAs_x af750))
                      have c137 : (tA hf762 137 I).toNatClampNeg = (rA (rE T n (rB T n (ms h).1)) (ms h)).2.2.length := by rw [((congrFun ((mAs_A af762 (q := 137) (by decide)).trans ((mFw_A gwp761 (p := 137) (by decide)).trans ((congrFun gwf760 137).trans ((mFw_A gwp756 (p := 137) (by decide)).trans (mAs_A af755 (q := 137) (by decide)))))) I).trans (mAs_x af753))]; exact Lf753
                      have c138 : (tA hf762 138 I).toNatClampNeg = (rA (rE T n (rB T n (ms h).1)) (ms h)).2.2.length := by rw [((congrFun ((mAs_A af762 (q := 138) (by decide)).trans ((mFw_A gwp761 (p := 138) (by decide)).trans ((congrFun gwf760 138).trans (mFw_A gwp756 (p := 138) (by decide))))) I).trans (mAs_x af755))]; exact Lf755
                      have c139 : (tA hf762 139 I).toNatClampNeg = (rA (rB T n s3.1) s3).2.2.length := by rw [(mAs_x af762)]; exact Lf762
                      have c136 : (tA hf762 136 I).toNatClampNeg = 0 := by rw [((congrFun ((mAs_A af762 (q := 136) (by decide)).trans ((mFw_A gwp761 (p := 136) (by decide)).trans ((congrFun gwf760 136).trans ((mFw_A gwp756 (p := 136) (by decide)).trans ((mAs_A af755 (q := 136) (by decide)).trans (mAs_A af753 (q := 136) (by decide))))))) I).trans (mAs_x af751))]; rfl
                      have hrow : mRow hf762 I = ((k + 12), (rA (rE T n (rB T n (ms h).1)) (ms h)).2.2.length, (rA (rE T n (rB T n (ms h).1)) (ms h)).2.2.length, (rA (rB T n s3.1) s3).2.2.length) := by
                        unfold mRow
                        rw [c135, c137, c138, c139, zof_cl hx, c136, if_neg (fun y => by have z := q752i; have y := y.1; omega), Nat.mul_zero, Nat.add_zero, Nat.add_comm]
                      rw [hs2] at hrow
                      exact tw_vret rfl ⟨rfl, gf762, mCo_r hr pf762 Sf762 Df762 hrow⟩
                    · have gwp761 := id gp761
                      have gzp761 : mFz I h hp761 := mFz_t gf760 (mFz_w gwp761)
                      have m9 := mp761
                      rw [Sf760, show stN 0 = 0 from rfl] at m9
                      have hr := rCl3_e K3 hw16 m9
                      refine tw_aload rfl rfl ?_
                      refine tw_getS rfl (hs_111_42 gzp761.1) ?_
                      refine tw_iload rfl rfl ?_
                      refine tw_aload rfl rfl ?_
                      refine tw_getS rfl (hi_111_31 gzp761.1) ?_
                      refine tw_iast rfl (fun f763 => ?_)
                      refine tG_ast f763 (gzp761).1 (fun hf763 af763 => ?_)
                      try dsimp only [tvI_i, tvR_r] at af763
                      rw [hI9] at af763
                      have gf763 : mFz I h hf763 := mFz_a gzp761 af763 (by decide) (Nat.le_refl _)
                      have Ff763 := mAs_F af763 Fp761
                      have Zf763 := mAs_Z af763 Zp761
                      exact tw_vret rfl ⟨rfl, gf763, mCo_l hr Ff763 Zf763⟩
              · try dsimp only [tvI_i, tvJ_j, tvR_r] at p757
                refine tw_istore rfl ?_
                refine tw_iload rfl rfl ?_
                refine tw_push rfl ?_
                refine tw_ic_ne rfl (fun q764 => ?_) (fun q764 => ?_)
                · try dsimp only [tvI_i, tvJ_j, tvR_r] at q764
                  have q764i := zneq (Y := 3) (by decide) q764
                  exact absurd q754 q764
                · try dsimp only [tvI_i, tvJ_j, tvR_r] at q764
                  have q764i := zeqi (Y := 3) (by decide) q764
                  refine tw_iload rfl rfl ?_
                  refine tw_if_ne rfl (fun z => absurd z (by decide)) (fun _ => ?_)
                  refine tw_aload rfl rfl ?_
                  refine tw_push rfl ?_
                  refine tw_aload rfl rfl ?_
                  refine tw_getS rfl (hi_111_28 gzp756.1) ?_
                  refine tw_virt2 rfl (g_fails hG hX (gzp756).1 pp756e ((mFz_T gzp756).trans hT) ((mFz_n gzp756).trans hN) (w := 0) rfl (by decide) (mPl pp756e) (by have := mPle pp756e ((mFz_n gzp756).trans hN); have := mNl pp756e ((mFz_n gzp756).trans hN); have := pp756e.2.1; omega)) (fun wp765 hp765 p765 => ?_)
                  obtain ⟨rfl, gp765, Fp765, ip765, jp765⟩ := p765
                  have gwp765 := mFw_f gp765
                  have gzp765 : mFz I h hp765 := mFz_t gzp756 (mFz_w gwp765)
                  have Zp765 : mZp hp765 := mZp_k (mZp_p pp756e) ip765 jp765
                  rw [Sp756, rA_1] at Fp765
                  refine tw_iload rfl rfl ?_
                  refine tw_if_eq rfl (fun _ => ?_) (fun z => absurd z (by decide))
                  refine tw_aload rfl rfl ?_
                  refine tw_getS rfl (hs_111_42 gzp765.1) ?_
                  refine tw_iload rfl rfl ?_
                  refine tw_aload rfl rfl ?_
                  refine tw_getS rfl (hi_111_31 gzp765.1) ?_
                  refine tw_iast rfl (fun f766 => ?_)
                  refine tG_ast f766 (gzp765).1 (fun hf766 af766 => ?_)
                  try dsimp only [tvI_i, tvR_r] at af766
                  rw [hI9] at af766
                  have gf766 : mFz I h hf766 := mFz_a gzp765 af766 (by decide) (Nat.le_refl _)
                  have Ff766 := mAs_F af766 Fp765
                  have Zf766 := mAs_Z af766 Zp765
                  have hw16 : ¬ rW T n (rB T n s2.1) (rWd 16) = true := by have z := p757; rw [Sp756, rA_1] at z; exact z
                  have hr := rCl3_1 K3 hw16 (by have z := q764i; omega)
                  exact tw_vret rfl ⟨rfl, gf766, mCo_l hr Ff766 Zf766⟩
            · try dsimp only [tvI_i, tvJ_j, tvR_r] at q754
              have q754i := zneq (Y := 3) (by decide) q754
              refine tw_aload rfl rfl ?_
              refine tw_getS rfl (hi_111_29 (gf753).1) ?_
              refine tw_if_ne rfl (fun q767 => ?_) (fun q767 => ?_)
              · try dsimp only [tvI_i, tvJ_j, tvR_r] at q767
                have q767i := zneq (Y := 0) (by decide) q767
                exact absurd (mP_0 pf753) q767
              · try dsimp only [tvI_i, tvJ_j, tvR_r] at q767
                have q767i := zeqi (Y := 0) (by decide) q767
                refine tw_aload rfl rfl ?_
                refine tw_push rfl ?_
                refine tw_virt1 rfl (g_readsR hG hX (gf753).1 pf753 ((mFz_T gf753).trans hT) ((mFz_n gf753).trans hN) (x := 1) (tst := false) (by decide) (by decide) ⟨fun z => absurd z (by decide), fun z => absurd z (by decide)⟩ Df753) (fun w9 hp768 p768 => ?_)
                obtain ⟨rfl, gp768, ⟨pp768e, dp768, mp768⟩ | ⟨ep768, Fp768, Zp768, mp768⟩⟩ := p768
                · have gwp768 := id gp768
                  have gzp768 : mFz I h hp768 := mFz_t gf753 (mFz_w gwp768)
                  have m9 := mp768
                  rw [Sf753, show stN 1 = 1 from rfl] at m9
                  obtain ⟨hS, s2, hs2, K3⟩ := rCl2_s K2 (by have z := q754i; omega) m9
                  have Dp768 := mSk_0 dp768 hS
                  refine tw_aload rfl rfl ?_
                  refine tw_getS rfl (hs_111_41 gzp768.1) ?_
                  refine tw_iload rfl rfl ?_
                  refine tw_aload rfl rfl ?_
                  refine tw_getS rfl (hi_111_31 gzp768.1) ?_
                  refine tw_iast rfl (fun f769 => ?_)
                  have Lf769 : (tvI (tF hp768 111 31)).toNatClampNeg = (rA (rB T n s2.1) s2).2.2.length := by rw [← mEn_len]; exact congrArg (fun z : rS => z.2.2.length) hs2
                  refine tG_ast f769 (gzp768).1 (fun hf769 af769 => ?_)
                  try dsimp only [tvI_i, tvR_r] at af769
                  rw [hI9] at af769
                  have gf769 : mFz I h hf769 := mFz_a gzp768 af769 (by decide) (Nat.le_refl _)
                  have pf769 := mAs_P af769 (by decide) pp768e
                  have Sf769 : ms hf769 = (rA (rB T n s2.1) s2) := (mAs_m af769 (by decide)).1.trans hs2
                  have Df769 : tvI (tF hf769 111 32) = 0 := by rw [af769.2.1]; exact Dp768
                  refine tw_aload rfl rfl ?_
                  refine tw_virt0 rfl (g_blanks hG hX (gf769).1 pf769 ((mFz_T gf769).trans hT) ((mFz_n gf769).trans hN)) (fun wp770 hp770 p770 => ?_)
                  obtain ⟨rfl, gp770, pp770e, sp770, tp770, dp770⟩ := p770
                  have gwp770 := mFw_f gp770
                  have gzp770 : mFz I h hp770 := mFz_t gf769 (mFz_w gwp770)
                  have Dp770 : tvI (tF hp770 111 32) = 0 := by rw [dp770]; exact Df769
                  have Sp770 : ms hp770 = (rA (rB T n s2.1) s2) := (by rw [sp770, Sf769]; exact rB_A)
                  refine tw_aload rfl rfl ?_
                  refine tw_push rfl ?_
                  refine tw_virt1 rfl (g_stands hG hX (gzp770).1 ((mFz_T gzp770).trans hT) ((mFz_n gzp770).trans hN) (q := 21) (by decide +kernel) ⟨pp770e.2.1.1, by have := pp770e.2.1; omega⟩ ⟨by have := pp770e.2.1; omega, pp770e.2.1.2.2⟩) (fun w9 h9 p771 => ?_)
                  obtain ⟨⟨p771, rfl⟩ | ⟨p771, rfl⟩, rfl⟩ := p771
                  · try dsimp only [tvI_i, tvJ_j, tvR_r] at p771
                    refine tw_istore rfl ?_
                    refine tw_iload rfl rfl ?_
                    refine tw_push rfl ?_
                    refine tw_ic_ne rfl (fun q772 => ?_) (fun q772 => ?_)
                    · try dsimp only [tvI_i, tvJ_j, tvR_r] at q772
                      have q772i := zneq (Y := 3) (by decide) q772
                      refine tw_iload rfl rfl ?_
                      refine tw_if_eq rfl (fun z => absurd z (by decide)) (fun _ => ?_)
                      refine tw_aload rfl rfl ?_
                      refine tw_getS rfl (hi_111_29 gzp770.1) ?_
                      refine tw_if_ne rfl (fun q773 => ?_) (fun q773 => ?_)
                      · try dsimp only [tvI_i, tvJ_j, tvR_r] at q773
                        have q773i := zneq (Y := 0) (by decide) q773
                        exact absurd (mP_0 pp770e) q773
                      · try dsimp only [tvI_i, tvJ_j, tvR_r] at q773
                        have q773i := zeqi (Y := 0) (by decide) q773
                        refine tw_aload rfl rfl ?_
                        refine tw_dup rfl ?_
                        refine tw_getS rfl (hi_111_28 gzp770.1) ?_
                        refine tw_push rfl ?_
                        refine tw_iadd rfl ?_
                        refine tw_put rfl (fun f774 => ?_)
                        have hw16 : rW T n (rB T n s2.1) (rWd 16) = true := by have z := p771; rw [Sp770, rA_1] at z; exact z
                        refine tG_setm f774 (hw_111_28 f774 (gzp770).1) (fun hf774 ef774 => ?_)
                        try dsimp only [tvI_i] at ef774
                        have gf774 : mFz I h hf774 := mFz_s gzp770 ef774 (Or.inl (by unfold mFs; omega))
                        have h9w : rE T n (rB T n s2.1) = rB T n s2.1 + 2 := by rw [rW_e hw16, wlen_k.2.2.2]
                        have hpB : rB T n s2.1 ≤ n := by have z := mPle pp770e ((mFz_n gzp770).trans hN); rw [Sp770, rA_1] at z; exact z
                        have hr9 := rE_le (T := T) hpB
                        rw [h9w] at hr9
                        obtain ⟨pf774, sf774, tf774⟩ := mTo pp770e ((mFz_n gzp770).trans hN) ef774 (v := rB T n s2.1 + 2) (zadN (a := rB T n s2.1) (b := 2) (by rw [mPl pp770e, Sp770, rA_1]) rfl (by omega) (by decide)) (by omega)
                        have Sf774 : ms hf774 = (rA (rB T n s2.1 + 2) s2) := by rw [sf774, Sp770, rA_A]
                        have Df774 : tvI (tF hf774 111 32) = 0 := by rw [mI_o ef774 (by decide)]; exact Dp770
                        have gwf774 : tA hf774 = tA hp770 := ef774.2.2.2.1
                        refine tw_aload rfl rfl ?_
                        refine tw_push rfl ?_
                        refine tw_virt1 rfl (g_readsR hG hX (gf774).1 pf774 ((mFz_T gf774).trans hT) ((mFz_n gf774).trans hN) (x := 0) (tst := true) (by decide) (by decide) ⟨fun _ => rfl, fun _ => rfl⟩ Df774) (fun w9 hp775 p775 => ?_)
                        obtain ⟨rfl, gp775, ⟨pp775e, dp775, mp775⟩ | ⟨ep775, Fp775, Zp775, mp775⟩⟩ := p775
                        · have gwp775 := id gp775
                          have gzp775 : mFz I h hp775 := mFz_t gf774 (mFz_w gwp775)
                          have m9 := mp775
                          rw [Sf774, show stN 0 = 0 from rfl] at m9
                          obtain ⟨hS3, s3, hs3, hr⟩ := rCl3_s K3 hw16 m9
                          have Dp775 := mSk_0 dp775 hS3
                          refine tw_aload rfl rfl ?_
                          refine tw_getS rfl (hs_111_42 gzp775.1) ?_
                          refine tw_iload rfl rfl ?_
                          refine tw_aload rfl rfl ?_
                          refine tw_getS rfl (hi_111_31 gzp775.1) ?_
                          refine tw_iast rfl (fun f776 => ?_)
                          have Lf776 : (tvI (tF hp775 111 31)).toNatClampNeg = (rA (rB T n s3.1) s3).2.2.length := by rw [← mEn_len]; exact congrArg (fun z : rS => z.2.2.length) hs3
                          refine tG_ast f776 (gzp775).1 (fun hf776 af776 => ?_)
                          try dsimp only [tvI_i, tvR_r] at af776
                          rw [hI9] at af776
                          have gf776 : mFz I h hf776 := mFz_a gzp775 af776 (by decide) (Nat.le_refl _)
                          have pf776 := mAs_P af776 (by decide) pp775e
                          have Sf776 : ms hf776 = (rA (rB T n s3.1) s3) := (mAs_m af776 (by decide)).1.trans hs3
                          have Df776 : tvI (tF hf776 111 32) = 0 := by rw [af776.2.1]; exact Dp775
                          have c135 : tA hf776 135 I = x := ((congrFun ((mAs_A af776 (q := 135) (by decide)).trans ((mFw_A gwp775 (p := 135) (by decide)).trans ((congrFun gwf774 135).trans ((mFw_A gwp770 (p := 135) (by decide)).trans ((mAs_A af769 (q := 135) (by decide)).trans ((mFw_A gwp768 (p := 135) (by decide)).trans ((mAs_A af753 (q := 135) (by decide)).trans (mAs_A af751 (q := 135) (by decide))))))))) I).trans (mAs_x af750))
                          have c137 : (tA hf776 137 I).toNatClampNeg = (rA (rE T n (rB T n (ms h).1)) (ms h)).2.2.length := by rw [((congrFun ((mAs_A af776 (q := 137) (by decide)).trans ((mFw_A gwp775 (p := 137) (by decide)).trans ((congrFun gwf774 137).trans ((mFw_A gwp770 (p := 137) (by decide)).trans ((mAs_A af769 (q := 137) (by decide)).trans (mFw_A gwp768 (p := 137) (by decide))))))) I).trans (mAs_x af753))]; exact Lf753
                          have c138 : (tA hf776 138 I).toNatClampNeg = (rA (rB T n s2.1) s2).2.2.length := by rw [((congrFun ((mAs_A af776 (q := 138) (by decide)).trans ((mFw_A gwp775 (p := 138) (by decide)).trans ((congrFun gwf774 138).trans (mFw_A gwp770 (p := 138) (by decide))))) I).trans (mAs_x af769))]; exact Lf769
                          have c139 : (tA hf776 139 I).toNatClampNeg = (rA (rB T n s3.1) s3).2.2.length := by rw [(mAs_x af776)]; exact Lf776
                          have c136 : (tA hf776 136 I).toNatClampNeg = 0 := by rw [((congrFun ((mAs_A af776 (q := 136) (by decide)).trans ((mFw_A gwp775 (p := 136) (by decide)).trans ((congrFun gwf774 136).trans ((mFw_A gwp770 (p := 136) (by decide)).trans ((mAs_A af769 (q := 136) (by decide)).trans ((mFw_A gwp768 (p := 136) (by decide)).trans (mAs_A af753 (q := 136) (by decide)))))))) I).trans (mAs_x af751))]; rfl
                          have hrow : mRow hf776 I = ((k + 12), (rA (rE T n (rB T n (ms h).1)) (ms h)).2.2.length, (rA (rB T n s2.1) s2).2.2.length, (rA (rB T n s3.1) s3).2.2.length) := by
                            unfold mRow
                            rw [c135, c137, c138, c139, zof_cl hx, c136, if_neg (fun y => by have z := q752i; have y := y.1; omega), Nat.mul_zero, Nat.add_zero, Nat.add_comm]
                          exact tw_vret rfl ⟨rfl, gf776, mCo_r hr pf776 Sf776 Df776 hrow⟩
                        · have gwp775 := id gp775
                          have gzp775 : mFz I h hp775 := mFz_t gf774 (mFz_w gwp775)
                          have m9 := mp775
                          rw [Sf774, show stN 0 = 0 from rfl] at m9
                          have hr := rCl3_e K3 hw16 m9
                          refine tw_aload rfl rfl ?_
                          refine tw_getS rfl (hs_111_42 gzp775.1) ?_
                          refine tw_iload rfl rfl ?_
                          refine tw_aload rfl rfl ?_
                          refine tw_getS rfl (hi_111_31 gzp775.1) ?_
                          refine tw_iast rfl (fun f777 => ?_)
                          refine tG_ast f777 (gzp775).1 (fun hf777 af777 => ?_)
                          try dsimp only [tvI_i, tvR_r] at af777
                          rw [hI9] at af777
                          have gf777 : mFz I h hf777 := mFz_a gzp775 af777 (by decide) (Nat.le_refl _)
                          have Ff777 := mAs_F af777 Fp775
                          have Zf777 := mAs_Z af777 Zp775
                          exact tw_vret rfl ⟨rfl, gf777, mCo_l hr Ff777 Zf777⟩
                    · try dsimp only [tvI_i, tvJ_j, tvR_r] at q772
                      have q772i := zeqi (Y := 3) (by decide) q772
                      exact absurd q772 q754
                  · try dsimp only [tvI_i, tvJ_j, tvR_r] at p771
                    refine tw_istore rfl ?_
                    refine tw_iload rfl rfl ?_
                    refine tw_push rfl ?_
                    refine tw_ic_ne rfl (fun q778 => ?_) (fun q778 => ?_)
                    · try dsimp only [tvI_i, tvJ_j, tvR_r] at q778
                      have q778i := zneq (Y := 3) (by decide) q778
                      refine tw_iload rfl rfl ?_
                      refine tw_if_eq rfl (fun _ => ?_) (fun z => absurd z (by decide))
                      refine tw_aload rfl rfl ?_
                      refine tw_getS rfl (hs_111_42 gzp770.1) ?_
                      refine tw_iload rfl rfl ?_
                      refine tw_aload rfl rfl ?_
                      refine tw_getS rfl (hi_111_31 gzp770.1) ?_
                      refine tw_iast rfl (fun f779 => ?_)
                      have Lf779 : (tvI (tF hp770 111 31)).toNatClampNeg = (rA (rB T n s2.1) s2).2.2.length := by rw [← mEn_len]; exact congrArg (fun z : rS => z.2.2.length) Sp770
                      refine tG_ast f779 (gzp770).1 (fun hf779 af779 => ?_)
                      try dsimp only [tvI_i, tvR_r] at af779
                      rw [hI9] at af779
                      have gf779 : mFz I h hf779 := mFz_a gzp770 af779 (by decide) (Nat.le_refl _)
                      have pf779 := mAs_P af779 (by decide) pp770e
                      have Sf779 : ms hf779 = (rA (rB T n s2.1) s2) := (mAs_m af779 (by decide)).1.trans Sp770
                      have Df779 : tvI (tF hf779 111 32) = 0 := by rw [af779.2.1]; exact Dp770
                      have hw16 : ¬ rW T n (rB T n s2.1) (rWd 16) = true := by have z := p771; rw [Sp770, rA_1] at z; exact z
                      have hr := rCl3_2 K3 hw16 (by have z := q778i; omega)
                      have c135 : tA hf779 135 I = x := ((congrFun ((mAs_A af779 (q := 135) (by decide)).trans ((mFw_A gwp770 (p := 135) (by decide)).trans ((mAs_A af769 (q := 135) (by decide)).trans ((mFw_A gwp768 (p := 135) (by decide)).trans ((mAs_A af753 (q := 135) (by decide)).trans (mAs_A af751 (q := 135) (by decide))))))) I).trans (mAs_x af750))
                      have c137 : (tA hf779 137 I).toNatClampNeg = (rA (rE T n (rB T n (ms h).1)) (ms h)).2.2.length := by rw [((congrFun ((mAs_A af779 (q := 137) (by decide)).trans ((mFw_A gwp770 (p := 137) (by decide)).trans ((mAs_A af769 (q := 137) (by decide)).trans (mFw_A gwp768 (p := 137) (by decide))))) I).trans (mAs_x af753))]; exact Lf753
                      have c138 : (tA hf779 138 I).toNatClampNeg = (rA (rB T n s2.1) s2).2.2.length := by rw [((congrFun ((mAs_A af779 (q := 138) (by decide)).trans (mFw_A gwp770 (p := 138) (by decide))) I).trans (mAs_x af769))]; exact Lf769
                      have c139 : (tA hf779 139 I).toNatClampNeg = (rA (rB T n s2.1) s2).2.2.length := by rw [(mAs_x af779)]; exact Lf779
                      have c136 : (tA hf779 136 I).toNatClampNeg = 0 := by rw [((congrFun ((mAs_A af779 (q := 136) (by decide)).trans ((mFw_A gwp770 (p := 136) (by decide)).trans ((mAs_A af769 (q := 136) (by decide)).trans ((mFw_A gwp768 (p := 136) (by decide)).trans (mAs_A af753 (q := 136) (by decide)))))) I).trans (mAs_x af751))]; rfl
                      have hrow : mRow hf779 I = ((k + 12), (rA (rE T n (rB T n (ms h).1)) (ms h)).2.2.length, (rA (rB T n s2.1) s2).2.2.length, (rA (rB T n s2.1) s2).2.2.length) := by
                        unfold mRow
                        rw [c135, c137, c138, c139, zof_cl hx, c136, if_neg (fun y => by have z := q752i; have y := y.1; omega), Nat.mul_zero, Nat.add_zero, Nat.add_comm]
                      exact tw_vret rfl ⟨rfl, gf779, mCo_r hr pf779 (Sf779.trans rB_A.symm) Df779 hrow⟩
                    · try dsimp only [tvI_i, tvJ_j, tvR_r] at q778
                      have q778i := zeqi (Y := 3) (by decide) q778
                      exact absurd q778 q754
                · have gwp768 := id gp768
                  have gzp768 : mFz I h hp768 := mFz_t gf753 (mFz_w gwp768)
                  have m9 := mp768
                  rw [Sf753, show stN 1 = 1 from rfl] at m9
                  have hr := rCl2_e K2 (by have z := q754i; omega) m9
                  refine tw_aload rfl rfl ?_
                  refine tw_getS rfl (hs_111_41 gzp768.1) ?_
                  refine tw_iload rfl rfl ?_
                  refine tw_aload rfl rfl ?_
                  refine tw_getS rfl (hi_111_31 gzp768.1) ?_
                  refine tw_iast rfl (fun f780 => ?_)
                  refine tG_ast f780 (gzp768).1 (fun hf780 af780 => ?_)
                  try dsimp only [tvI_i, tvR_r] at af780
                  rw [hI9] at af780
                  have gf780 : mFz I h hf780 := mFz_a gzp768 af780 (by decide) (Nat.le_refl _)
                  have Ff780 := mAs_F af780 Fp768
                  have Zf780 := mAs_Z af780 Zp768
                  refine tw_aload rfl rfl ?_
                  refine tw_virt0 rfl (y_blanks hG hX (gf780).1 Ff780 ((mFz_T gf780).trans hT) ((mFz_n gf780).trans hN) Zf780) (fun wp781 hp781 p781 => ?_)
                  obtain ⟨rfl, gp781, Fp781, Zp781⟩ := p781
                  have gwp781 := mFw_f gp781
                  have gzp781 : mFz I h hp781 := mFz_t gf780 (mFz_w gwp781)
                  refine tw_aload rfl rfl ?_
                  refine tw_push rfl ?_
                  refine tw_virt1 rfl (g_stands hG hX (gzp781).1 ((mFz_T gzp781).trans hT) ((mFz_n gzp781).trans hN) (q := 21) (by decide +kernel) Zp781.1 ⟨by have := Zp781.2; omega, Zp781.2.2⟩) (fun w9 h9 p782 => ?_)
                  obtain ⟨⟨p782, rfl⟩ | ⟨p782, rfl⟩, rfl⟩ := p782
                  · try dsimp only [tvI_i, tvJ_j, tvR_r] at p782
                    refine tw_istore rfl ?_
                    refine tw_iload rfl rfl ?_
                    refine tw_push rfl ?_
                    refine tw_ic_ne rfl (fun q783 => ?_) (fun q783 => ?_)
                    · try dsimp only [tvI_i, tvJ_j, tvR_r] at q783
                      have q783i := zneq (Y := 3) (by decide) q783
                      refine tw_iload rfl rfl ?_
                      refine tw_if_eq rfl (fun z => absurd z (by decide)) (fun _ => ?_)
                      refine tw_aload rfl rfl ?_
                      refine tw_getS rfl (hi_111_29 gzp781.1) ?_
                      refine tw_if_ne rfl (fun q784 => ?_) (fun q784 => ?_)
                      · try dsimp only [tvI_i, tvJ_j, tvR_r] at q784
                        have q784i := zneq (Y := 0) (by decide) q784
                        refine tw_aload rfl rfl ?_
                        refine tw_getS rfl (hs_111_42 gzp781.1) ?_
                        refine tw_iload rfl rfl ?_
                        refine tw_aload rfl rfl ?_
                        refine tw_getS rfl (hi_111_31 gzp781.1) ?_
                        refine tw_iast rfl (fun f785 => ?_)
                        refine tG_ast f785 (gzp781).1 (fun hf785 af785 => ?_)
                        try dsimp only [tvI_i, tvR_r] at af785
                        rw [hI9] at af785
                        have gf785 : mFz I h hf785 := mFz_a gzp781 af785 (by decide) (Nat.le_refl _)
                        have Ff785 := mAs_F af785 Fp781
                        have Zf785 := mAs_Z af785 Zp781
                        exact tw_vret rfl ⟨rfl, gf785, mCo_l hr Ff785 Zf785⟩
                      · try dsimp only [tvI_i, tvJ_j, tvR_r] at q784
                        have q784i := zeqi (Y := 0) (by decide) q784
                        exact absurd q784 (mFt_n Fp781)
                    · try dsimp only [tvI_i, tvJ_j, tvR_r] at q783
                      have q783i := zeqi (Y := 3) (by decide) q783
                      exact absurd q783 q754
                  · try dsimp only [tvI_i, tvJ_j, tvR_r] at p782
                    refine tw_istore rfl ?_
                    refine tw_iload rfl rfl ?_
                    refine tw_push rfl ?_
                    refine tw_ic_ne rfl (fun q786 => ?_) (fun q786 => ?_)
                    · try dsimp only [tvI_i, tvJ_j, tvR_r] at q786
                      have q786i := zneq (Y := 3) (by decide) q786
                      refine tw_iload rfl rfl ?_
                      refine tw_if_eq rfl (fun _ => ?_) (fun z => absurd z (by decide))
                      refine tw_aload rfl rfl ?_
                      refine tw_getS rfl (hs_111_42 gzp781.1) ?_
                      refine tw_iload rfl rfl ?_
                      refine tw_aload rfl rfl ?_
                      refine tw_getS rfl (hi_111_31 gzp781.1) ?_
                      refine tw_iast rfl (fun f787 => ?_)
                      refine tG_ast f787 (gzp781).1 (fun hf787 af787 => ?_)
                      try dsimp only [tvI_i, tvR_r] at af787
                      rw [hI9] at af787
                      have gf787 : mFz I h hf787 := mFz_a gzp781 af787 (by decide) (Nat.le_refl _)
                      have Ff787 := mAs_F af787 Fp781
                      have Zf787 := mAs_Z af787 Zp781
                      exact tw_vret rfl ⟨rfl, gf787, mCo_l hr Ff787 Zf787⟩
                    · try dsimp only [tvI_i, tvJ_j, tvR_r] at q786
                      have q786i := zeqi (Y := 3) (by decide) q786
                      exact absurd q786 q754
          · try dsimp only [tvI_i, tvJ_j, tvR_r] at q752
            have q752i := zeqi (Y := 0) (by decide) q752
            refine tw_aload rfl rfl ?_
            refine tw_virt0 rfl (g_blanks hG hX (gf751).1 pf751 ((mFz_T gf751).trans hT) ((mFz_n gf751).trans hN)) (fun wp788 hp788 p788 => ?_)
            obtain ⟨rfl, gp788, pp788e, sp788, tp788, dp788⟩ := p788
            have gwp788 := mFw_f gp788
            have gzp788 : mFz I h hp788 := mFz_t gf751 (mFz_w gwp788)
            have Dp788 : tvI (tF hp788 111 32) = 0 := by rw [dp788]; exact Df751
            have Sp788 : ms hp788 = (rA (rB T n (rA (rE T n (rB T n (ms h).1)) (ms h)).1) (rA (rE T n (rB T n (ms h).1)) (ms h))) := (by rw [sp788, Sf751])
            refine tw_aload rfl rfl ?_
            refine tw_getS rfl (hs_111_39 gzp788.1) ?_
            refine tw_iload rfl rfl ?_
            refine tw_aload rfl rfl ?_
            refine tw_push rfl ?_
            refine tw_virt1 rfl (g_digits hG hX (gzp788).1 pp788e ((mFz_T gzp788).trans hT) ((mFz_n gzp788).trans hN) (m := 2) (M := 2) rfl (by decide) (by rw [Sp788, rA_1]; exact rB_2)) (fun w9 hp789 p789 => ?_)
            obtain ⟨gp789, ⟨vp789, Np789, rfl, pp789e, sp789, tp789, dp789⟩ | ⟨ep789, xp789, Np789, rfl, x0p789, Fp789, Zp789⟩⟩ := p789
            · have gwp789 := mFw_f gp789
              have gzp789 : mFz I h hp789 := mFz_t gzp788 (mFz_w gwp789)
              have Dp789 : tvI (tF hp789 111 32) = 0 := by rw [dp789]; exact Dp788
              have Sp789 : ms hp789 = (rA vp789.1 (rA (rE T n (rB T n (ms h).1)) (ms h))) := by rw [sp789, Sp788, rA_A, rA_A]
              have K2 : rCl2 T n (k + 12) vp789.2 (rA vp789.1 (rA (rE T n (rB T n (ms h).1)) (ms h))) r := by
                have y := rCl1_q K1 (by have z := q752i; omega) (q := vp789) (by rw [← rM_bb]; have z := Np789; rw [Sp788, rA_1] at z; exact z)
                exact y
              have hv2 : vp789.2 ≤ 2 := (rM_r (rE_le (rB_le hpn)) (by rw [← rM_bb]; have z := Np789; rw [Sp788, rA_1] at z; exact z)).2.2
              refine tw_iast rfl (fun f790 => ?_)
              refine tG_ast f790 (gzp789).1 (fun hf790 af790 => ?_)
              try dsimp only [tvI_i, tvR_r] at af790
              rw [hI9] at af790
              have gf790 : mFz I h hf790 := mFz_a gzp789 af790 (by decide) (Nat.le_refl _)
              have pf790 := mAs_P af790 (by decide) pp789e
              have Sf790 : ms hf790 = (rA vp789.1 (rA (rE T n (rB T n (ms h).1)) (ms h))) := (mAs_m af790 (by decide)).1.trans Sp789
              have Df790 : tvI (tF hf790 111 32) = 0 := by rw [af790.2.1]; exact Dp789
              refine tw_aload rfl rfl ?_
              refine tw_getS rfl (hs_111_40 (gf790).1) ?_
              refine tw_iload rfl rfl ?_
              refine tw_aload rfl rfl ?_
              refine tw_getS rfl (hi_111_31 (gf790).1) ?_
              refine tw_iast rfl (fun f791 => ?_)
              have Lf791 : (tvI (tF hf790 111 31)).toNatClampNeg = (rA vp789.1 (rA (rE T n (rB T n (ms h).1)) (ms h))).2.2.length := by rw [← mEn_len]; exact congrArg (fun z : rS => z.2.2.length) Sf790
              refine tG_ast f791 (gf790).1 (fun hf791 af791 => ?_)
              try dsimp only [tvI_i, tvR_r] at af791
              rw [hI9] at af791
              have gf791 : mFz I h hf791 := mFz_a gf790 af791 (by decide) (Nat.le_refl _)
              have pf791 := mAs_P af791 (by decide) pf790
              have Sf791 : ms hf791 = (rA vp789.1 (rA (rE T n (rB T n (ms h).1)) (ms h))) := (mAs_m af791 (by decide)).1.trans Sf790
              have Df791 : tvI (tF hf791 111 32) = 0 := by rw [af791.2.1]; exact Df790
              refine tw_iload rfl rfl ?_
              refine tw_push rfl ?_
              refine tw_ic_eq rfl (fun q792 => ?_) (fun q792 => ?_)
              · try dsimp only [tvI_i, tvJ_j, tvR_r] at q792
                have q792i := zeqi (Y := 3) (by decide) q792
                exfalso
                have z1 := q752i
                have z2 := q792i
                omega
              · try dsimp only [tvI_i, tvJ_j, tvR_r] at q792
                have q792i := zneq (Y := 3) (by decide) q792
                refine tw_aload rfl rfl ?_
                refine tw_getS rfl (hi_111_29 (gf791).1) ?_
                refine tw_if_ne rfl (fun q793 => ?_) (fun q793 => ?_)
                · try dsimp only [tvI_i, tvJ_j, tvR_r] at q793
                  have q793i := zneq (Y := 0) (by decide) q793
                  exact absurd (mP_0 pf791) q793
                · try dsimp only [tvI_i, tvJ_j, tvR_r] at q793
                  have q793i := zeqi (Y := 0) (by decide) q793
                  refine tw_aload rfl rfl ?_
                  refine tw_push rfl ?_
                  refine tw_virt1 rfl (g_readsR hG hX (gf791).1 pf791 ((mFz_T gf791).trans hT) ((mFz_n gf791).trans hN) (x := 1) (tst := false) (by decide) (by decide) ⟨fun z => absurd z (by decide), fun z => absurd z (by decide)⟩ Df791) (fun w9 hp794 p794 => ?_)
                  obtain ⟨rfl, gp794, ⟨pp794e, dp794, mp794⟩ | ⟨ep794, Fp794, Zp794, mp794⟩⟩ := p794
                  · have gwp794 := id gp794
                    have gzp794 : mFz I h hp794 := mFz_t gf791 (mFz_w gwp794)
                    have m9 := mp794
                    rw [Sf791, show stN 1 = 1 from rfl] at m9
                    obtain ⟨hS, s2, hs2, K3⟩ := rCl2_s K2 (by have z := q792i; omega) m9
                    have Dp794 := mSk_0 dp794 hS
                    refine tw_aload rfl rfl ?_
                    refine tw_getS rfl (hs_111_41 gzp794.1) ?_
                    refine tw_iload rfl rfl ?_
                    refine tw_aload rfl rfl ?_
                    refine tw_getS rfl (hi_111_31 gzp794.1) ?_
                    refine tw_iast rfl (fun f795 => ?_)
                    have Lf795 : (tvI (tF hp794 111 31)).toNatClampNeg = (rA (rB T n s2.1) s2).2.2.length := by rw [← mEn_len]; exact congrArg (fun z : rS => z.2.2.length) hs2
                    refine tG_ast f795 (gzp794).1 (fun hf795 af795 => ?_)
                    try dsimp only [tvI_i, tvR_r] at af795
                    rw [hI9] at af795
                    have gf795 : mFz I h hf795 := mFz_a gzp794 af795 (by decide) (Nat.le_refl _)
                    have pf795 := mAs_P af795 (by decide) pp794e
                    have Sf795 : ms hf795 = (rA (rB T n s2.1) s2) := (mAs_m af795 (by decide)).1.trans hs2
                    have Df795 : tvI (tF hf795 111 32) = 0 := by rw [af795.2.1]; exact Dp794
                    refine tw_aload rfl rfl ?_
                    refine tw_virt0 rfl (g_blanks hG hX (gf795).1 pf795 ((mFz_T gf795).trans hT) ((mFz_n gf795).trans hN)) (fun wp796 hp796 p796 => ?_)
                    obtain ⟨rfl, gp796, pp796e, sp796, tp796, dp796⟩ := p796
                    have gwp796 := mFw_f gp796
                    have gzp796 : mFz I h hp796 := mFz_t gf795 (mFz_w gwp796)
                    have Dp796 : tvI (tF hp796 111 32) = 0 := by rw [dp796]; exact Df795
                    have Sp796 : ms hp796 = (rA (rB T n s2.1) s2) := (by rw [sp796, Sf795]; exact rB_A)
                    refine tw_aload rfl rfl ?_
                    refine tw_push rfl ?_
                    refine tw_virt1 rfl (g_stands hG hX (gzp796).1 ((mFz_T gzp796).trans hT) ((mFz_n gzp796).trans hN) (q := 21) (by decide +kernel) ⟨pp796e.2.1.1, by have := pp796e.2.1; omega⟩ ⟨by have := pp796e.2.1; omega, pp796e.2.1.2.2⟩) (fun w9 h9 p797 => ?_)
                    obtain ⟨⟨p797, rfl⟩ | ⟨p797, rfl⟩, rfl⟩ := p797
                    · try dsimp only [tvI_i, tvJ_j, tvR_r] at p797
                      refine tw_istore rfl ?_
                      refine tw_iload rfl rfl ?_
                      refine tw_push rfl ?_
                      refine tw_ic_ne rfl (fun q798 => ?_) (fun q798 => ?_)
                      · try dsimp only [tvI_i, tvJ_j, tvR_r] at q798
                        have q798i := zneq (Y := 3) (by decide) q798
                        refine tw_iload rfl rfl ?_
                        refine tw_if_eq rfl (fun z => absurd z (by decide)) (fun _ => ?_)
                        refine tw_aload rfl rfl ?_
                        refine tw_getS rfl (hi_111_29 gzp796.1) ?_
                        refine tw_if_ne rfl (fun q799 => ?_) (fun q799 => ?_)
                        · try dsimp only [tvI_i, tvJ_j, tvR_r] at q799
                          have q799i := zneq (Y := 0) (by decide) q799
                          exact absurd (mP_0 pp796e) q799
                        · try dsimp only [tvI_i, tvJ_j, tvR_r] at q799
                          have q799i := zeqi (Y := 0) (by decide) q799
                          refine tw_aload rfl rfl ?_
                          refine tw_dup rfl ?_
                          refine tw_getS rfl (hi_111_28 gzp796.1) ?_
                          refine tw_push rfl ?_
                          refine tw_iadd rfl ?_
                          refine tw_put rfl (fun f800 => ?_)
                          have hw16 : rW T n (rB T n s2.1) (rWd 16) = true := by have z := p797; rw [Sp796, rA_1] at z; exact z
                          refine tG_setm f800 (hw_111_28 f800 (gzp796).1) (fun hf800 ef800 => ?_)
                          try dsimp only [tvI_i] at ef800
                          have gf800 : mFz I h hf800 := mFz_s gzp796 ef800 (Or.inl (by unfold mFs; omega))
                          have h9w : rE T n (rB T n s2.1) = rB T n s2.1 + 2 := by rw [rW_e hw16, wlen_k.2.2.2]
                          have hpB : rB T n s2.1 ≤ n := by have z := mPle pp796e ((mFz_n gzp796).trans hN); rw [Sp796, rA_1] at z; exact z
                          have hr9 := rE_le (T := T) hpB
                          rw [h9w] at hr9
                          obtain ⟨pf800, sf800, tf800⟩ := mTo pp796e ((mFz_n gzp796).trans hN) ef800 (v := rB T n s2.1 + 2) (zadN (a := rB T n s2.1) (b := 2) (by rw [mPl pp796e, Sp796, rA_1]) rfl (by omega) (by decide)) (by omega)
                          have Sf800 : ms hf800 = (rA (rB T n s2.1 + 2) s2) := by rw [sf800, Sp796, rA_A]
                          have Df800 : tvI (tF hf800 111 32) = 0 := by rw [mI_o ef800 (by decide)]; exact Dp796
                          have gwf800 : tA hf800 = tA hp796 := ef800.2.2.2.1
                          refine tw_aload rfl rfl ?_
                          refine tw_push rfl ?_
                          refine tw_virt1 rfl (g_readsR hG hX (gf800).1 pf800 ((mFz_T gf800).trans hT) ((mFz_n gf800).trans hN) (x := 0) (tst := true) (by decide) (by decide) ⟨fun _ => rfl, fun _ => rfl⟩ Df800) (fun w9 hp801 p801 => ?_)
                          obtain ⟨rfl, gp801, ⟨pp801e, dp801, mp801⟩ | ⟨ep801, Fp801, Zp801, mp801⟩⟩ := p801
                          · have gwp801 := id gp801
                            have gzp801 : mFz I h hp801 := mFz_t gf800 (mFz_w gwp801)
                            have m9 := mp801
                            rw [Sf800, show stN 0 = 0 from rfl] at m9
                            obtain ⟨hS3, s3, hs3, hr⟩ := rCl3_s K3 hw16 m9
                            have Dp801 := mSk_0 dp801 hS3
                            refine tw_aload rfl rfl ?_
                            refine tw_getS rfl (hs_111_42 gzp801.1) ?_
                            refine tw_iload rfl rfl ?_
                            refine tw_aload rfl rfl ?_
                            refine tw_getS rfl (hi_111_31 gzp801.1) ?_
                            refine tw_iast rfl (fun f802 => ?_)
                            have Lf802 : (tvI (tF hp801 111 31)).toNatClampNeg = (rA (rB T n s3.1) s3).2.2.length := by rw [← mEn_len]; exact congrArg (fun z : rS => z.2.2.length) hs3
                            refine tG_ast f802 (gzp801).1 (fun hf802 af802 => ?_)
                            try dsimp only [tvI_i, tvR_r] at af802
                            rw [hI9] at af802
                            have gf802 : mFz I h hf802 := mFz_a gzp801 af802 (by decide) (Nat.le_refl _)
                            have pf802 := mAs_P af802 (by decide) pp801e
                            have Sf802 : ms hf802 = (rA (rB T n s3.1) s3) := (mAs_m af802 (by decide)).1.trans hs3
                            have Df802 : tvI (tF hf802 111 32) = 0 := by rw [af802.2.1]; exact Dp801
                            have c135 : tA hf802 135 I = x := ((congrFun ((mAs_A af802 (q := 135) (by decide)).trans ((mFw_A gwp801 (p := 135) (by decide)).trans ((congrFun gwf800 135).trans ((mFw_A gwp796 (p := 135) (by decide)).trans ((mAs_A af795 (q := 135) (by decide)).trans ((mFw_A gwp794 (p := 135) (by decide)).trans ((mAs_A af791 (q := 135) (by decide)).trans ((mAs_A af790 (q := 135) (by decide)).trans ((mFw_A gwp789 (p := 135) (by decide)).trans ((mFw_A gwp788 (p := 135) (by decide)).trans (mAs_A af751 (q := 135) (by decide)))))))))))) I).trans (mAs_x af750))
                            have c137 : (tA hf802 137 I).toNatClampNeg = (rA vp789.1 (rA (rE T n (rB T n (ms h).1)) (ms h))).2.2.length := by rw [((congrFun ((mAs_A af802 (q := 137) (by decide)).trans ((mFw_A gwp801 (p := 137) (by decide)).trans ((congrFun gwf800 137).trans ((mFw_A gwp796 (p := 137) (by decide)).trans ((mAs_A af795 (q := 137) (by decide)).trans (mFw_A gwp794 (p := 137) (by decide))))))) I).trans (mAs_x af791))]; exact Lf791
                            have c138 : (tA hf802 138 I).toNatClampNeg = (rA (rB T n s2.1) s2).2.2.length := by rw [((congrFun ((mAs_A af802 (q := 138) (by decide)).trans ((mFw_A gwp801 (p := 138) (by decide)).trans ((congrFun gwf800 138).trans (mFw_A gwp796 (p := 138) (by decide))))) I).trans (mAs_x af795))]; exact Lf795
                            have c139 : (tA hf802 139 I).toNatClampNeg = (rA (rB T n s3.1) s3).2.2.length := by rw [(mAs_x af802)]; exact Lf802
                            have c136 : (tA hf802 136 I).toNatClampNeg = vp789.2 := by rw [((congrFun ((mAs_A af802 (q := 136) (by decide)).trans ((mFw_A gwp801 (p := 136) (by decide)).trans ((congrFun gwf800 136).trans ((mFw_A gwp796 (p := 136) (by decide)).trans ((mAs_A af795 (q := 136) (by decide)).trans ((mFw_A gwp794 (p := 136) (by decide)).trans (mAs_A af791 (q := 136) (by decide)))))))) I).trans (mAs_x af790))]; exact zoN (by omega)
                            have hrow : mRow hf802 I = (vp789.2, (rA vp789.1 (rA (rE T n (rB T n (ms h).1)) (ms h))).2.2.length, (rA (rB T n s2.1) s2).2.2.length, (rA (rB T n s3.1) s3).2.2.length) := by
                              unfold mRow
                              rw [c135, c137, c138, c139, zof_cl hx, c136, if_pos ⟨by have z := q752i; omega, by omega⟩]
                            exact tw_vret rfl ⟨rfl, gf802, mCo_r hr pf802 Sf802 Df802 hrow⟩
                          · have gwp801 := id gp801
                            have gzp801 : mFz I h hp801 := mFz_t gf800 (mFz_w gwp801)
                            have m9 := mp801
                            rw [Sf800, show stN 0 = 0 from rfl] at m9
                            have hr := rCl3_e K3 hw16 m9
                            refine tw_aload rfl rfl ?_
                            refine tw_getS rfl (hs_111_42 gzp801.1) ?_
                            refine tw_iload rfl rfl ?_
                            refine tw_aload rfl rfl ?_
                            refine tw_getS rfl (hi_111_31 gzp801.1) ?_
                            refine tw_iast rfl (fun f803 => ?_)
                            refine tG_ast f803 (gzp801).1 (fun hf803 af803 => ?_)
                            try dsimp only [tvI_i, tvR_r] at af803
                            rw [hI9] at af803
                            have gf803 : mFz I h hf803 := mFz_a gzp801 af803 (by decide) (Nat.le_refl _)
                            have Ff803 := mAs_F af803 Fp801
                            have Zf803 := mAs_Z af803 Zp801
                            exact tw_vret rfl ⟨rfl, gf803, mCo_l hr Ff803 Zf803⟩
                      · try dsimp only [tvI_i, tvJ_j, tvR_r] at q798
                        have q798i := zeqi (Y := 3) (by decide) q798
                        exfalso
                        have z1 := q752i
                        have z2 := q798i
                        omega
                    · try dsimp only [tvI_i, tvJ_j, tvR_r] at p797
                      refine tw_istore rfl ?_
                      refine tw_iload rfl rfl ?_
                      refine tw_push rfl ?_
                      refine tw_ic_ne rfl (fun q804 => ?_) (fun q804 => ?_)
                      · try dsimp only [tvI_i, tvJ_j, tvR_r] at q804
                        have q804i := zneq (Y := 3) (by decide) q804
                        refine tw_iload rfl rfl ?_
                        refine tw_if_eq rfl (fun _ => ?_) (fun z => absurd z (by decide))
                        refine tw_aload rfl rfl ?_
                        refine tw_getS rfl (hs_111_42 gzp796.1) ?_
                        refine tw_iload rfl rfl ?_
                        refine tw_aload rfl rfl ?_
                        refine tw_getS rfl (hi_111_31 gzp796.1) ?_
                        refine tw_iast rfl (fun f805 => ?_)
                        have Lf805 : (tvI (tF hp796 111 31)).toNatClampNeg = (rA (rB T n s2.1) s2).2.2.length := by rw [← mEn_len]; exact congrArg (fun z : rS => z.2.2.length) Sp796
                        refine tG_ast f805 (gzp796).1 (fun hf805 af805 => ?_)
                        try dsimp only [tvI_i, tvR_r] at af805
                        rw [hI9] at af805
                        have gf805 : mFz I h hf805 := mFz_a gzp796 af805 (by decide) (Nat.le_refl _)
                        have pf805 := mAs_P af805 (by decide) pp796e
                        have Sf805 : ms hf805 = (rA (rB T n s2.1) s2) := (mAs_m af805 (by decide)).1.trans Sp796
                        have Df805 : tvI (tF hf805 111 32) = 0 := by rw [af805.2.1]; exact Dp796
                        have hw16 : ¬ rW T n (rB T n s2.1) (rWd 16) = true := by have z := p797; rw [Sp796, rA_1] at z; exact z
                        have hr := rCl3_2 K3 hw16 (by have z := q804i; omega)
                        have c135 : tA hf805 135 I = x := ((congrFun ((mAs_A af805 (q := 135) (by decide)).trans ((mFw_A gwp796 (p := 135) (by decide)).trans ((mAs_A af795 (q := 135) (by decide)).trans ((mFw_A gwp794 (p := 135) (by decide)).trans ((mAs_A af791 (q := 135) (by decide)).trans ((mAs_A af790 (q := 135) (by decide)).trans ((mFw_A gwp789 (p := 135) (by decide)).trans ((mFw_A gwp788 (p := 135) (by decide)).trans (mAs_A af751 (q := 135) (by decide)))))))))) I).trans (mAs_x af750))
                        have c137 : (tA hf805 137 I).toNatClampNeg = (rA vp789.1 (rA (rE T n (rB T n (ms h).1)) (ms h))).2.2.length := by rw [((congrFun ((mAs_A af805 (q := 137) (by decide)).trans ((mFw_A gwp796 (p := 137) (by decide)).trans ((mAs_A af795 (q := 137) (by decide)).trans (mFw_A gwp794 (p := 137) (by decide))))) I).trans (mAs_x af791))]; exact Lf791
                        have c138 : (tA hf805 138 I).toNatClampNeg = (rA (rB T n s2.1) s2).2.2.length := by rw [((congrFun ((mAs_A af805 (q := 138) (by decide)).trans (mFw_A gwp796 (p := 138) (by decide))) I).trans (mAs_x af795))]; exact Lf795
                        have c139 : (tA hf805 139 I).toNatClampNeg = (rA (rB T n s2.1) s2).2.2.length := by rw [(mAs_x af805)]; exact Lf805
                        have c136 : (tA hf805 136 I).toNatClampNeg = vp789.2 := by rw [((congrFun ((mAs_A af805 (q := 136) (by decide)).trans ((mFw_A gwp796 (p := 136) (by decide)).trans ((mAs_A af795 (q := 136) (by decide)).trans ((mFw_A gwp794 (p := 136) (by decide)).trans (mAs_A af791 (q := 136) (by decide)))))) I).trans (mAs_x af790))]; exact zoN (by omega)
                        have hrow : mRow hf805 I = (vp789.2, (rA vp789.1 (rA (rE T n (rB T n (ms h).1)) (ms h))).2.2.length, (rA (rB T n s2.1) s2).2.2.length, (rA (rB T n s2.1) s2).2.2.length) := by
                          unfold mRow
                          rw [c135, c137, c138, c139, zof_cl hx, c136, if_pos ⟨by have z := q752i; omega, by omega⟩]
                        exact tw_vret rfl ⟨rfl, gf805, mCo_r hr pf805 (Sf805.trans rB_A.symm) Df805 hrow⟩
                      · try dsimp only [tvI_i, tvJ_j, tvR_r] at q804
                        have q804i := zeqi (Y := 3) (by decide) q804
                        exfalso
                        have z1 := q752i
                        have z2 := q804i
                        omega
                  · have gwp794 := id gp794
                    have gzp794 : mFz I h hp794 := mFz_t gf791 (mFz_w gwp794)
                    have m9 := mp794
                    rw [Sf791, show stN 1 = 1 from rfl] at m9
                    have hr := rCl2_e K2 (by have z := q792i; omega) m9
                    refine tw_aload rfl rfl ?_
                    refine tw_getS rfl (hs_111_41 gzp794.1) ?_
                    refine tw_iload rfl rfl ?_
                    refine tw_aload rfl rfl ?_
                    refine tw_getS rfl (hi_111_31 gzp794.1) ?_
                    refine tw_iast rfl (fun f806 => ?_)
                    refine tG_ast f806 (gzp794).1 (fun hf806 af806 => ?_)
                    try dsimp only [tvI_i, tvR_r] at af806
                    rw [hI9] at af806
                    have gf806 : mFz I h hf806 := mFz_a gzp794 af806 (by decide) (Nat.le_refl _)
                    have Ff806 := mAs_F af806 Fp794
                    have Zf806 := mAs_Z af806 Zp794
                    refine tw_aload rfl rfl ?_
                    refine tw_virt0 rfl (y_blanks hG hX (gf806).1 Ff806 ((mFz_T gf806).trans hT) ((mFz_n gf806).trans hN) Zf806) (fun wp807 hp807 p807 => ?_)
                    obtain ⟨rfl, gp807, Fp807, Zp807⟩ := p807
                    have gwp807 := mFw_f gp807
                    have gzp807 : mFz I h hp807 := mFz_t gf806 (mFz_w gwp807)
                    refine tw_aload rfl rfl ?_
                    refine tw_push rfl ?_
                    refine tw_virt1 rfl (g_stands hG hX (gzp807).1 ((mFz_T gzp807).trans hT) ((mFz_n gzp807).trans hN) (q := 21) (by decide +kernel) Zp807.1 ⟨by have := Zp807.2; omega, Zp807.2.2⟩) (fun w9 h9 p808 => ?_)
                    obtain ⟨⟨p808, rfl⟩ | ⟨p808, rfl⟩, rfl⟩ := p808
                    · try dsimp only [tvI_i, tvJ_j, tvR_r] at p808
                      refine tw_istore rfl ?_
                      refine tw_iload rfl rfl ?_
                      refine tw_push rfl ?_
                      refine tw_ic_ne rfl (fun q809 => ?_) (fun q809 => ?_)
                      · try dsimp only [tvI_i, tvJ_j, tvR_r] at q809
                        have q809i := zneq (Y := 3) (by decide) q809
                        refine tw_iload rfl rfl ?_
                        refine tw_if_eq rfl (fun z => absurd z (by decide)) (fun _ => ?_)
                        refine tw_aload rfl rfl ?_
                        refine tw_getS rfl (hi_111_29 gzp807.1) ?_
                        refine tw_if_ne rfl (fun q810 => ?_) (fun q810 => ?_)
                        · try dsimp only [tvI_i, tvJ_j, tvR_r] at q810
                          have q810i := zneq (Y := 0) (by decide) q810
                          refine tw_aload rfl rfl ?_
                          refine tw_getS rfl (hs_111_42 gzp807.1) ?_
                          refine tw_iload rfl rfl ?_
                          refine tw_aload rfl rfl ?_
                          refine tw_getS rfl (hi_111_31 gzp807.1) ?_
                          refine tw_iast rfl (fun f811 => ?_)
                          refine tG_ast f811 (gzp807).1 (fun hf811 af811 => ?_)
                          try dsimp only [tvI_i, tvR_r] at af811
                          rw [hI9] at af811
                          have gf811 : mFz I h hf811 := mFz_a gzp807 af811 (by decide) (Nat.le_refl _)
                          have Ff811 := mAs_F af811 Fp807
                          have Zf811 := mAs_Z af811 Zp807
                          exact tw_vret rfl ⟨rfl, gf811, mCo_l hr Ff811 Zf811⟩
                        · try dsimp only [tvI_i, tvJ_j, tvR_r] at q810
                          have q810i := zeqi (Y := 0) (by decide) q810
                          exact absurd q810 (mFt_n Fp807)
                      · try dsimp only [tvI_i, tvJ_j, tvR_r] at q809
                        have q809i := zeqi (Y := 3) (by decide) q809
                        exfalso
                        have z1 := q752i
                        have z2 := q809i
                        omega
                    · try dsimp only [tvI_i, tvJ_j, tvR_r] at p808
                      refine tw_istore rfl ?_
                      refine tw_iload rfl rfl ?_
                      refine tw_push rfl ?_
                      refine tw_ic_ne rfl (fun q812 => ?_) (fun q812 => ?_)
                      · try dsimp only [tvI_i, tvJ_j, tvR_r] at q812
                        have q812i := zneq (Y := 3) (by decide) q812
                        refine tw_iload rfl rfl ?_
                        refine tw_if_eq rfl (fun _ => ?_) (fun z => absurd z (by decide))
                        refine tw_aload rfl rfl ?_
                        refine tw_getS rfl (hs_111_42 gzp807.1) ?_
                        refine tw_iload rfl rfl ?_
                        refine tw_aload rfl rfl ?_
                        refine tw_getS rfl (hi_111_31 gzp807.1) ?_
                        refine tw_iast rfl (fun f813 => ?_)
                        refine tG_ast f813 (gzp807).1 (fun hf813 af813 => ?_)
                        try dsimp only [tvI_i, tvR_r] at af813
                        rw [hI9] at af813
                        have gf813 : mFz I h hf813 := mFz_a gzp807 af813 (by decide) (Nat.le_refl _)
                        have Ff813 := mAs_F af813 Fp807
                        have Zf813 := mAs_Z af813 Zp807
                        exact tw_vret rfl ⟨rfl, gf813, mCo_l hr Ff813 Zf813⟩
                      · try dsimp only [tvI_i, tvJ_j, tvR_r] at q812
                        have q812i := zeqi (Y := 3) (by decide) q812
                        exfalso
                        have z1 := q752i
                        have z2 := q812i
                        omega
            · have gwp789 := mFw_f gp789
              have gzp789 : mFz I h hp789 := mFz_t gzp788 (mFz_w gwp789)
              have hr : r = .inl ep789 := rCl1_e K1 (by have z := q752i; omega) (by rw [← rM_bb]; have z := Np789; rw [Sp788, rA_1] at z; exact z)
              refine tw_iast rfl (fun f814 => ?_)
              refine tG_ast f814 (gzp789).1 (fun hf814 af814 => ?_)
              try dsimp only [tvI_i, tvR_r] at af814
              rw [hI9] at af814
              have gf814 : mFz I h hf814 := mFz_a gzp789 af814 (by decide) (Nat.le_refl _)
              have Ff814 := mAs_F af814 Fp789
              have Zf814 := mAs_Z af814 Zp789
              refine tw_aload rfl rfl ?_
              refine tw_getS rfl (hs_111_40 (gf814).1) ?_
              refine tw_iload rfl rfl ?_
              refine tw_aload rfl rfl ?_
              refine tw_getS rfl (hi_111_31 (gf814).1) ?_
              refine tw_iast rfl (fun f815 => ?_)
              refine tG_ast f815 (gf814).1 (fun hf815 af815 => ?_)
              try dsimp only [tvI_i, tvR_r] at af815
              rw [hI9] at af815
              have gf815 : mFz I h hf815 := mFz_a gf814 af815 (by decide) (Nat.le_refl _)
              have Ff815 := mAs_F af815 Ff814
              have Zf815 := mAs_Z af815 Zf814
              refine tw_iload rfl rfl ?_
              refine tw_push rfl ?_
              refine tw_ic_eq rfl (fun q816 => ?_) (fun q816 => ?_)
              · try dsimp only [tvI_i, tvJ_j, tvR_r] at q816
                have q816i := zeqi (Y := 3) (by decide) q816
                exfalso
                have z1 := q752i
                have z2 := q816i
                omega
              · try dsimp only [tvI_i, tvJ_j, tvR_r] at q816
                have q816i := zneq (Y := 3) (by decide) q816
                refine tw_aload rfl rfl ?_
                refine tw_getS rfl (hi_111_29 (gf815).1) ?_
                refine tw_if_ne rfl (fun q817 => ?_) (fun q817 => ?_)
                · try dsimp only [tvI_i, tvJ_j, tvR_r] at q817
                  have q817i := zneq (Y := 0) (by decide) q817
                  refine tw_aload rfl rfl ?_
                  refine tw_getS rfl (hs_111_41 (gf815).1) ?_
                  refine tw_iload rfl rfl ?_
                  refine tw_aload rfl rfl ?_
                  refine tw_getS rfl (hi_111_31 (gf815).1) ?_
                  refine tw_iast rfl (fun f818 => ?_)
                  refine tG_ast f818 (gf815).1 (fun hf818 af818 => ?_)
                  try dsimp only [tvI_i, tvR_r] at af818
                  rw [hI9] at af818
                  have gf818 : mFz I h hf818 := mFz_a gf815 af818 (by decide) (Nat.le_refl _)
                  have Ff818 := mAs_F af818 Ff815
                  have Zf818 := mAs_Z af818 Zf815
                  refine tw_aload rfl rfl ?_
                  refine tw_virt0 rfl (y_blanks hG hX (gf818).1 Ff818 ((mFz_T gf818).trans hT) ((mFz_n gf818).trans hN) Zf818) (fun wp819 hp819 p819 => ?_)
                  obtain ⟨rfl, gp819, Fp819, Zp819⟩ := p819
                  have gwp819 := mFw_f gp819
                  have gzp819 : mFz I h hp819 := mFz_t gf818 (mFz_w gwp819)
                  refine tw_aload rfl rfl ?_
                  refine tw_push rfl ?_
                  refine tw_virt1 rfl (g_stands hG hX (gzp819).1 ((mFz_T gzp819).trans hT) ((mFz_n gzp819).trans hN) (q := 21) (by decide +kernel) Zp819.1 ⟨by have := Zp819.2; omega, Zp819.2.2⟩) (fun w9 h9 p820 => ?_)
                  obtain ⟨⟨p820, rfl⟩ | ⟨p820, rfl⟩, rfl⟩ := p820
                  · try dsimp only [tvI_i, tvJ_j, tvR_r] at p820
                    refine tw_istore rfl ?_
                    refine tw_iload rfl rfl ?_
                    refine tw_push rfl ?_
                    refine tw_ic_ne rfl (fun q821 => ?_) (fun q821 => ?_)
                    · try dsimp only [tvI_i, tvJ_j, tvR_r] at q821
                      have q821i := zneq (Y := 3) (by decide) q821
                      refine tw_iload rfl rfl ?_
                      refine tw_if_eq rfl (fun z => absurd z (by decide)) (fun _ => ?_)
                      refine tw_aload rfl rfl ?_
                      refine tw_getS rfl (hi_111_29 gzp819.1) ?_
                      refine tw_if_ne rfl (fun q822 => ?_) (fun q822 => ?_)
                      · try dsimp only [tvI_i, tvJ_j, tvR_r] at q822
                        have q822i := zneq (Y := 0) (by decide) q822
                        refine tw_aload rfl rfl ?_
                        refine tw_getS rfl (hs_111_42 gzp819.1) ?_
                        refine tw_iload rfl rfl ?_
                        refine tw_aload rfl rfl ?_
                        refine tw_getS rfl (hi_111_31 gzp819.1) ?_
                        refine tw_iast rfl (fun f823 => ?_)
                        refine tG_ast f823 (gzp819).1 (fun hf823 af823 => ?_)
                        try dsimp only [tvI_i, tvR_r] at af823
                        rw [hI9] at af823
                        have gf823 : mFz I h hf823 := mFz_a gzp819 af823 (by decide) (Nat.le_refl _)
                        have Ff823 := mAs_F af823 Fp819
                        have Zf823 := mAs_Z af823 Zp819
                        exact tw_vret rfl ⟨rfl, gf823, mCo_l hr Ff823 Zf823⟩
                      · try dsimp only [tvI_i, tvJ_j, tvR_r] at q822
                        have q822i := zeqi (Y := 0) (by decide) q822
                        exact absurd q822 (mFt_n Fp819)
                    · try dsimp only [tvI_i, tvJ_j, tvR_r] at q821
                      have q821i := zeqi (Y := 3) (by decide) q821
                      exfalso
                      have z1 := q752i
                      have z2 := q821i
                      omega
                  · try dsimp only [tvI_i, tvJ_j, tvR_r] at p820
                    refine tw_istore rfl ?_
                    refine tw_iload rfl rfl ?_
                    refine tw_push rfl ?_
                    refine tw_ic_ne rfl (fun q824 => ?_) (fun q824 => ?_)
                    · try dsimp only [tvI_i, tvJ_j, tvR_r] at q824
                      have q824i := zneq (Y := 3) (by decide) q824
                      refine tw_iload rfl rfl ?_
                      refine tw_if_eq rfl (fun _ => ?_) (fun z => absurd z (by decide))
                      refine tw_aload rfl rfl ?_
                      refine tw_getS rfl (hs_111_42 gzp819.1) ?_
                      refine tw_iload rfl rfl ?_
                      refine tw_aload rfl rfl ?_
                      refine tw_getS rfl (hi_111_31 gzp819.1) ?_
                      refine tw_iast rfl (fun f825 => ?_)
                      refine tG_ast f825 (gzp819).1 (fun hf825 af825 => ?_)
                      try dsimp only [tvI_i, tvR_r] at af825
                      rw [hI9] at af825
                      have gf825 : mFz I h hf825 := mFz_a gzp819 af825 (by decide) (Nat.le_refl _)
                      have Ff825 := mAs_F af825 Fp819
                      have Zf825 := mAs_Z af825 Zp819
                      exact tw_vret rfl ⟨rfl, gf825, mCo_l hr Ff825 Zf825⟩
                    · try dsimp only [tvI_i, tvJ_j, tvR_r] at q824
                      have q824i := zeqi (Y := 3) (by decide) q824
                      exfalso
                      have z1 := q752i
                      have z2 := q824i
                      omega
                · try dsimp only [tvI_i, tvJ_j, tvR_r] at q817
                  have q817i := zeqi (Y := 0) (by decide) q817
                  exact absurd q817 (mFt_n Ff815)
        · try dsimp only [tvI_i, tvJ_j, tvR_r] at q747
          have q747i := zeqi (Y := 12) (by decide) q747
          refine tw_aload rfl rfl ?_
          refine tw_push rfl ?_
          refine tw_iload rfl rfl ?_
          refine tw_virt2 rfl (g_fails hG hX (gzp740).1 pp740e ((mFz_T gzp740).trans hT) ((mFz_n gzp740).trans hN) (w := 4) rfl (by decide) (mPl pp740e) (by have := mPle pp740e ((mFz_n gzp740).trans hN); have := mNl pp740e ((mFz_n gzp740).trans hN); have := pp740e.2.1; omega)) (fun wp826 hp826 p826 => ?_)
          obtain ⟨rfl, gp826, Fp826, ip826, jp826⟩ := p826
          have gwp826 := mFw_f gp826
          have gzp826 : mFz I h hp826 := mFz_t gzp740 (mFz_w gwp826)
          have Zp826 : mZp hp826 := mZp_k (mZp_p pp740e) ip826 jp826
          rw [Sp740, rA_1] at Fp826
          have hk4 : k < 4 := by have z := q741; omega
          have hw : rW T n (rB T n (ms h).1) (rWd (k + 12)) = true := by have z := p745; rw [Sp740, rA_1] at z; rw [rWd_14 hk4]; exact z
          have hr := rCl_cc hr0 (k := k + 12) (by omega) (by omega) hw (by have z := q747i; omega)
          exact tw_vret rfl ⟨rfl, gzp826, mCo_l hr Fp826 Zp826⟩
      · try dsimp only [tvI_i, tvJ_j, tvR_r] at q746
        have q746i := zeqi (Y := 4) (by decide) q746
        exfalso
        have z1 := q741
        have z2 := q746i
        omega
    · try dsimp only [tvI_i, tvJ_j, tvR_r] at p745
      refine tw_if_ne rfl (fun z => absurd z (by decide)) (fun _ => ?_)
      refine tw_iinc rfl rfl ?_
      refine tw_goto rfl ?_
      have hk4 : k < 4 := by have z := q741; omega
      have hno : ¬ rW T n (rB T n (ms h).1) (rWd (k + 12)) = true := by have z := p745; rw [Sp740, rA_1] at z; rw [rWd_14 hk4]; exact z
      exact tG_cut (zW_mono zTt G dp) (Or.inr ⟨rfl, rfl, rfl, k + 1, x + 1, zincN hx (by omega), by omega, fun i hi => (Classical.em (i = k)).elim (fun z => by rw [z]; exact hno) (fun z => hall i (by omega)), rfl⟩)
/-! the reference's whole rule: what its loop stands on -/
section R9
variable {T : Nat → Int32} {n f : Nat} {s : rS} {cl : List rCt} {r : Nat ⊕ (rS × List rCt)}
/-- what follows a clause -/
noncomputable def rNx (T : Nat → Int32) (n : Nat) (cl : List rCt) (r : Nat ⊕ (rS × List rCt)) : Nat ⊕ (rS × rCt) → Prop
  | .inl e => r = .inl e
  | .inr x => (¬ rB T n x.1.1 < n ∧ r = .inr (rA (rB T n x.1.1) x.1, cl ++ [x.2])) ∨ ((rB T n x.1.1 < n ∧ T (rB T n x.1.1) = 59) ∧ ∃ f, rRu T n f (rA (rB T n x.1.1 + 1) x.1) (cl ++ [x.2]) r) ∨ ((rB T n x.1.1 < n ∧ ¬ T (rB T n x.1.1) = 59) ∧ r = .inl (1 + 8 * rB T n x.1.1 + 0))
theorem rRu_st (h : rRu T n f s cl r) : ∃ r2, rCl T n cl.length s r2 ∧ rNx T n cl r r2 := by
  cases f with
  | zero => exact h.elim
  | succ f =>
    rcases h with ⟨e, h1, h2⟩ | ⟨s1, c, h1, h2⟩
    · exact ⟨.inl e, h1, h2⟩
    · refine ⟨.inr (s1, c), h1, ?_⟩
      rcases h2 with h2 | ⟨h2, h3⟩ | h2
      · exact Or.inl h2
      · exact Or.inr (Or.inl ⟨h2, f, h3⟩)
      · exact Or.inr (Or.inr h2)
theorem mCo_w {I : Nat} {r2 : Nat ⊕ (rS × rCt)} {h h2 : zH} {w : Option Value} (k : w = none ∧ mFz I h h2 ∧ mCo T n I r2 h2) (q : rNx T n cl r r2) : w = none ∧ mFz I h h2 ∧ ((∃ e, r = .inl e ∧ mFt h2 e ∧ mZp h2) ∨ ∃ s1 c1, r2 = .inr (s1, c1) ∧ mP h2 ∧ ms h2 = rA (rB T n s1.1) s1 ∧ tvI (tF h2 111 32) = 0 ∧ mRow h2 I = c1 ∧ rNx T n cl r (.inr (s1, c1))) := by
  refine ⟨k.1, k.2.1, ?_⟩
  cases r2 with
  | inl e => exact Or.inl ⟨e, q, k.2.2.1, k.2.2.2⟩
  | inr x => exact Or.inr ⟨x.1, x.2, rfl, k.2.2.1, k.2.2.2.1, k.2.2.2.2.1, k.2.2.2.2.2, q⟩
/-- what the reference's reader keeps between rules -/
noncomputable def mK (h : zH) : Prop := (0 ≤ (tvI (tF h 111 27)).toInt ∧ (tvI (tF h 111 27)).toInt ≤ 400) ∧ 0 ≤ (tvI (tF h 111 34)).toInt ∧ (0 ≤ (tvI (tF h 111 30)).toInt ∧ (tvI (tF h 111 30)).toInt ≤ 10) ∧ (∀ i, i < tN h 142 → 0 ≤ (tA h 142 i).toInt) ∧ (∀ i : Nat, i = i) ∧ tN h 133 ≤ 100000 ∧ tN h 142 ≤ 100000
theorem mRs9 {h a b c d e : zH} {lo : Nat} (hs : tSh h) (k : mK h) (e28 : mSet 28 0 h a) (e29 : mSet 29 0 a b) (e31 : mSet 31 0 b c) (e32 : mSet 32 0 c d) (e33 : mSet 33 0 d e) : mFz lo h e ∧ mP e ∧ ms e = (0, 0, []) ∧ tvI (tF e 111 32) = 0 := by
  have z0 : mFz lo h h := mFz_r hs
  have z1 := mFz_s z0 e28 (Or.inl (by unfold mFs; omega))
  have z2 := mFz_s z1 e29 (Or.inl (by unfold mFs; omega))
  have z3 := mFz_s z2 e31 (Or.inl (by unfold mFs; omega))
  have z4 := mFz_s z3 e32 (Or.inl (by unfold mFs; omega))
  have z5 := mFz_s z4 e33 (Or.inl (by unfold mFs; omega))
  have f28 : tF e 111 28 = .int 0 := (e33.2.2.1 111 28 (by decide)).trans ((e32.2.2.1 111 28 (by decide)).trans ((e31.2.2.1 111 28 (by decide)).trans ((e29.2.2.1 111 28 (by decide)).trans e28.2.1)))
  have f29 : tF e 111 29 = .int 0 := (e33.2.2.1 111 29 (by decide)).trans ((e32.2.2.1 111 29 (by decide)).trans ((e31.2.2.1 111 29 (by decide)).trans e29.2.1))
  have f31 : tF e 111 31 = .int 0 := (e33.2.2.1 111 31 (by decide)).trans ((e32.2.2.1 111 31 (by decide)).trans e31.2.1)
  have f32 : tF e 111 32 = .int 0 := (e33.2.2.1 111 32 (by decide)).trans e32.2.1
  have f33 : tF e 111 33 = .int 0 := e33.2.1
  have f34 : tF e 111 34 = tF h 111 34 := (e33.2.2.1 111 34 (by decide)).trans ((e32.2.2.1 111 34 (by decide)).trans ((e31.2.2.1 111 34 (by decide)).trans ((e29.2.2.1 111 34 (by decide)).trans (e28.2.2.1 111 34 (by decide)))))
  have A : tA e = tA h := e33.2.2.2.1.trans (e32.2.2.2.1.trans (e31.2.2.2.1.trans (e29.2.2.2.1.trans e28.2.2.2.1)))
  have N : tN e = tN h := z5.2.2.2.1
  obtain ⟨k1, k2, k3, k4, k5, k6, k7⟩ := k
  refine ⟨z5, ⟨f29, ?_, ?_, ?_, ?_, ?_, ?_, ?_, by rw [N]; exact k6, by rw [N]; exact k7⟩, ?_, ?_⟩
  · rw [f28, mFz_27 z5]
    refine ⟨by decide, ?_, k1.2⟩
    show (0 : Int) ≤ _
    exact k1.1
  · rw [f33]; decide
  · rw [f31]; decide
  · rw [f34]; exact k2
  · rw [mFz_30 z5]; exact k3
  · rw [A, N]; exact k4
  · exact k5
  · unfold ms mEn
    rw [f28, f33, f31]
    rfl
  · rw [f32]; rfl
/-- the codes of rule q, k of them -/
noncomputable def mEk (h : zH) (q k : Nat) : List Nat := (List.range k).map (fun i => mCode (tA h 133 (500 * q + i)).toNatClampNeg (tA h 134 (500 * q + i)).toNatClampNeg)
theorem mEn_k {h : zH} : mEn h = mEk h (tvI (tF h 111 30)).toNatClampNeg (tvI (tF h 111 31)).toNatClampNeg := rfl
end R9
section R10
variable {T : Nat → Int32} {n : Nat} {h h1 h2 : zH}
theorem mRow_z {lo j : Nat} (a : mFz lo h h2) (hj : j < lo) : mRow h2 j = mRow h j := by
  unfold mRow
  rw [a.2.2.2.2.2 135 j (by decide) (by decide) hj, a.2.2.2.2.2 136 j (by decide) (by decide) hj, a.2.2.2.2.2 137 j (by decide) (by decide) hj, a.2.2.2.2.2 138 j (by decide) (by decide) hj, a.2.2.2.2.2 139 j (by decide) (by decide) hj]
noncomputable def mRw (h : zH) (b : Nat) (cl : List rCt) : Prop := ∀ i, i < cl.length → cl[i]? = some (mRow h (b + i))
theorem mRw_0 {b : Nat} : mRw h b [] := fun i hi => absurd hi (Nat.not_lt_zero _)
theorem mRw_z {b lo : Nat} {cl : List rCt} (k : mRw h b cl) (a : mFz lo h h2) (hl : b + cl.length ≤ lo) : mRw h2 b cl := fun i hi => by
  rw [mRow_z a (by omega)]
  exact k i hi
theorem mRw_s {b : Nat} {cl : List rCt} {c1 : rCt} (k : mRw h b cl) (e : mRow h (b + cl.length) = c1) : mRw h b (cl ++ [c1]) := fun i hi => by
  rcases Nat.lt_or_ge i cl.length with z | z
  · rw [List.getElem?_append_left z]
    exact k i z
  · have hi : i < cl.length + 1 := by rw [List.length_append] at hi; exact hi
    obtain rfl : i = cl.length := by omega
    rw [List.getElem?_append_right (Nat.le_refl _), Nat.sub_self, e]
    rfl
/-- a whole rule's frame -/
noncomputable def mFy (h h2 : zH) : Prop := tSh h2 ∧ (∀ p b, ¬ (p = 111 ∧ (mFs b ∨ b = 46 ∨ b = 47 ∨ b = 27 ∨ b = 30)) → tF h2 p b = tF h p b) ∧ (∀ p, p ≠ 133 → p ≠ 134 → p ≠ 142 → (p < 135 ∨ 141 < p) → tA h2 p = tA h p) ∧ tN h2 = tN h ∧ mLo h h2 ∧ (∀ p q, 135 ≤ p → p ≤ 139 → q < 12 * (tvI (tF h 111 30)).toNatClampNeg → tA h2 p q = tA h p q)
noncomputable def mRo (y : Int32) (r : Nat ⊕ (rS × List rCt)) (w : Option Value) (h h2 : zH) : Prop := mFy h h2 ∧ tvI (tF h2 111 27) = 0 ∧ match r with
  | .inl e => e < 100000 ∧ w = some (.int (-2 - Int32.ofNat e)) ∧ tF h2 111 30 = tF h 111 30 ∧ tA h2 140 = tA h 140 ∧ tA h2 141 = tA h 141
  | .inr x => w = some (.int (tvI (tF h 111 30) + 1 - 1)) ∧ tvI (tF h2 111 30) = tvI (tF h 111 30) + 1 ∧ (tA h2 140 (tvI (tF h 111 30)).toNatClampNeg).toNatClampNeg = x.2.length ∧ tA h2 141 (tvI (tF h 111 30)).toNatClampNeg = y ∧ (∀ q, q ≠ (tvI (tF h 111 30)).toNatClampNeg → tA h2 140 q = tA h 140 q ∧ tA h2 141 q = tA h 141 q) ∧ mRw h2 (12 * (tvI (tF h 111 30)).toNatClampNeg) x.2 ∧ x.1.2.2 = mEk h2 (tvI (tF h 111 30)).toNatClampNeg x.1.2.2.length
/-- the loop's end, and its middle -/
noncomputable def mLp (T : Nat → Int32) (n : Nat) (r : Nat ⊕ (rS × List rCt)) (b k : Nat) (m : Int32) (h1 : zH) : Prop :=
  (m ≠ 0 ∧ k ≤ 12 ∧ mP h1 ∧ tvI (tF h1 111 32) = 0 ∧ ∃ cl f, cl.length = k ∧ mRw h1 b cl ∧ rRu T n f (ms h1) cl r)
  ∨ (m = 0 ∧ ((∃ e, r = .inl e ∧ mFt h1 e) ∨ ∃ s cl, r = .inr (s, cl) ∧ cl.length = k ∧ mRw h1 b cl ∧ tF h1 111 29 = .int 0 ∧ mEn h1 = s.2.2))
theorem nx_1 {cl : List rCt} {c1 : rCt} {s1 : rS} {r : Nat ⊕ (rS × List rCt)} (q : rNx T n cl r (.inr (s1, c1))) (h1 : ¬ rB T n s1.1 < n) : r = .inr (rA (rB T n s1.1) s1, cl ++ [c1]) := by
  rcases q with ⟨_, q⟩ | ⟨z, _⟩ | ⟨z, _⟩
  · exact q
  · exact absurd z.1 h1
  · exact absurd z.1 h1
theorem nx_2 {cl : List rCt} {c1 : rCt} {s1 : rS} {r : Nat ⊕ (rS × List rCt)} (q : rNx T n cl r (.inr (s1, c1))) (h1 : rB T n s1.1 < n ∧ T (rB T n s1.1) = 59) : ∃ f, rRu T n f (rA (rB T n s1.1 + 1) s1) (cl ++ [c1]) r := by
  rcases q with ⟨z, _⟩ | ⟨_, q⟩ | ⟨z, _⟩
  · exact absurd h1.1 z
  · exact q
  · exact absurd h1.2 z.2
theorem nx_3 {cl : List rCt} {c1 : rCt} {s1 : rS} {r : Nat ⊕ (rS × List rCt)} (q : rNx T n cl r (.inr (s1, c1))) (h1 : rB T n s1.1 < n) (h2 : ¬ (rB T n s1.1 < n ∧ T (rB T n s1.1) = 59)) : r = .inl (1 + 8 * rB T n s1.1 + 0) := by
  rcases q with ⟨z, _⟩ | ⟨z, _⟩ | ⟨_, q⟩
  · exact absurd h1 z
  · exact absurd z h2
  · exact q
theorem mFt_m {b w : Nat} {X : Int32} {h3 : zH} (k : mSet b X h h3) (hb : b ≠ 29) (F : mFt h w) : mFt h3 w := ⟨(k.2.2.1 111 29 (fun z => hb z.2.symm)).trans F.1, F.2⟩
theorem mRw_m {b q : Nat} {X : Int32} {h3 : zH} {cl : List rCt} (k : mRw h b cl) (e : mSet q X h h3) : mRw h3 b cl := fun i hi => by
  rw [k i hi]
  unfold mRow
  rw [e.2.2.2.1]
theorem mRw_a {b q i : Nat} {x : Int32} {h3 : zH} {cl : List rCt} (k : mRw h b cl) (e : mAs q i x h h3) (hq : 139 < q) : mRw h3 b cl := fun j hj => by
  rw [k j hj]
  unfold mRow
  rw [mAs_A e (q := 135) (by omega), mAs_A e (q := 136) (by omega), mAs_A e (q := 137) (by omega), mAs_A e (q := 138) (by omega), mAs_A e (q := 139) (by omega)]
theorem mFy_1 {X : Int32} {h3 : zH} (g : mFz (12 * (tvI (tF h 111 30)).toNatClampNeg) h h1) (e : mSet 27 X h1 h3) : mFy h h3 := ⟨e.1, fun p b z => (e.2.2.1 p b (fun w => z ⟨w.1, by omega⟩)).trans (g.2.1 p b (fun w => z ⟨w.1, w.2.elim Or.inl (fun y => y.elim (fun y => Or.inr (Or.inl y)) (fun y => Or.inr (Or.inr (Or.inl y))))⟩)), fun p a b c d => (congrFun e.2.2.2.1 p).trans (g.2.2.1 p a b c (by omega)), e.2.2.2.2.trans g.2.2.2.1, mLo_A e.2.2.2.1 g.2.2.2.2.1, fun p q a b c => (congrFun (congrFun e.2.2.2.1 p) q).trans (g.2.2.2.2.2 p q a b c)⟩
theorem mFy_2 {q i : Nat} {x : Int32} {h3 : zH} (a : mFy h h1) (e : mAs q i x h1 h3) (hq : q = 140 ∨ q = 141) : mFy h h3 := ⟨e.1, fun p b z => by rw [e.2.1]; exact a.2.1 p b z, fun p w1 w2 w3 w4 => (mAs_A e (by omega)).trans (a.2.2.1 p w1 w2 w3 w4), e.2.2.1.trans a.2.2.2.1, fun j hj => ⟨(mAs_o e (by omega)).trans (a.2.2.2.2.1 j hj).1, (mAs_o e (by omega)).trans (a.2.2.2.2.1 j hj).2⟩, fun p j w1 w2 w3 => (mAs_o e (by omega)).trans (a.2.2.2.2.2 p j w1 w2 w3)⟩
theorem mFy_3 {X : Int32} {h3 : zH} (a : mFy h h1) (e : mSet 30 X h1 h3) : mFy h h3 := ⟨e.1, fun p b z => (e.2.2.1 p b (fun w => z ⟨w.1, by omega⟩)).trans (a.2.1 p b z), fun p w1 w2 w3 w4 => (congrFun e.2.2.2.1 p).trans (a.2.2.1 p w1 w2 w3 w4), e.2.2.2.2.trans a.2.2.2.1, mLo_A e.2.2.2.1 a.2.2.2.2.1, fun p j w1 w2 w3 => (congrFun (congrFun e.2.2.2.1 p) j).trans (a.2.2.2.2.2 p j w1 w2 w3)⟩
theorem mEk_c {q k : Nat} (a : tA h2 133 = tA h 133) (b : tA h2 134 = tA h 134) : mEk h2 q k = mEk h q k := by
  unfold mEk
  rw [a, b]
/-- the end, with a fault; the end without one -/
theorem mRo_l {y : Int32} {r : Nat ⊕ (rS × List rCt)} {e : Nat} {hA : zH} (hr : r = .inl e) (g1 : mFz (12 * (tvI (tF h 111 30)).toNatClampNeg) h h1) (k : mSet 27 0 h1 hA) (F : mFt h1 e) : mRo y r (some (.int (-2 - tvI (tF hA 111 29)))) h hA := by
  subst hr
  refine ⟨mFy_1 g1 k, mI_x k, F.2.2, ?_, (k.2.2.1 111 30 (by decide)).trans (mFz_30 g1), (congrFun k.2.2.2.1 140).trans (g1.2.2.1 140 (by decide) (by decide) (by decide) (by decide)), (congrFun k.2.2.2.1 141).trans (g1.2.2.1 141 (by decide) (by decide) (by decide) (by decide))⟩
  rw [(k.2.2.1 111 29 (by decide)).trans F.1]
  rfl
theorem mRo_r {y x : Int32} {r : Nat ⊕ (rS × List rCt)} {s9 : rS} {cl9 : List rCt} {i1 i2 X : Int32} {hA hB hC hD : zH} (hr : r = .inr (s9, cl9)) (g1 : mFz (12 * (tvI (tF h 111 30)).toNatClampNeg) h h1) (k : mSet 27 0 h1 hA) (a1 : mAs 140 i1.toNatClampNeg x hA hB) (hi1 : i1 = tvI (tF hA 111 30)) (a2 : mAs 141 i2.toNatClampNeg y hB hC) (hi2 : i2 = tvI (tF hB 111 30)) (k2 : mSet 30 X hC hD) (hX : X = tvI (tF hC 111 30) + 1) (hx : x.toInt = cl9.length) (rw9 : mRw h1 (12 * (tvI (tF h 111 30)).toNatClampNeg) cl9) (h5 : mEn h1 = s9.2.2) : mRo y r (some (.int (tvI (tF hD 111 30) - 1))) h hD := by
  subst hr
  have EA : tF hA 111 30 = tF h 111 30 := (k.2.2.1 111 30 (by decide)).trans (mFz_30 g1)
  have EB : tF hB 111 30 = tF h 111 30 := by rw [a1.2.1]; exact EA
  have EC : tF hC 111 30 = tF h 111 30 := by rw [a2.2.1]; exact EB
  rw [hi1, EA] at a1
  rw [hi2, EB] at a2
  have ED : tvI (tF hD 111 30) = tvI (tF h 111 30) + 1 := (mI_x k2).trans (by rw [hX, EC])
  refine ⟨mFy_3 (mFy_2 (mFy_2 (mFy_1 g1 k) a1 (Or.inl rfl)) a2 (Or.inr rfl)) k2, ?_, by rw [ED], ED, ?_, ?_, fun q hq => ⟨?_, ?_⟩, mRw_m (mRw_a (mRw_a (mRw_m rw9 k) a1 (by decide)) a2 (by decide)) k2, ?_⟩
  · rw [k2.2.2.1 111 27 (by decide), a2.2.1, a1.2.1]
    exact mI_x k
  · rw [k2.2.2.2.1, mAs_o a2 (by decide), mAs_x a1]
    exact zof_cl hx
  · rw [k2.2.2.2.1]
    exact mAs_x a2
  · rw [k2.2.2.2.1, mAs_o a2 (by decide), a1.2.2.2]
    refine (if_neg (fun z => hq z.2)).trans ?_
    rw [k.2.2.2.1, g1.2.2.1 140 (by decide) (by decide) (by decide) (by decide)]
  · rw [k2.2.2.2.1, a2.2.2.2]
    refine (if_neg (fun z => hq z.2)).trans ?_
    rw [mAs_A a1 (by decide), k.2.2.2.1, g1.2.2.1 141 (by decide) (by decide) (by decide) (by decide)]
  · rw [← h5, mEn_len, mEn_k, mFz_30 g1]
    refine (mEk_c ?_ ?_).symm
    · rw [k2.2.2.2.1, mAs_A a2 (by decide), mAs_A a1 (by decide), k.2.2.2.1]
    · rw [k2.2.2.2.1, mAs_A a2 (by decide), mAs_A a1 (by decide), k.2.2.2.1]
end R10
theorem g_rule {G : zG} (hG : G.1 = zProg) (hX : G.2.1 = ztx) {h : zH} {T : Nat → Int32} {n : Nat} (hs : tSh h) (hk : mK h) (hT : tA h 132 = T) (hN : mn h = n) {y : Int32} {r : Nat ⊕ (rS × List rCt)} (hr0 : ∃ f, rRu T n f (0, 0, []) [] r) : tC zTt G 225 [.ref 111, .int y] h (fun w h2 => (¬ (¬ tvI (tF h 111 30) = 10 ∧ (tvI (tF h 111 1)).toInt ≤ y.toInt ∧ y.toInt ≤ 599) ∧ w = some (.int (-1)) ∧ h2 = h) ∨ ((¬ tvI (tF h 111 30) = 10 ∧ (tvI (tF h 111 1)).toInt ≤ y.toInt ∧ y.toInt ≤ 599) ∧ mRo y r w h h2)) := by
  refine tC_in (by rw [hG]; rfl) (fun dp => ?_)
  have g0 : mFz (12 * (tvI (tF h 111 30)).toNatClampNeg) h h := mFz_r hs
  refine tw_aload rfl rfl ?_
  refine tw_getS rfl (hi_111_30 hs) ?_
  refine tw_push rfl ?_
  refine tw_ic_eq rfl (fun q827 => ?_) (fun q827 => ?_)
  · try dsimp only [tvI_i, tvJ_j, tvR_r] at q827
    have q827i := zeqi (Y := 10) (by decide) q827
    refine tw_push rfl ?_
    exact tw_iret rfl (Or.inl ⟨fun z => z.1 q827, rfl, rfl⟩)
  · try dsimp only [tvI_i, tvJ_j, tvR_r] at q827
    have q827i := zneq (Y := 10) (by decide) q827
    refine tw_iload rfl rfl ?_
    refine tw_i2l rfl ?_
    refine tw_aload rfl rfl ?_
    refine tw_getS rfl (hi_111_1 hs) ?_
    refine tw_i2l rfl ?_
    refine tw_push rfl ?_
    refine tw_stat3 rfl (f_in hG   (HI := 599) (Int32.toInt_toInt64 _) (Int32.toInt_toInt64 _) (by decide)) (fun w9 h9 p828 => ?_)
    obtain ⟨⟨p828, rfl⟩ | ⟨p828, rfl⟩, e9⟩ := p828
    · try dsimp only [tvI_i, tvJ_j, tvR_r] at p828
      obtain rfl := e9.symm
      refine tw_if_ne rfl (fun _ => ?_) (fun z => absurd z (by decide))
      refine tw_aload rfl rfl ?_
      refine tw_push rfl ?_
      refine tw_put rfl (fun f829 => ?_)
      refine tG_setm f829 (hw_111_28 f829 (g0).1) (fun hf829 ef829 => ?_)
      try dsimp only [tvI_i] at ef829
      have gf829 : mFz (12 * (tvI (tF h 111 30)).toNatClampNeg) h hf829 := mFz_s g0 ef829 (Or.inl (by unfold mFs; omega))
      refine tw_aload rfl rfl ?_
      refine tw_push rfl ?_
      refine tw_put rfl (fun f830 => ?_)
      refine tG_setm f830 (hw_111_29 f830 (gf829).1) (fun hf830 ef830 => ?_)
      try dsimp only [tvI_i] at ef830
      have gf830 : mFz (12 * (tvI (tF h 111 30)).toNatClampNeg) h hf830 := mFz_s gf829 ef830 (Or.inl (by unfold mFs; omega))
      refine tw_aload rfl rfl ?_
      refine tw_push rfl ?_
      refine tw_put rfl (fun f831 => ?_)
      refine tG_setm f831 (hw_111_31 f831 (gf830).1) (fun hf831 ef831 => ?_)
      try dsimp only [tvI_i] at ef831
      have gf831 : mFz (12 * (tvI (tF h 111 30)).toNatClampNeg) h hf831 := mFz_s gf830 ef831 (Or.inl (by unfold mFs; omega))
      refine tw_aload rfl rfl ?_
      refine tw_push rfl ?_
      refine tw_put rfl (fun f832 => ?_)
      refine tG_setm f832 (hw_111_32 f832 (gf831).1) (fun hf832 ef832 => ?_)
      try dsimp only [tvI_i] at ef832
      have gf832 : mFz (12 * (tvI (tF h 111 30)).toNatClampNeg) h hf832 := mFz_s gf831 ef832 (Or.inl (by unfold mFs; omega))
      refine tw_aload rfl rfl ?_
      refine tw_push rfl ?_
      refine tw_put rfl (fun f833 => ?_)
      refine tG_setm f833 (hw_111_33 f833 (gf832).1) (fun hf833 ef833 => ?_)
      try dsimp only [tvI_i] at ef833
      have gf833 : mFz (12 * (tvI (tF h 111 30)).toNatClampNeg) h hf833 := mFz_s gf832 ef833 (Or.inl (by unfold mFs; omega))
      refine tw_push rfl ?_
      refine tw_istore rfl ?_
      refine tw_push rfl ?_
      refine tw_istore rfl ?_
      refine tG_loop (zW_mono zTt G dp) (zW_conj zTt G dp) (V := fun pc L st h9 _ _ => pc = 56 ∧ st = [] ∧ ∃ (h1 : zH) (k : Nat) (x m : Int32), h1 = h9 ∧ x.toInt = k ∧ k ≤ 13 ∧ mFz (12 * (tvI (tF h 111 30)).toNatClampNeg) h h1 ∧ mLp T n r (12 * (tvI (tF h 111 30)).toNatClampNeg) k m h1 ∧ L = [some (.ref 111), some (.int y), some (.int x), some (.int m)]) ?_ (⟨rfl, rfl, _, 0, 0, 1, rfl, rfl, by decide, (mRs9 (lo := (12 * (tvI (tF h 111 30)).toNatClampNeg)) hs hk ef829 ef830 ef831 ef832 ef833).1, Or.inl ⟨by decide, by decide, (mRs9 (lo := (12 * (tvI (tF h 111 30)).toNatClampNeg)) hs hk ef829 ef830 ef831 ef832 ef833).2.1, (mRs9 (lo := (12 * (tvI (tF h 111 30)).toNatClampNeg)) hs hk ef829 ef830 ef831 ef832 ef833).2.2.2, [], hr0.choose, rfl, mRw_0, by rw [(mRs9 (lo := (12 * (tvI (tF h 111 30)).toNatClampNeg)) hs hk ef829 ef830 ef831 ef832 ef833).2.2.1]; exact hr0.choose_spec⟩, rfl⟩)
      rintro _ _ _ _ _ _ ⟨rfl, rfl, h1, k, x, m, rfl, hx, hk13, g1, hlp, rfl⟩
      refine tw_iload rfl rfl ?_
      refine tw_if_eq rfl (fun q834 => ?_) (fun q834 => ?_)
      · try dsimp only [tvI_i, tvJ_j, tvR_r] at q834
        have q834i := zeqi (Y := 0) (by decide) q834
        refine tw_aload rfl rfl ?_
        refine tw_push rfl ?_
        refine tw_put rfl (fun f835 => ?_)
        refine tG_setm f835 (hw_111_27 f835 (g1).1) (fun hf835 ef835 => ?_)
        try dsimp only [tvI_i] at ef835
        have gf835 : tSh hf835 ∧ True := ⟨ef835.1, trivial⟩
        refine tw_aload rfl rfl ?_
        refine tw_getS rfl (hi_111_29 (gf835).1) ?_
        refine tw_if_le rfl (fun q836 => ?_) (fun q836 => ?_)
        · try dsimp only [tvI_i, tvJ_j, tvR_r] at q836
          refine tw_aload rfl rfl ?_
          refine tw_getS rfl (hs_111_43 (gf835).1) ?_
          refine tw_aload rfl rfl ?_
          refine tw_getS rfl (hi_111_30 (gf835).1) ?_
          refine tw_iload rfl rfl ?_
          refine tw_iast rfl (fun f837 => ?_)
          refine tG_ast f837 (gf835).1 (fun hf837 af837 => ?_)
          try dsimp only [tvI_i, tvR_r] at af837
          have gf837 : tSh hf837 ∧ True := ⟨af837.1, trivial⟩
          refine tw_aload rfl rfl ?_
          refine tw_getS rfl (hs_111_44 (gf837).1) ?_
          refine tw_aload rfl rfl ?_
          refine tw_getS rfl (hi_111_30 (gf837).1) ?_
          refine tw_iload rfl rfl ?_
          refine tw_iast rfl (fun f838 => ?_)
          refine tG_ast f838 (gf837).1 (fun hf838 af838 => ?_)
          try dsimp only [tvI_i, tvR_r] at af838
          have gf838 : tSh hf838 ∧ True := ⟨af838.1, trivial⟩
          refine tw_aload rfl rfl ?_
          refine tw_dup rfl ?_
          refine tw_getS rfl (hi_111_30 (gf838).1) ?_
          refine tw_push rfl ?_
          refine tw_iadd rfl ?_
          refine tw_put rfl (fun f839 => ?_)
          refine tG_setm f839 (hw_111_30 f839 (gf838).1) (fun hf839 ef839 => ?_)
          try dsimp only [tvI_i] at ef839
          have gf839 : tSh hf839 ∧ True := ⟨ef839.1, trivial⟩
          refine tw_aload rfl rfl ?_
          refine tw_getS rfl (hi_111_30 (gf839).1) ?_
          refine tw_push rfl ?_
          refine tw_isub rfl ?_
          have hend := (hlp.resolve_left (fun z => z.1 q834)).2
          rcases hend with ⟨e9, hr, F9⟩ | ⟨s9, cl9, hr, l9, w9, f9, n9⟩
          · exfalso
            have z := q836
            have c09 : (0 : Int32).toInt = 0 := rfl
            have y9 : (tvI (tF h1 111 29)).toInt = e9 := by rw [F9.1]; exact zofI (by have := F9.2.2; omega)
            rw [ef835.2.2.1 111 29 (by decide)] at z
            have := F9.2.1
            omega
          · exact tw_iret rfl (Or.inr ⟨⟨q827, p828⟩, mRo_r hr g1 ef835 af837 rfl af838 rfl ef839 rfl (by rw [l9]; exact hx) w9 n9⟩)
        · try dsimp only [tvI_i, tvJ_j, tvR_r] at q836
          refine tw_push rfl ?_
          refine tw_aload rfl rfl ?_
          refine tw_getS rfl (hi_111_29 (gf835).1) ?_
          refine tw_isub rfl ?_
          have hend := (hlp.resolve_left (fun z => z.1 q834)).2
          rcases hend with ⟨e9, hr, F9⟩ | ⟨s9, cl9, hr, l9, w9, f9, n9⟩
          · exact tw_iret rfl (Or.inr ⟨⟨q827, p828⟩, mRo_l hr g1 ef835 F9⟩)
          · exfalso
            have z := q836
            rw [ef835.2.2.1 111 29 (by decide), f9] at z
            exact absurd z (by decide)
      · try dsimp only [tvI_i, tvJ_j, tvR_r] at q834
        have q834i := zneq (Y := 0) (by decide) q834
        refine tw_aload rfl rfl ?_
        refine tw_iload rfl rfl ?_
        obtain ⟨hk12, p1, d1, cl, f, hcl, hrw, hru⟩ := (hlp.resolve_right (fun z => q834 z.1)).2
        obtain ⟨r2, hc2, hnx⟩ := rRu_st hru
        refine tw_virt1 rfl (g_clause hG hX g1.1 p1 ((mFz_T g1).trans hT) ((mFz_n g1).trans hN) (c := cl.length) (by rw [hcl]; exact hx) (by omega) rfl d1 hc2) (fun w9 hp840 p840 => ?_)
        obtain ⟨rfl, gp840, ⟨e2, he2, Fp840, Zp840⟩ | ⟨s1, c1, hc1, pp840, sp840, dp840, wp840, nxp840⟩⟩ := mCo_w p840 hnx
        · have gzp840 : mFz (12 * (tvI (tF h 111 30)).toNatClampNeg) h hp840 := mFz_t g1 (mFz_l (by rw [mFz_30 g1]; omega) gp840)
          refine tw_iinc rfl rfl ?_
          refine tw_aload rfl rfl ?_
          refine tw_virt0 rfl (y_blanks hG hX (gzp840).1 Fp840 ((mFz_T gzp840).trans hT) ((mFz_n gzp840).trans hN) Zp840) (fun wp841 hp841 p841 => ?_)
          obtain ⟨rfl, gp841, Fp841, Zp841⟩ := p841
          have gzp841 : mFz (12 * (tvI (tF h 111 30)).toNatClampNeg) h hp841 := mFz_t gzp840 (mFz_w (mFw_f gp841))
          refine tw_aload rfl rfl ?_
          refine tw_getS rfl (hi_111_29 gzp841.1) ?_
          refine tw_if_ne rfl (fun q842 => ?_) (fun q842 => ?_)
          · try dsimp only [tvI_i, tvJ_j, tvR_r] at q842
            have q842i := zneq (Y := 0) (by decide) q842
            refine tw_aload rfl rfl ?_
            refine tw_getS rfl (hi_111_29 gzp841.1) ?_
            refine tw_if_ne rfl (fun q843 => ?_) (fun q843 => ?_)
            · try dsimp only [tvI_i, tvJ_j, tvR_r] at q843
              have q843i := zneq (Y := 0) (by decide) q843
              refine tw_push rfl ?_
              refine tw_istore rfl ?_
              refine tw_aload rfl rfl ?_
              refine tw_dup rfl ?_
              refine tw_getS rfl (hi_111_28 gzp841.1) ?_
              refine tw_push rfl ?_
              refine tw_iadd rfl ?_
              refine tw_put rfl (fun f844 => ?_)
              refine tG_setm f844 (hw_111_28 f844 (gzp841).1) (fun hf844 ef844 => ?_)
              try dsimp only [tvI_i] at ef844
              have gf844 : mFz (12 * (tvI (tF h 111 30)).toNatClampNeg) h hf844 := mFz_s gzp841 ef844 (Or.inl (by unfold mFs; omega))
              refine tw_goto rfl ?_
              exact tG_cut (zW_mono zTt G dp) (Or.inr ⟨rfl, rfl, _, k + 1, x + 1, 0, rfl, zincN hx (by omega), by omega, gf844, Or.inr ⟨rfl, Or.inl ⟨_, he2, mFt_m ef844 (by decide) Fp841⟩⟩, rfl⟩)
            · try dsimp only [tvI_i, tvJ_j, tvR_r] at q843
              have q843i := zeqi (Y := 0) (by decide) q843
              exact absurd q843 (mFt_n Fp841)
          · try dsimp only [tvI_i, tvJ_j, tvR_r] at q842
            have q842i := zeqi (Y := 0) (by decide) q842
            exact absurd q842 (mFt_n Fp841)
        · have gzp840 : mFz (12 * (tvI (tF h 111 30)).toNatClampNeg) h hp840 := mFz_t g1 (mFz_l (by rw [mFz_30 g1]; omega) gp840)
          have hwp840 : mRw hp840 (12 * (tvI (tF h 111 30)).toNatClampNeg) (cl ++ [c1]) := mRw_s (mRw_z hrw gp840 (by rw [mFz_30 g1]; exact Nat.le_refl _)) (by have z := wp840; rw [mFz_30 g1] at z; exact z)
          refine tw_iinc rfl rfl ?_
          refine tw_aload rfl rfl ?_
          refine tw_virt0 rfl (g_blanks hG hX (gzp840).1 pp840 ((mFz_T gzp840).trans hT) ((mFz_n gzp840).trans hN)) (fun wp845 hp845 p845 => ?_)
          obtain ⟨rfl, gp845, pp845, sp845, tp845, dp845⟩ := p845
          have gzp845 : mFz (12 * (tvI (tF h 111 30)).toNatClampNeg) h hp845 := mFz_t gzp840 (mFz_w (mFw_f gp845))
          have Sp845 : ms hp845 = rA (rB T n s1.1) s1 := by rw [sp845, sp840]; exact rB_A
          have Dp845 : tvI (tF hp845 111 32) = 0 := by rw [dp845]; exact dp840
          have hwp845 : mRw hp845 (12 * (tvI (tF h 111 30)).toNatClampNeg) (cl ++ [c1]) := mRw_z hwp840 (mFz_w (lo := (12 * (tvI (tF h 111 30)).toNatClampNeg) + (cl ++ [c1]).length) (mFw_f gp845)) (Nat.le_refl _)
          refine tw_aload rfl rfl ?_
          refine tw_getS rfl (hi_111_29 gzp845.1) ?_
          refine tw_if_ne rfl (fun q846 => ?_) (fun q846 => ?_)
          · try dsimp only [tvI_i, tvJ_j, tvR_r] at q846
            have q846i := zneq (Y := 0) (by decide) q846
            exact absurd (mP_0 pp845) q846
          · try dsimp only [tvI_i, tvJ_j, tvR_r] at q846
            have q846i := zeqi (Y := 0) (by decide) q846
            refine tw_aload rfl rfl ?_
            refine tw_getS rfl (hi_111_28 gzp845.1) ?_
            refine tw_aload rfl rfl ?_
            refine tw_getS rfl (hi_111_27 gzp845.1) ?_
            refine tw_ic_ge rfl (fun q847 => ?_) (fun q847 => ?_)
            · try dsimp only [tvI_i, tvJ_j, tvR_r] at q847
              refine tw_aload rfl rfl ?_
              refine tw_getS rfl (hi_111_29 gzp845.1) ?_
              refine tw_if_ne rfl (fun q848 => ?_) (fun q848 => ?_)
              · try dsimp only [tvI_i, tvJ_j, tvR_r] at q848
                have q848i := zneq (Y := 0) (by decide) q848
                exact absurd (mP_0 pp845) q848
              · try dsimp only [tvI_i, tvJ_j, tvR_r] at q848
                have q848i := zeqi (Y := 0) (by decide) q848
                refine tw_aload rfl rfl ?_
                refine tw_getS rfl (hi_111_28 gzp845.1) ?_
                refine tw_aload rfl rfl ?_
                refine tw_getS rfl (hi_111_27 gzp845.1) ?_
                refine tw_ic_ge rfl (fun q849 => ?_) (fun q849 => ?_)
                · try dsimp only [tvI_i, tvJ_j, tvR_r] at q849
                  refine tw_push rfl ?_
                  refine tw_istore rfl ?_
                  refine tw_aload rfl rfl ?_
                  refine tw_dup rfl ?_
                  refine tw_getS rfl (hi_111_28 gzp845.1) ?_
                  refine tw_push rfl ?_
                  refine tw_iadd rfl ?_
                  refine tw_put rfl (fun f850 => ?_)
                  refine tG_setm f850 (hw_111_28 f850 (gzp845).1) (fun hf850 ef850 => ?_)
                  try dsimp only [tvI_i] at ef850
                  have gf850 : mFz (12 * (tvI (tF h 111 30)).toNatClampNeg) h hf850 := mFz_s gzp845 ef850 (Or.inl (by unfold mFs; omega))
                  refine tw_goto rfl ?_
                  have hlt : ¬ rB T n s1.1 < n := by have z := fun y => Int.not_lt.mpr q847 ((mpos ⟨pp845.2.1.1, by have := pp845.2.1; omega⟩).mpr y); rw [Sp845, rA_1, (mFz_n gzp845).trans hN] at z; exact z
                  have hwn := mRw_m hwp845 ef850
                  have hln : (cl ++ [c1]).length = k + 1 := by rw [List.length_append, hcl]; rfl
                  have hr := nx_1 nxp840 hlt
                  exact tG_cut (zW_mono zTt G dp) (Or.inr ⟨rfl, rfl, _, k + 1, x + 1, 0, rfl, zincN hx (by omega), by omega, gf850, Or.inr ⟨rfl, Or.inr ⟨_, _, hr, hln, hwn, (ef850.2.2.1 111 29 (by decide)).trans pp845.1, (mEn_o ef850 (by decide) (by decide)).trans (congrArg (fun z : rS => z.2.2) Sp845)⟩⟩, rfl⟩)
                · try dsimp only [tvI_i, tvJ_j, tvR_r] at q849
                  exact absurd q849 (Int.not_lt.mpr q847)
            · try dsimp only [tvI_i, tvJ_j, tvR_r] at q847
              refine tw_aload rfl rfl ?_
              refine tw_virt0 rfl (g_sign hG hX (gzp845).1 ((mFz_T gzp845).trans hT) ((mFz_n gzp845).trans hN) ⟨pp845.2.1.1, by have := pp845.2.1; omega⟩) (fun wp851 hp851 p851 => ?_)
              obtain ⟨⟨cp851, rfl, kp851⟩, rfl⟩ := p851
              refine tw_push rfl ?_
              refine tw_ic_eq rfl (fun q852 => ?_) (fun q852 => ?_)
              · try dsimp only [tvI_i, tvJ_j, tvR_r] at q852
                have q852i := zeqi (Y := 59) (by decide) q852
                refine tw_aload rfl rfl ?_
                refine tw_getS rfl (hi_111_29 (gzp845).1) ?_
                refine tw_if_ne rfl (fun q853 => ?_) (fun q853 => ?_)
                · try dsimp only [tvI_i, tvJ_j, tvR_r] at q853
                  have q853i := zneq (Y := 0) (by decide) q853
                  exact absurd (mP_0 pp845) q853
                · try dsimp only [tvI_i, tvJ_j, tvR_r] at q853
                  have q853i := zeqi (Y := 0) (by decide) q853
                  refine tw_aload rfl rfl ?_
                  refine tw_getS rfl (hi_111_28 (gzp845).1) ?_
                  refine tw_aload rfl rfl ?_
                  refine tw_getS rfl (hi_111_27 (gzp845).1) ?_
                  refine tw_ic_ge rfl (fun q854 => ?_) (fun q854 => ?_)
                  · try dsimp only [tvI_i, tvJ_j, tvR_r] at q854
                    exact absurd q847 (Int.not_lt.mpr q854)
                  · try dsimp only [tvI_i, tvJ_j, tvR_r] at q854
                    refine tw_push rfl ?_
                    refine tw_goto rfl ?_
                    refine tw_istore rfl ?_
                    refine tw_aload rfl rfl ?_
                    refine tw_dup rfl ?_
                    refine tw_getS rfl (hi_111_28 (gzp845).1) ?_
                    refine tw_push rfl ?_
                    refine tw_iadd rfl ?_
                    refine tw_put rfl (fun f855 => ?_)
                    refine tG_setm f855 (hw_111_28 f855 (gzp845).1) (fun hf855 ef855 => ?_)
                    try dsimp only [tvI_i] at ef855
                    have gf855 : mFz (12 * (tvI (tF h 111 30)).toNatClampNeg) h hf855 := mFz_s gzp845 ef855 (Or.inl (by unfold mFs; omega))
                    refine tw_goto rfl ?_
                    have hlt : rB T n s1.1 < n := by have z := (mpos ⟨pp845.2.1.1, by have := pp845.2.1; omega⟩).mp q847; rw [Sp845, rA_1, (mFz_n gzp845).trans hN] at z; exact z
                    have h59 : cp851 = 59 ↔ rB T n s1.1 < n ∧ T (rB T n s1.1) = 59 := by have y := sgm_k kp851 59 (by decide); rw [Sp845, rA_1] at y; exact y
                    have hwn := mRw_m hwp845 ef855
                    have hln : (cl ++ [c1]).length = k + 1 := by rw [List.length_append, hcl]; rfl
                    have hcn := rCl_12 (by rw [hc1] at hc2; exact hc2)
                    obtain ⟨f9, hf9⟩ := nx_2 nxp840 (h59.mp q852)
                    have hn4 : n ≤ 400 := by have a := mNl pp845 ((mFz_n gzp845).trans hN); have b := pp845.2.1; omega
                    obtain ⟨pn, sn, tn⟩ := mTo pp845 ((mFz_n gzp845).trans hN) ef855 (v := rB T n s1.1 + 1) (zincN (n := rB T n s1.1) (by rw [mPl pp845, Sp845, rA_1]) (by omega)) hlt
                    rw [Sp845, rA_A] at sn
                    exact tG_cut (zW_mono zTt G dp) (Or.inr ⟨rfl, rfl, _, k + 1, x + 1, 1, rfl, zincN hx (by omega), by omega, gf855, Or.inl ⟨by decide, by omega, pn, (by rw [mI_o ef855 (by decide)]; exact Dp845), _, f9, hln, hwn, by rw [sn]; exact hf9⟩, rfl⟩)
              · try dsimp only [tvI_i, tvJ_j, tvR_r] at q852
                have q852i := zneq (Y := 59) (by decide) q852
                refine tw_aload rfl rfl ?_
                refine tw_push rfl ?_
                refine tw_aload rfl rfl ?_
                refine tw_getS rfl (hi_111_28 (gzp845).1) ?_
                refine tw_virt2 rfl (g_fails hG hX (gzp845).1 pp845 ((mFz_T gzp845).trans hT) ((mFz_n gzp845).trans hN) (w := 0) rfl (by decide) (mPl pp845) (by have := mPle pp845 ((mFz_n gzp845).trans hN); have := mNl pp845 ((mFz_n gzp845).trans hN); have := pp845.2.1; omega)) (fun wp856 hp856 p856 => ?_)
                obtain ⟨rfl, gp856, Fp856, ip856, jp856⟩ := p856
                have gzp856 : mFz (12 * (tvI (tF h 111 30)).toNatClampNeg) h hp856 := mFz_t gzp845 (mFz_w (mFw_f gp856))
                have Zp856 : mZp hp856 := mZp_k (mZp_p pp845) ip856 jp856
                rw [Sp845, rA_1] at Fp856
                refine tw_aload rfl rfl ?_
                refine tw_getS rfl (hi_111_29 gzp856.1) ?_
                refine tw_if_ne rfl (fun q857 => ?_) (fun q857 => ?_)
                · try dsimp only [tvI_i, tvJ_j, tvR_r] at q857
                  have q857i := zneq (Y := 0) (by decide) q857
                  refine tw_push rfl ?_
                  refine tw_istore rfl ?_
                  refine tw_aload rfl rfl ?_
                  refine tw_dup rfl ?_
                  refine tw_getS rfl (hi_111_28 gzp856.1) ?_
                  refine tw_push rfl ?_
                  refine tw_iadd rfl ?_
                  refine tw_put rfl (fun f858 => ?_)
                  refine tG_setm f858 (hw_111_28 f858 (gzp856).1) (fun hf858 ef858 => ?_)
                  try dsimp only [tvI_i] at ef858
                  have gf858 : mFz (12 * (tvI (tF h 111 30)).toNatClampNeg) h hf858 := mFz_s gzp856 ef858 (Or.inl (by unfold mFs; omega))
                  refine tw_goto rfl ?_
                  have hlt : rB T n s1.1 < n := by have z := (mpos ⟨pp845.2.1.1, by have := pp845.2.1; omega⟩).mp q847; rw [Sp845, rA_1, (mFz_n gzp845).trans hN] at z; exact z
                  have h59 : cp851 = 59 ↔ rB T n s1.1 < n ∧ T (rB T n s1.1) = 59 := by have y := sgm_k kp851 59 (by decide); rw [Sp845, rA_1] at y; exact y
                  have hr := nx_3 nxp840 hlt (fun z => q852 (h59.mpr z))
                  exact tG_cut (zW_mono zTt G dp) (Or.inr ⟨rfl, rfl, _, k + 1, x + 1, 0, rfl, zincN hx (by omega), by omega, gf858, Or.inr ⟨rfl, Or.inl ⟨_, hr, mFt_m ef858 (by decide) Fp856⟩⟩, rfl⟩)
                · try dsimp only [tvI_i, tvJ_j, tvR_r] at q857
                  have q857i := zeqi (Y := 0) (by decide) q857
                  exact absurd q857 (mFt_n Fp856)
    · try dsimp only [tvI_i, tvJ_j, tvR_r] at p828
      obtain rfl := e9.symm
      refine tw_if_ne rfl (fun z => absurd z (by decide)) (fun _ => ?_)
      refine tw_push rfl ?_
      exact tw_iret rfl (Or.inl ⟨fun z => p828 z.2, rfl, rfl⟩)
section CP11
variable {tt : zT} {G : zG} {cd : zK} {bc bs : Nat} {rt : Option FieldType} {dp : Nat} {Q : zQ} {Z : zX} {f : Bool} {pc : Nat} {L : zL} {s : List Value} {h : zH} {c n nx a b d r y : Nat} {v : Value} {m x1 x2 : Int32}
theorem tw_clone (hc : cd[pc]? = some (some (.castore, nx, a, b, d, v))) (k : ∀ (N : Nat) (g : Nat → Int32), h[r]? = some (.inl (0, N, .inl g)) → tG tt G cd bc bs rt (zW tt G dp) Q Z true nx L (.ref h.length :: s) (h ++ [.inl (0, N, .inl g)]) (c + 1) (n + N)) : tG tt G cd bc bs rt (zW tt G dp) Q Z f pc L (.ref r :: s) h c n := tG_row hc (fun z => Or.elim z (fun z => False.elim z) (fun z => by
  obtain ⟨N, g, e, e2, z⟩ := z
  exact Or.inr ⟨N, g, e, e2, k N g e z⟩))
theorem tw_cast (hc : cd[pc]? = some (some (.fmul, nx, a, b, d, v))) (k : tG tt G cd bc bs rt (zW tt G dp) Q Z true nx L (.ref r :: s) h c n) : tG tt G cd bc bs rt (zW tt G dp) Q Z f pc L (.ref r :: s) h c n := tG_row hc (fun z => Or.elim z (fun z => False.elim z) (fun z => by
  obtain ⟨N, g, e, e2, z⟩ := z
  exact Or.inr ⟨N, g, e, e2, k z⟩))
theorem tw_acpy (hc : cd[pc]? = some (some (.sastore, nx, a, b, d, v))) (k : ∀ (N K : Nat) (f1 g1 : Nat → Int32), h[r]? = some (.inl (0, N, .inl f1)) → h[y]? = some (.inl (0, K, .inl g1)) → tG tt G cd bc bs rt (zW tt G dp) Q Z true nx L s (h.set y (.inl (0, K, .inl (va_cpy f1 g1 0 0 m.toNatClampNeg)))) c n) : tG tt G cd bc bs rt (zW tt G dp) Q Z f pc L (.int m :: .int x1 :: .ref y :: .int x2 :: .ref r :: s) h c n := tG_row hc (fun z => Or.elim z (fun z => False.elim z) (fun z => by
  obtain ⟨N, K, f1, g1, e1, e2, e3, z⟩ := z
  exact Or.inr ⟨N, K, f1, g1, e1, e2, e3, k N K f1 g1 e1 e2 z⟩))
end CP11
/-- one array more, the first of another one's -/
noncomputable def cpy (h h2 : zH) (r : Nat) (m : Int32) : Prop := h2.length = h.length + 1 ∧ (∀ p b, p < h.length → tF h2 p b = tF h p b) ∧ (∀ p, p < h.length → tA h2 p = tA h p ∧ tO h2 p = tO h p ∧ tN h2 p = tN h p) ∧ tN h2 h.length = m.toNatClampNeg ∧ ∀ i, i < m.toNatClampNeg → tA h2 h.length i = tA h r i
theorem cpy_of {h : zH} {r N : Nat} {m : Int32} {f g : Nat → Int32} (hr : h[r]? = some (.inl (0, N, .inl f))) (hg : ∀ i, i < m.toNatClampNeg → g i = f i) : cpy h (h ++ [.inl (0, m.toNatClampNeg, .inl g)]) r m := by
  have hf : tA h r = f := by
    funext i
    unfold tA
    rw [hr]
  refine ⟨by rw [List.length_append]; rfl, fun p b hp => ?_, fun p hp => ⟨?_, ?_, ?_⟩, ?_, fun i hi => ?_⟩
  · unfold tF
    rw [List.getElem?_append_left hp]
  · funext i
    unfold tA
    rw [List.getElem?_append_left hp]
  · funext i
    unfold tO
    rw [List.getElem?_append_left hp]
  · unfold tN
    rw [List.getElem?_append_left hp]
  · unfold tN
    rw [List.getElem?_append_right (Nat.le_refl _), Nat.sub_self]
    rfl
  · rw [hf, ← hg i hi]
    unfold tA
    rw [List.getElem?_append_right (Nat.le_refl _), Nat.sub_self]
    rfl
theorem cpy_sh {h h2 : zH} {r : Nat} {m : Int32} (hl : 182 ≤ h.length) (k : cpy h h2 r m) (hs : tSh h) : tSh h2 := by
  have a1 : tSr.all (fun q => Nat.blt q.1 182) = true := by decide +kernel
  have a2 : tSi.all (fun q => Nat.blt q.1 182) = true := by decide +kernel
  refine ⟨fun q hq => ?_, fun q hq => ?_⟩
  · have := Nat.le_of_ble_eq_true (List.all_eq_true.mp a1 q hq)
    rw [k.2.1 _ _ (by omega)]; exact hs.1 q hq
  · have := Nat.le_of_ble_eq_true (List.all_eq_true.mp a2 q hq)
    rw [k.2.1 _ _ (by omega)]; exact hs.2 q hq
theorem tw_alenF {tt : zT} {G : zG} {cd : zK} {bc bs : Nat} {rt : Option FieldType} {dp : Nat} {Q : zQ} {Z : zX} {f : Bool} {pc : Nat} {L : zL} {s : List Value} {h : zH} {c n nx a b d r : Nat} {v : Value} (hc : cd[pc]? = some (some (.arraylength, nx, a, b, d, v))) (k : ∀ (kd N : Nat) (x : (Nat → Int32) ⊕ (Nat → Int64) ⊕ (Nat → UInt32) ⊕ (Nat → UInt64) ⊕ (Nat → Option Nat)), h[r]? = some (.inl (kd, N, x)) → tG tt G cd bc bs rt (zW tt G dp) Q Z true nx L (.int (Int32.ofNat N) :: s) h c n) : tG tt G cd bc bs rt (zW tt G dp) Q Z f pc L (.ref r :: s) h c n := tG_row hc (fun z => Or.elim z (fun z => False.elim z) (fun z => by
  obtain ⟨kd, N, x, hk, e, z⟩ := z
  exact Or.inr ⟨kd, N, x, hk, e, k kd N x e z⟩))
theorem f_copyOf {G : zG} (hG : G.1 = zProg) {h : zH} {r : Nat} {m : Int32} (hm : 0 ≤ m.toInt ∧ m.toInt ≤ (tN h r : Int) ∧ tN h r ≤ 1000) : tC zTt G 283 [.ref r, .int m] h (fun w h2 => w = some (.ref h.length) ∧ cpy h h2 r m) := by
  refine tC_in (by rw [hG]; rfl) (fun dp => ?_)
  refine tw_iload rfl rfl ?_
  refine tw_aload rfl rfl ?_
  refine tw_alenF rfl (fun kd N x e0 => ?_)
  have hl : r < h.length := by
    rcases Nat.lt_or_ge r h.length with z | z
    · exact z
    · rw [List.getElem?_eq_none z] at e0; cases e0
  have hN : tN h r = N := by unfold tN; rw [e0]
  rw [hN] at hm
  refine tw_ic_ne rfl (fun q => ?_) (fun q => ?_)
  · have q : ¬ m = Int32.ofNat N := q
    have hlt : m < Int32.ofNat N := Int32.lt_iff_toInt_lt.mpr (by
      rw [yofN (by omega)]
      have : m.toInt ≠ (N : Int) := fun z => q (Int32.toInt_inj.mp (by rw [yofN (by omega)]; exact z))
      omega)
    refine tw_iload rfl rfl ?_
    refine tw_newa rfl ?_
    refine tw_astore rfl ?_
    refine tw_aload rfl rfl ?_
    refine tw_push rfl ?_
    refine tw_aload rfl rfl ?_
    refine tw_push rfl ?_
    refine tw_aload rfl rfl ?_
    refine tw_alenF rfl (fun k5 N5 x5 e5 => ?_)
    have e5 : (h ++ [zarr (zkind .int) m.toNatClampNeg])[r]? = some (.inl (k5, N5, x5)) := e5
    rw [List.getElem?_append_left hl, e0] at e5
    cases e5
    refine tw_iload rfl rfl ?_
    refine tw_imin rfl ?_
    refine tw_acpy rfl (fun N2 K f1 g1 e1 e2 => ?_)
    have e1 : (h ++ [zarr (zkind .int) m.toNatClampNeg])[r]? = some (.inl (0, N2, .inl f1)) := e1
    have e2 : (h ++ [zarr (zkind .int) m.toNatClampNeg])[h.length]? = some (.inl (0, K, .inl g1)) := e2
    rw [List.getElem?_append_left hl, e0] at e1
    cases e1
    rw [List.getElem?_append_right (Nat.le_refl _), Nat.sub_self] at e2
    have e3 : zarr (zkind .int) m.toNatClampNeg = .inl (0, m.toNatClampNeg, .inl (fun _ => 0)) := rfl
    have e2 : some (zarr (zkind .int) m.toNatClampNeg) = some (.inl (0, K, .inl g1)) := e2
    rw [e3] at e2
    cases e2
    refine tw_aload rfl rfl ?_
    refine tw_aret rfl ⟨rfl, ?_⟩
    show cpy h ((h ++ [zarr (zkind .int) m.toNatClampNeg]).set h.length (.inl (0, m.toNatClampNeg, .inl (va_cpy f1 (fun _ => 0) 0 0 (if m < Int32.ofNat N then m else Int32.ofNat N).toNatClampNeg)))) r m
    rw [List.set_append_right _ _ (Nat.le_refl _), Nat.sub_self, if_pos hlt]
    exact cpy_of e0 (fun i hi => by
      unfold va_cpy
      rw [if_pos ⟨Nat.zero_le _, by omega⟩, Nat.zero_add, Nat.sub_zero])
  · have q : m = Int32.ofNat N := q
    have hmN : m.toNatClampNeg = N := by
      rw [zclE, q, yofN (by omega)]
      rfl
    refine tw_aload rfl rfl ?_
    refine tw_clone rfl (fun N2 g e => ?_)
    have e : h[r]? = some (.inl (0, N2, .inl g)) := e
    rw [e0] at e
    cases e
    refine tw_cast rfl ?_
    refine tw_aret rfl ⟨rfl, ?_⟩
    have := cpy_of (m := m) (g := g) e0 (fun _ _ => rfl)
    rw [hmN] at this
    exact this
theorem tO_st {h : zH} {r i : Nat} {x : Option Nat} {z : Int32} (hf : tInO h r z) {f : Nat → Option Nat} (k : tO h r = f) : tO (tSO h r i x) r = fun j => if j = i then x else f j := by
  rw [tO_tSO hf.cell]
  funext j
  dsimp only
  rw [k]
  by_cases e : j = i
  · rw [if_pos ⟨rfl, e⟩, if_pos e]
  · rw [if_neg (fun z => e z.2), if_neg e]
theorem tO_nz {h : zH} {r i p : Nat} {x : Option Nat} {z : Int32} (hf : tInO h r z) (hn : p ≠ r) : tO (tSO h r i x) p = tO h p := by
  rw [tO_tSO hf.cell]
  funext j
  exact if_neg (fun z => hn z.1)
/-- one rule more -/
noncomputable def cAdd (m : Int32) (h h2 : zH) : Prop := tF h2 48 3 = .int (tvI (tF h 48 3) + 1) ∧ tA h2 49 = (fun j => if j = (tvI (tF h 48 3)).toNatClampNeg then m else tA h 49 j) ∧ tO h2 50 = (fun j => if j = (tvI (tF h 48 3)).toNatClampNeg then some h.length else tO h 50 j) ∧ tO h2 51 = (fun j => if j = (tvI (tF h 48 3)).toNatClampNeg then some (h.length + 1) else tO h 51 j) ∧ tN h2 h.length = (tvI (tF h 44 5)).toNatClampNeg ∧ (∀ i, i < (tvI (tF h 44 5)).toNatClampNeg → tA h2 h.length i = tA h 46 i) ∧ tN h2 (h.length + 1) = (tvI (tF h 44 7) * 4).toNatClampNeg ∧ (∀ i, i < (tvI (tF h 44 7) * 4).toNatClampNeg → tA h2 (h.length + 1) i = tA h 47 i) ∧ (∀ p, p < h.length → p ≠ 49 → tA h2 p = tA h p) ∧ (∀ p b, p < h.length → ¬ (p = 48 ∧ b = 3) → tF h2 p b = tF h p b) ∧ (∀ p, p < h.length → p ≠ 50 → p ≠ 51 → tO h2 p = tO h p) ∧ ∀ p, p < h.length → tN h2 p = tN h p
theorem cAdd_of {h a b : zH} {m i : Int32} {kd : Nat} (hl : 182 ≤ h.length) (e : i = tvI (tF h 48 3)) (f1 : tIn h 49 kd i) (k1 : cpy (tSA h 49 i.toNatClampNeg m) a 46 (tvI (tF h 44 5))) (f2 : tInO a 50 i) (k2 : cpy (tSO a 50 i.toNatClampNeg (some (tSA h 49 i.toNatClampNeg m).length)) b 47 (tvI (tF h 44 7) * 4)) (f3 : tInO b 51 i) (f4 : tFd (tSO b 51 i.toNatClampNeg (some (tSO a 50 i.toNatClampNeg (some (tSA h 49 i.toNatClampNeg m).length)).length)) 48 3) : cAdd m h (tSF (tSO b 51 i.toNatClampNeg (some (tSO a 50 i.toNatClampNeg (some (tSA h 49 i.toNatClampNeg m).length)).length)) 48 3 (.int (i + 1))) := by
  subst e
  have L1 : (tSA h 49 (tvI (tF h 48 3)).toNatClampNeg m).length = h.length := tlen_tSA _ _ _ _
  rw [L1] at k2 f4 ⊢
  have La : a.length = h.length + 1 := by rw [k1.1, L1]
  have L2 : (tSO a 50 (tvI (tF h 48 3)).toNatClampNeg (some h.length)).length = h.length + 1 := by rw [tlen_tSO, La]
  rw [L2] at f4 ⊢
  obtain ⟨-, u1, u2, u3, u4⟩ := k1
  obtain ⟨-, v1, v2, v3, v4⟩ := k2
  rw [L1] at u1 u2 u3 u4
  rw [L2] at v1 v2 v3 v4
  refine ⟨tF_same f4, ?_, ?_, ?_, ?_, ?_, ?_, ?_, ?_, ?_, ?_, ?_⟩
  · rw [tA_tSF, tA_tSO, (v2 49 (by omega)).1, tA_tSO, (u2 49 (by omega)).1]
    exact tA_st f1 rfl
  · rw [tO_tSF, tO_nz f3 (by decide), (v2 50 (by omega)).2.1]
    refine tO_st f2 ?_
    rw [(u2 50 (by omega)).2.1, tO_tSA]
  · rw [tO_tSF]
    refine tO_st f3 ?_
    rw [(v2 51 (by omega)).2.1, tO_nz f2 (by decide), (u2 51 (by omega)).2.1, tO_tSA]
  · rw [tN_tSF, tN_tSO, (v2 h.length (by omega)).2.2, tN_tSO]
    exact u3
  · intro j hj
    rw [tA_tSF, tA_tSO, (v2 h.length (by omega)).1, tA_tSO, u4 j hj, tA_nz (by decide)]
  · rw [tN_tSF, tN_tSO]
    exact v3
  · intro j hj
    rw [tA_tSF, tA_tSO, v4 j hj, tA_tSO, (u2 47 (by omega)).1, tA_nz (by decide)]
  · intro p hp hn
    rw [tA_tSF, tA_tSO, (v2 p (by omega)).1, tA_tSO, (u2 p hp).1, tA_nz hn]
  · intro p c hp hn
    rw [tF_nz hn, tF_tSO, v1 p c (by omega), tF_tSO, u1 p c hp, tF_tSA]
  · intro p hp n1 n2
    rw [tO_tSF, tO_nz f3 n2, (v2 p (by omega)).2.1, tO_nz f2 n1, (u2 p hp).2.1, tO_tSA]
  · intro p hp
    rw [tN_tSF, tN_tSO, (v2 p (by omega)).2.2, tN_tSO, (u2 p hp).2.2, tN_tSA]
theorem f_bfull {G : zG} (hG : G.1 = zProg) {h : zH} (hs : tSh h) : tC zTt G 63 [.ref 48] h (fun w h2 => tBo ((tvI (tF h 48 3)).toInt = 10) w ∧ h2 = h) := by
  refine tC_in (by rw [hG]; rfl) (fun dp => ?_)
  refine tw_aload rfl rfl ?_
  refine tw_getS rfl (hi_48_3 hs) ?_
  refine tw_push rfl ?_
  refine tw_ic_ne rfl (fun q859 => ?_) (fun q859 => ?_)
  · try dsimp only [tvI_i, tvJ_j, tvR_r] at q859
    have q859i := zneq (Y := 10) (by decide) q859
    refine tw_push rfl ?_
    exact tw_iret rfl ⟨Or.inr ⟨by omega, rfl⟩, rfl⟩
  · try dsimp only [tvI_i, tvJ_j, tvR_r] at q859
    have q859i := zeqi (Y := 10) (by decide) q859
    refine tw_push rfl ?_
    refine tw_goto rfl ?_
    exact tw_iret rfl ⟨Or.inl ⟨by omega, rfl⟩, rfl⟩
theorem f_addRule {G : zG} (hG : G.1 = zProg) {h : zH} {m : Int32} (hs : tSh h) (hl : 182 ≤ h.length) (hc : 0 ≤ (tvI (tF h 44 5)).toInt ∧ (tvI (tF h 44 5)).toInt ≤ 400) (hk : 0 ≤ (tvI (tF h 44 7)).toInt ∧ (tvI (tF h 44 7)).toInt ≤ 12) (h46 : tN h 46 = 400) (h47 : tN h 47 = 48) : tC zTt G 64 [.ref 48, .int m, .ref 44] h (fun w h2 => (¬ (tvI (tF h 48 3)).toInt = 10 ∧ w = some (tF h 48 3) ∧ cAdd m h h2) ∨ (¬ ¬ (tvI (tF h 48 3)).toInt = 10 ∧ w = some (.int (-1)) ∧ h2 = h)) := by
  refine tC_in (by rw [hG]; rfl) (fun dp => ?_)
  have m4 : (tvI (tF h 44 7) * 4).toInt = (tvI (tF h 44 7)).toInt * 4 := zi32_4 hk.1 (by omega)
  refine tw_aload rfl rfl ?_
  refine tw_virt0 rfl (f_bfull hG hs) (fun w9 h9 p860 => ?_)
  obtain ⟨⟨p860, rfl⟩ | ⟨p860, rfl⟩, e9⟩ := p860
  · try dsimp only [tvI_i, tvJ_j, tvR_r] at p860
    obtain rfl := e9.symm
    refine tw_if_eq rfl (fun z => absurd z (by decide)) (fun _ => ?_)
    refine tw_push rfl ?_
    exact tw_iret rfl (Or.inr ⟨by omega, rfl, rfl⟩)
  · try dsimp only [tvI_i, tvJ_j, tvR_r] at p860
    obtain rfl := e9.symm
    refine tw_if_eq rfl (fun _ => ?_) (fun z => absurd z (by decide))
    refine tw_aload rfl rfl ?_
    refine tw_getS rfl (hs_48_0 hs) ?_
    refine tw_aload rfl rfl ?_
    refine tw_getS rfl (hi_48_3 hs) ?_
    refine tw_iload rfl rfl ?_
    refine tw_iast rfl (fun f861 => ?_)
    refine tw_aload rfl rfl ?_
    refine tw_getS rfl (hs_48_1 (tSh_SA hs)) ?_
    refine tw_aload rfl rfl ?_
    refine tw_getS rfl (tF_a (hi_48_3 hs)) ?_
    refine tw_aload rfl rfl ?_
    refine tw_getS rfl (hs_44_4 (tSh_SA hs)) ?_
    refine tw_aload rfl rfl ?_
    refine tw_getS rfl (tF_a (hi_44_5 hs)) ?_
    refine tw_stat2 rfl (f_copyOf hG (r := 46) (by rw [tN_tSA, h46]; omega)) (fun wp862 hp862 p862 => ?_)
    obtain ⟨rfl, cp862⟩ := p862
    refine tw_aast rfl (fun f863 => ?_)
    refine tw_aload rfl rfl ?_
    refine tw_getS rfl (hs_48_2 (tSh_SO (cpy_sh (by rw [tlen_tSA]; exact hl) cp862 (tSh_SA hs)))) ?_
    refine tw_aload rfl rfl ?_
    refine tw_getS rfl (tF_o ((cp862.2.1 48 3 (by rw [tlen_tSA]; omega)).trans (tF_a (hi_48_3 hs)))) ?_
    refine tw_aload rfl rfl ?_
    refine tw_getS rfl (hs_44_6 (tSh_SO (cpy_sh (by rw [tlen_tSA]; exact hl) cp862 (tSh_SA hs)))) ?_
    refine tw_aload rfl rfl ?_
    refine tw_getS rfl (tF_o ((cp862.2.1 44 7 (by rw [tlen_tSA]; omega)).trans (tF_a (hi_44_7 hs)))) ?_
    refine tw_push rfl ?_
    refine tw_imul rfl ?_
    refine tw_stat2 rfl (f_copyOf hG (r := 47) (by rw [tN_tSO, (cp862.2.2.1 47 (by rw [tlen_tSA]; omega)).2.2, tN_tSA, h47]; show 0 ≤ (tvI (tF h 44 7) * 4).toInt ∧ (tvI (tF h 44 7) * 4).toInt ≤ ((48 : Nat) : Int) ∧ 48 ≤ 1000; rw [m4]; omega)) (fun wp864 hp864 p864 => ?_)
    obtain ⟨rfl, cp864⟩ := p864
    refine tw_aast rfl (fun f865 => ?_)
    refine tw_aload rfl rfl ?_
    refine tw_dup rfl ?_
    refine tw_getS rfl (tF_o ((cp864.2.1 48 3 (by rw [tlen_tSO, cp862.1, tlen_tSA]; omega)).trans (tF_o ((cp862.2.1 48 3 (by rw [tlen_tSA]; omega)).trans (tF_a (hi_48_3 hs)))))) ?_
    refine tw_dup_x1 rfl ?_
    refine tw_push rfl ?_
    refine tw_iadd rfl ?_
    refine tw_put rfl (fun f866 => ?_)
    exact tw_iret rfl (Or.inl ⟨by omega, congrArg some (hi_48_3 hs).symm, cAdd_of hl rfl f861 cp862 f863 cp864 f865 f866⟩)
noncomputable def R_rules (h : zH) : Prop := tF h 48 3 = tF h 111 30
noncomputable def R_froms (h : zH) : Prop := tA h 49 = tA h 141
theorem len_181 {h : zH} (e : tN h 181 = 81) : 182 ≤ h.length := by
  rcases Nat.lt_or_ge 181 h.length with q | q
  · omega
  · unfold tN at e
    rw [List.getElem?_eq_none q] at e
    cases e
theorem tN_lt {h : zH} {p : Nat} (e : 0 < tN h p) : p < h.length := by
  refine Classical.byContradiction (fun z => ?_)
  unfold tN at e
  rw [List.getElem?_eq_none (by omega)] at e
  exact absurd e (Nat.lt_irrefl 0)
theorem tC_and {tt : zT} {G : zG} {j : Nat} {as : List Value} {h : zH} {P Q : zQ} (k : tC tt G j as h P) (k2 : tC tt G j as h Q) : tC tt G j as h (fun w h2 => P w h2 ∧ Q w h2) := fun d z => zW_conj tt G d _ _ _ _ _ (k d z) (k2 d z)
theorem tC_triv {tt : zT} {G : zG} {j : Nat} {as : List Value} {h : zH} {Q : zQ} (k : ∀ w h2, Q w h2) : tC tt G j as h Q := fun d z => zW_mono tt G d _ _ _ _ _ (fun w h2 _ => k w h2) z
theorem f_cutTo2 {G : zG} (hG : G.1 = zProg) {h : zH} {n : Int32} : tC zTt G 74 [.ref 44, .int n] h (fun w h2 => w = some (.int n) ∧ h2 = tSF h 44 1 (.int n) ∧ tFd h 44 1) := by
  refine tC_in (by rw [hG]; rfl) (fun dp => ?_)
  refine tw_aload rfl rfl ?_
  refine tw_iload rfl rfl ?_
  refine tw_put rfl (fun f2 => ?_)
  refine tw_iload rfl rfl ?_
  exact tw_iret rfl ⟨rfl, rfl, f2⟩
/-- the codes in an array; a rule's clauses in one -/
noncomputable def cArr (h : zH) (a : Nat) : List Nat := (List.range (tN h a)).map (fun i => (tA h a i).toNatClampNeg)
noncomputable def cCls (h : zH) (b k : Nat) : List rCt := (List.range k).map (fun i => ((tA h b (4 * i)).toNatClampNeg, (tA h b (4 * i + 1)).toNatClampNeg, (tA h b (4 * i + 2)).toNatClampNeg, (tA h b (4 * i + 3)).toNatClampNeg))
/-- what the class's rule leaves -/
noncomputable def cRo (y : Int32) (r : Nat ⊕ (rS × List rCt)) (w : Option Value) (h h2 : zH) : Prop := match r with
  | .inl e => 100000 ≤ e ∨ (tF h2 44 1 = .int 0 ∧ w = some (.int (-2 - Int32.ofNat e)) ∧ tF h2 48 3 = tF h 48 3 ∧ tA h2 49 = tA h 49 ∧ (∀ p, 182 ≤ p → tA h2 p = tA h p) ∧ tO h2 50 = tO h 50 ∧ tO h2 51 = tO h 51)
  | .inr x => tF h2 44 1 = .int 0 ∧ w = some (tF h 48 3) ∧ tF h2 48 3 = .int (tvI (tF h 48 3) + 1) ∧ tA h2 49 = (fun j => if j = (tvI (tF h 48 3)).toNatClampNeg then y else tA h 49 j) ∧ ∃ a, 182 ≤ a ∧ tO h2 50 = (fun j => if j = (tvI (tF h 48 3)).toNatClampNeg then some a else tO h 50 j) ∧ tO h2 51 = (fun j => if j = (tvI (tF h 48 3)).toNatClampNeg then some (a + 1) else tO h 51 j) ∧ cArr h2 a = x.1.2.2 ∧ tN h2 (a + 1) = 4 * x.2.length ∧ cCls h2 (a + 1) x.2.length = x.2 ∧ ∀ p, 182 ≤ p → 0 < tN h p → tA h2 p = tA h p
theorem cRo_r {y : Int32} {h ha : zH} {b : zH} {w : Option Value} (hF : cFq h ha) (hP : cP ha) (hQ : cQ ha) (f1 : tFd ha 44 1) (hl : 182 ≤ ha.length) (hO : tO ha 50 = tO h 50 ∧ tO ha 51 = tO h 51) (k : cAdd y (tSF ha 44 1 (.int 0)) b) (hw : w = some (tF (tSF ha 44 1 (.int 0)) 48 3)) : cRo y (.inr (cs ha, cCl ha)) w h b := by
  have E : tF (tSF ha 44 1 (.int 0)) 48 3 = tF h 48 3 := (tF_nz (by decide)).trans (hF.2.1 48 3 (by decide))
  have E5 : tF (tSF ha 44 1 (.int 0)) 44 5 = tF ha 44 5 := tF_nz (by decide)
  have E7 : tF (tSF ha 44 1 (.int 0)) 44 7 = tF ha 44 7 := tF_nz (by decide)
  have L : (tSF ha 44 1 (.int 0)).length = ha.length := tlen_tSF _ _ _ _
  obtain ⟨k1, k2, k3, k4, k5, k6, k7, k8, k9, k10, k11, k12⟩ := k
  rw [E] at k1 k2 k3 k4
  rw [E5] at k5 k6
  rw [E7] at k7 k8
  rw [L] at k3 k4 k5 k6 k7 k8 k9 k10 k11 k12
  have m4 : (tvI (tF ha 44 7) * 4).toNatClampNeg = 4 * (tvI (tF ha 44 7)).toNatClampNeg := by
    rw [zclE, zi32_4 hQ.1 (by have := hQ.2.1; omega), zclE]
    have := hQ.1
    omega
  have hlen : (cCl ha).length = (tvI (tF ha 44 7)).toNatClampNeg := by unfold cCl; rw [List.length_map, List.length_range]
  refine ⟨?_, hw.trans (by rw [E]), k1, ?_, ha.length, hl, ?_, ?_, ?_, ?_, ?_, fun p hp h0 => ?_⟩
  · rw [k10 44 1 (by omega) (by decide)]
    exact tF_same f1
  · rw [k2]
    funext j
    rw [tA_tSF, hF.2.2.1 49 (by decide) (by decide)]
  · rw [k3, tO_tSF, hO.1]
  · rw [k4, tO_tSF, hO.2]
  · show cArr b ha.length = cCo ha
    unfold cArr cCo
    rw [k5]
    refine List.map_congr_left (fun i hi => ?_)
    have hi := List.mem_range.mp hi
    rw [k6 i hi, tA_tSF]
  · show tN b (ha.length + 1) = 4 * (cCl ha).length
    rw [k7, m4, hlen]
  · show cCls b (ha.length + 1) (cCl ha).length = cCl ha
    rw [hlen]
    unfold cCls cCl
    refine List.map_congr_left (fun i hi => ?_)
    have hi := List.mem_range.mp hi
    rw [k8 (4 * i) (by omega), k8 (4 * i + 1) (by omega), k8 (4 * i + 2) (by omega), k8 (4 * i + 3) (by omega), tA_tSF]
  · have h1 : p < ha.length := tN_lt (by rw [hF.2.2.2]; exact h0)
    rw [k9 p h1 (by omega), tA_tSF, hF.2.2.1 p (by omega) (by omega)]
theorem ofN_ne {e : Nat} (h : e < 100000) : ¬ Int32.ofNat e = -1 := by
  intro z
  have := congrArg Int32.toInt z
  rw [yofN (by omega)] at this
  have m : (-1 : Int32).toInt = -1 := rfl
  omega
noncomputable def ph_ruc (y : Int32) (h : zH) (w : Option Value) (h2 : zH) : Prop := (¬ ((tvI (tF h 48 3)).toInt ≠ 10 ∧ (tvI (tF h 0 14)).toInt ≤ y.toInt ∧ y.toInt ≤ 599) ∧ w = some (.int (-1)) ∧ h2 = h) ∨ (((tvI (tF h 48 3)).toInt ≠ 10 ∧ (tvI (tF h 0 14)).toInt ≤ y.toInt ∧ y.toInt ≤ 599) ∧ ∃ r, (∃ f, rRu (tA h 45) (cn h) f (0, 0, []) [] r) ∧ cRo y r w h h2)
theorem f_rule {G : zG} (hG : G.1 = zProg) (hX : G.2.1 = ztx) (hN : G.2.2.1 ≤ 4096) {τ : List Nat} {h : zH} {y : Int32} (hB : zBs G.2.2.2 τ h) (hs : tSh h) (hl : 0 ≤ (tvI (tF h 44 1)).toInt ∧ (tvI (tF h 44 1)).toInt ≤ 400) (hT9 : ∀ i, i < 400 → -128 ≤ (tA h 45 i).toInt ∧ (tA h 45 i).toInt ≤ 127) (h46 : tN h 46 = 400) (h47 : tN h 47 = 48) (h181 : tN h 181 = 81) : tC zTt G 124 [.ref 0, .int y] h (ph_ruc y h) := by
  by_cases hcnd : ((tvI (tF h 48 3)).toInt ≠ 10 ∧ (tvI (tF h 0 14)).toInt ≤ y.toInt ∧ y.toInt ≤ 599)
  · by_cases hbig : ∃ e f, rRu (tA h 45) (cn h) f (0, 0, []) [] (.inl e) ∧ 100000 ≤ e
    · obtain ⟨e, f, h1, h2⟩ := hbig
      exact tC_triv (fun _ _ => Or.inr ⟨hcnd, .inl e, ⟨f, h1⟩, Or.inl h2⟩)
    · refine tC_in (by rw [hG]; rfl) (fun dp => ?_)
      refine tw_aload rfl rfl ?_
      refine tw_getS rfl (hs_0_3 hs) ?_
      refine tw_virt0 rfl (f_bfull hG hs) (fun w9 h9 p867 => ?_)
      obtain ⟨⟨p867, rfl⟩ | ⟨p867, rfl⟩, e9⟩ := p867
      · try dsimp only [tvI_i, tvJ_j, tvR_r] at p867
        obtain rfl := e9.symm
        refine tw_if_ne rfl (fun _ => ?_) (fun z => absurd z (by decide))
        refine tw_push rfl ?_
        exact tw_iret rfl (Or.inl ⟨fun z => by have := z.1; omega, rfl, rfl⟩)
      · try dsimp only [tvI_i, tvJ_j, tvR_r] at p867
        obtain rfl := e9.symm
        refine tw_if_ne rfl (fun z => absurd z (by decide)) (fun _ => ?_)
        refine tw_iload rfl rfl ?_
        refine tw_aload rfl rfl ?_
        refine tw_getS rfl (hi_0_14 hs) ?_
        refine tw_push rfl ?_
        refine tw_stat3 rfl (f_isWithin hG  (HI := 599) rfl (by decide)) (fun w9 h9 p868 => ?_)
        obtain ⟨⟨p868, rfl⟩ | ⟨p868, rfl⟩, e9⟩ := p868
        · try dsimp only [tvI_i, tvJ_j, tvR_r] at p868
          obtain rfl := e9.symm
          refine tw_if_ne rfl (fun _ => ?_) (fun z => absurd z (by decide))
          refine tw_aload rfl rfl ?_
          refine tw_getS rfl (hs_0_2 hs) ?_
          refine tw_virt0 rfl (tC_and (f_readRule hG hX hs rfl rfl hl hT9 h46 h47) (tC_of (zpub hG hX hN (j := 75) (x := 44) (bs := []) (xs := []) (ct := kt_75_0) (g := false) (kd := 0) (lv := 42) (cts := [kt_75_0]) (by rfl) List.mem_cons_self (by rfl) (by rfl) (by decide) (by decide +kernel) (by decide +kernel) trivial hB))) (fun w9 hp869 p869 => ?_)
          obtain ⟨⟨Fp869, ⟨Np869, rp869, rfl, Pp869, Qp869⟩ | ⟨ep869, Np869, rp869, rfl⟩⟩, -, -, Yp869⟩ := p869
          · refine tw_istore rfl ?_
            refine tw_aload rfl rfl ?_
            refine tw_getS rfl (hs_0_2 Fp869.1) ?_
            refine tw_push rfl ?_
            refine tw_virt1 rfl (f_cutTo2 hG) (fun wp870 hp870 p870 => ?_)
            obtain ⟨rfl, rfl, fp870⟩ := p870
            refine tw_pop rfl ?_
            refine tw_iload rfl rfl ?_
            refine tw_push rfl ?_
            refine tw_ic_ne rfl (fun z => absurd z (by decide)) (fun _ => ?_)
            refine tw_aload rfl rfl ?_
            refine tw_getS rfl (hs_0_3 (hw_44_1 fp870 Fp869.1)) ?_
            refine tw_iload rfl rfl ?_
            refine tw_aload rfl rfl ?_
            refine tw_getS rfl (hs_0_2 (hw_44_1 fp870 Fp869.1)) ?_
            refine tw_virt2 rfl (f_addRule hG (hw_44_1 fp870 Fp869.1) (by rw [tlen_tSF]; exact len_181 ((congrFun Fp869.2.2.2 181).trans h181)) (by rw [tF_nz (by decide)]; exact ⟨Pp869.2.2.1.1, by have a := Pp869.2.2.1.2; have b := Pp869.1.2.1; have c := Pp869.1.2.2; omega⟩) (by rw [tF_nz (by decide)]; exact ⟨Qp869.1, Qp869.2.1⟩) (by rw [tN_tSF, Fp869.2.2.2]; exact h46) (by rw [tN_tSF, Fp869.2.2.2]; exact h47)) (fun wp871 hp871 p871 => ?_)
            refine tw_goto rfl ?_
            have E48 : tF (tSF hp869 44 1 (.int 0)) 48 3 = tF h 48 3 := (tF_nz (by decide)).trans (Fp869.2.1 48 3 (by decide))
            rcases p871 with ⟨c9, w9, k9⟩ | ⟨c9, w9, k9⟩
            · subst w9; exact tw_iret rfl (Or.inr ⟨⟨by omega, by omega⟩, _, ⟨Np869, rp869⟩, cRo_r Fp869 Pp869 Qp869 fp870 (len_181 ((congrFun Fp869.2.2.2 181).trans h181)) ⟨(tfr_A hB Yp869 (p := 50) rfl rfl).2.2, (tfr_A hB Yp869 (p := 51) rfl rfl).2.2⟩ k9 (congrArg some (hi_48_3 (hw_44_1 fp870 Fp869.1)).symm)⟩)
            · exfalso
              rw [E48] at c9
              omega
          · refine tw_istore rfl ?_
            refine tw_aload rfl rfl ?_
            refine tw_getS rfl (hs_0_2 Fp869.1) ?_
            refine tw_push rfl ?_
            refine tw_virt1 rfl (f_cutTo2 hG) (fun wp872 hp872 p872 => ?_)
            obtain ⟨rfl, rfl, fp872⟩ := p872
            refine tw_pop rfl ?_
            refine tw_iload rfl rfl ?_
            refine tw_push rfl ?_
            refine tw_ic_ne rfl (fun q873 => ?_) (fun q873 => ?_)
            · try dsimp only [tvI_i, tvJ_j, tvR_r] at q873
              have q873i := zneq (Y := (-1)) (by decide) q873
              refine tw_push rfl ?_
              refine tw_iload rfl rfl ?_
              refine tw_isub rfl ?_
              exact tw_iret rfl (Or.inr ⟨⟨by omega, by omega⟩, .inl ep869, ⟨Np869, rp869⟩, Or.inr ⟨tF_same fp872, rfl, (tF_nz (by decide)).trans (Fp869.2.1 48 3 (by decide)), (congrFun (tA_tSF _ _ _ _) 49).trans (Fp869.2.2.1 49 (by decide) (by decide)), fun p9 hp9 => (congrFun (tA_tSF _ _ _ _) p9).trans (Fp869.2.2.1 p9 (by omega) (by omega)), (congrFun (tO_tSF _ _ _ _) 50).trans (tfr_A hB Yp869 (p := 50) rfl rfl).2.2, (congrFun (tO_tSF _ _ _ _) 51).trans (tfr_A hB Yp869 (p := 51) rfl rfl).2.2⟩⟩)
            · try dsimp only [tvI_i, tvJ_j, tvR_r] at q873
              have q873i := zeqi (Y := (-1)) (by decide) q873
              exact absurd q873 (ofN_ne (Nat.lt_of_not_le (fun z => hbig ⟨_, _, rp869, z⟩)))
        · try dsimp only [tvI_i, tvJ_j, tvR_r] at p868
          obtain rfl := e9.symm
          refine tw_if_ne rfl (fun z => absurd z (by decide)) (fun _ => ?_)
          refine tw_push rfl ?_
          exact tw_iret rfl (Or.inl ⟨fun z => by have := z.1; omega, rfl, rfl⟩)
  · refine tC_in (by rw [hG]; rfl) (fun dp => ?_)
    refine tw_aload rfl rfl ?_
    refine tw_getS rfl (hs_0_3 hs) ?_
    refine tw_virt0 rfl (f_bfull hG hs) (fun w9 h9 p874 => ?_)
    obtain ⟨⟨p874, rfl⟩ | ⟨p874, rfl⟩, e9⟩ := p874
    · try dsimp only [tvI_i, tvJ_j, tvR_r] at p874
      obtain rfl := e9.symm
      refine tw_if_ne rfl (fun _ => ?_) (fun z => absurd z (by decide))
      refine tw_push rfl ?_
      exact tw_iret rfl (Or.inl ⟨fun z => by have := z.1; omega, rfl, rfl⟩)
    · try dsimp only [tvI_i, tvJ_j, tvR_r] at p874
      obtain rfl := e9.symm
      refine tw_if_ne rfl (fun z => absurd z (by decide)) (fun _ => ?_)
      refine tw_iload rfl rfl ?_
      refine tw_aload rfl rfl ?_
      refine tw_getS rfl (hi_0_14 hs) ?_
      refine tw_push rfl ?_
      refine tw_stat3 rfl (f_isWithin hG  (HI := 599) rfl (by decide)) (fun w9 h9 p875 => ?_)
      obtain ⟨⟨p875, rfl⟩ | ⟨p875, rfl⟩, e9⟩ := p875
      · try dsimp only [tvI_i, tvJ_j, tvR_r] at p875
        obtain rfl := e9.symm
        refine tw_if_ne rfl (fun _ => ?_) (fun z => absurd z (by decide))
        refine tw_aload rfl rfl ?_
        refine tw_getS rfl (hs_0_2 hs) ?_
        refine tw_virt0 rfl (tC_and (f_readRule hG hX hs rfl rfl hl hT9 h46 h47) (tC_of (zpub hG hX hN (j := 75) (x := 44) (bs := []) (xs := []) (ct := kt_75_0) (g := false) (kd := 0) (lv := 42) (cts := [kt_75_0]) (by rfl) List.mem_cons_self (by rfl) (by rfl) (by decide) (by decide +kernel) (by decide +kernel) trivial hB))) (fun w9 hp876 p876 => ?_)
        obtain ⟨⟨Fp876, ⟨Np876, rp876, rfl, Pp876, Qp876⟩ | ⟨ep876, Np876, rp876, rfl⟩⟩, -, -, Yp876⟩ := p876
        · exact absurd ⟨by omega, by omega⟩ hcnd
        · exact absurd ⟨by omega, by omega⟩ hcnd
      · try dsimp only [tvI_i, tvJ_j, tvR_r] at p875
        obtain rfl := e9.symm
        refine tw_if_ne rfl (fun z => absurd z (by decide)) (fun _ => ?_)
        refine tw_push rfl ?_
        exact tw_iret rfl (Or.inl ⟨fun z => by have := z.1; omega, rfl, rfl⟩)
theorem mK_of {xs : Nat → Int32} {τ : List Nat} {h : zH} (hB : zBs xs τ h) : mK h := ⟨kb_111_27 hB, (kb_111_34 hB).1, kb_111_30 hB, fun i hi => ((ka_142 hB).2 i (by rw [(ka_142 hB).1] at hi; exact hi)).1, fun _ => rfl, by rw [(ka_133 hB).1]; decide, by rw [(ka_142 hB).1]; decide⟩
theorem zAr_dep {G : zG} (hG : G.1 = zProg) (hT : G.2.1 = ztx) (hN : G.2.2.1 ≤ 4096) {R : zH → Prop} {cmp : Bool} {φ1 : List Int32 → zH → Option Value → zH → Prop} {φ2 : List Int32 → zH → Option Value → zH → Option Value → zH → Prop} {j1 j2 kd : Nat} {bs : List (Int × Int)} {ct1 ct2 : yCt} {g1 g2 : Bool} {l1 l2 : Nat} {cs1 cs2 : List yCt} (c1 : zCT[j1]? = some cs1) (i1 : ct1 ∈ cs1) (p1 : ct1.1 = zpM 0 bs g1) (v1 : ct1.2.2.1 = (.ofNat l1, [])) (v1' : l1 ≤ 64) (k1 : zpT kd ct1.2.2.2 = true) (q1 : zpG (ywf ct1.2.1) ct1.2.2.2 = true)
  (c2 : zCT[j2]? = some cs2) (i2 : ct2 ∈ cs2) (p2 : ct2.1 = zpM 111 bs g2) (v2 : ct2.2.2.1 = (.ofNat l2, [])) (v2' : l2 ≤ 64) (k2 : zpT kd ct2.2.2.2 = true) (q2 : zpG (ywf ct2.2.1) ct2.2.2.2 = true)
  (f1 : ∀ xs τ h, zpB bs xs → zBs G.2.2.2 τ h → R h → tC zTt G j1 (.ref 0 :: xs.map Value.int) h (fun w h2 => φ1 xs h w h2)) (f2 : ∀ xs τ h w h2 τ2, zpB bs xs → zBs G.2.2.2 τ h → R h → φ1 xs h w h2 → zBs G.2.2.2 τ2 h2 → yFr (ywf ct1.2.1) τ h h2 → tC zTt G j2 (.ref 111 :: xs.map Value.int) h2 (fun w2 h3 => φ2 xs h w h2 w2 h3))
  (fin : ∀ xs τ h w h2 τ2 w2 h3 τ3, zpB bs xs → zBs G.2.2.2 τ h → R h → φ1 xs h w h2 → zBs G.2.2.2 τ2 h2 → yFr (ywf ct1.2.1) τ h h2 → φ2 xs h w h2 w2 h3 → zBs G.2.2.2 τ3 h3 → yFr (ywf ct2.2.1) τ2 h2 h3 → (cmp = true → w2 = w) ∧ R h3) : zAr G R j1 j2 kd bs cmp := by
  intro xs h hb ⟨⟨τ, hB⟩, hR⟩
  refine zW_mono zTt G 64 _ _ _ _ _ ?_ ((f1 xs τ h hb hB hR).both (zpub hG hT hN c1 i1 p1 v1 v1' k1 q1 hb hB))
  rintro w h2 ⟨⟨t1, ⟨τ2, hB2⟩, r1⟩, h1⟩
  refine ⟨t1, zBs_111 hB2, zW_mono zTt G 64 _ _ _ _ _ ?_ ((f2 xs τ h w h2 τ2 hb hB hR h1 hB2 r1).both (zpub hG hT hN c2 i2 p2 v2 v2' k2 q2 hb hB2))⟩
  rintro w2 h3 ⟨⟨t2, ⟨τ3, hB3⟩, r2⟩, hh2⟩
  obtain ⟨e1, e2⟩ := fin xs τ h w h2 τ2 w2 h3 τ3 hb hB hR h1 hB2 r1 hh2 hB3 r2
  exact ⟨t2, e1, ⟨τ3, hB3⟩, e2⟩
noncomputable def ph_rum (y : Int32) (h : zH) (w : Option Value) (h2 : zH) (w2 : Option Value) (h3 : zH) : Prop := (w = some (.int (-1)) ∧ h2 = h ∧ w2 = some (.int (-1)) ∧ h3 = h2) ∨ ∃ r, (∃ f, rRu (tA h 45) (cn h) f (0, 0, []) [] r) ∧ cRo y r w h h2 ∧ mRo y r w2 h2 h3
theorem g_rule0 {G : zG} (hG : G.1 = zProg) {h : zH} {y : Int32} (hs : tSh h) (hc : ¬ ((tvI (tF h 111 30)).toInt ≠ 10 ∧ (tvI (tF h 111 1)).toInt ≤ y.toInt ∧ y.toInt ≤ 599)) : tC zTt G 225 [.ref 111, .int y] h (fun w h2 => w = some (.int (-1)) ∧ h2 = h) := by
  refine tC_in (by rw [hG]; rfl) (fun dp => ?_)
  refine tw_aload rfl rfl ?_
  refine tw_getS rfl (hi_111_30 hs) ?_
  refine tw_push rfl ?_
  refine tw_ic_eq rfl (fun q877 => ?_) (fun q877 => ?_)
  · try dsimp only [tvI_i, tvJ_j, tvR_r] at q877
    have q877i := zeqi (Y := 10) (by decide) q877
    refine tw_push rfl ?_
    exact tw_iret rfl ⟨rfl, rfl⟩
  · try dsimp only [tvI_i, tvJ_j, tvR_r] at q877
    have q877i := zneq (Y := 10) (by decide) q877
    refine tw_iload rfl rfl ?_
    refine tw_i2l rfl ?_
    refine tw_aload rfl rfl ?_
    refine tw_getS rfl (hi_111_1 hs) ?_
    refine tw_i2l rfl ?_
    refine tw_push rfl ?_
    refine tw_stat3 rfl (f_in hG   (HI := 599) (Int32.toInt_toInt64 _) (Int32.toInt_toInt64 _) (by decide)) (fun w9 h9 p878 => ?_)
    obtain ⟨⟨p878, rfl⟩ | ⟨p878, rfl⟩, e9⟩ := p878
    · try dsimp only [tvI_i, tvJ_j, tvR_r] at p878
      obtain rfl := e9.symm
      exact absurd ⟨by omega, by omega⟩ hc
    · try dsimp only [tvI_i, tvJ_j, tvR_r] at p878
      obtain rfl := e9.symm
      refine tw_if_ne rfl (fun z => absurd z (by decide)) (fun _ => ?_)
      refine tw_push rfl ?_
      exact tw_iret rfl ⟨rfl, rfl⟩
theorem g_ruleD {G : zG} (hG : G.1 = zProg) (hX : G.2.1 = ztx) {τ τ2 : List Nat} {y : Int32} {h h2 : zH} {w : Option Value} (hB : zBs G.2.2.2 τ h) (hB2 : zBs G.2.2.2 τ2 h2) (hL : R_tlen h) (hT : R_tape h) (hN : R_rules h) (hW : R_now h) (e1 : tF h2 111 27 = tF h 111 27) (e2 : tF h2 111 30 = tF h 111 30) (e3 : tF h2 111 1 = tF h 111 1) (o1 : tA h2 132 = tA h 132) (k1 : ph_ruc y h w h2) : tC zTt G 225 [.ref 111, .int y] h2 (ph_rum y h w h2) := by
  unfold R_tlen at hL
  unfold R_tape at hT
  unfold R_rules at hN
  unfold R_now at hW
  rcases k1 with ⟨c1, rfl, rfl⟩ | ⟨c1, r, ⟨f, hr⟩, k1⟩
  · refine (g_rule0 hG (zBs_sh hB2) ?_).mono (fun w2 h3 z => Or.inl ⟨rfl, rfl, z.1, z.2⟩)
    rw [← hN, ← hW]
    exact c1
  · have hmn : mn h2 = cn h := by unfold mn cn; rw [e1, ← hL]
    refine (g_rule hG hX (zBs_sh hB2) (mK_of hB2) (o1.trans hT.symm) hmn ⟨f, hr⟩).mono (fun w2 h3 z => ?_)
    rcases z with ⟨c2, -⟩ | ⟨-, z⟩
    · refine absurd ?_ c2
      rw [e2, e3, ← hN, ← hW]
      exact ⟨fun y9 => c1.1 (by rw [y9]; rfl), c1.2.1, c1.2.2⟩
    · exact Or.inr ⟨r, ⟨f, hr⟩, k1, z⟩
theorem a_rule {xs : Nat → Int32} {τ : List Nat} {y : Int32} {h h2 h3 : zH} {w w2 : Option Value} (hB : zBs xs τ h) (hL : R_tlen h) (hN : R_rules h) (hF : R_froms h) (e1 : tF h2 111 27 = tF h 111 27) (e2 : tF h2 111 30 = tF h 111 30) (o2 : tA h2 141 = tA h 141) (t1 : tF h3 44 1 = tF h2 44 1) (t2 : tF h3 48 3 = tF h2 48 3) (t3 : tA h3 49 = tA h2 49) (k2 : ph_rum y h w h2 w2 h3) : w2 = w ∧ R_tlen h3 ∧ R_rules h3 ∧ R_froms h3 := by
  have hN0 := hN
  have hF0 := hF
  unfold R_rules at hN0
  unfold R_froms at hF0
  have i48 := hi_48_3 (zBs_sh hB)
  rcases k2 with ⟨rfl, rfl, rfl, rfl⟩ | ⟨r, -, k1, k2⟩
  · exact ⟨rfl, hL, hN, hF⟩
  · obtain ⟨m1, m2, k2⟩ := k2
    have E27 : tF h3 111 27 = .int 0 := by rw [hi_111_27 m1.1, m2]
    cases r with
    | inl e =>
      obtain ⟨m3, rfl, m4, -, m5⟩ := k2
      rcases k1 with k1 | ⟨k1, rfl, k3, k4, -⟩
      · exact absurd m3 (Nat.not_lt_of_le k1)
      · refine ⟨rfl, ?_, ?_, ?_⟩
        · unfold R_tlen
          rw [t1, k1, E27]
        · unfold R_rules
          rw [t2, k3, m4, e2]
          exact hN0
        · unfold R_froms
          rw [t3, k4, m5, o2]
          exact hF0
    | inr x =>
      obtain ⟨rfl, m4, m5, m6, m7, -⟩ := k2
      obtain ⟨k1, rfl, k3, k4, -⟩ := k1
      have E30 : tvI (tF h2 111 30) = tvI (tF h 48 3) := by rw [e2, ← hN0]
      refine ⟨?_, ?_, ?_, ?_⟩
      · rw [zi1, E30]
        exact congrArg some i48.symm
      · unfold R_tlen
        rw [t1, k1, E27]
      · unfold R_rules
        rw [t2, k3, hi_111_30 m1.1, m4, E30]
      · unfold R_froms
        rw [t3, k4]
        funext q
        rw [E30] at m6 m7
        by_cases z : q = (tvI (tF h 48 3)).toNatClampNeg
        · rw [if_pos z, z, m6]
        · rw [if_neg z, (m7 q z).2, o2, ← hF0]
/-! what the codes of a rule are worth: facts are 0 or 1 -/
noncomputable def tyS (S : List Bool) (c : Nat) : Option (List Bool) :=
  if c < 100012 then some (false :: S)
  else if c = 100110 then (match S with
    | true :: r => some (true :: r)
    | _ => none)
  else if c = 100108 ∨ c = 100109 then (match S with
    | true :: true :: r => some (true :: r)
    | _ => none)
  else if 100100 ≤ c ∧ c < 100103 then (match S with
    | false :: false :: r => some (false :: r)
    | _ => none)
  else if 100103 ≤ c ∧ c < 100108 then (match S with
    | false :: false :: r => some (true :: r)
    | _ => none)
  else none
noncomputable def tyL : List Bool → List Nat → Option (List Bool)
  | S, [] => some S
  | S, c :: e => match tyS S c with
    | none => none
    | some S1 => tyL S1 e
theorem tyL_app {e1 e2 : List Nat} {S S1 S2 : List Bool} (h1 : tyL S e1 = some S1) (h2 : tyL S1 e2 = some S2) : tyL S (e1 ++ e2) = some S2 := by
  induction e1 generalizing S with
  | nil =>
    have h1 : some S = some S1 := h1
    cases h1
    exact h2
  | cons c e1 ih =>
    have h1 : (match tyS S c with | none => none | some S1 => tyL S1 e1) = some S1 := h1
    show (match tyS S c with | none => none | some S1 => tyL S1 (e1 ++ e2)) = some S2
    cases hc : tyS S c with
    | none => rw [hc] at h1; cases h1
    | some S3 =>
      rw [hc] at h1
      exact ih h1
/-- how many values -/
noncomputable def nVl : List Nat → Nat
  | [] => 0
  | c :: e => (if c < 100100 then 1 else 0) + nVl e
theorem nVl_app {e1 e2 : List Nat} : nVl (e1 ++ e2) = nVl e1 + nVl e2 := by
  induction e1 with
  | nil => show nVl e2 = 0 + nVl e2; omega
  | cons c e ih =>
    show (if c < 100100 then 1 else 0) + nVl (e ++ e2) = (if c < 100100 then 1 else 0) + nVl e + nVl e2
    rw [ih]
    omega
noncomputable def tyH (A B : List Bool → List Bool) (s s2 : rS) : Prop := ∃ e, s2.2.2 = s.2.2 ++ e ∧ nVl e + s.2.1 ≤ s2.2.1 ∧ (s.2.1 ≤ 80 → s2.2.1 ≤ 80) ∧ ∀ S, tyL (A S) e = some (B S)
section TYH
variable {A B C : List Bool → List Bool} {s s1 s2 : rS} {c p : Nat}
theorem tyH_r : tyH A A s s := ⟨[], (List.append_nil _).symm, by show 0 + _ ≤ _; omega, id, fun _ => rfl⟩
theorem tyH_t (h1 : tyH A B s s1) (h2 : tyH B C s1 s2) : tyH A C s s2 := by
  obtain ⟨e1, a1, a2, a3, a4⟩ := h1
  obtain ⟨e2, b1, b2, b3, b4⟩ := h2
  exact ⟨e1 ++ e2, by rw [b1, a1, List.append_assoc], by rw [nVl_app]; omega, fun z => b3 (a3 z), fun S => tyL_app (a4 S) (b4 S)⟩
theorem tyH_a (h : tyH A B s s1) : tyH A B s (rA p s1) := h
theorem tyH_b (h : tyH A B (rA p s) s1) : tyH A B s s1 := h
theorem tyH_c (h : s.2.1 ≠ 80) : tyH A A s (s.1, s.2.1 + 1, s.2.2) := ⟨[], (List.append_nil _).symm, by show 0 + _ ≤ _ + 1; omega, fun z => by show _ + 1 ≤ 80; omega, fun _ => rfl⟩
theorem tyH_u (hv : 100100 ≤ c) (hc : ∀ S, tyS (A S) c = some (B S)) : tyH A B s (rU c s) := ⟨[c], rfl, by show (if c < 100100 then 1 else 0) + 0 + _ ≤ _; rw [if_neg (by omega)]; show 0 + 0 + s.2.1 ≤ s.2.1; omega, id, fun S => by
  show (match tyS (A S) c with | none => none | some S1 => tyL S1 []) = some (B S)
  rw [hc S]
  rfl⟩
theorem tyH_v (h : s.2.1 ≠ 80) (hv : c < 100012) : tyH A (fun S => false :: A S) s (rU c (rA p (s.1, s.2.1 + 1, s.2.2))) := ⟨[c], rfl, by show (if c < 100100 then 1 else 0) + 0 + s.2.1 ≤ s.2.1 + 1; rw [if_pos (by omega)]; omega, fun z => by show _ + 1 ≤ 80; omega, fun S => by
  have e : tyS (A S) c = some (false :: A S) := by
    unfold tyS
    rw [if_pos hv]
  show (match tyS (A S) c with | none => none | some S1 => tyL S1 []) = some (false :: A S)
  rw [e]
  rfl⟩
theorem tyH_S (g : List Bool → List Bool) (h : tyH A B s s2) : tyH (fun S => A (g S)) (fun S => B (g S)) s s2 := by
  obtain ⟨e, a1, a2, a3, a4⟩ := h
  exact ⟨e, a1, a2, a3, fun S => a4 (g S)⟩
theorem rK_ok {x : rR} {k : rS → rR} (h : rK x k = some (.inr s2)) : ∃ s1, x = some (.inr s1) ∧ k s1 = some (.inr s2) := by
  match x, h with
  | none, h => cases h
  | some (.inl f), h => cases h
  | some (.inr s1), h => exact ⟨s1, rfl, h⟩
theorem rC_ok (h : rC p s = some (.inr s1)) : s.2.1 ≠ 80 ∧ s1 = (s.1, s.2.1 + 1, s.2.2) := by
  unfold rC at h
  by_cases z : s.2.1 = 80
  · rw [if_pos z] at h; cases h
  · rw [if_neg z] at h; cases h; exact ⟨z, rfl⟩
theorem rO_ok (h : rO s = some (.inr s1)) : s1 = s := by cases h; rfl
theorem rF_no {w : Nat} (h : rF p w = some (.inr s1)) : False := by cases h
end TYH
noncomputable def mIn : Nat → List Bool → List Bool
  | 2 => fun S => false :: S
  | 4 => fun S => false :: S
  | 8 => fun S => true :: S
  | 10 => fun S => true :: S
  | _ => fun S => S
noncomputable def mOu : Nat → List Bool → List Bool
  | 0 => fun S => false :: S
  | 1 => fun S => false :: S
  | 2 => fun S => false :: S
  | 3 => fun S => false :: S
  | 4 => fun S => false :: S
  | _ => fun S => true :: S
theorem rM_le {T : Nat → Int32} {n most p : Nat} {q : Nat × Nat} (h : rM T n most p = .inr q) : q.2 ≤ most := by
  unfold rM at h
  split at h
  · cases h
  · split at h
    · cases h
    · rename_i z
      cases h
      exact Nat.le_of_not_lt (fun y => z (Or.inr y))
theorem rCm_le {T : Nat → Int32} {n b : Nat} {q : Nat × Nat} (h : rCm T n b = some q) : 100103 ≤ q.1 ∧ q.1 < 100108 := by
  unfold rCm at h
  split at h
  · cases h; exact ⟨Nat.le_of_ble_eq_true rfl, Nat.le_of_ble_eq_true rfl⟩
  · split at h
    · split at h <;> cases h <;> exact ⟨Nat.le_of_ble_eq_true rfl, Nat.le_of_ble_eq_true rfl⟩
    · split at h
      · split at h <;> cases h <;> exact ⟨Nat.le_of_ble_eq_true rfl, Nat.le_of_ble_eq_true rfl⟩
      · cases h
theorem ty_pm {c : Nat} (hc : 100100 ≤ c ∧ c < 100103) (S : List Bool) : tyS (false :: false :: S) c = some (false :: S) := by
  unfold tyS
  rw [if_neg (by omega), if_neg (by omega), if_neg (by omega), if_pos hc]
theorem ty_cm {c : Nat} (hc : 100103 ≤ c ∧ c < 100108) (S : List Bool) : tyS (false :: false :: S) c = some (true :: S) := by
  unfold tyS
  rw [if_neg (by omega), if_neg (by omega), if_neg (by omega), if_neg (by omega), if_pos hc]
theorem ty_ao {c : Nat} (hc : c = 100108 ∨ c = 100109) (S : List Bool) : tyS (true :: true :: S) c = some (true :: S) := by
  unfold tyS
  rw [if_neg (by omega), if_neg (by omega), if_pos hc]
theorem ty_no (S : List Bool) : tyS (true :: S) 100110 = some (true :: S) := by
  unfold tyS
  rw [if_neg (by omega), if_pos rfl]
theorem rX_ty {T : Nat → Int32} {n : Nat} : ∀ (f m d : Nat) (s s2 : rS), m ≤ 10 → rX T n f m d s = some (.inr s2) → tyH (mIn m) (mOu m) s s2 := by
  intro f
  induction f with
  | zero =>
    intro m d s s2 hm h
    have h : (none : rR) = some (.inr s2) := h
    cases h
  | succ f ih =>
    have i0 : ∀ d s s2, rX T n f 0 d s = some (.inr s2) → tyH (fun S => S) (fun S => false :: S) s s2 := fun d s s2 h => ih 0 d s s2 (by decide) h
    have i1 : ∀ d s s2, rX T n f 1 d s = some (.inr s2) → tyH (fun S => S) (fun S => false :: S) s s2 := fun d s s2 h => ih 1 d s s2 (by decide) h
    have i2 : ∀ d s s2, rX T n f 2 d s = some (.inr s2) → tyH (fun S => false :: S) (fun S => false :: S) s s2 := fun d s s2 h => ih 2 d s s2 (by decide) h
    have i3 : ∀ d s s2, rX T n f 3 d s = some (.inr s2) → tyH (fun S => S) (fun S => false :: S) s s2 := fun d s s2 h => ih 3 d s s2 (by decide) h
    have i4 : ∀ d s s2, rX T n f 4 d s = some (.inr s2) → tyH (fun S => false :: S) (fun S => false :: S) s s2 := fun d s s2 h => ih 4 d s s2 (by decide) h
    have i5 : ∀ d s s2, rX T n f 5 d s = some (.inr s2) → tyH (fun S => S) (fun S => true :: S) s s2 := fun d s s2 h => ih 5 d s s2 (by decide) h
    have i6 : ∀ d s s2, rX T n f 6 d s = some (.inr s2) → tyH (fun S => S) (fun S => true :: S) s s2 := fun d s s2 h => ih 6 d s s2 (by decide) h
    have i7 : ∀ d s s2, rX T n f 7 d s = some (.inr s2) → tyH (fun S => S) (fun S => true :: S) s s2 := fun d s s2 h => ih 7 d s s2 (by decide) h
    have i8 : ∀ d s s2, rX T n f 8 d s = some (.inr s2) → tyH (fun S => true :: S) (fun S => true :: S) s s2 := fun d s s2 h => ih 8 d s s2 (by decide) h
    have i9 : ∀ d s s2, rX T n f 9 d s = some (.inr s2) → tyH (fun S => S) (fun S => true :: S) s s2 := fun d s s2 h => ih 9 d s s2 (by decide) h
    have i10 : ∀ d s s2, rX T n f 10 d s = some (.inr s2) → tyH (fun S => true :: S) (fun S => true :: S) s s2 := fun d s s2 h => ih 10 d s s2 (by decide) h
    intro m d s s2 hm h
    rcases (by omega : m = 0 ∨ m = 1 ∨ m = 2 ∨ m = 3 ∨ m = 4 ∨ m = 5 ∨ m = 6 ∨ m = 7 ∨ m = 8 ∨ m = 9 ∨ m = 10) with rfl | rfl | rfl | rfl | rfl | rfl | rfl | rfl | rfl | rfl | rfl
    · have h : (if rB T n s.1 < n ∧ T (rB T n s.1) = 40 then (if d = 10 then rF (rB T n s.1) 2 else rK (rC (rB T n s.1) s) (fun s1 => rK (rX T n f 3 (d + 1) (rA (rB T n s.1 + 1) s1)) (rT T n 41)))
      else (match rK12 T n (rB T n s.1) with
        | some k => rK (rC (rB T n s.1) s) (fun s1 => rO (rU (100000 + k) (rA (rE T n (rB T n s.1)) s1)))
        | none => (match rM T n 99999 (rB T n s.1) with
          | .inl e => some (.inl e)
          | .inr q => rK (rC (rB T n s.1) s) (fun s1 => rO (rU q.2 (rA q.1 s1)))))) = some (.inr s2) := h
      show tyH (fun S => S) (fun S => false :: S) s s2
      split at h
      · split at h
        · exact (rF_no h).elim
        · obtain ⟨s1, h1, h⟩ := rK_ok h
          obtain ⟨k1, rfl⟩ := rC_ok h1
          obtain ⟨s3, h3, h⟩ := rK_ok h
          obtain ⟨-, rfl⟩ := rTon h
          exact tyH_a (tyH_t (tyH_c k1) (tyH_b (i3 _ _ _ h3)))
      · cases hk : rK12 T n (rB T n s.1) with
        | some k =>
          rw [hk] at h
          obtain ⟨s1, h1, h⟩ := rK_ok h
          obtain ⟨k1, rfl⟩ := rC_ok h1
          rw [rO_ok h]
          have := (rK12_s hk).1
          exact tyH_v k1 (by omega)
        | none =>
          rw [hk] at h
          cases hM : rM T n 99999 (rB T n s.1) with
          | inl e => simp only [hM] at h; cases h
          | inr q =>
            simp only [hM] at h
            obtain ⟨s1, h1, h⟩ := rK_ok h
            obtain ⟨k1, rfl⟩ := rC_ok h1
            rw [rO_ok h]
            have := rM_le hM
            exact tyH_v k1 (by omega)
    · have h : rK (rX T n f 0 d s) (rX T n f 2 d) = some (.inr s2) := h
      obtain ⟨s1, h1, h⟩ := rK_ok h
      exact tyH_t (i0 _ _ _ h1) (i2 _ _ _ h)
    · have h : (if rB T n s.1 < n ∧ T (rB T n s.1) = 42 then rK (rX T n f 0 d (rA (rB T n s.1 + 1) s)) (fun s1 => rX T n f 2 d (rU 100102 s1)) else rO (rA (rB T n s.1) s)) = some (.inr s2) := h
      show tyH (fun S => false :: S) (fun S => false :: S) s s2
      split at h
      · obtain ⟨s1, h1, h⟩ := rK_ok h
        exact tyH_t (tyH_S (fun S => false :: S) (tyH_b (i0 _ _ _ h1))) (tyH_t (tyH_u (by decide) (ty_pm (by decide))) (i2 _ _ _ h))
      · rw [rO_ok h]
        exact tyH_a tyH_r
    · have h : rK (rX T n f 1 d s) (rX T n f 4 d) = some (.inr s2) := h
      obtain ⟨s1, h1, h⟩ := rK_ok h
      exact tyH_t (i1 _ _ _ h1) (i4 _ _ _ h)
    · have h : (if rB T n s.1 < n ∧ T (rB T n s.1) = 43 then rK (rX T n f 1 d (rA (rB T n s.1 + 1) s)) (fun s1 => rX T n f 4 d (rU 100100 s1))
      else if rB T n s.1 < n ∧ T (rB T n s.1) = 45 then rK (rX T n f 1 d (rA (rB T n s.1 + 1) s)) (fun s1 => rX T n f 4 d (rU 100101 s1))
      else rO (rA (rB T n s.1) s)) = some (.inr s2) := h
      show tyH (fun S => false :: S) (fun S => false :: S) s s2
      split at h
      · obtain ⟨s1, h1, h⟩ := rK_ok h
        exact tyH_t (tyH_S (fun S => false :: S) (tyH_b (i1 _ _ _ h1))) (tyH_t (tyH_u (by decide) (ty_pm (by decide))) (i4 _ _ _ h))
      · split at h
        · obtain ⟨s1, h1, h⟩ := rK_ok h
          exact tyH_t (tyH_S (fun S => false :: S) (tyH_b (i1 _ _ _ h1))) (tyH_t (tyH_u (by decide) (ty_pm (by decide))) (i4 _ _ _ h))
        · rw [rO_ok h]
          exact tyH_a tyH_r
    · have h : rK (rX T n f 3 d s) (fun s1 => match rCm T n (rB T n s1.1) with
        | none => rF (rB T n s1.1) 0
        | some q => rK (rC (rB T n s1.1) s1) (fun s2 => rK (rX T n f 3 d (rA q.2 s2)) (fun s3 => rO (rU q.1 s3)))) = some (.inr s2) := h
      show tyH (fun S => S) (fun S => true :: S) s s2
      obtain ⟨s1, h1, h⟩ := rK_ok h
      cases hq : rCm T n (rB T n s1.1) with
      | none => simp only [hq] at h; exact (rF_no h).elim
      | some q =>
        simp only [hq] at h
        obtain ⟨s3, h3, h⟩ := rK_ok h
        obtain ⟨k3, rfl⟩ := rC_ok h3
        obtain ⟨s4, h4, h⟩ := rK_ok h
        rw [rO_ok h]
        have := rCm_le hq
        exact tyH_t (i3 _ _ _ h1) (tyH_t (tyH_c k3) (tyH_t (tyH_S (fun S => false :: S) (tyH_b (i3 _ _ _ h4))) (tyH_u (by omega) (ty_cm this))))
    · have h : (if rW T n (rB T n s.1) (rWd 19) = true then (if d = 10 then rF (rB T n s.1) 2 else rK (rX T n f 6 (d + 1) (rA (rB T n s.1 + 3) s)) (fun s1 => rO (rU 100110 s1)))
      else if rB T n s.1 < n ∧ T (rB T n s.1) = 91 then (if d = 10 then rF (rB T n s.1) 2 else rK (rX T n f 9 (d + 1) (rA (rB T n s.1 + 1) s)) (rT T n 93))
      else rX T n f 5 d (rA (rB T n s.1) s)) = some (.inr s2) := h
      show tyH (fun S => S) (fun S => true :: S) s s2
      split at h
      · split at h
        · exact (rF_no h).elim
        · obtain ⟨s1, h1, h⟩ := rK_ok h
          rw [rO_ok h]
          exact tyH_t (tyH_b (i6 _ _ _ h1)) (tyH_u (by decide) ty_no)
      · split at h
        · split at h
          · exact (rF_no h).elim
          · obtain ⟨s1, h1, h⟩ := rK_ok h
            obtain ⟨-, rfl⟩ := rTon h
            exact tyH_a (tyH_b (i9 _ _ _ h1))
        · exact tyH_b (i5 _ _ _ h)
    · have h : rK (rX T n f 6 d s) (rX T n f 8 d) = some (.inr s2) := h
      obtain ⟨s1, h1, h⟩ := rK_ok h
      exact tyH_t (i6 _ _ _ h1) (i8 _ _ _ h)
    · have h : (if rW T n (rB T n s.1) (rWd 18) = true then rK (rX T n f 6 d (rA (rB T n s.1 + 3) s)) (fun s1 => rX T n f 8 d (rU 100109 s1)) else rO (rA (rB T n s.1) s)) = some (.inr s2) := h
      show tyH (fun S => true :: S) (fun S => true :: S) s s2
      split at h
      · obtain ⟨s1, h1, h⟩ := rK_ok h
        exact tyH_t (tyH_S (fun S => true :: S) (tyH_b (i6 _ _ _ h1))) (tyH_t (tyH_u (by decide) (ty_ao (by decide))) (i8 _ _ _ h))
      · rw [rO_ok h]
        exact tyH_a tyH_r
    · have h : rK (rX T n f 7 d s) (rX T n f 10 d) = some (.inr s2) := h
      obtain ⟨s1, h1, h⟩ := rK_ok h
      exact tyH_t (i7 _ _ _ h1) (i10 _ _ _ h)
    · have h : (if rW T n (rB T n s.1) (rWd 17) = true then rK (rX T n f 7 d (rA (rB T n s.1 + 2) s)) (fun s1 => rX T n f 10 d (rU 100108 s1)) else rO (rA (rB T n s.1) s)) = some (.inr s2) := h
      show tyH (fun S => true :: S) (fun S => true :: S) s s2
      split at h
      · obtain ⟨s1, h1, h⟩ := rK_ok h
        exact tyH_t (tyH_S (fun S => true :: S) (tyH_b (i7 _ _ _ h1))) (tyH_t (tyH_u (by decide) (ty_ao (by decide))) (i10 _ _ _ h))
      · rw [rO_ok h]
        exact tyH_a tyH_r
theorem pE_ty {T : Nat → Int32} {n m d : Nat} {s s2 : rS} (hm : m ≤ 10) (h : pE T n m d s (.inr s2)) : tyH (mIn m) (mOu m) s s2 := by
  obtain ⟨N, h⟩ := h
  exact rX_ty N m d s s2 hm (h N (Nat.le_refl _))
/-- a clause and the codes that it stands over -/
noncomputable def rOk (cs : List Nat) (c : rCt) : Prop := ∃ p e1 e2 q, cs = p ++ (e1 ++ (e2 ++ q)) ∧ c.2.1 = p.length ∧ c.2.2.1 = p.length + e1.length ∧ c.2.2.2 = p.length + e1.length + e2.length ∧ (c.1 ≠ 15 → tyL [] e1 = some [false]) ∧ (e2 = [] ∨ tyL [] e2 = some [true])
theorem rOk_m {cs e : List Nat} {c : rCt} (h : rOk cs c) : rOk (cs ++ e) c := by
  obtain ⟨p, e1, e2, q, h1, h2⟩ := h
  exact ⟨p, e1, e2, q ++ e, by rw [h1, List.append_assoc, List.append_assoc, List.append_assoc], h2⟩
noncomputable def rOi (s : rS) : Prop := nVl s.2.2 ≤ s.2.1 ∧ s.2.1 ≤ 80
theorem rOi_h {A B : List Bool → List Bool} {s s2 : rS} (h : tyH A B s s2) (i : rOi s) : rOi s2 := by
  obtain ⟨e, a1, a2, a3, -⟩ := h
  refine ⟨?_, a3 i.2⟩
  rw [a1, nVl_app]
  have := i.1
  omega
noncomputable def rOj (s : rS) (x : rS × rCt) : Prop := (∃ e, x.1.2.2 = s.2.2 ++ e) ∧ rOk x.1.2.2 x.2 ∧ (rOi s → rOi x.1)
theorem rCl3_ok {T : Nat → Int32} {n k th : Nat} {s s2 : rS} {e1 : List Nat} {x : rS × rCt} (hs : s2.2.2 = s.2.2 ++ e1) (hi : rOi s → rOi s2) (h1 : th ≠ 15 → tyL [] e1 = some [false]) (h : rCl3 T n k th s.2.2.length s2 (.inr x)) : rOj s x := by
  rcases h with ⟨-, ⟨e, -, h⟩ | ⟨s3, h, h9⟩⟩ | ⟨-, -, h⟩ | ⟨-, -, h9⟩
  · cases h
  · cases h9
    have ht := pE_ty (by decide) h
    obtain ⟨e2, b1, b2, b3, b4⟩ := ht
    have b1 : s3.2.2 = s2.2.2 ++ e2 := b1
    have b4 : tyL [] e2 = some [true] := b4 []
    refine ⟨⟨e1 ++ e2, by show s3.2.2 = _; rw [b1, hs, List.append_assoc]⟩, ⟨s.2.2, e1, e2, [], ?_, rfl, ?_, ?_, h1, Or.inr b4⟩, fun z => rOi_h (pE_ty (by decide) h) (hi z)⟩
    · show s3.2.2 = _
      rw [b1, hs, List.append_nil, List.append_assoc]
    · show s2.2.2.length = _
      rw [hs, List.length_append]
    · show s3.2.2.length = _
      rw [b1, hs, List.length_append, List.length_append]
  · cases h
  · cases h9
    refine ⟨⟨e1, hs⟩, ⟨s.2.2, e1, [], [], ?_, rfl, ?_, ?_, h1, Or.inl rfl⟩, hi⟩
    · show s2.2.2 = _
      rw [hs, List.append_nil, List.append_nil]
    · show s2.2.2.length = _
      rw [hs, List.length_append]
    · show s2.2.2.length = _
      rw [hs, List.length_append]
      rfl
theorem rCl2_ok {T : Nat → Int32} {n k th : Nat} {s : rS} {x : rS × rCt} (hk : k ≠ 15 → th ≠ 15) (hk2 : k = 15 → th = 15) (h : rCl2 T n k th s (.inr x)) : rOj s x := by
  rcases h with ⟨a, h⟩ | ⟨a, ⟨e, -, h⟩ | ⟨s2, h2, h⟩⟩
  · exact rCl3_ok (e1 := []) (List.append_nil _).symm id (fun z => absurd (hk2 a) z) h
  · cases h
  · have ht := pE_ty (by decide) h2
    have hi : rOi s → rOi s2 := rOi_h ht
    obtain ⟨e1, b1, b2, b3, b4⟩ := ht
    exact rCl3_ok b1 hi (fun _ => b4 []) h
theorem rCl_ok {T : Nat → Int32} {n c : Nat} {s : rS} {x : rS × rCt} (h : rCl T n c s (.inr x)) : rOj s x := by
  rcases h with ⟨-, h⟩ | ⟨k, -, -, -, ⟨-, h⟩ | ⟨-, h⟩⟩
  · cases h
  · cases h
  · rcases h with ⟨a, ⟨e, -, h⟩ | ⟨q, h1, h⟩⟩ | ⟨a, h⟩
    · cases h
    · have := rM_le h1
      have h := rCl2_ok (fun _ => by omega) (fun z => by omega) h
      exact h
    · have y := rCl2_ok (s := rA (rE T n (rB T n s.1)) s) id id h
      exact y
theorem rRu_ok {T : Nat → Int32} {n : Nat} : ∀ (f : Nat) (s : rS) (cl : List rCt) (x : rS × List rCt), rRu T n f s cl (.inr x) → rOi s → (∀ c ∈ cl, rOk s.2.2 c) → rOi x.1 ∧ ∀ c ∈ x.2, rOk x.1.2.2 c
  | 0, _, _, _, h, _, _ => h.elim
  | f + 1, s, cl, x, h, hi, hc => by
    rcases h with ⟨e, -, h⟩ | ⟨s1, c, h1, h⟩
    · cases h
    · obtain ⟨⟨e, a1⟩, a2, a3⟩ := rCl_ok h1
      have a1 : s1.2.2 = s.2.2 ++ e := a1
      have hc2 : ∀ c2 ∈ cl ++ [c], rOk s1.2.2 c2 := by
        intro c2 hm
        rcases List.mem_append.mp hm with z | z
        · rw [a1]; exact rOk_m (hc c2 z)
        · rcases List.mem_singleton.mp z with rfl
          exact a2
      rcases h with ⟨-, h⟩ | ⟨-, h⟩ | ⟨-, h⟩
      · cases h
        exact ⟨a3 hi, hc2⟩
      · exact rRu_ok f (rA _ s1) _ x h (a3 hi) hc2
      · cases h
/-! what codes are worth -/
noncomputable def b64 (p : Prop) [Decidable p] : Int64 := if p then 1 else 0
theorem b64_f (p : Prop) [Decidable p] : b64 p = 0 ∨ b64 p = 1 := by
  unfold b64
  by_cases h : p
  · rw [if_pos h]; exact Or.inr rfl
  · rw [if_neg h]; exact Or.inl rfl
theorem b64_1 {p : Prop} [Decidable p] (h : p) : b64 p = 1 := if_pos h
theorem b64_0 {p : Prop} [Decidable p] (h : ¬ p) : b64 p = 0 := if_neg h
noncomputable def vOf (W : Nat → Int64) (c : Nat) : Int64 := if 100000 ≤ c then W (c - 100000) else (Int32.ofNat c).toInt64
noncomputable def jo (c : Nat) (a b : Int64) : Int64 := if c = 100100 then a + b else if c = 100101 then a - b else if c = 100102 then a * b else if c = 100103 then b64 (a.toInt < b.toInt) else if c = 100104 then b64 (a.toInt ≤ b.toInt) else if c = 100105 then b64 (a = b) else if c = 100106 then b64 (b.toInt ≤ a.toInt) else if c = 100108 then a ||| b else if c = 100109 then a &&& b else b64 (b.toInt < a.toInt)
noncomputable def jp (c : Nat) (a b : Int64) : Int64 := if c = 100108 then b64 (a ≠ 0 ∨ b ≠ 0) else if c = 100109 then b64 (a ≠ 0 ∧ b ≠ 0) else jo c a b
theorem jp_o {c : Nat} {a b : Int64} (h1 : c ≠ 100108) (h2 : c ≠ 100109) : jp c a b = jo c a b := by
  unfold jp
  rw [if_neg h1, if_neg h2]
theorem jp_8 {a b : Int64} : jp 100108 a b = b64 (a ≠ 0 ∨ b ≠ 0) := by
  unfold jp
  rw [if_pos rfl]
theorem jp_9 {a b : Int64} : jp 100109 a b = b64 (a ≠ 0 ∧ b ≠ 0) := by
  unfold jp
  rw [if_neg (by decide), if_pos rfl]
theorem jo_8 {a b : Int64} : jo 100108 a b = a ||| b := by
  unfold jo
  rw [if_neg (by decide), if_neg (by decide), if_neg (by decide), if_neg (by decide), if_neg (by decide), if_neg (by decide), if_neg (by decide), if_pos rfl]
theorem jo_9 {a b : Int64} : jo 100109 a b = a &&& b := by
  unfold jo
  rw [if_neg (by decide), if_neg (by decide), if_neg (by decide), if_neg (by decide), if_neg (by decide), if_neg (by decide), if_neg (by decide), if_neg (by decide), if_pos rfl]
theorem jo_f {c : Nat} {a b : Int64} (h : 100103 ≤ c ∧ c < 100108) : jo c a b = 0 ∨ jo c a b = 1 := by
  unfold jo
  rw [if_neg (by omega), if_neg (by omega), if_neg (by omega)]
  repeat' split
  all_goals first | exact b64_f _ | (exfalso; omega)
noncomputable def ev1 (W : Nat → Int64) (c : Nat) (X : List Int64) : List Int64 :=
  if c < 100100 then vOf W c :: X
  else if c = 100110 then (match X with
    | x :: r => (1 - x) :: r
    | [] => [])
  else (match X with
    | b :: a :: r => jo c a b :: r
    | X => X)
noncomputable def et1 (W : Nat → Int64) (c : Nat) (X : List Int64) : List Int64 :=
  if c < 100100 then vOf W c :: X
  else if c = 100110 then (match X with
    | x :: r => b64 (x = 0) :: r
    | [] => [])
  else (match X with
    | b :: a :: r => jp c a b :: r
    | X => X)
noncomputable def ev (W : Nat → Int64) : List Nat → List Int64 → List Int64
  | [], X => X
  | c :: e, X => ev W e (ev1 W c X)
noncomputable def et (W : Nat → Int64) : List Nat → List Int64 → List Int64
  | [], X => X
  | c :: e, X => et W e (et1 W c X)
noncomputable def okS : List Bool → List Int64 → Prop
  | [], [] => True
  | t :: S, x :: r => (t = true → x = 0 ∨ x = 1) ∧ okS S r
  | _, _ => False
theorem okS_1 {t : Bool} {S : List Bool} {X : List Int64} (k : okS (t :: S) X) : ∃ x r, X = x :: r ∧ (t = true → x = 0 ∨ x = 1) ∧ okS S r := by
  cases X with
  | nil => exact False.elim k
  | cons x r => exact ⟨x, r, rfl, k.1, k.2⟩
theorem okS_2 {t u : Bool} {S : List Bool} {X : List Int64} (k : okS (t :: u :: S) X) : ∃ b a r, X = b :: a :: r ∧ (t = true → b = 0 ∨ b = 1) ∧ (u = true → a = 0 ∨ a = 1) ∧ okS S r := by
  obtain ⟨b, r, rfl, h1, h2⟩ := okS_1 k
  obtain ⟨a, r, rfl, h3, h4⟩ := okS_1 h2
  exact ⟨b, a, r, rfl, h1, h3, h4⟩
theorem ev_v {W : Nat → Int64} {c : Nat} {X : List Int64} (hc : c < 100100) : ev1 W c X = vOf W c :: X := by
  unfold ev1
  rw [if_pos hc]
theorem ev_n {W : Nat → Int64} {x : Int64} {X : List Int64} : ev1 W 100110 (x :: X) = (1 - x) :: X := rfl
theorem ev_j {W : Nat → Int64} {c : Nat} {a b : Int64} {X : List Int64} (h1 : ¬ c < 100100) (h2 : c ≠ 100110) : ev1 W c (b :: a :: X) = jo c a b :: X := by
  unfold ev1
  rw [if_neg h1, if_neg h2]
theorem et_v {W : Nat → Int64} {c : Nat} {X : List Int64} (hc : c < 100100) : et1 W c X = vOf W c :: X := by
  unfold et1
  rw [if_pos hc]
theorem et_n {W : Nat → Int64} {x : Int64} {X : List Int64} : et1 W 100110 (x :: X) = b64 (x = 0) :: X := rfl
theorem et_j {W : Nat → Int64} {c : Nat} {a b : Int64} {X : List Int64} (h1 : ¬ c < 100100) (h2 : c ≠ 100110) : et1 W c (b :: a :: X) = jp c a b :: X := by
  unfold et1
  rw [if_neg h1, if_neg h2]
/-- a step on a stack of its types: what is done, and what it needs -/
theorem ev1_ty {W : Nat → Int64} {c : Nat} {S S1 : List Bool} {X : List Int64} (h : tyS S c = some S1) (k : okS S X) : ev1 W c X = et1 W c X ∧ okS S1 (ev1 W c X) ∧ ((c < 100012 ∧ (ev1 W c X).length = X.length + 1) ∨ (c = 100110 ∧ ∃ x r, X = x :: r) ∨ (100100 ≤ c ∧ c < 100110 ∧ ∃ b a r, X = b :: a :: r)) := by
  unfold tyS at h
  split at h
  · rename_i h1
    cases h
    rw [ev_v (by omega), et_v (by omega)]
    exact ⟨rfl, ⟨(fun z => by cases z), k⟩, Or.inl ⟨h1, rfl⟩⟩
  · split at h
    · rename_i h1 h2
      subst h2
      match S, h, k with
      | true :: S, h, k =>
        cases h
        obtain ⟨x, r, rfl, hx, hr⟩ := okS_1 k
        rw [ev_n, et_n]
        refine ⟨?_, ⟨fun _ => ?_, hr⟩, Or.inr (Or.inl ⟨rfl, x, r, rfl⟩)⟩
        · rcases hx rfl with rfl | rfl
          · rw [b64_1 rfl]; rfl
          · rw [b64_0 (by decide)]; rfl
        · rcases hx rfl with rfl | rfl
          · exact Or.inr rfl
          · exact Or.inl rfl
    · split at h
      · rename_i h1 h2 h3
        match S, h, k with
        | true :: true :: S, h, k =>
          cases h
          obtain ⟨b, a, r, rfl, hb, ha, hr⟩ := okS_2 k
          rw [ev_j (by omega) h2, et_j (by omega) h2]
          have e : jo c a b = jp c a b ∧ (jo c a b = 0 ∨ jo c a b = 1) := by
            rcases h3 with rfl | rfl
            · rw [jo_8, jp_8]
              rcases hb rfl with rfl | rfl <;> rcases ha rfl with rfl | rfl <;> decide
            · rw [jo_9, jp_9]
              rcases hb rfl with rfl | rfl <;> rcases ha rfl with rfl | rfl <;> decide
          exact ⟨by rw [e.1], ⟨fun _ => e.2, hr⟩, Or.inr (Or.inr ⟨by omega, by omega, b, a, r, rfl⟩)⟩
      · split at h
        · rename_i h1 h2 h3 h4
          match S, h, k with
          | false :: false :: S, h, k =>
            cases h
            obtain ⟨b, a, r, rfl, hb, ha, hr⟩ := okS_2 k
            rw [ev_j (by omega) h2, et_j (by omega) h2]
            have e : jo c a b = jp c a b := (jp_o (by omega) (by omega)).symm
            exact ⟨by rw [e], ⟨(fun z => by cases z), hr⟩, Or.inr (Or.inr ⟨by omega, by omega, b, a, r, rfl⟩)⟩
        · split at h
          · rename_i h1 h2 h3 h4 h5
            match S, h, k with
            | false :: false :: S, h, k =>
              cases h
              obtain ⟨b, a, r, rfl, hb, ha, hr⟩ := okS_2 k
              rw [ev_j (by omega) h2, et_j (by omega) h2]
              have e : jo c a b = jp c a b ∧ (jo c a b = 0 ∨ jo c a b = 1) := ⟨(jp_o (by omega) (by omega)).symm, jo_f h5⟩
              exact ⟨by rw [e.1], ⟨fun _ => e.2, hr⟩, Or.inr (Or.inr ⟨by omega, by omega, b, a, r, rfl⟩)⟩
          · cases h
theorem ev_ty {W : Nat → Int64} {e : List Nat} {S S1 : List Bool} {X : List Int64} (h : tyL S e = some S1) (k : okS S X) : ev W e X = et W e X ∧ okS S1 (ev W e X) := by
  induction e generalizing S X with
  | nil =>
    have h : some S = some S1 := h
    cases h
    exact ⟨rfl, k⟩
  | cons c e ih =>
    have h : (match tyS S c with | none => none | some S1 => tyL S1 e) = some S1 := h
    cases hc : tyS S c with
    | none => rw [hc] at h; cases h
    | some S3 =>
      rw [hc] at h
      obtain ⟨a1, a2, -⟩ := ev1_ty hc k
      obtain ⟨b1, b2⟩ := ih h a2
      refine ⟨?_, b2⟩
      show ev W e (ev1 W c X) = et W e (et1 W c X)
      rw [b1, a1]
/-- what a clause's codes are worth -/
noncomputable def wv (W : Nat → Int64) (e : List Nat) : Int64 := (ev W e []).headD 0
theorem ev_one {W : Nat → Int64} {e : List Nat} {t : Bool} (h : tyL [] e = some [t]) : ev W e [] = [wv W e] ∧ et W e [] = [wv W e] := by
  obtain ⟨a, k⟩ := ev_ty (W := W) (X := []) h trivial
  obtain ⟨x, r, e1, -, k2⟩ := okS_1 k
  cases r with
  | cons y r => exact False.elim k2
  | nil =>
    have : wv W e = x := by unfold wv; rw [e1]; rfl
    rw [this, ← a, e1]
    exact ⟨rfl, rfl⟩
/-- a stack in an array -/
noncomputable def stk (g : Nat → Int64) : List Int64 → Prop
  | [] => True
  | x :: r => g r.length = x ∧ stk g r
theorem stk_n {g g2 : Nat → Int64} {X : List Int64} (k : stk g X) (h : ∀ i, i < X.length → g2 i = g i) : stk g2 X := by
  induction X with
  | nil => trivial
  | cons x r ih =>
    refine ⟨?_, ih k.2 (fun i hi => h i (Nat.lt_succ_of_lt hi))⟩
    rw [h r.length (Nat.lt_succ_self _)]
    exact k.1
theorem stk_p {g : Nat → Int64} {X : List Int64} {x : Int64} {m : Nat} (k : stk g X) (hm : m = X.length) : stk (fun j => if j = m then x else g j) (x :: X) := by
  subst hm
  refine ⟨if_pos rfl, stk_n k (fun i hi => if_neg (by omega))⟩
/-- where the codes stand that are still to come -/
noncomputable def cdAt (f : Nat → Nat) (b : Nat) : List Nat → Prop
  | [] => True
  | c :: e => f b = c ∧ cdAt f (b + 1) e
theorem cdAt_of {f : Nat → Nat} {N : Nat} : ∀ {p e q : List Nat}, (List.range N).map f = p ++ (e ++ q) → cdAt f p.length e := by
  intro p e
  induction e generalizing p with
  | nil => intro q _; trivial
  | cons c e ih =>
    intro q h
    refine ⟨?_, ?_⟩
    · have hl : p.length < N := by
        have := congrArg List.length h
        rw [List.length_map, List.length_range, List.length_append, List.length_append, List.length_cons] at this
        omega
      have h2 : ((List.range N).map f)[p.length]? = (p ++ (c :: e ++ q))[p.length]? := congrArg (fun l => l[p.length]?) h
      rw [List.getElem?_append_right (Nat.le_refl _), Nat.sub_self, List.getElem?_map, List.getElem?_range hl] at h2
      exact Option.some.inj h2
    · have := ih (p := p ++ [c]) (q := q) (by rw [h, List.append_assoc]; rfl)
      rw [List.length_append] at this
      exact this
/-- where the class and the reference stand in the codes -/
noncomputable def evA (W : Nat → Int64) (f : Nat → Nat) (g : Nat → Int64) (F : List Int64) (b : Nat) (top : Nat) (e : List Nat) (X : List Int64) (S : List Bool) : Prop := (cdAt f b e) ∧ (stk g X) ∧ (∃ S1, tyL S e = some S1) ∧ (okS S X) ∧ (ev W e X = F) ∧ (top = X.length) ∧ (X.length + nVl e ≤ 80)
theorem evA.at_ {W : Nat → Int64} {f : Nat → Nat} {g : Nat → Int64} {F : List Int64} {b : Nat} {top : Nat} {e : List Nat} {X : List Int64} {S : List Bool} (k : evA W f g F b top e X S) : cdAt f b e := k.1
theorem evA.st {W : Nat → Int64} {f : Nat → Nat} {g : Nat → Int64} {F : List Int64} {b : Nat} {top : Nat} {e : List Nat} {X : List Int64} {S : List Bool} (k : evA W f g F b top e X S) : stk g X := k.2.1
theorem evA.ty {W : Nat → Int64} {f : Nat → Nat} {g : Nat → Int64} {F : List Int64} {b : Nat} {top : Nat} {e : List Nat} {X : List Int64} {S : List Bool} (k : evA W f g F b top e X S) : ∃ S1, tyL S e = some S1 := k.2.2.1
theorem evA.ok {W : Nat → Int64} {f : Nat → Nat} {g : Nat → Int64} {F : List Int64} {b : Nat} {top : Nat} {e : List Nat} {X : List Int64} {S : List Bool} (k : evA W f g F b top e X S) : okS S X := k.2.2.2.1
theorem evA.out {W : Nat → Int64} {f : Nat → Nat} {g : Nat → Int64} {F : List Int64} {b : Nat} {top : Nat} {e : List Nat} {X : List Int64} {S : List Bool} (k : evA W f g F b top e X S) : ev W e X = F := k.2.2.2.2.1
theorem evA.len {W : Nat → Int64} {f : Nat → Nat} {g : Nat → Int64} {F : List Int64} {b : Nat} {top : Nat} {e : List Nat} {X : List Int64} {S : List Bool} (k : evA W f g F b top e X S) : top = X.length := k.2.2.2.2.2.1
theorem evA.few {W : Nat → Int64} {f : Nat → Nat} {g : Nat → Int64} {F : List Int64} {b : Nat} {top : Nat} {e : List Nat} {X : List Int64} {S : List Bool} (k : evA W f g F b top e X S) : X.length + nVl e ≤ 80 := k.2.2.2.2.2.2
theorem tyL_c {S S1 : List Bool} {c : Nat} {e : List Nat} (h : tyL S (c :: e) = some S1) : ∃ S2, tyS S c = some S2 ∧ tyL S2 e = some S1 := by
  have h : (match tyS S c with | none => none | some S1 => tyL S1 e) = some S1 := h
  cases hc : tyS S c with
  | none => rw [hc] at h; cases h
  | some S3 => rw [hc] at h; exact ⟨S3, rfl, h⟩
section EVA
variable {W : Nat → Int64} {f : Nat → Nat} {g : Nat → Int64} {F X : List Int64} {b top c : Nat} {e : List Nat} {S : List Bool}
/-- a value -/
theorem evA_v (k : evA W f g F b top (c :: e) X S) (h : c < 100100) : top < 80 ∧ c < 100012 ∧ ∃ X2 S2, evA W f (fun j => if j = top then vOf W c else g j) F (b + 1) (top + 1) e X2 S2 := by
  obtain ⟨S1, h1⟩ := k.ty
  obtain ⟨S2, h2, h3⟩ := tyL_c h1
  obtain ⟨a1, a2, a3⟩ := ev1_ty (W := W) h2 k.ok
  have hf := k.few
  have hn : nVl (c :: e) = 1 + nVl e := by
    show (if c < 100100 then 1 else 0) + nVl e = _
    rw [if_pos h]
  have ho := k.out
  have ho : ev W e (ev1 W c X) = F := ho
  rw [ev_v h] at a2 ho
  have hl := k.len
  refine ⟨by omega, ?_, vOf W c :: X, S2, ⟨k.at_.2, stk_p k.st k.len, ⟨S1, h3⟩, a2, ho, by rw [hl]; rfl, by show X.length + 1 + nVl e ≤ 80; omega⟩⟩
  rcases a3 with a3 | a3 | a3
  · exact a3.1
  · omega
  · omega
theorem nVl_k (h : ¬ c < 100100) : nVl (c :: e) = nVl e := by
  show (if c < 100100 then 1 else 0) + nVl e = _
  rw [if_neg h, Nat.zero_add]
/-- not -/
theorem evA_n (k : evA W f g F b top (c :: e) X S) (h : c = 100110) : 0 < top ∧ 1 - g (top - 1) = b64 (g (top - 1) = 0) ∧ ∃ X2 S2, evA W f (fun j => if j = top - 1 then 1 - g (top - 1) else g j) F (b + 1) top e X2 S2 := by
  subst h
  obtain ⟨S1, h1⟩ := k.ty
  obtain ⟨S2, h2, h3⟩ := tyL_c h1
  obtain ⟨a1, a2, a3⟩ := ev1_ty (W := W) h2 k.ok
  have hf := k.few
  have ho := k.out
  have ho : ev W e (ev1 W 100110 X) = F := ho
  have hl := k.len
  have hs := k.st
  have hn := nVl_k (e := e) (c := 100110) (by decide)
  rcases a3 with ⟨a3, -⟩ | ⟨-, x, r, rfl⟩ | ⟨-, a3, -⟩
  · omega
  · rw [ev_n] at a2 ho a1
    rw [et_n] at a1
    have hl : top = r.length + 1 := hl
    have e1 : top - 1 = r.length := by omega
    have e2 : g (top - 1) = x := by rw [e1]; exact hs.1
    refine ⟨by omega, ?_, (1 - x) :: r, S2, ⟨k.at_.2, ?_, ⟨S1, h3⟩, a2, ho, hl, by rw [hn] at hf; exact hf⟩⟩
    · rw [e2]
      exact (List.cons.inj a1).1
    · rw [e2]
      exact stk_p hs.2 e1
  · omega
/-- two into one -/
theorem evA_j (k : evA W f g F b top (c :: e) X S) (h1 : ¬ c < 100100) (h2 : c ≠ 100110) : 1 < top ∧ 100100 ≤ c ∧ c < 100110 ∧ jo c (g (top - 2)) (g (top - 1)) = jp c (g (top - 2)) (g (top - 1)) ∧ ∃ X2 S2, evA W f (fun j => if j = top - 2 then jo c (g (top - 2)) (g (top - 1)) else g j) F (b + 1) (top - 1) e X2 S2 := by
  obtain ⟨S1, t1⟩ := k.ty
  obtain ⟨S2, t2, t3⟩ := tyL_c t1
  obtain ⟨a1, a2, a3⟩ := ev1_ty (W := W) t2 k.ok
  have hf := k.few
  have ho := k.out
  have ho : ev W e (ev1 W c X) = F := ho
  have hl := k.len
  have hs := k.st
  have hn := nVl_k (e := e) h1
  rcases a3 with ⟨a3, -⟩ | ⟨a3, -⟩ | ⟨a3, a4, y, x, r, rfl⟩
  · omega
  · omega
  · rw [ev_j h1 h2] at a2 ho a1
    rw [et_j h1 h2] at a1
    have hl : top = r.length + 1 + 1 := hl
    have hf : r.length + 1 + 1 + nVl (c :: e) ≤ 80 := hf
    have e1 : top - 1 = (x :: r).length := by show top - 1 = r.length + 1; omega
    have e3 : top - 2 = r.length := by omega
    have e2 : g (top - 1) = y := by rw [e1]; exact hs.1
    have e4 : g (top - 2) = x := by rw [e3]; exact hs.2.1
    rw [e2, e4]
    refine ⟨by omega, a3, a4, (List.cons.inj a1).1, jo c x y :: r, S2, ⟨k.at_.2, ?_, ⟨S1, t3⟩, a2, ho, by show top - 1 = r.length + 1; omega, by show r.length + 1 + nVl e ≤ 80; omega⟩⟩
    exact stk_p hs.2.2 e3
theorem evA_0 {t : Bool} (h : cdAt f b e) (ht : tyL [] e = some [t]) (hn : nVl e ≤ 80) : evA W f g [wv W e] b 0 e [] [] := ⟨h, trivial, ⟨_, ht⟩, trivial, (ev_one ht).1, rfl, by show 0 + nVl e ≤ 80; omega⟩
theorem evA_e {x : Int64} (k : evA W f g [x] b top [] X S) : top = 1 ∧ g 0 = x := by
  have ho : X = [x] := k.out
  have hs := k.st
  have hl := k.len
  rw [ho] at hs hl
  exact ⟨hl, hs.1⟩
end EVA
/-! arrays by their tags -/
section TAGV
variable {xs : Nat → Int32} {τ : List Nat} {h h2 : zH} {W : Nat → Nat → Bool}
theorem tkd_v {p t k nlo nhi : Nat} {lo hi : Int} {tg : Nat} (hB : zBs xs τ h) (ht : τ[p]? = some t) (hT : zTTy[t]? = some (.inr (k, nlo, nhi, (0, lo, hi, tg)))) : nlo ≤ tN h p ∧ tN h p ≤ nhi ∧ ∀ i, i < tN h p → lo ≤ (tA h p i).toInt ∧ (tA h p i).toInt ≤ hi := by
  obtain ⟨ct, c, a1, a2, a3⟩ := hB.1.2 _ _ ht
  rw [hT] at a1
  cases a1
  obtain ⟨N, x, rfl, h1, h2, f, rfl, h3⟩ := a3
  unfold tN tA
  rw [a2]
  exact ⟨h1, h2, h3⟩
theorem tkd_j {p t k nlo nhi : Nat} {lo hi : Int} {tg : Nat} (hB : zBs xs τ h) (ht : zTG[p]? = some t) (hT : zTTy[t]? = some (.inr (k, nlo, nhi, (1, lo, hi, tg)))) : nlo ≤ tN h p ∧ tN h p ≤ nhi := by
  obtain ⟨ct, c, a1, a2, a3⟩ := hB.1.2 _ _ (hB.2.1 _ _ ht)
  rw [hT] at a1
  cases a1
  obtain ⟨N, x, rfl, h1, h2, -⟩ := a3
  unfold tN
  rw [a2]
  exact ⟨h1, h2⟩
theorem tfr_v {p t : Nat} (hB : zBs xs τ h) (hf : yFr W τ h h2) (ht : τ[p]? = some t) (hW : W t 0 = false) : tA h2 p = tA h p ∧ tN h2 p = tN h p := by
  obtain ⟨ct, c, a1, a2, -⟩ := hB.1.2 _ _ ht
  obtain ⟨c2, b1, b2⟩ := hf _ _ _ ht a2
  unfold tA tN
  constructor
  · funext i
    rw [a2, b1]
    match c, c2, b2 with
    | .inr (x, fs), .inr (y, gs), b2 => rfl
    | .inl (k, N, x), .inl (k2, N2, y), b2 =>
      have := b2.2.2 hW
      subst this
      cases y with
      | inl f => rfl
      | inr y => rfl
  · rw [a2, b1]
    match c, c2, b2 with
    | .inr (x, fs), .inr (y, gs), b2 => rfl
    | .inl (k, N, x), .inl (k2, N2, y), b2 => exact b2.2.1.symm
theorem arr_tag {p q a t k nlo nhi tg : Nat} {lo hi : Int} (hB : zBs xs τ h) (ht : zTG[p]? = some t) (hT : zTTy[t]? = some (.inr (k, nlo, nhi, (2, lo, hi, tg)))) (hq : q < nlo) (hg : tg ≠ 0) (ha : tO h p q = some a) : τ[a]? = some tg := by
  obtain ⟨a1, a2, a3⟩ := tkd_o hB ht hT
  obtain ⟨-, -, y⟩ := a3 q (by omega)
  rw [ha] at y
  rcases y with y | y | y
  · exact absurd y hg
  · exact absurd y (by show ¬ ((a : Int) < 0); omega)
  · exact y
end TAGV
theorem zsbM {x y : Int32} {a b : Nat} (hx : x.toInt = a) (hy : y.toInt = b) (ha : a ≤ 1000000) (hb : b ≤ 1000000) : (x - y).toInt = (a : Int) - b := by
  rw [Int32.toInt_sub, hx, hy]
  exact Int.bmod_eq_of_le (by show (-2147483648 : Int) ≤ (a : Int) - b; omega) (by show (a : Int) - b < (2147483648 : Int); omega)
/-! a long array is written, the rest stays -/
noncomputable def mJs (p i : Nat) (x : Int64) (h h3 : zH) : Prop := tSh h3 ∧ tF h3 = tF h ∧ tA h3 = tA h ∧ tO h3 = tO h ∧ tN h3 = tN h ∧ tJ h3 = fun q j => if q = p ∧ j = i then x else tJ h q j
noncomputable def wFr (p : Nat) (h h2 : zH) : Prop := tSh h2 ∧ tF h2 = tF h ∧ tA h2 = tA h ∧ tO h2 = tO h ∧ tN h2 = tN h ∧ ∀ q, q ≠ p → tJ h2 q = tJ h q
section WFR
variable {h h1 h2 h3 : zH} {p i : Nat} {x : Int64}
theorem wFr_r (hs : tSh h) : wFr p h h := ⟨hs, rfl, rfl, rfl, rfl, fun _ _ => rfl⟩
theorem wFr_t (a : wFr p h h1) (k : wFr p h1 h2) : wFr p h h2 := ⟨k.1, k.2.1.trans a.2.1, k.2.2.1.trans a.2.2.1, k.2.2.2.1.trans a.2.2.2.1, k.2.2.2.2.1.trans a.2.2.2.2.1, fun q hq => (k.2.2.2.2.2 q hq).trans (a.2.2.2.2.2 q hq)⟩
theorem wFr_s (a : wFr p h h1) (k : mJs p i x h1 h3) : wFr p h h3 := wFr_t a ⟨k.1, k.2.1, k.2.2.1, k.2.2.2.1, k.2.2.2.2.1, fun q hq => by rw [k.2.2.2.2.2]; funext j; exact if_neg (fun z => hq z.1)⟩
theorem mJs_g {g : Nat → Int64} (k : mJs p i x h1 h3) (e : tJ h1 p = g) : tJ h3 p = fun j => if j = i then x else g j := by
  rw [k.2.2.2.2.2]
  funext j
  dsimp only
  rw [e]
  by_cases z : j = i
  · rw [if_pos ⟨rfl, z⟩, if_pos z]
  · rw [if_neg (fun y => z y.2), if_neg z]
theorem tG_lst {tt : zT} {G : zG} {cd : zK} {bc bs : Nat} {rt : Option FieldType} {M : zM} {Q : zQ} {Z : zX} {f : Bool} {pc : Nat} {L : zL} {st : List Value} {c n : Nat} {i : Int32} (hf : tInJ h p i) (hs : tSh h) (k : ∀ h3, mJs p i.toNatClampNeg x h h3 → tG tt G cd bc bs rt M Q Z f pc L st h3 c n) : tG tt G cd bc bs rt M Q Z f pc L st (tSJ h p i.toNatClampNeg x) c n := by
  obtain ⟨N, g, e, -⟩ := hf
  exact k _ ⟨tSh_SJ hs, tF_tSJ _ _ _ _, tA_tSJ _ _ _ _, tO_tSJ _ _ _ _, tN_tSJ _ _ _ _, tJ_tSJ ⟨_, _, _, e⟩ _ _⟩
end WFR
/-! a rule in the class's arrays and in the reference's -/
noncomputable def slc (cs : List Nat) (p q : Nat) : List Nat := (cs.drop p).take (q - p)
theorem slc_m {p e q : List Nat} : slc (p ++ (e ++ q)) p.length (p.length + e.length) = e := by
  unfold slc
  rw [List.drop_left, show p.length + e.length - p.length = e.length by omega, List.take_left]
noncomputable def rDt (h : zH) (a b K : Nat) (cs : List Nat) (cl : Nat → rCt) : Prop := ((List.range (tN h a)).map (fun i => (tA h a i).toNatClampNeg) = cs) ∧ (tN h a ≤ 400) ∧ (∀ i, i < tN h a → 0 ≤ (tA h a i).toInt) ∧ (tN h b = 4 * K) ∧ (K ≤ 12) ∧ (∀ i, i < K → (tA h b (4 * i)).toInt = ((cl i).1 : Int) ∧ (tA h b (4 * i + 1)).toInt = ((cl i).2.1 : Int) ∧ (tA h b (4 * i + 2)).toInt = ((cl i).2.2.1 : Int) ∧ (tA h b (4 * i + 3)).toInt = ((cl i).2.2.2 : Int)) ∧ (∀ i, i < K → rOk cs (cl i)) ∧ (nVl cs ≤ 80)
theorem rDt.arr {h : zH} {a b K : Nat} {cs : List Nat} {cl : Nat → rCt} (k : rDt h a b K cs cl) : (List.range (tN h a)).map (fun i => (tA h a i).toNatClampNeg) = cs := k.1
theorem rDt.big {h : zH} {a b K : Nat} {cs : List Nat} {cl : Nat → rCt} (k : rDt h a b K cs cl) : tN h a ≤ 400 := k.2.1
theorem rDt.pos {h : zH} {a b K : Nat} {cs : List Nat} {cl : Nat → rCt} (k : rDt h a b K cs cl) : ∀ i, i < tN h a → 0 ≤ (tA h a i).toInt := k.2.2.1
theorem rDt.len {h : zH} {a b K : Nat} {cs : List Nat} {cl : Nat → rCt} (k : rDt h a b K cs cl) : tN h b = 4 * K := k.2.2.2.1
theorem rDt.few {h : zH} {a b K : Nat} {cs : List Nat} {cl : Nat → rCt} (k : rDt h a b K cs cl) : K ≤ 12 := k.2.2.2.2.1
theorem rDt.row {h : zH} {a b K : Nat} {cs : List Nat} {cl : Nat → rCt} (k : rDt h a b K cs cl) : ∀ i, i < K → (tA h b (4 * i)).toInt = ((cl i).1 : Int) ∧ (tA h b (4 * i + 1)).toInt = ((cl i).2.1 : Int) ∧ (tA h b (4 * i + 2)).toInt = ((cl i).2.2.1 : Int) ∧ (tA h b (4 * i + 3)).toInt = ((cl i).2.2.2 : Int) := k.2.2.2.2.2.1
theorem rDt.ok {h : zH} {a b K : Nat} {cs : List Nat} {cl : Nat → rCt} (k : rDt h a b K cs cl) : ∀ i, i < K → rOk cs (cl i) := k.2.2.2.2.2.2.1
theorem rDt.nv {h : zH} {a b K : Nat} {cs : List Nat} {cl : Nat → rCt} (k : rDt h a b K cs cl) : nVl cs ≤ 80 := k.2.2.2.2.2.2.2
theorem rDt.frame {h h2 : zH} {a b K p : Nat} {cs : List Nat} {cl : Nat → rCt} (D : rDt h a b K cs cl) (k : wFr p h h2) : rDt h2 a b K cs cl := by
  obtain ⟨h1, h2, h3, h4, h5, h6, h7, h8⟩ := D
  have eN := k.2.2.2.2.1
  have eA := k.2.2.1
  exact ⟨by rw [eN, eA]; exact h1, by rw [eN]; exact h2, by rw [eN, eA]; exact h3, by rw [eN]; exact h4, h5, by rw [eA]; exact h6, h7, h8⟩
/-- a clause tells its thing -/
noncomputable def hit (W : Nat → Int64) (cs : List Nat) (c : rCt) (th : Nat) : Prop := c.1 = th ∧ (c.2.2.1 = c.2.2.2 ∨ wv W (slc cs c.2.2.1 c.2.2.2) ≠ 0)
noncomputable def fTr (W : Nat → Int64) (cs : List Nat) (cl : Nat → rCt) (K th : Nat) (ix : Nat → Nat) (w : Option Value) : Prop := (w = some (.int (-1)) ∧ ∀ i, i < K → ¬ hit W cs (cl i) th) ∨ ∃ i, i < K ∧ hit W cs (cl i) th ∧ (∀ j, j < i → ¬ hit W cs (cl j) th) ∧ ∃ x : Int32, w = some (.int x) ∧ x.toInt = (ix i : Int)
theorem nVl_m {p e q : List Nat} : nVl e ≤ nVl (p ++ (e ++ q)) := by
  rw [nVl_app, nVl_app]
  omega
/-- the test of a clause, the sum of a clause -/
theorem rOk_t {cs : List Nat} {c : rCt} (h : rOk cs c) (hn : nVl cs ≤ 80) (hne : c.2.2.1 ≠ c.2.2.2) : c.2.2.2 = c.2.2.1 + (slc cs c.2.2.1 c.2.2.2).length ∧ c.2.2.2 ≤ cs.length ∧ tyL [] (slc cs c.2.2.1 c.2.2.2) = some [true] ∧ nVl (slc cs c.2.2.1 c.2.2.2) ≤ 80 ∧ ∃ p q, p.length = c.2.2.1 ∧ cs = p ++ (slc cs c.2.2.1 c.2.2.2 ++ q) := by
  obtain ⟨p, e1, e2, q, h1, h2, h3, h4, -, h6⟩ := h
  have e : cs = (p ++ e1) ++ (e2 ++ q) := by rw [h1, List.append_assoc]
  have es : slc cs c.2.2.1 c.2.2.2 = e2 := by
    rw [e, h3, h4, ← List.length_append]
    exact slc_m
  rw [es]
  have hl := congrArg List.length e
  rw [List.length_append, List.length_append, List.length_append] at hl
  refine ⟨by omega, by omega, ?_, ?_, p ++ e1, q, by rw [List.length_append, h3], e⟩
  · rcases h6 with h6 | h6
    · rw [h6] at h4
      exact absurd (h3.trans h4.symm) hne
    · exact h6
  · have := nVl_m (p := p ++ e1) (e := e2) (q := q)
    rw [← e] at this
    omega
theorem rOk_s {cs : List Nat} {c : rCt} (h : rOk cs c) (hn : nVl cs ≤ 80) (hne : c.1 ≠ 15) : c.2.2.1 = c.2.1 + (slc cs c.2.1 c.2.2.1).length ∧ c.2.2.1 ≤ cs.length ∧ tyL [] (slc cs c.2.1 c.2.2.1) = some [false] ∧ nVl (slc cs c.2.1 c.2.2.1) ≤ 80 ∧ ∃ p q, p.length = c.2.1 ∧ cs = p ++ (slc cs c.2.1 c.2.2.1 ++ q) := by
  obtain ⟨p, e1, e2, q, h1, h2, h3, h4, h5, -⟩ := h
  have es : slc cs c.2.1 c.2.2.1 = e1 := by
    rw [h1, h2, h3]
    exact slc_m
  rw [es]
  have hl := congrArg List.length h1
  rw [List.length_append, List.length_append, List.length_append] at hl
  refine ⟨by omega, by omega, h5 hne, ?_, p, e2 ++ q, h2.symm, h1⟩
  have := nVl_m (p := p) (e := e1) (q := e2 ++ q)
  rw [← h1] at this
  omega
theorem cdAt_c {cs p e q : List Nat} {f : Nat → Nat} {N b : Nat} (ha : (List.range N).map f = cs) (hc : cs = p ++ (e ++ q)) (hb : p.length = b) : cdAt f b e := by
  rw [← hb]
  exact cdAt_of (ha.trans hc)
theorem cs_len {cs : List Nat} {f : Nat → Nat} {N : Nat} (ha : (List.range N).map f = cs) : cs.length = N := by rw [← ha, List.length_map, List.length_range]
/-- a rule's codes and clauses in the reference's arrays -/
noncomputable def rDm (h : zH) (q K : Nat) (cs : List Nat) (cl : Nat → rCt) : Prop := (∀ i, i < cs.length → mCode (tA h 133 (500 * q + i)).toNatClampNeg (tA h 134 (500 * q + i)).toNatClampNeg = (cs[i]?).getD 0) ∧ (cs.length ≤ 400) ∧ ((tA h 140 q).toInt = (K : Int)) ∧ (K ≤ 12) ∧ (∀ i, i < K → mRow h (12 * q + i) = cl i) ∧ (∀ i, i < K → rOk cs (cl i)) ∧ (nVl cs ≤ 80)
theorem rDm.cod {h : zH} {q K : Nat} {cs : List Nat} {cl : Nat → rCt} (k : rDm h q K cs cl) : ∀ i, i < cs.length → mCode (tA h 133 (500 * q + i)).toNatClampNeg (tA h 134 (500 * q + i)).toNatClampNeg = (cs[i]?).getD 0 := k.1
theorem rDm.big {h : zH} {q K : Nat} {cs : List Nat} {cl : Nat → rCt} (k : rDm h q K cs cl) : cs.length ≤ 400 := k.2.1
theorem rDm.cnt {h : zH} {q K : Nat} {cs : List Nat} {cl : Nat → rCt} (k : rDm h q K cs cl) : (tA h 140 q).toInt = (K : Int) := k.2.2.1
theorem rDm.few {h : zH} {q K : Nat} {cs : List Nat} {cl : Nat → rCt} (k : rDm h q K cs cl) : K ≤ 12 := k.2.2.2.1
theorem rDm.row {h : zH} {q K : Nat} {cs : List Nat} {cl : Nat → rCt} (k : rDm h q K cs cl) : ∀ i, i < K → mRow h (12 * q + i) = cl i := k.2.2.2.2.1
theorem rDm.ok {h : zH} {q K : Nat} {cs : List Nat} {cl : Nat → rCt} (k : rDm h q K cs cl) : ∀ i, i < K → rOk cs (cl i) := k.2.2.2.2.2.1
theorem rDm.nv {h : zH} {q K : Nat} {cs : List Nat} {cl : Nat → rCt} (k : rDm h q K cs cl) : nVl cs ≤ 80 := k.2.2.2.2.2.2
theorem rDm.frame {h h2 : zH} {q K p : Nat} {cs : List Nat} {cl : Nat → rCt} (D : rDm h q K cs cl) (k : wFr p h h2) : rDm h2 q K cs cl := by
  obtain ⟨h1, h2, h3, h4, h5, h6, h7⟩ := D
  have eA := k.2.2.1
  exact ⟨by rw [eA]; exact h1, h2, by rw [eA]; exact h3, h4, fun i hi => by rw [← h5 i hi]; unfold mRow; rw [eA], h6, h7⟩
theorem cdAt_g {cs e : List Nat} {f : Nat → Nat} : ∀ {p q : List Nat}, cs = p ++ (e ++ q) → (∀ i, i < cs.length → f i = (cs[i]?).getD 0) → cdAt f p.length e := by
  induction e with
  | nil => intro p q _ _; trivial
  | cons c e ih =>
    intro p q h hf
    refine ⟨?_, ?_⟩
    · have hl : p.length < cs.length := by
        rw [h, List.length_append, List.length_append, List.length_cons]
        omega
      rw [hf _ hl, h, List.getElem?_append_right (Nat.le_refl _), Nat.sub_self]
      rfl
    · have := ih (p := p ++ [c]) (q := q) (by rw [h, List.append_assoc]; rfl) hf
      rw [List.length_append] at this
      exact this
theorem cdAt_h {cs p e q : List Nat} {f : Nat → Nat} {b : Nat} (hb : p.length = b) (h : cs = p ++ (e ++ q)) (hf : ∀ i, i < cs.length → f i = (cs[i]?).getD 0) : cdAt f b e := by
  rw [← hb]
  exact cdAt_g h hf
/-- which thing a row tells -/
noncomputable def thc (a b : Nat) : Nat := if a = 0 ∧ b < 12 then b else 12 + a + 100 * b
theorem thc_i {a b c d : Nat} (ha : a ≤ 3) (hc : c ≤ 3) : thc a b = thc c d ↔ a = c ∧ b = d := by
  unfold thc
  split <;> split <;> omega
theorem mRow_1 {h : zH} {i : Nat} : (mRow h i).1 = thc (tA h 135 i).toNatClampNeg (tA h 136 i).toNatClampNeg := rfl
/-- a code that is a value, not, or a sign -/
theorem mC_v {s v : Nat} {c : Nat} (e : mCode s v = c) (h : c < 100012) (hv : v ≤ 99999) : (s = 0 ∧ c = v) ∨ (s = 1 ∧ c = 100000 + v ∧ v < 12) := by
  unfold mCode at e
  split at e
  · exact Or.inl ⟨by omega, e.symm⟩
  · split at e
    · split at e
      · exact Or.inr ⟨by omega, e.symm, by omega⟩
      · omega
    · exfalso
      repeat' (split at e)
      all_goals omega
theorem mC_n {s v : Nat} {c : Nat} (e : mCode s v = c) (h : c = 100110) (hv : v ≤ 99999) (hs : s ≤ 14) : s = 10 := by
  unfold mCode at e
  repeat' (split at e)
  all_goals omega
theorem mC_t {s v : Nat} (h : 2 ≤ s) : mCode s v = mCode s 0 := by
  unfold mCode
  rw [if_neg (show ¬ s = 0 by omega), if_neg (show ¬ s = 1 by omega), if_neg (show ¬ s = 0 by omega), if_neg (show ¬ s = 1 by omega)]
theorem mC_j {s v : Nat} {c : Nat} (e : mCode s v = c) (h1 : 100100 ≤ c) (h2 : c < 100110) (hv : v ≤ 99999) : 2 ≤ s ∧ s ≤ 12 ∧ s ≠ 10 ∧ c = mCode s 0 := by
  have h : 2 ≤ s ∧ s ≤ 12 ∧ s ≠ 10 := by
    unfold mCode at e
    repeat' (split at e)
    all_goals omega
  exact ⟨h.1, h.2.1, h.2.2, e.symm.trans (mC_t h.1)⟩
theorem zmul5 {y : Int32} {q : Nat} (hy : y.toInt = q) (hq : q < 10) : (500 * y).toInt = ((500 * q : Nat) : Int) := by
  rw [Int32.toInt_mul, hy, show (500 : Int32).toInt = 500 from rfl]
  exact Int.bmod_eq_of_le (by show (-2147483648 : Int) ≤ 500 * (q : Int); omega) (by show 500 * (q : Int) < (2147483648 : Int); omega)
theorem zmul12 {y : Int32} {q : Nat} (hy : y.toInt = q) (hq : q < 10) : (12 * y).toInt = ((12 * q : Nat) : Int) := by
  rw [Int32.toInt_mul, hy, show (12 : Int32).toInt = 12 from rfl]
  exact Int.bmod_eq_of_le (by show (-2147483648 : Int) ≤ 12 * (q : Int); omega) (by show 12 * (q : Int) < (2147483648 : Int); omega)
