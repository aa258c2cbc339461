theorem txt_k : rWd 19 = ztx 18 ∧ rWd 18 = ztx 19 ∧ rWd 17 = ztx 20 ∧ rWd 16 = ztx 21 := by decide +kernel
theorem zp3 {x y : Int32} {k j : Nat} (h : x.toInt = k) (hy : y.toInt = j) (hk : k ≤ 1000) (hj : j ≤ 10) : (x + y).toInt = ((k + j : Nat) : Int) := zadN h hy (by omega) (by omega)
theorem mZ_of {h h0 h3 : zH} {X : Int32} {v : Nat} (g : mFr h0 h) (p : mP h0) (s : mSet 28 X h h3) (hx : X.toInt = v) (hv : v ≤ 500) : mZp h3 := by
  have e := mFr_27 g
  have := p.2.1
  unfold mZp
  rw [mI_x s, mI_o s (by decide), e]
  exact ⟨⟨by omega, by omega⟩, by omega, by omega⟩
theorem g_beginsFact {G : zG} (hG : G.1 = zProg) (hX : G.2.1 = ztx) {h : zH} {T : Nat → Int32} {n : Nat} (hs : tSh h) (hp : mP h) (hT : tA h 132 = T) (hN : mn h = n) (hD : mD h) (hd : mDp (mSk h) ≤ 1000) (h46s : tvI (tF h 111 46) = 0) : tC zTt G 216 [.ref 111] h (fun w h2 => w = none ∧ mFq h h2 ∧ mOut (mS0 T n (mSk h) (ms h)) h2) := by
  refine tC_in (by rw [hG]; rfl) (fun dp => ?_)
  have g0 := mFr_r hs
  have hpn : (ms h).1 ≤ n := mPle hp hN
  have hn4 : n ≤ 400 := by have a := mNl hp hN; have b := hp.2.1; omega
  refine tw_aload rfl rfl ?_
  refine tw_virt0 rfl (g_blanks hG hX (g0).1 hp ((mFr_T g0).trans hT) ((mFr_n g0).trans hN)) (fun wp683 hp683 p683 => ?_)
  obtain ⟨rfl, gp683, pp683e, sp683, tp683, dp683⟩ := p683
  have ggp683 := mFr_t g0 gp683
  refine tw_aload rfl rfl ?_
  refine tw_push rfl ?_
  refine tw_virt1 rfl (g_stands hG hX (ggp683).1 ((mFr_T ggp683).trans hT) ((mFr_n ggp683).trans hN) (q := 18) (by decide +kernel) ⟨pp683e.2.1.1, by have := pp683e.2.1; omega⟩ ⟨by have := pp683e.2.1; omega, pp683e.2.1.2.2⟩) (fun w9 h9 p684 => ?_)
  obtain ⟨⟨p684, rfl⟩ | ⟨p684, rfl⟩, rfl⟩ := p684
  · try dsimp only [tvI_i, tvJ_j, tvR_r] at p684
    refine tw_if_eq rfl (fun z => absurd z (by decide)) (fun _ => ?_)
    refine tw_aload rfl rfl ?_
    refine tw_push rfl ?_
    refine tw_aload rfl rfl ?_
    refine tw_getS rfl (hi_111_28 ggp683.1) ?_
    have hwn : rW T n (rB T n (ms h).1) (rWd 19) = true := by have z := p684; rw [sp683] at z; rw [txt_k.1]; exact z
    refine tw_virt2 rfl (g_opensDeep hG hX (ggp683).1 pp683e ((mFr_T ggp683).trans hT) ((mFr_n ggp683).trans hN) (by decide) (by decide) (b := (rB T n (ms h).1)) ((mPl pp683e).trans (by rw [sp683]; rfl)) (by have := rB_le (T := T) hpn; omega) (mD_k hD tp683 dp683) (by rw [tp683]; exact hd)) (fun w9 hp685 p685 => ?_)
    obtain ⟨rfl, gp685, ⟨np685, pp685e, tp685, sp685, ddp685⟩ | ⟨np685, Fp685, ip685, jp685⟩⟩ := p685
    · have ggp685 := mFr_t ggp683 gp685
      refine tw_aload rfl rfl ?_
      refine tw_dup rfl ?_
      refine tw_getS rfl (hi_111_28 ggp685.1) ?_
      refine tw_push rfl ?_
      refine tw_iadd rfl ?_
      refine tw_put rfl (fun f686 => ?_)
      refine tG_setm f686 (hw_111_28 f686 (ggp685).1) (fun hf686 ef686 => ?_)
      try dsimp only [tvI_i] at ef686
      have gf686 := mFr_s ggp685 ef686 (by unfold mFs; omega)
      have h9w : rE T n (rB T n (ms h).1) = (rB T n (ms h).1) + 3 := by rw [rW_e hwn, wlen_k.2.2.1]
      have hr9 := rE_le (T := T) (rB_le (T := T) hpn)
      rw [h9w] at hr9
      obtain ⟨pf686, sf686, tf686⟩ := mTo pp685e ((mFr_n ggp685).trans hN) ef686 (v := (rB T n (ms h).1) + 3) (zp3 (k := (rB T n (ms h).1)) (j := 3) (by rw [mPl pp685e, sp685, sp683]; rfl) rfl (by have := rB_le (T := T) hpn; omega) (by decide)) hr9
      rw [sp685, sp683] at sf686
      refine tw_goto rfl ?_
      have hsk : mSk hf686 = 10 :: mSk h := by rw [tf686, tp685, tp683]; rfl
      have h46 : stN (tvI (tF hf686 111 46)) = 0 := by rw [mFr_46 gf686, h46s]; rfl
      exact tw_vret rfl ⟨rfl, mFq_f gf686, mOut_r (by unfold mS0; rw [if_pos hwn, if_neg (by rw [← tp683]; exact np685)]) pf686 (mD_o ef686 (by decide) (by decide) ddp685) (by unfold mst; rw [h46, hsk, sf686]; rfl)⟩
    · have ggp685 := mFr_t ggp683 gp685
      refine tw_aload rfl rfl ?_
      refine tw_dup rfl ?_
      refine tw_getS rfl (hi_111_28 ggp685.1) ?_
      refine tw_push rfl ?_
      refine tw_iadd rfl ?_
      refine tw_put rfl (fun f687 => ?_)
      refine tG_setm f687 (hw_111_28 f687 (ggp685).1) (fun hf687 ef687 => ?_)
      try dsimp only [tvI_i] at ef687
      have gf687 := mFr_s ggp685 ef687 (by unfold mFs; omega)
      have zf687 := mFt_s Fp685 ef687 (by decide)
      have yf687 : (tvI (tF hp685 111 28)).toInt = (((rB T n (ms h).1) : Nat) : Int) := by rw [ip685, mPl pp683e, sp683]; rfl
      have Zf687 : mZp hf687 := mZ_of ggp685 hp ef687 (zp3 yf687 (j := 3) rfl (by have := rB_le (T := T) hpn; omega) (by decide)) (by have := rB_le (T := T) hpn; omega)
      refine tw_goto rfl ?_
      exact tw_vret rfl ⟨rfl, mFq_f gf687, mOut_l (by unfold mS0; rw [if_pos hwn, if_pos (by rw [← tp683]; exact np685)]) zf687 Zf687⟩
  · try dsimp only [tvI_i, tvJ_j, tvR_r] at p684
    refine tw_if_eq rfl (fun _ => ?_) (fun z => absurd z (by decide))
    refine tw_aload rfl rfl ?_
    refine tw_virt0 rfl (g_sign hG hX (ggp683).1 ((mFr_T ggp683).trans hT) ((mFr_n ggp683).trans hN) ⟨pp683e.2.1.1, by have := pp683e.2.1; omega⟩) (fun wp688 hp688 p688 => ?_)
    obtain ⟨⟨cp688, rfl, kp688⟩, rfl⟩ := p688
    refine tw_push rfl ?_
    refine tw_ic_ne rfl (fun q689 => ?_) (fun q689 => ?_)
    · try dsimp only [tvI_i, tvJ_j, tvR_r] at q689
      have q689i := zneq (Y := 91) (by decide) q689
      refine tw_aload rfl rfl ?_
      refine tw_push rfl ?_
      refine tw_put rfl (fun f690 => ?_)
      refine tG_setm f690 (hw_111_46 f690 (ggp683).1) (fun hf690 ef690 => ?_)
      try dsimp only [tvI_i] at ef690
      have gf690 := mFq_s (mFq_f ggp683) ef690 (Or.inr rfl)
      obtain ⟨pf690, sf690, tf690⟩ := mSte pp683e ef690
      exact tw_vret rfl ⟨rfl, gf690, mOut_r (by unfold mS0; rw [if_neg (fun z => p684 (by have y := z; rw [txt_k.1] at y; rw [sp683]; exact y)), if_neg (fun z => q689 (by have y := sgm_k kp688 91 (by decide); rw [sp683] at y; exact y.mpr z))]) pf690 (mD_k hD (tf690.trans tp683) ((mI_o ef690 (by decide)).trans dp683)) (by unfold mst; rw [mI_x ef690, tf690, tp683, sf690, sp683]; rfl)⟩
    · try dsimp only [tvI_i, tvJ_j, tvR_r] at q689
      have q689i := zeqi (Y := 91) (by decide) q689
      refine tw_aload rfl rfl ?_
      refine tw_push rfl ?_
      refine tw_aload rfl rfl ?_
      refine tw_getS rfl (hi_111_28 (ggp683).1) ?_
      have hw91 : (rB T n (ms h).1) < n ∧ T (rB T n (ms h).1) = 91 := by have y := sgm_k kp688 91 (by decide); rw [sp683] at y; exact y.mp q689
      refine tw_virt2 rfl (g_opensDeep hG hX (ggp683).1 pp683e ((mFr_T ggp683).trans hT) ((mFr_n ggp683).trans hN) (by decide) (by decide) (b := (rB T n (ms h).1)) ((mPl pp683e).trans (by rw [sp683]; rfl)) (by have := rB_le (T := T) hpn; omega) (mD_k hD tp683 dp683) (by rw [tp683]; exact hd)) (fun w9 hp691 p691 => ?_)
      obtain ⟨rfl, gp691, ⟨np691, pp691e, tp691, sp691, ddp691⟩ | ⟨np691, Fp691, ip691, jp691⟩⟩ := p691
      · have ggp691 := mFr_t ggp683 gp691
        refine tw_aload rfl rfl ?_
        refine tw_dup rfl ?_
        refine tw_getS rfl (hi_111_28 ggp691.1) ?_
        refine tw_push rfl ?_
        refine tw_iadd rfl ?_
        refine tw_put rfl (fun f692 => ?_)
        refine tG_setm f692 (hw_111_28 f692 (ggp691).1) (fun hf692 ef692 => ?_)
        try dsimp only [tvI_i] at ef692
        have gf692 := mFr_s ggp691 ef692 (by unfold mFs; omega)
        have hr9 : (rB T n (ms h).1) + 1 ≤ n := hw91.1
        obtain ⟨pf692, sf692, tf692⟩ := mTo pp691e ((mFr_n ggp691).trans hN) ef692 (v := (rB T n (ms h).1) + 1) (zp3 (k := (rB T n (ms h).1)) (j := 1) (by rw [mPl pp691e, sp691, sp683]; rfl) rfl (by have := rB_le (T := T) hpn; omega) (by decide)) hr9
        rw [sp691, sp683] at sf692
        refine tw_goto rfl ?_
        have hsk : mSk hf692 = 13 :: mSk h := by rw [tf692, tp691, tp683]; rfl
        have h46 : stN (tvI (tF hf692 111 46)) = 0 := by rw [mFr_46 gf692, h46s]; rfl
        exact tw_vret rfl ⟨rfl, mFq_f gf692, mOut_r (by unfold mS0; rw [if_neg (fun z => p684 (by have y := z; rw [txt_k.1] at y; rw [sp683]; exact y)), if_pos hw91, if_neg (by rw [← tp683]; exact np691)]) pf692 (mD_o ef692 (by decide) (by decide) ddp691) (by unfold mst; rw [h46, hsk, sf692]; rfl)⟩
      · have ggp691 := mFr_t ggp683 gp691
        refine tw_aload rfl rfl ?_
        refine tw_dup rfl ?_
        refine tw_getS rfl (hi_111_28 ggp691.1) ?_
        refine tw_push rfl ?_
        refine tw_iadd rfl ?_
        refine tw_put rfl (fun f693 => ?_)
        refine tG_setm f693 (hw_111_28 f693 (ggp691).1) (fun hf693 ef693 => ?_)
        try dsimp only [tvI_i] at ef693
        have gf693 := mFr_s ggp691 ef693 (by unfold mFs; omega)
        have zf693 := mFt_s Fp691 ef693 (by decide)
        have yf693 : (tvI (tF hp691 111 28)).toInt = (((rB T n (ms h).1) : Nat) : Int) := by rw [ip691, mPl pp683e, sp683]; rfl
        have Zf693 : mZp hf693 := mZ_of ggp691 hp ef693 (zp3 yf693 (j := 1) rfl (by have := rB_le (T := T) hpn; omega) (by decide)) (by have := rB_le (T := T) hpn; omega)
        refine tw_goto rfl ?_
        exact tw_vret rfl ⟨rfl, mFq_f gf693, mOut_l (by unfold mS0; rw [if_neg (fun z => p684 (by have y := z; rw [txt_k.1] at y; rw [sp683]; exact y)), if_pos hw91, if_pos (by rw [← tp683]; exact np691)]) zf693 Zf693⟩
theorem g_closesRound {G : zG} (hG : G.1 = zProg) (hX : G.2.1 = ztx) {h : zH} {T : Nat → Int32} {n : Nat} (hs : tSh h) (hp : mP h) (hT : tA h 132 = T) (hN : mn h = n) {c : Int32} (hc : sgm T n (ms h).1 c) (hhd : (mSk h).headD 0 = 50) (hD : mD h) : tC zTt G 218 [.ref 111, .int c] h (fun w h2 => w = none ∧ mFr h h2 ∧ ((((ms h).1 < n ∧ T (ms h).1 = 41) ∧ mP h2 ∧ ms h2 = rA ((ms h).1 + 1) (ms h) ∧ mSk h2 = (mSk h).tail ∧ mD h2) ∨ (¬ ((ms h).1 < n ∧ T (ms h).1 = 41) ∧ mFt h2 (1 + 8 * (ms h).1 + 0) ∧ mZp h2))) := by
  refine tC_in (by rw [hG]; rfl) (fun dp => ?_)
  have g0 := mFr_r hs
  have hpn : (ms h).1 ≤ n := mPle hp hN
  have hn4 : n ≤ 400 := by have a := mNl hp hN; have b := hp.2.1; omega
  refine tw_iload rfl rfl ?_
  refine tw_push rfl ?_
  refine tw_ic_eq rfl (fun q694 => ?_) (fun q694 => ?_)
  · try dsimp only [tvI_i, tvJ_j, tvR_r] at q694
    have q694i := zeqi (Y := 41) (by decide) q694
    refine tw_aload rfl rfl ?_
    refine tw_dup rfl ?_
    refine tw_getS rfl (hi_111_28 hs) ?_
    refine tw_push rfl ?_
    refine tw_iadd rfl ?_
    refine tw_put rfl (fun f695 => ?_)
    refine tG_setm f695 (hw_111_28 f695 (g0).1) (fun hf695 ef695 => ?_)
    try dsimp only [tvI_i] at ef695
    have gf695 := mFr_s g0 ef695 (by unfold mFs; omega)
    have w9 := (sgm_k hc 41 (by decide)).mp q694
    obtain ⟨pf695, sf695, tf695⟩ := mTo hp ((mFr_n g0).trans hN) ef695 (v := (ms h).1 + 1) (zp1 (mPl hp) (by omega)) w9.1
    refine tw_aload rfl rfl ?_
    refine tw_dup rfl ?_
    refine tw_getS rfl (hi_111_34 (gf695).1) ?_
    refine tw_push rfl ?_
    refine tw_isub rfl ?_
    refine tw_put rfl (fun f696 => ?_)
    refine tG_setm f696 (hw_111_34 f696 (gf695).1) (fun hf696 ef696 => ?_)
    try dsimp only [tvI_i] at ef696
    have gf696 := mFr_s gf695 ef696 (by unfold mFs; omega)
    have hst : mSk hf695 = 50 :: (mSk h).tail := tf695.trans (mhead (k := 49) hhd)
    obtain ⟨pf696, tf696, sf696, df696⟩ := mSk_pop pf695 (by rw [hst]; exact List.cons_ne_nil _ _) ef696
    rw [hst] at tf696
    have tf696 : mSk hf696 = (mSk h).tail := tf696
    refine tw_aload rfl rfl ?_
    refine tw_dup rfl ?_
    refine tw_getS rfl (hi_111_32 (gf696).1) ?_
    refine tw_push rfl ?_
    refine tw_isub rfl ?_
    refine tw_put rfl (fun f697 => ?_)
    refine tG_setm f697 (hw_111_32 f697 (gf696).1) (fun hf697 ef697 => ?_)
    try dsimp only [tvI_i] at ef697
    have gf697 := mFr_s gf696 ef697 (by unfold mFs; omega)
    have hdf697 : (tvI (tF hf696 111 32)).toInt = ((mDp (mSk hf696) + 1 : Nat) : Int) := by
      rw [df696, mI_o ef695 (by decide)]
      refine (show (tvI (tF h 111 32)).toInt = (mDp (mSk h) : Int) from hD).trans ?_
      rw [tf696]
      exact congrArg (fun z : Nat => (z : Int)) ((congrArg mDp (mhead (k := 49) hhd)).trans (mDp_c (by decide)))
    obtain ⟨pf697, tf697, sf697, ddf697⟩ := mDn pf696 ef697 hdf697 rfl
    exact tw_vret rfl ⟨rfl, gf697, Or.inl ⟨w9, pf697, by rw [sf697, sf696, sf695], by rw [tf697, tf696], ddf697⟩⟩
  · try dsimp only [tvI_i, tvJ_j, tvR_r] at q694
    have q694i := zneq (Y := 41) (by decide) q694
    refine tw_aload rfl rfl ?_
    refine tw_push rfl ?_
    refine tw_aload rfl rfl ?_
    refine tw_getS rfl (hi_111_28 hs) ?_
    refine tw_virt2 rfl (g_fails hG hX (g0).1 hp ((mFr_T g0).trans hT) ((mFr_n g0).trans hN) (w := 0) (b := (ms h).1) rfl (by decide) (mPl hp) (by omega)) (fun wp698 hp698 p698 => ?_)
    obtain ⟨rfl, gp698, Fp698, ip698, jp698⟩ := p698
    have ggp698 := mFr_t g0 gp698
    refine tw_aload rfl rfl ?_
    refine tw_dup rfl ?_
    refine tw_getS rfl (hi_111_28 ggp698.1) ?_
    refine tw_push rfl ?_
    refine tw_iadd rfl ?_
    refine tw_put rfl (fun f699 => ?_)
    refine tG_setm f699 (hw_111_28 f699 (ggp698).1) (fun hf699 ef699 => ?_)
    try dsimp only [tvI_i] at ef699
    have gf699 := mFr_s ggp698 ef699 (by unfold mFs; omega)
    have zf699 := mFt_s Fp698 ef699 (by decide)
    have yf699 : (tvI (tF hp698 111 28)).toInt = (((ms h).1 : Nat) : Int) := by rw [ip698]; exact mPl hp
    have Zf699 : mZp hf699 := mZ_of ggp698 hp ef699 (zp1 yf699 (by omega)) (by omega)
    refine tw_aload rfl rfl ?_
    refine tw_dup rfl ?_
    refine tw_getS rfl (hi_111_34 (gf699).1) ?_
    refine tw_push rfl ?_
    refine tw_isub rfl ?_
    refine tw_put rfl (fun f700 => ?_)
    refine tG_setm f700 (hw_111_34 f700 (gf699).1) (fun hf700 ef700 => ?_)
    try dsimp only [tvI_i] at ef700
    have gf700 := mFr_s gf699 ef700 (by unfold mFs; omega)
    have zf700 := mFt_s zf699 ef700 (by decide)
    have Zf700 : mZp hf700 := mZp_o Zf699 ef700 (by decide)
    refine tw_aload rfl rfl ?_
    refine tw_dup rfl ?_
    refine tw_getS rfl (hi_111_32 (gf700).1) ?_
    refine tw_push rfl ?_
    refine tw_isub rfl ?_
    refine tw_put rfl (fun f701 => ?_)
    refine tG_setm f701 (hw_111_32 f701 (gf700).1) (fun hf701 ef701 => ?_)
    try dsimp only [tvI_i] at ef701
    have gf701 := mFr_s gf700 ef701 (by unfold mFs; omega)
    have zf701 := mFt_s zf700 ef701 (by decide)
    have Zf701 : mZp hf701 := mZp_o Zf700 ef701 (by decide)
    exact tw_vret rfl ⟨rfl, gf701, Or.inr ⟨fun z => q694 ((sgm_k hc 41 (by decide)).mpr z), zf701, Zf701⟩⟩
theorem mDp_T : ∀ (S o : List Nat), mDp (mT S o).1 = mDp S
  | [], _ => rfl
  | x :: r, o => by
    unfold mT
    by_cases z : x = 102
    · rw [if_pos z, mDp_T r, z, mDp_e (by decide)]
    · rw [if_neg z]
theorem mDp_P : ∀ (S o : List Nat), mDp (mPm S o).1 = mDp S
  | [], _ => rfl
  | x :: r, o => by
    unfold mPm
    by_cases z : x = 103
    · rw [if_pos z, mDp_P r, z, mDp_e (by decide)]
    · rw [if_neg z]
      by_cases y : x = 104
      · rw [if_pos y, mDp_P r, y, mDp_e (by decide)]
      · rw [if_neg y]
theorem mDp_S (S o : List Nat) : mDp (mS S o).1 = mDp S := (mDp_P _ _).trans (mDp_T _ _)
theorem mDp_A : ∀ (S o : List Nat), mDp (mA S o).1 = mDp S
  | [], _ => rfl
  | x :: r, o => by
    unfold mA
    by_cases z : x = 11
    · rw [if_pos z, mDp_A r, z, mDp_e (by decide)]
    · rw [if_neg z]
theorem mDp_O1 : ∀ (S o : List Nat), mDp (mO1 S o).1 = mDp S
  | [], _ => rfl
  | x :: r, o => by
    unfold mO1
    by_cases z : x = 12
    · rw [if_pos z, mDp_O1 r, z, mDp_e (by decide)]
    · rw [if_neg z]
theorem mDp_O (S o : List Nat) : mDp (mO S o).1 = mDp S := (mDp_O1 _ _).trans (mDp_A _ _)
theorem mD_m {h h2 : zH} (d : mD h) (a : mDp (mSk h2) = mDp (mSk h)) (b : tF h2 111 32 = tF h 111 32) : mD h2 := by
  unfold mD
  rw [a, b]
  exact d
theorem mfst {α β : Type} {x : α} {y : β} {p : α × β} (h : (x, y) = p) : x = p.1 := congrArg Prod.fst h
theorem mA1 {h1 h2 : zH} {b : Nat} {s : rS} (e : ms h1 = rA b s) (a : (ms h2).1 = (ms h1).1) : (ms h2).1 = b := by
  rw [a, e]
  rfl
theorem mA2 {h1 h2 : zH} {b y0 : Nat} {s : rS} (e : ms h1 = rA b s) (c : (ms h2).2.1 = (ms h1).2.1) (y : s.2.1 = y0) : (ms h2).2.1 = y0 := by
  rw [c, e]
  exact y
theorem mA3 {h1 h2 : zH} {b y0 : Nat} {s : rS} {z : List Nat} (e : ms h1 = rA b s) (a : (ms h2).1 = (ms h1).1) (c : (ms h2).2.1 = (ms h1).2.1) (y : s.2.1 = y0) (k : (ms h2).2.2 = z) : ms h2 = (b, y0, z) :=
  Prod.ext (mA1 e a) (Prod.ext (mA2 e c y) k)
theorem mA6 {b y0 : Nat} {s : rS} {z : List Nat} (y : s.2.1 = y0) (k : s.2.2 = z) : rA b s = (b, y0, z) := by
  rw [← y, ← k]
  rfl
theorem mA4 {h1 h2 h3 : zH} {b y0 : Nat} {s : rS} {z : List Nat} (g : ms h3 = rA ((ms h2).1 + 1) (ms h2)) (e : ms h1 = rA b s) (a : (ms h2).1 = (ms h1).1) (c : (ms h2).2.1 = (ms h1).2.1) (y : s.2.1 = y0) (k : (ms h2).2.2 = z) : ms h3 = (b + 1, y0, z) := by
  rw [g, mA1 e a]
  exact mA6 (mA2 e c y) k
theorem cm_d {q : Nat} {x : Int32} (h1 : 100103 ≤ q) (hx : x.toInt + 100098 = (q : Int)) : ∃ d, q = 100103 + d ∧ x.toInt = ((d + 5 : Nat) : Int) := ⟨q - 100103, by omega, by omega⟩
theorem cm_x {q : Nat} {x : Int32} (h1 : 100103 ≤ q) (h2 : q ≤ 100107) (hx : x.toInt + 100098 = (q : Int)) : (200 + x).toNatClampNeg = q - 99898 := by
  obtain ⟨d, rfl, h⟩ := cm_d h1 hx
  rw [zof_cl (zadN (x := 200) (a := 200) rfl h (by omega) (by omega))]
  omega
theorem cm_0 {q : Nat} {x : Int32} (h1 : 100103 ≤ q) (h2 : q ≤ 100107) (hx : x.toInt + 100098 = (q : Int)) : 0 ≤ (200 + x).toInt := by
  obtain ⟨d, rfl, h⟩ := cm_d h1 hx
  rw [zadN (x := 200) (a := 200) rfl h (by omega) (by omega)]
  omega
theorem cm_z {q : Nat} {x : Int32} (h1 : 100103 ≤ q) (hx : x.toInt + 100098 = (q : Int)) (h : x = 0) : False := by
  obtain ⟨d, -, h4⟩ := cm_d h1 hx
  rw [h] at h4
  have h5 : (0 : Int) = ((d + 5 : Nat) : Int) := h4
  omega
theorem msnd {α β : Type} {x : α} {y : β} {p : α × β} (h : (x, y) = p) : y = p.2 := congrArg Prod.snd h
theorem mDp_tl {S : List Nat} (h : 205 ≤ S.headD 0 ∧ S.headD 0 ≤ 209) : mDp S.tail = mDp S := by
  cases S with
  | nil => exact absurd h.1 (by decide)
  | cons x r =>
    have h : 205 ≤ x ∧ x ≤ 209 := h
    exact (mDp_e (by omega)).symm
theorem g_behindValue {G : zG} (hG : G.1 = zProg) (hX : G.2.1 = ztx) {h : zH} {T : Nat → Int32} {n : Nat} (hs : tSh h) (hp : mP h) (hT : tA h 132 = T) (hN : mn h = n) (hD : mD h) (hd : mDp (mSk h) ≤ 1000) {tst : Bool} (hts : ¬ tvI (tF h 111 47) = 0 ↔ tst = true) (h46s : tvI (tF h 111 46) = 2) : tC zTt G 217 [.ref 111] h (fun w h2 => w = none ∧ mFq h h2 ∧ mOut (mS2 T n tst (mSk h) (ms h)) h2) := by
  refine tC_in (by rw [hG]; rfl) (fun dp => ?_)
  have g0 := mFr_r hs
  have hpn : (ms h).1 ≤ n := mPle hp hN
  have hn4 : n ≤ 400 := by have a := mNl hp hN; have b := hp.2.1; omega
  refine tw_aload rfl rfl ?_
  refine tw_virt0 rfl (g_blanks hG hX (g0).1 hp ((mFr_T g0).trans hT) ((mFr_n g0).trans hN)) (fun wp702 hp702 p702 => ?_)
  obtain ⟨rfl, gp702, pp702e, sp702, tp702, dp702⟩ := p702
  have ggp702 := mFr_t g0 gp702
  refine tw_aload rfl rfl ?_
  refine tw_virt0 rfl (g_sign hG hX (ggp702).1 ((mFr_T ggp702).trans hT) ((mFr_n ggp702).trans hN) ⟨pp702e.2.1.1, by have := pp702e.2.1; omega⟩) (fun wp703 hp703 p703 => ?_)
  obtain ⟨⟨cp703, rfl, kp703⟩, rfl⟩ := p703
  refine tw_istore rfl ?_
  refine tw_iload rfl rfl ?_
  refine tw_push rfl ?_
  refine tw_ic_ne rfl (fun q704 => ?_) (fun q704 => ?_)
  · try dsimp only [tvI_i, tvJ_j, tvR_r] at q704
    have q704i := zneq (Y := 42) (by decide) q704
    refine tw_iload rfl rfl ?_
    refine tw_push rfl ?_
    refine tw_ic_eq rfl (fun q705 => ?_) (fun q705 => ?_)
    · try dsimp only [tvI_i, tvJ_j, tvR_r] at q705
      have q705i := zeqi (Y := 43) (by decide) q705
      refine tw_aload rfl rfl ?_
      refine tw_virt0 rfl (g_makesSums hG hX (ggp702).1 pp702e ((mFr_T ggp702).trans hT) ((mFr_n ggp702).trans hN)) (fun wp706 hp706 p706 => ?_)
      obtain ⟨rfl, gp706, pp706e, ap706, bp706, mp706, dp706⟩ := p706
      have ggp706 := mFr_t ggp702 gp706
      refine tw_aload rfl rfl ?_
      refine tw_push rfl ?_
      refine tw_iload rfl rfl ?_
      refine tw_push rfl ?_
      refine tw_ic_ne rfl (fun q707 => ?_) (fun q707 => ?_)
      · try dsimp only [tvI_i, tvJ_j, tvR_r] at q707
        have q707i := zneq (Y := 43) (by decide) q707
        exact absurd q705 q707
      · try dsimp only [tvI_i, tvJ_j, tvR_r] at q707
        have q707i := zeqi (Y := 43) (by decide) q707
        refine tw_push rfl ?_
        refine tw_goto rfl ?_
        refine tw_iadd rfl ?_
        refine tw_virt1 rfl (g_opens hG hX (ggp706).1 pp706e ((mFr_T ggp706).trans hT) ((mFr_n ggp706).trans hN) (by decide)) (fun wp708 hp708 p708 => ?_)
        obtain ⟨rfl, gp708, pp708e, tp708, sp708, dp708⟩ := p708
        have ggp708 := mFr_t ggp706 gp708
        refine tw_aload rfl rfl ?_
        refine tw_dup rfl ?_
        refine tw_getS rfl (hi_111_28 ggp708.1) ?_
        refine tw_push rfl ?_
        refine tw_iadd rfl ?_
        refine tw_put rfl (fun f709 => ?_)
        refine tG_setm f709 (hw_111_28 f709 (ggp708).1) (fun hf709 ef709 => ?_)
        try dsimp only [tvI_i] at ef709
        have gf709 := mFr_s ggp708 ef709 (by unfold mFs; omega)
        have hk42 : cp703 = 42 ↔ ((rB T n (ms h).1) < n ∧ T (rB T n (ms h).1) = 42) := by have y := sgm_k kp703 42 (by decide); rw [sp702] at y; exact y
        have hs42 : ¬ ((rB T n (ms h).1) < n ∧ T (rB T n (ms h).1) = 42) := fun z => q704 (hk42.mpr z)
        have hk43 : cp703 = 43 ↔ ((rB T n (ms h).1) < n ∧ T (rB T n (ms h).1) = 43) := by have y := sgm_k kp703 43 (by decide); rw [sp702] at y; exact y
        have hs43 := hk43.mp q705
        have hmsf709 : ms hp708 = ((rB T n (ms h).1), (ms h).2.1, (ms hp706).2.2) := (sp708).trans (mA3 sp702 ap706 bp706 rfl rfl)
        obtain ⟨pf709, sf709, tf709⟩ := mTo pp708e ((mFr_n ggp708).trans hN) ef709 (v := (rB T n (ms h).1) + 1) (zp1 (by rw [mPl pp708e, hmsf709]) (by have := rB_le (T := T) hpn; omega)) hs43.1
        rw [hmsf709] at sf709
        refine tw_aload rfl rfl ?_
        refine tw_push rfl ?_
        refine tw_put rfl (fun f710 => ?_)
        refine tG_setm f710 (hw_111_46 f710 (gf709).1) (fun hf710 ef710 => ?_)
        try dsimp only [tvI_i] at ef710
        have gf710 := mFq_s (mFq_f gf709) ef710 (Or.inr rfl)
        obtain ⟨pf710, sf710, tf710⟩ := mSte pf709 ef710
        refine tw_goto rfl ?_
        have hmb : (mSk hp706, (ms hp706).2.2) = mS (mSk h) (ms h).2.2 := by rw [mp706, tp702, sp702]; rfl
        have hsk : mSk hf710 = 103 :: (mS (mSk h) (ms h).2.2).1 := by rw [tf710, tf709, tp708, ← mfst hmb]; rfl
        have hdd : mD hf710 := mD_m hD (by rw [hsk, mDp_e (by decide)]; exact mDp_S _ _) ((mI_o ef710 (by decide)).trans ((mI_o ef709 (by decide)).trans (dp708.trans (dp706.trans dp702))))
        exact tw_vret rfl ⟨rfl, gf710, mOut_r (by unfold mS2; rw [if_neg hs42, if_pos hs43]) pf710 hdd (by unfold mst; rw [mI_x ef710, hsk, sf710, sf709, msnd hmb]; rfl)⟩
    · try dsimp only [tvI_i, tvJ_j, tvR_r] at q705
      have q705i := zneq (Y := 43) (by decide) q705
      refine tw_iload rfl rfl ?_
      refine tw_push rfl ?_
      refine tw_ic_ne rfl (fun q711 => ?_) (fun q711 => ?_)
      · try dsimp only [tvI_i, tvJ_j, tvR_r] at q711
        have q711i := zneq (Y := 45) (by decide) q711
        refine tw_aload rfl rfl ?_
        refine tw_virt0 rfl (g_makesSums hG hX (ggp702).1 pp702e ((mFr_T ggp702).trans hT) ((mFr_n ggp702).trans hN)) (fun wp712 hp712 p712 => ?_)
        obtain ⟨rfl, gp712, pp712e, ap712, bp712, mp712, dp712⟩ := p712
        have ggp712 := mFr_t ggp702 gp712
        refine tw_aload rfl rfl ?_
        refine tw_virt0 rfl (g_top hG hX (ggp712).1 pp712e ((mFr_T ggp712).trans hT) ((mFr_n ggp712).trans hN)) (fun wp713 hp713 p713 => ?_)
        obtain ⟨⟨cp713, rfl, Tp713⟩, rfl⟩ := p713
        refine tw_push rfl ?_
        refine tw_ic_ne rfl (fun q714 => ?_) (fun q714 => ?_)
        · try dsimp only [tvI_i, tvJ_j, tvR_r] at q714
          have q714i := zneq (Y := 50) (by decide) q714
          refine tw_aload rfl rfl ?_
          refine tw_getS rfl (hi_111_47 (ggp712).1) ?_
          refine tw_if_eq rfl (fun q715 => ?_) (fun q715 => ?_)
          · try dsimp only [tvI_i, tvJ_j, tvR_r] at q715
            have q715i := zeqi (Y := 0) (by decide) q715
            refine tw_aload rfl rfl ?_
            refine tw_getS rfl (hi_111_47 (ggp712).1) ?_
            refine tw_if_eq rfl (fun q716 => ?_) (fun q716 => ?_)
            · try dsimp only [tvI_i, tvJ_j, tvR_r] at q716
              have q716i := zeqi (Y := 0) (by decide) q716
              refine tw_aload rfl rfl ?_
              refine tw_push rfl ?_
              refine tw_put rfl (fun f717 => ?_)
              refine tG_setm f717 (hw_111_46 f717 (ggp712).1) (fun hf717 ef717 => ?_)
              try dsimp only [tvI_i] at ef717
              have gf717 := mFq_s (mFq_f ggp712) ef717 (Or.inr rfl)
              obtain ⟨pf717, sf717, tf717⟩ := mSte pp712e ef717
              have hk42 : cp703 = 42 ↔ ((rB T n (ms h).1) < n ∧ T (rB T n (ms h).1) = 42) := by have y := sgm_k kp703 42 (by decide); rw [sp702] at y; exact y
              have hs42 : ¬ ((rB T n (ms h).1) < n ∧ T (rB T n (ms h).1) = 42) := fun z => q704 (hk42.mpr z)
              have hk43 : cp703 = 43 ↔ ((rB T n (ms h).1) < n ∧ T (rB T n (ms h).1) = 43) := by have y := sgm_k kp703 43 (by decide); rw [sp702] at y; exact y
              have hs43 : ¬ ((rB T n (ms h).1) < n ∧ T (rB T n (ms h).1) = 43) := fun z => q705 (hk43.mpr z)
              have hk45 : cp703 = 45 ↔ ((rB T n (ms h).1) < n ∧ T (rB T n (ms h).1) = 45) := by have y := sgm_k kp703 45 (by decide); rw [sp702] at y; exact y
              have hs45 : ¬ ((rB T n (ms h).1) < n ∧ T (rB T n (ms h).1) = 45) := fun z => q711 (hk45.mpr z)
              have ht50 := tpm_k Tp713 (k := 50) (K := 50) rfl (by decide)
              have hn50 : ¬ (mSk hp712).headD 0 = 50 := fun z => q714 (ht50.mpr z)
              have hin : tvI (tF h 111 47) = 0 := by have z := q715; rw [mFr_47 ggp712] at z; exact z
              have hmb : (mSk hp712, (ms hp712).2.2) = mS (mSk h) (ms h).2.2 := by rw [mp712, tp702, sp702]; rfl
              have hms : ms hf717 = ((rB T n (ms h).1), (ms h).2.1, (mS (mSk h) (ms h).2.2).2) := (sf717).trans (mA3 sp702 ap712 bp712 rfl (msnd hmb))
              have hsk : mSk hf717 = (mS (mSk h) (ms h).2.2).1 := by rw [tf717, mfst hmb]
              have hdd : mD hf717 := mD_m hD (by rw [hsk]; exact mDp_S _ _) ((mI_o ef717 (by decide)).trans (dp712.trans dp702))
              exact tw_vret rfl ⟨rfl, gf717, mOut_r (by unfold mS2; rw [if_neg hs42, if_neg hs43, if_neg hs45, if_neg (show ¬ (mS (mSk h) (ms h).2.2).1.headD 0 = 50 from by rw [← mfst hmb]; exact hn50), if_neg (fun z => hts.mpr z hin)]) pf717 hdd (by unfold mst; rw [mI_x ef717, hsk, hms]; rfl)⟩
            · try dsimp only [tvI_i, tvJ_j, tvR_r] at q716
              have q716i := zneq (Y := 0) (by decide) q716
              exact absurd q715 q716
          · try dsimp only [tvI_i, tvJ_j, tvR_r] at q715
            have q715i := zneq (Y := 0) (by decide) q715
            refine tw_aload rfl rfl ?_
            refine tw_virt0 rfl (g_top hG hX (ggp712).1 pp712e ((mFr_T ggp712).trans hT) ((mFr_n ggp712).trans hN)) (fun wp718 hp718 p718 => ?_)
            obtain ⟨⟨cp718, rfl, Tp718⟩, rfl⟩ := p718
            refine tw_push rfl ?_
            refine tw_ic_lt rfl (fun q719 => ?_) (fun q719 => ?_)
            · try dsimp only [tvI_i, tvJ_j, tvR_r] at q719
              refine tw_aload rfl rfl ?_
              refine tw_virt0 rfl (g_compares hG hX (ggp712).1 pp712e ((mFr_T ggp712).trans hT) ((mFr_n ggp712).trans hN)) (fun w9 hp720 p720 => ?_)
              obtain ⟨gp720, ⟨np720, rfl, e9⟩ | ⟨vp720, np720, ⟨mp720, ⟨xp720, rfl, yp720⟩, pp720e, sp720, tp720, dp720⟩ | ⟨mp720, xp720, rfl, x5p720, x9p720, Fp720, Zp720⟩⟩⟩ := p720
              · have ggp720 := mFr_t ggp712 gp720
                obtain rfl := e9.symm
                have pp720e := pp712e
                refine tw_istore rfl ?_
                refine tw_iload rfl rfl ?_
                refine tw_if_ne rfl (fun z => absurd z (by decide)) (fun _ => ?_)
                refine tw_aload rfl rfl ?_
                refine tw_push rfl ?_
                refine tw_aload rfl rfl ?_
                refine tw_getS rfl (hi_111_28 ggp720.1) ?_
                refine tw_virt2 rfl (g_fails hG hX (ggp720).1 pp720e ((mFr_T ggp720).trans hT) ((mFr_n ggp720).trans hN) (w := 0) (b := (rB T n (ms h).1)) rfl (by decide) ((mPl pp720e).trans (by rw [(show (ms hp712).1 = (rB T n (ms h).1) from by rw [ap712, sp702]; rfl)])) (by have := rB_le (T := T) hpn; omega)) (fun wp721 hp721 p721 => ?_)
                obtain ⟨rfl, gp721, Fp721, ip721, jp721⟩ := p721
                have ggp721 := mFr_t ggp720 gp721
                refine tw_aload rfl rfl ?_
                refine tw_push rfl ?_
                refine tw_iload rfl rfl ?_
                refine tw_iadd rfl ?_
                refine tw_virt1 rfl (z_opens hG hX (ggp721).1 Fp721 ((mFr_T ggp721).trans hT) ((mFr_n ggp721).trans hN)) (fun wp722 hp722 p722 => ?_)
                obtain ⟨rfl, gp722, Fp722, ip722, jp722⟩ := p722
                have ggp722 := mFr_t ggp721 gp722
                refine tw_aload rfl rfl ?_
                refine tw_push rfl ?_
                refine tw_put rfl (fun f723 => ?_)
                refine tG_setm f723 (hw_111_46 f723 (ggp722).1) (fun hf723 ef723 => ?_)
                try dsimp only [tvI_i] at ef723
                have gf723 := mFq_s (mFq_f ggp722) ef723 (Or.inr rfl)
                have zf723 := mFt_s Fp722 ef723 (by decide)
                refine tw_goto rfl ?_
                have hk42 : cp703 = 42 ↔ ((rB T n (ms h).1) < n ∧ T (rB T n (ms h).1) = 42) := by have y := sgm_k kp703 42 (by decide); rw [sp702] at y; exact y
                have hs42 : ¬ ((rB T n (ms h).1) < n ∧ T (rB T n (ms h).1) = 42) := fun z => q704 (hk42.mpr z)
                have hk43 : cp703 = 43 ↔ ((rB T n (ms h).1) < n ∧ T (rB T n (ms h).1) = 43) := by have y := sgm_k kp703 43 (by decide); rw [sp702] at y; exact y
                have hs43 : ¬ ((rB T n (ms h).1) < n ∧ T (rB T n (ms h).1) = 43) := fun z => q705 (hk43.mpr z)
                have hk45 : cp703 = 45 ↔ ((rB T n (ms h).1) < n ∧ T (rB T n (ms h).1) = 45) := by have y := sgm_k kp703 45 (by decide); rw [sp702] at y; exact y
                have hs45 : ¬ ((rB T n (ms h).1) < n ∧ T (rB T n (ms h).1) = 45) := fun z => q711 (hk45.mpr z)
                have ht50 := tpm_k Tp713 (k := 50) (K := 50) rfl (by decide)
                have hn50 : ¬ (mSk hp712).headD 0 = 50 := fun z => q714 (ht50.mpr z)
                have hin : ¬ tvI (tF h 111 47) = 0 := by have z := q715; rw [mFr_47 ggp712] at z; exact z
                have c2059 : (205 : Int32).toInt = 205 := rfl
                have c2099 : (209 : Int32).toInt = 209 := rfl
                have hcmp : ¬ (205 ≤ (mSk hp712).headD 0 ∧ (mSk hp712).headD 0 ≤ 209) := by have z := tpm_e Tp718; have z2 := q719; omega
                have hmb : (mSk hp712, (ms hp712).2.2) = mS (mSk h) (ms h).2.2 := by rw [mp712, tp702, sp702]; rfl
                have hr9 : rCm T n (rB T n (ms h).1) = none := by have z := np720; rw [ap712, sp702] at z; exact z
                have hZ : mZp hf723 := mZp_o (mZp_k (mZp_k (mZp_p pp720e) ip721 jp721) ip722 jp722) ef723 (by decide)
                exact tw_vret rfl ⟨rfl, gf723, mOut_l (by unfold mS2; rw [if_neg hs42, if_neg hs43, if_neg hs45, if_neg (show ¬ (mS (mSk h) (ms h).2.2).1.headD 0 = 50 from by rw [← mfst hmb]; exact hn50), if_pos (show tst = true from hts.mp hin), if_neg (show ¬ (205 ≤ (mS (mSk h) (ms h).2.2).1.headD 0 ∧ (mS (mSk h) (ms h).2.2).1.headD 0 ≤ 209) from by rw [← mfst hmb]; exact hcmp), hr9]) zf723 hZ⟩
              · have ggp720 := mFr_t ggp712 gp720
                refine tw_istore rfl ?_
                refine tw_iload rfl rfl ?_
                refine tw_if_ne rfl (fun q724 => ?_) (fun q724 => ?_)
                · try dsimp only [tvI_i, tvJ_j, tvR_r] at q724
                  have q724i := zneq (Y := 0) (by decide) q724
                  refine tw_aload rfl rfl ?_
                  refine tw_push rfl ?_
                  refine tw_iload rfl rfl ?_
                  refine tw_iadd rfl ?_
                  refine tw_virt1 rfl (g_opens hG hX (ggp720).1 pp720e ((mFr_T ggp720).trans hT) ((mFr_n ggp720).trans hN) (cm_0 (rCm_r np720).1 (rCm_r np720).2.1 yp720)) (fun wp725 hp725 p725 => ?_)
                  obtain ⟨rfl, gp725, pp725e, tp725, sp725, dp725⟩ := p725
                  have ggp725 := mFr_t ggp720 gp725
                  refine tw_aload rfl rfl ?_
                  refine tw_push rfl ?_
                  refine tw_put rfl (fun f726 => ?_)
                  refine tG_setm f726 (hw_111_46 f726 (ggp725).1) (fun hf726 ef726 => ?_)
                  try dsimp only [tvI_i] at ef726
                  have gf726 := mFq_s (mFq_f ggp725) ef726 (Or.inr rfl)
                  obtain ⟨pf726, sf726, tf726⟩ := mSte pp725e ef726
                  refine tw_goto rfl ?_
                  have hk42 : cp703 = 42 ↔ ((rB T n (ms h).1) < n ∧ T (rB T n (ms h).1) = 42) := by have y := sgm_k kp703 42 (by decide); rw [sp702] at y; exact y
                  have hs42 : ¬ ((rB T n (ms h).1) < n ∧ T (rB T n (ms h).1) = 42) := fun z => q704 (hk42.mpr z)
                  have hk43 : cp703 = 43 ↔ ((rB T n (ms h).1) < n ∧ T (rB T n (ms h).1) = 43) := by have y := sgm_k kp703 43 (by decide); rw [sp702] at y; exact y
                  have hs43 : ¬ ((rB T n (ms h).1) < n ∧ T (rB T n (ms h).1) = 43) := fun z => q705 (hk43.mpr z)
                  have hk45 : cp703 = 45 ↔ ((rB T n (ms h).1) < n ∧ T (rB T n (ms h).1) = 45) := by have y := sgm_k kp703 45 (by decide); rw [sp702] at y; exact y
                  have hs45 : ¬ ((rB T n (ms h).1) < n ∧ T (rB T n (ms h).1) = 45) := fun z => q711 (hk45.mpr z)
                  have ht50 := tpm_k Tp713 (k := 50) (K := 50) rfl (by decide)
                  have hn50 : ¬ (mSk hp712).headD 0 = 50 := fun z => q714 (ht50.mpr z)
                  have hin : ¬ tvI (tF h 111 47) = 0 := by have z := q715; rw [mFr_47 ggp712] at z; exact z
                  have c2059 : (205 : Int32).toInt = 205 := rfl
                  have c2099 : (209 : Int32).toInt = 209 := rfl
                  have hcmp : ¬ (205 ≤ (mSk hp712).headD 0 ∧ (mSk hp712).headD 0 ≤ 209) := by have z := tpm_e Tp718; have z2 := q719; omega
                  have hmb : (mSk hp712, (ms hp712).2.2) = mS (mSk h) (ms h).2.2 := by rw [mp712, tp702, sp702]; rfl
                  have hr9 : rCm T n (rB T n (ms h).1) = some vp720 := by have z := np720; rw [ap712, sp702] at z; exact z
                  have h80 : (ms h).2.1 ≠ 80 := by have z := mp720; rw [bp712, sp702] at z; exact z
                  have hv1 := (rCm_r hr9).1
                  have hv2 := (rCm_r hr9).2.1
                  have hx := cm_x hv1 hv2 yp720
                  have hsk : mSk hf726 = (vp720.1 - 99898) :: (mS (mSk h) (ms h).2.2).1 := by rw [tf726, tp725]; show (200 + xp720).toNatClampNeg :: mSk hp720 = _; rw [hx, tp720, mfst hmb]
                  have hms : ms hf726 = (vp720.2, (ms h).2.1 + 1, (mS (mSk h) (ms h).2.2).2) := by rw [sf726, sp725, sp720]; exact Prod.ext rfl (Prod.ext (by show (ms hp712).2.1 + 1 = _; rw [bp712, sp702]; rfl) (by have z := msnd hmb; exact z))
                  have hdd : mD hf726 := mD_m hD (by rw [hsk, mDp_e (by omega)]; exact mDp_S _ _) ((mI_o ef726 (by decide)).trans (dp725.trans (dp720.trans (dp712.trans dp702))))
                  exact tw_vret rfl ⟨rfl, gf726, mOut_r (by unfold mS2; rw [if_neg hs42, if_neg hs43, if_neg hs45, if_neg (show ¬ (mS (mSk h) (ms h).2.2).1.headD 0 = 50 from by rw [← mfst hmb]; exact hn50), if_pos (show tst = true from hts.mp hin), if_neg (show ¬ (205 ≤ (mS (mSk h) (ms h).2.2).1.headD 0 ∧ (mS (mSk h) (ms h).2.2).1.headD 0 ≤ 209) from by rw [← mfst hmb]; exact hcmp), hr9]; (try dsimp only); rw [if_neg h80]) pf726 hdd (by unfold mst; rw [mI_x ef726, hsk, hms]; rfl)⟩
                · try dsimp only [tvI_i, tvJ_j, tvR_r] at q724
                  have q724i := zeqi (Y := 0) (by decide) q724
                  exact (cm_z (rCm_r np720).1 yp720 q724).elim
              · have ggp720 := mFr_t ggp712 gp720
                refine tw_istore rfl ?_
                refine tw_iload rfl rfl ?_
                refine tw_if_ne rfl (fun q727 => ?_) (fun q727 => ?_)
                · try dsimp only [tvI_i, tvJ_j, tvR_r] at q727
                  have q727i := zneq (Y := 0) (by decide) q727
                  refine tw_aload rfl rfl ?_
                  refine tw_push rfl ?_
                  refine tw_iload rfl rfl ?_
                  refine tw_iadd rfl ?_
                  refine tw_virt1 rfl (z_opens hG hX (ggp720).1 Fp720 ((mFr_T ggp720).trans hT) ((mFr_n ggp720).trans hN)) (fun wp728 hp728 p728 => ?_)
                  obtain ⟨rfl, gp728, Fp728, ip728, jp728⟩ := p728
                  have ggp728 := mFr_t ggp720 gp728
                  refine tw_aload rfl rfl ?_
                  refine tw_push rfl ?_
                  refine tw_put rfl (fun f729 => ?_)
                  refine tG_setm f729 (hw_111_46 f729 (ggp728).1) (fun hf729 ef729 => ?_)
                  try dsimp only [tvI_i] at ef729
                  have gf729 := mFq_s (mFq_f ggp728) ef729 (Or.inr rfl)
                  have zf729 := mFt_s Fp728 ef729 (by decide)
                  refine tw_goto rfl ?_
                  have hk42 : cp703 = 42 ↔ ((rB T n (ms h).1) < n ∧ T (rB T n (ms h).1) = 42) := by have y := sgm_k kp703 42 (by decide); rw [sp702] at y; exact y
                  have hs42 : ¬ ((rB T n (ms h).1) < n ∧ T (rB T n (ms h).1) = 42) := fun z => q704 (hk42.mpr z)
                  have hk43 : cp703 = 43 ↔ ((rB T n (ms h).1) < n ∧ T (rB T n (ms h).1) = 43) := by have y := sgm_k kp703 43 (by decide); rw [sp702] at y; exact y
                  have hs43 : ¬ ((rB T n (ms h).1) < n ∧ T (rB T n (ms h).1) = 43) := fun z => q705 (hk43.mpr z)
                  have hk45 : cp703 = 45 ↔ ((rB T n (ms h).1) < n ∧ T (rB T n (ms h).1) = 45) := by have y := sgm_k kp703 45 (by decide); rw [sp702] at y; exact y
                  have hs45 : ¬ ((rB T n (ms h).1) < n ∧ T (rB T n (ms h).1) = 45) := fun z => q711 (hk45.mpr z)
                  have ht50 := tpm_k Tp713 (k := 50) (K := 50) rfl (by decide)
                  have hn50 : ¬ (mSk hp712).headD 0 = 50 := fun z => q714 (ht50.mpr z)
                  have hin : ¬ tvI (tF h 111 47) = 0 := by have z := q715; rw [mFr_47 ggp712] at z; exact z
                  have c2059 : (205 : Int32).toInt = 205 := rfl
                  have c2099 : (209 : Int32).toInt = 209 := rfl
                  have hcmp : ¬ (205 ≤ (mSk hp712).headD 0 ∧ (mSk hp712).headD 0 ≤ 209) := by have z := tpm_e Tp718; have z2 := q719; omega
                  have hmb : (mSk hp712, (ms hp712).2.2) = mS (mSk h) (ms h).2.2 := by rw [mp712, tp702, sp702]; rfl
                  have hr9 : rCm T n (rB T n (ms h).1) = some vp720 := by have z := np720; rw [ap712, sp702] at z; exact z
                  have h80 : (ms h).2.1 = 80 := by have z := mp720; rw [bp712, sp702] at z; exact z
                  have hF : mFt hf729 (1 + 8 * (rB T n (ms h).1) + 3) := by have z := zf729; rw [ap712, sp702] at z; exact z
                  have hZ : mZp hf729 := mZp_o (mZp_k Zp720 ip728 jp728) ef729 (by decide)
                  exact tw_vret rfl ⟨rfl, gf729, mOut_l (by unfold mS2; rw [if_neg hs42, if_neg hs43, if_neg hs45, if_neg (show ¬ (mS (mSk h) (ms h).2.2).1.headD 0 = 50 from by rw [← mfst hmb]; exact hn50), if_pos (show tst = true from hts.mp hin), if_neg (show ¬ (205 ≤ (mS (mSk h) (ms h).2.2).1.headD 0 ∧ (mS (mSk h) (ms h).2.2).1.headD 0 ≤ 209) from by rw [← mfst hmb]; exact hcmp), hr9]; (try dsimp only); rw [if_pos h80]) hF hZ⟩
                · try dsimp only [tvI_i, tvJ_j, tvR_r] at q727
                  have q727i := zeqi (Y := 0) (by decide) q727
                  have hv4 : xp720.toInt = 0 := congrArg Int32.toInt q727
                  exfalso
                  omega
            · try dsimp only [tvI_i, tvJ_j, tvR_r] at q719
              refine tw_aload rfl rfl ?_
              refine tw_virt0 rfl (g_top hG hX (ggp712).1 pp712e ((mFr_T ggp712).trans hT) ((mFr_n ggp712).trans hN)) (fun wp730 hp730 p730 => ?_)
              obtain ⟨⟨cp730, rfl, Tp730⟩, rfl⟩ := p730
              refine tw_push rfl ?_
              refine tw_ic_le rfl (fun q731 => ?_) (fun q731 => ?_)
              · try dsimp only [tvI_i, tvJ_j, tvR_r] at q731
                refine tw_aload rfl rfl ?_
                refine tw_getS rfl (hi_111_47 (ggp712).1) ?_
                refine tw_if_eq rfl (fun q732 => ?_) (fun q732 => ?_)
                · try dsimp only [tvI_i, tvJ_j, tvR_r] at q732
                  have q732i := zeqi (Y := 0) (by decide) q732
                  exact absurd q732 q715
                · try dsimp only [tvI_i, tvJ_j, tvR_r] at q732
                  have q732i := zneq (Y := 0) (by decide) q732
                  refine tw_aload rfl rfl ?_
                  refine tw_aload rfl rfl ?_
                  refine tw_virt0 rfl (g_top hG hX (ggp712).1 pp712e ((mFr_T ggp712).trans hT) ((mFr_n ggp712).trans hN)) (fun wp733 hp733 p733 => ?_)
                  obtain ⟨⟨cp733, rfl, Tp733⟩, rfl⟩ := p733
                  refine tw_push rfl ?_
                  refine tw_isub rfl ?_
                  refine tw_push rfl ?_
                  have hk42 : cp703 = 42 ↔ ((rB T n (ms h).1) < n ∧ T (rB T n (ms h).1) = 42) := by have y := sgm_k kp703 42 (by decide); rw [sp702] at y; exact y
                  have hs42 : ¬ ((rB T n (ms h).1) < n ∧ T (rB T n (ms h).1) = 42) := fun z => q704 (hk42.mpr z)
                  have hk43 : cp703 = 43 ↔ ((rB T n (ms h).1) < n ∧ T (rB T n (ms h).1) = 43) := by have y := sgm_k kp703 43 (by decide); rw [sp702] at y; exact y
                  have hs43 : ¬ ((rB T n (ms h).1) < n ∧ T (rB T n (ms h).1) = 43) := fun z => q705 (hk43.mpr z)
                  have hk45 : cp703 = 45 ↔ ((rB T n (ms h).1) < n ∧ T (rB T n (ms h).1) = 45) := by have y := sgm_k kp703 45 (by decide); rw [sp702] at y; exact y
                  have hs45 : ¬ ((rB T n (ms h).1) < n ∧ T (rB T n (ms h).1) = 45) := fun z => q711 (hk45.mpr z)
                  have ht50 := tpm_k Tp713 (k := 50) (K := 50) rfl (by decide)
                  have hn50 : ¬ (mSk hp712).headD 0 = 50 := fun z => q714 (ht50.mpr z)
                  have hin : ¬ tvI (tF h 111 47) = 0 := by have z := q715; rw [mFr_47 ggp712] at z; exact z
                  have c2059 : (205 : Int32).toInt = 205 := rfl
                  have c2099 : (209 : Int32).toInt = 209 := rfl
                  have hcmp : (205 ≤ (mSk hp712).headD 0 ∧ (mSk hp712).headD 0 ≤ 209) := by have z := tpm_e Tp718; have z1 := tpm_e Tp730; have z2 := q719; have z3 := q731; omega
                  have hc200 : (cp733 - 200).toInt = (((mSk hp712).headD 0 - 200 : Nat) : Int) := by have z := tpm_e Tp733; have z2 := hcmp; rw [zsb (x := cp733) (y := 200) (a := (mSk hp712).headD 0) (b := 200) (by omega) rfl (by omega) (by omega)]; omega
                  have hne : mSk hp712 ≠ [] := fun z => by rw [z] at hcmp; exact absurd hcmp.1 (by decide)
                  refine tw_virt2 rfl (g_entry hG hX (ggp712).1 pp712e ((mFr_T ggp712).trans hT) ((mFr_n ggp712).trans hN) ⟨by show 0 ≤ (cp733 - 200).toInt; rw [hc200]; omega, by decide⟩) (fun wp734 hp734 p734 => ?_)
                  obtain ⟨rfl, gp734, pp734e, sp734, tp734, dp734⟩ := p734
                  have ggp734 := mFr_t ggp712 gp734
                  refine tw_aload rfl rfl ?_
                  refine tw_dup rfl ?_
                  refine tw_getS rfl (hi_111_34 ggp734.1) ?_
                  refine tw_push rfl ?_
                  refine tw_isub rfl ?_
                  refine tw_put rfl (fun f735 => ?_)
                  refine tG_setm f735 (hw_111_34 f735 (ggp734).1) (fun hf735 ef735 => ?_)
                  try dsimp only [tvI_i] at ef735
                  have gf735 := mFr_s ggp734 ef735 (by unfold mFs; omega)
                  obtain ⟨pf735, tf735, sf735, df735⟩ := mSk_pop pp734e (by rw [tp734]; exact hne) ef735
                  refine tw_aload rfl rfl ?_
                  refine tw_push rfl ?_
                  refine tw_put rfl (fun f736 => ?_)
                  refine tG_setm f736 (hw_111_46 f736 (gf735).1) (fun hf736 ef736 => ?_)
                  try dsimp only [tvI_i] at ef736
                  have gf736 := mFq_s (mFq_f gf735) ef736 (Or.inr rfl)
                  obtain ⟨pf736, sf736, tf736⟩ := mSte pf735 ef736
                  refine tw_goto rfl ?_
                  have hmb : (mSk hp712, (ms hp712).2.2) = mS (mSk h) (ms h).2.2 := by rw [mp712, tp702, sp702]; rfl
                  have hx : mCode (cp733 - 200).toNatClampNeg 0 = (mS (mSk h) (ms h).2.2).1.headD 0 + 99898 := by rw [zof_cl hc200, ← mfst hmb]; have z := hcmp; unfold mCode; rw [if_neg (by omega), if_neg (by omega), if_neg (by omega), if_neg (by omega), if_neg (by omega), if_neg (by omega), if_neg (by omega), if_neg (by omega)]; omega
                  have hsk : mSk hf736 = (mS (mSk h) (ms h).2.2).1.tail := by rw [tf736, tf735, tp734, mfst hmb]
                  have hms : ms hf736 = ((rB T n (ms h).1), (ms h).2.1, (mS (mSk h) (ms h).2.2).2 ++ [(mS (mSk h) (ms h).2.2).1.headD 0 + 99898]) := by rw [sf736, sf735, sp734]; exact Prod.ext (mA1 sp702 ap712) (Prod.ext (mA2 sp702 bp712 rfl) (by show (ms hp712).2.2 ++ [mCode (cp733 - 200).toNatClampNeg 0] = _; rw [hx, msnd hmb]))
                  have hdd : mD hf736 := mD_m hD (by rw [hsk, ← mDp_S (mSk h) (ms h).2.2]; have z := hcmp; rw [mfst hmb] at z; exact mDp_tl z) ((mI_o ef736 (by decide)).trans (df735.trans (dp734.trans (dp712.trans dp702))))
                  exact tw_vret rfl ⟨rfl, gf736, mOut_r (by unfold mS2; rw [if_neg hs42, if_neg hs43, if_neg hs45, if_neg (show ¬ (mS (mSk h) (ms h).2.2).1.headD 0 = 50 from by rw [← mfst hmb]; exact hn50), if_pos (show tst = true from hts.mp hin), if_pos (show 205 ≤ (mS (mSk h) (ms h).2.2).1.headD 0 ∧ (mS (mSk h) (ms h).2.2).1.headD 0 ≤ 209 from by rw [← mfst hmb]; exact hcmp)]) pf736 hdd (by unfold mst; rw [mI_x ef736, hsk, hms]; rfl)⟩
              · try dsimp only [tvI_i, tvJ_j, tvR_r] at q731
                refine tw_aload rfl rfl ?_
                refine tw_virt0 rfl (g_compares hG hX (ggp712).1 pp712e ((mFr_T ggp712).trans hT) ((mFr_n ggp712).trans hN)) (fun w9 hp737 p737 => ?_)
                obtain ⟨gp737, ⟨np737, rfl, e9⟩ | ⟨vp737, np737, ⟨mp737, ⟨xp737, rfl, yp737⟩, pp737e, sp737, tp737, dp737⟩ | ⟨mp737, xp737, rfl, x5p737, x9p737, Fp737, Zp737⟩⟩⟩ := p737
                · have ggp737 := mFr_t ggp712 gp737
                  obtain rfl := e9.symm
                  have pp737e := pp712e
                  refine tw_istore rfl ?_
                  refine tw_iload rfl rfl ?_
                  refine tw_if_ne rfl (fun z => absurd z (by decide)) (fun _ => ?_)
                  refine tw_aload rfl rfl ?_
                  refine tw_push rfl ?_
                  refine tw_aload rfl rfl ?_
                  refine tw_getS rfl (hi_111_28 ggp737.1) ?_
                  refine tw_virt2 rfl (g_fails hG hX (ggp737).1 pp737e ((mFr_T ggp737).trans hT) ((mFr_n ggp737).trans hN) (w := 0) (b := (rB T n (ms h).1)) rfl (by decide) ((mPl pp737e).trans (by rw [(show (ms hp712).1 = (rB T n (ms h).1) from by rw [ap712, sp702]; rfl)])) (by have := rB_le (T := T) hpn; omega)) (fun wp738 hp738 p738 => ?_)
                  obtain ⟨rfl, gp738, Fp738, ip738, jp738⟩ := p738
                  have ggp738 := mFr_t ggp737 gp738
                  refine tw_aload rfl rfl ?_
                  refine tw_push rfl ?_
                  refine tw_iload rfl rfl ?_
                  refine tw_iadd rfl ?_
                  refine tw_virt1 rfl (z_opens hG hX (ggp738).1 Fp738 ((mFr_T ggp738).trans hT) ((mFr_n ggp738).trans hN)) (fun wp739 hp739 p739 => ?_)
                  obtain ⟨rfl, gp739, Fp739, ip739, jp739⟩ := p739
                  have ggp739 := mFr_t ggp738 gp739
                  refine tw_aload rfl rfl ?_
                  refine tw_push rfl ?_
                  refine tw_put rfl (fun f740 => ?_)
                  refine tG_setm f740 (hw_111_46 f740 (ggp739).1) (fun hf740 ef740 => ?_)
                  try dsimp only [tvI_i] at ef740
                  have gf740 := mFq_s (mFq_f ggp739) ef740 (Or.inr rfl)
                  have zf740 := mFt_s Fp739 ef740 (by decide)
                  refine tw_goto rfl ?_
                  have hk42 : cp703 = 42 ↔ ((rB T n (ms h).1) < n ∧ T (rB T n (ms h).1) = 42) := by have y := sgm_k kp703 42 (by decide); rw [sp702] at y; exact y
                  have hs42 : ¬ ((rB T n (ms h).1) < n ∧ T (rB T n (ms h).1) = 42) := fun z => q704 (hk42.mpr z)
                  have hk43 : cp703 = 43 ↔ ((rB T n (ms h).1) < n ∧ T (rB T n (ms h).1) = 43) := by have y := sgm_k kp703 43 (by decide); rw [sp702] at y; exact y
                  have hs43 : ¬ ((rB T n (ms h).1) < n ∧ T (rB T n (ms h).1) = 43) := fun z => q705 (hk43.mpr z)
                  have hk45 : cp703 = 45 ↔ ((rB T n (ms h).1) < n ∧ T (rB T n (ms h).1) = 45) := by have y := sgm_k kp703 45 (by decide); rw [sp702] at y; exact y
                  have hs45 : ¬ ((rB T n (ms h).1) < n ∧ T (rB T n (ms h).1) = 45) := fun z => q711 (hk45.mpr z)
                  have ht50 := tpm_k Tp713 (k := 50) (K := 50) rfl (by decide)
                  have hn50 : ¬ (mSk hp712).headD 0 = 50 := fun z => q714 (ht50.mpr z)
                  have hin : ¬ tvI (tF h 111 47) = 0 := by have z := q715; rw [mFr_47 ggp712] at z; exact z
                  have c2059 : (205 : Int32).toInt = 205 := rfl
                  have c2099 : (209 : Int32).toInt = 209 := rfl
                  have hcmp : ¬ (205 ≤ (mSk hp712).headD 0 ∧ (mSk hp712).headD 0 ≤ 209) := by have z := tpm_e Tp718; have z1 := tpm_e Tp730; have z2 := q719; have z3 := q731; omega
                  have hmb : (mSk hp712, (ms hp712).2.2) = mS (mSk h) (ms h).2.2 := by rw [mp712, tp702, sp702]; rfl
                  have hr9 : rCm T n (rB T n (ms h).1) = none := by have z := np737; rw [ap712, sp702] at z; exact z
                  have hZ : mZp hf740 := mZp_o (mZp_k (mZp_k (mZp_p pp737e) ip738 jp738) ip739 jp739) ef740 (by decide)
                  exact tw_vret rfl ⟨rfl, gf740, mOut_l (by unfold mS2; rw [if_neg hs42, if_neg hs43, if_neg hs45, if_neg (show ¬ (mS (mSk h) (ms h).2.2).1.headD 0 = 50 from by rw [← mfst hmb]; exact hn50), if_pos (show tst = true from hts.mp hin), if_neg (show ¬ (205 ≤ (mS (mSk h) (ms h).2.2).1.headD 0 ∧ (mS (mSk h) (ms h).2.2).1.headD 0 ≤ 209) from by rw [← mfst hmb]; exact hcmp), hr9]) zf740 hZ⟩
                · have ggp737 := mFr_t ggp712 gp737
                  refine tw_istore rfl ?_
                  refine tw_iload rfl rfl ?_
                  refine tw_if_ne rfl (fun q741 => ?_) (fun q741 => ?_)
                  · try dsimp only [tvI_i, tvJ_j, tvR_r] at q741
                    have q741i := zneq (Y := 0) (by decide) q741
                    refine tw_aload rfl rfl ?_
                    refine tw_push rfl ?_
                    refine tw_iload rfl rfl ?_
                    refine tw_iadd rfl ?_
                    refine tw_virt1 rfl (g_opens hG hX (ggp737).1 pp737e ((mFr_T ggp737).trans hT) ((mFr_n ggp737).trans hN) (cm_0 (rCm_r np737).1 (rCm_r np737).2.1 yp737)) (fun wp742 hp742 p742 => ?_)
                    obtain ⟨rfl, gp742, pp742e, tp742, sp742, dp742⟩ := p742
                    have ggp742 := mFr_t ggp737 gp742
                    refine tw_aload rfl rfl ?_
                    refine tw_push rfl ?_
                    refine tw_put rfl (fun f743 => ?_)
                    refine tG_setm f743 (hw_111_46 f743 (ggp742).1) (fun hf743 ef743 => ?_)
                    try dsimp only [tvI_i] at ef743
                    have gf743 := mFq_s (mFq_f ggp742) ef743 (Or.inr rfl)
                    obtain ⟨pf743, sf743, tf743⟩ := mSte pp742e ef743
                    refine tw_goto rfl ?_
                    have hk42 : cp703 = 42 ↔ ((rB T n (ms h).1) < n ∧ T (rB T n (ms h).1) = 42) := by have y := sgm_k kp703 42 (by decide); rw [sp702] at y; exact y
                    have hs42 : ¬ ((rB T n (ms h).1) < n ∧ T (rB T n (ms h).1) = 42) := fun z => q704 (hk42.mpr z)
                    have hk43 : cp703 = 43 ↔ ((rB T n (ms h).1) < n ∧ T (rB T n (ms h).1) = 43) := by have y := sgm_k kp703 43 (by decide); rw [sp702] at y; exact y
                    have hs43 : ¬ ((rB T n (ms h).1) < n ∧ T (rB T n (ms h).1) = 43) := fun z => q705 (hk43.mpr z)
                    have hk45 : cp703 = 45 ↔ ((rB T n (ms h).1) < n ∧ T (rB T n (ms h).1) = 45) := by have y := sgm_k kp703 45 (by decide); rw [sp702] at y; exact y
                    have hs45 : ¬ ((rB T n (ms h).1) < n ∧ T (rB T n (ms h).1) = 45) := fun z => q711 (hk45.mpr z)
                    have ht50 := tpm_k Tp713 (k := 50) (K := 50) rfl (by decide)
                    have hn50 : ¬ (mSk hp712).headD 0 = 50 := fun z => q714 (ht50.mpr z)
                    have hin : ¬ tvI (tF h 111 47) = 0 := by have z := q715; rw [mFr_47 ggp712] at z; exact z
                    have c2059 : (205 : Int32).toInt = 205 := rfl
                    have c2099 : (209 : Int32).toInt = 209 := rfl
                    have hcmp : ¬ (205 ≤ (mSk hp712).headD 0 ∧ (mSk hp712).headD 0 ≤ 209) := by have z := tpm_e Tp718; have z1 := tpm_e Tp730; have z2 := q719; have z3 := q731; omega
                    have hmb : (mSk hp712, (ms hp712).2.2) = mS (mSk h) (ms h).2.2 := by rw [mp712, tp702, sp702]; rfl
                    have hr9 : rCm T n (rB T n (ms h).1) = some vp737 := by have z := np737; rw [ap712, sp702] at z; exact z
                    have h80 : (ms h).2.1 ≠ 80 := by have z := mp737; rw [bp712, sp702] at z; exact z
                    have hv1 := (rCm_r hr9).1
                    have hv2 := (rCm_r hr9).2.1
                    have hx := cm_x hv1 hv2 yp737
                    have hsk : mSk hf743 = (vp737.1 - 99898) :: (mS (mSk h) (ms h).2.2).1 := by rw [tf743, tp742]; show (200 + xp737).toNatClampNeg :: mSk hp737 = _; rw [hx, tp737, mfst hmb]
                    have hms : ms hf743 = (vp737.2, (ms h).2.1 + 1, (mS (mSk h) (ms h).2.2).2) := by rw [sf743, sp742, sp737]; exact Prod.ext rfl (Prod.ext (by show (ms hp712).2.1 + 1 = _; rw [bp712, sp702]; rfl) (by have z := msnd hmb; exact z))
                    have hdd : mD hf743 := mD_m hD (by rw [hsk, mDp_e (by omega)]; exact mDp_S _ _) ((mI_o ef743 (by decide)).trans (dp742.trans (dp737.trans (dp712.trans dp702))))
                    exact tw_vret rfl ⟨rfl, gf743, mOut_r (by unfold mS2; rw [if_neg hs42, if_neg hs43, if_neg hs45, if_neg (show ¬ (mS (mSk h) (ms h).2.2).1.headD 0 = 50 from by rw [← mfst hmb]; exact hn50), if_pos (show tst = true from hts.mp hin), if_neg (show ¬ (205 ≤ (mS (mSk h) (ms h).2.2).1.headD 0 ∧ (mS (mSk h) (ms h).2.2).1.headD 0 ≤ 209) from by rw [← mfst hmb]; exact hcmp), hr9]; (try dsimp only); rw [if_neg h80]) pf743 hdd (by unfold mst; rw [mI_x ef743, hsk, hms]; rfl)⟩
                  · try dsimp only [tvI_i, tvJ_j, tvR_r] at q741
                    have q741i := zeqi (Y := 0) (by decide) q741
                    exact (cm_z (rCm_r np737).1 yp737 q741).elim
                · have ggp737 := mFr_t ggp712 gp737
                  refine tw_istore rfl ?_
                  refine tw_iload rfl rfl ?_
                  refine tw_if_ne rfl (fun q744 => ?_) (fun q744 => ?_)
                  · try dsimp only [tvI_i, tvJ_j, tvR_r] at q744
                    have q744i := zneq (Y := 0) (by decide) q744
                    refine tw_aload rfl rfl ?_
                    refine tw_push rfl ?_
                    refine tw_iload rfl rfl ?_
                    refine tw_iadd rfl ?_
                    refine tw_virt1 rfl (z_opens hG hX (ggp737).1 Fp737 ((mFr_T ggp737).trans hT) ((mFr_n ggp737).trans hN)) (fun wp745 hp745 p745 => ?_)
                    obtain ⟨rfl, gp745, Fp745, ip745, jp745⟩ := p745
                    have ggp745 := mFr_t ggp737 gp745
                    refine tw_aload rfl rfl ?_
                    refine tw_push rfl ?_
                    refine tw_put rfl (fun f746 => ?_)
                    refine tG_setm f746 (hw_111_46 f746 (ggp745).1) (fun hf746 ef746 => ?_)
                    try dsimp only [tvI_i] at ef746
                    have gf746 := mFq_s (mFq_f ggp745) ef746 (Or.inr rfl)
                    have zf746 := mFt_s Fp745 ef746 (by decide)
                    refine tw_goto rfl ?_
                    have hk42 : cp703 = 42 ↔ ((rB T n (ms h).1) < n ∧ T (rB T n (ms h).1) = 42) := by have y := sgm_k kp703 42 (by decide); rw [sp702] at y; exact y
                    have hs42 : ¬ ((rB T n (ms h).1) < n ∧ T (rB T n (ms h).1) = 42) := fun z => q704 (hk42.mpr z)
                    have hk43 : cp703 = 43 ↔ ((rB T n (ms h).1) < n ∧ T (rB T n (ms h).1) = 43) := by have y := sgm_k kp703 43 (by decide); rw [sp702] at y; exact y
                    have hs43 : ¬ ((rB T n (ms h).1) < n ∧ T (rB T n (ms h).1) = 43) := fun z => q705 (hk43.mpr z)
                    have hk45 : cp703 = 45 ↔ ((rB T n (ms h).1) < n ∧ T (rB T n (ms h).1) = 45) := by have y := sgm_k kp703 45 (by decide); rw [sp702] at y; exact y
                    have hs45 : ¬ ((rB T n (ms h).1) < n ∧ T (rB T n (ms h).1) = 45) := fun z => q711 (hk45.mpr z)
                    have ht50 := tpm_k Tp713 (k := 50) (K := 50) rfl (by decide)
                    have hn50 : ¬ (mSk hp712).headD 0 = 50 := fun z => q714 (ht50.mpr z)
                    have hin : ¬ tvI (tF h 111 47) = 0 := by have z := q715; rw [mFr_47 ggp712] at z; exact z
                    have c2059 : (205 : Int32).toInt = 205 := rfl
                    have c2099 : (209 : Int32).toInt = 209 := rfl
                    have hcmp : ¬ (205 ≤ (mSk hp712).headD 0 ∧ (mSk hp712).headD 0 ≤ 209) := by have z := tpm_e Tp718; have z1 := tpm_e Tp730; have z2 := q719; have z3 := q731; omega
                    have hmb : (mSk hp712, (ms hp712).2.2) = mS (mSk h) (ms h).2.2 := by rw [mp712, tp702, sp702]; rfl
                    have hr9 : rCm T n (rB T n (ms h).1) = some vp737 := by have z := np737; rw [ap712, sp702] at z; exact z
                    have h80 : (ms h).2.1 = 80 := by have z := mp737; rw [bp712, sp702] at z; exact z
                    have hF : mFt hf746 (1 + 8 * (rB T n (ms h).1) + 3) := by have z := zf746; rw [ap712, sp702] at z; exact z
                    have hZ : mZp hf746 := mZp_o (mZp_k Zp737 ip745 jp745) ef746 (by decide)
                    exact tw_vret rfl ⟨rfl, gf746, mOut_l (by unfold mS2; rw [if_neg hs42, if_neg hs43, if_neg hs45, if_neg (show ¬ (mS (mSk h) (ms h).2.2).1.headD 0 = 50 from by rw [← mfst hmb]; exact hn50), if_pos (show tst = true from hts.mp hin), if_neg (show ¬ (205 ≤ (mS (mSk h) (ms h).2.2).1.headD 0 ∧ (mS (mSk h) (ms h).2.2).1.headD 0 ≤ 209) from by rw [← mfst hmb]; exact hcmp), hr9]; (try dsimp only); rw [if_pos h80]) hF hZ⟩
                  · try dsimp only [tvI_i, tvJ_j, tvR_r] at q744
                    have q744i := zeqi (Y := 0) (by decide) q744
                    have hv4 : xp737.toInt = 0 := congrArg Int32.toInt q744
                    exfalso
                    omega
        · try dsimp only [tvI_i, tvJ_j, tvR_r] at q714
          have q714i := zeqi (Y := 50) (by decide) q714
          refine tw_aload rfl rfl ?_
          refine tw_iload rfl rfl ?_
          have hk42 : cp703 = 42 ↔ ((rB T n (ms h).1) < n ∧ T (rB T n (ms h).1) = 42) := by have y := sgm_k kp703 42 (by decide); rw [sp702] at y; exact y
          have hs42 : ¬ ((rB T n (ms h).1) < n ∧ T (rB T n (ms h).1) = 42) := fun z => q704 (hk42.mpr z)
          have hk43 : cp703 = 43 ↔ ((rB T n (ms h).1) < n ∧ T (rB T n (ms h).1) = 43) := by have y := sgm_k kp703 43 (by decide); rw [sp702] at y; exact y
          have hs43 : ¬ ((rB T n (ms h).1) < n ∧ T (rB T n (ms h).1) = 43) := fun z => q705 (hk43.mpr z)
          have hk45 : cp703 = 45 ↔ ((rB T n (ms h).1) < n ∧ T (rB T n (ms h).1) = 45) := by have y := sgm_k kp703 45 (by decide); rw [sp702] at y; exact y
          have hs45 : ¬ ((rB T n (ms h).1) < n ∧ T (rB T n (ms h).1) = 45) := fun z => q711 (hk45.mpr z)
          have ht50 := tpm_k Tp713 (k := 50) (K := 50) rfl (by decide)
          have hn50 : (mSk hp712).headD 0 = 50 := ht50.mp q714
          have hDm : mD hp712 := mD_m hD (by rw [mfst mp712, tp702, show (ms hp702).2.2 = (ms h).2.2 by rw [sp702]; rfl]; exact mDp_S _ _) (dp712.trans dp702)
          have hcl9 : sgm T n (ms hp712).1 cp703 := by rw [ap712]; exact kp703
          refine tw_virt1 rfl (g_closesRound hG hX (ggp712).1 pp712e ((mFr_T ggp712).trans hT) ((mFr_n ggp712).trans hN) hcl9 hn50 hDm) (fun w9 hp747 p747 => ?_)
          obtain ⟨rfl, gp747, ⟨wp747, pp747e, sp747, tp747, ddp747⟩ | ⟨wp747, Fp747, Zp747⟩⟩ := p747
          · have ggp747 := mFr_t ggp712 gp747
            refine tw_goto rfl ?_
            have hmb : (mSk hp712, (ms hp712).2.2) = mS (mSk h) (ms h).2.2 := by rw [mp712, tp702, sp702]; rfl
            have w9 : ((rB T n (ms h).1) < n ∧ T (rB T n (ms h).1) = 41) := by have z := wp747; rw [ap712, sp702] at z; exact z
            have hms : ms hp747 = ((rB T n (ms h).1) + 1, (ms h).2.1, (mS (mSk h) (ms h).2.2).2) := mA4 sp747 sp702 ap712 bp712 rfl (msnd hmb)
            have h46 : stN (tvI (tF hp747 111 46)) = 2 := by rw [mFr_46 ggp747, h46s]; rfl
            exact tw_vret rfl ⟨rfl, mFq_f ggp747, mOut_r (by unfold mS2; rw [if_neg hs42, if_neg hs43, if_neg hs45, if_pos (show (mS (mSk h) (ms h).2.2).1.headD 0 = 50 from by rw [← mfst hmb]; exact hn50), if_pos w9]) pp747e ddp747 (by unfold mst; rw [h46, hms, tp747, mfst hmb])⟩
          · have ggp747 := mFr_t ggp712 gp747
            refine tw_goto rfl ?_
            have hmb : (mSk hp712, (ms hp712).2.2) = mS (mSk h) (ms h).2.2 := by rw [mp712, tp702, sp702]; rfl
            have w9 : ¬ ((rB T n (ms h).1) < n ∧ T (rB T n (ms h).1) = 41) := by have z := wp747; rw [ap712, sp702] at z; exact z
            have hpl : (ms hp712).1 = (rB T n (ms h).1) := by rw [ap712, sp702]; rfl
            have hF := Fp747
            rw [hpl] at hF
            exact tw_vret rfl ⟨rfl, mFq_f ggp747, mOut_l (by unfold mS2; rw [if_neg hs42, if_neg hs43, if_neg hs45, if_pos (show (mS (mSk h) (ms h).2.2).1.headD 0 = 50 from by rw [← mfst hmb]; exact hn50), if_neg w9]) hF Zp747⟩
      · try dsimp only [tvI_i, tvJ_j, tvR_r] at q711
        have q711i := zeqi (Y := 45) (by decide) q711
        refine tw_aload rfl rfl ?_
        refine tw_virt0 rfl (g_makesSums hG hX (ggp702).1 pp702e ((mFr_T ggp702).trans hT) ((mFr_n ggp702).trans hN)) (fun wp748 hp748 p748 => ?_)
        obtain ⟨rfl, gp748, pp748e, ap748, bp748, mp748, dp748⟩ := p748
        have ggp748 := mFr_t ggp702 gp748
        refine tw_aload rfl rfl ?_
        refine tw_push rfl ?_
        refine tw_iload rfl rfl ?_
        refine tw_push rfl ?_
        refine tw_ic_ne rfl (fun q749 => ?_) (fun q749 => ?_)
        · try dsimp only [tvI_i, tvJ_j, tvR_r] at q749
          have q749i := zneq (Y := 43) (by decide) q749
          refine tw_push rfl ?_
          refine tw_iadd rfl ?_
          refine tw_virt1 rfl (g_opens hG hX (ggp748).1 pp748e ((mFr_T ggp748).trans hT) ((mFr_n ggp748).trans hN) (by decide)) (fun wp750 hp750 p750 => ?_)
          obtain ⟨rfl, gp750, pp750e, tp750, sp750, dp750⟩ := p750
          have ggp750 := mFr_t ggp748 gp750
          refine tw_aload rfl rfl ?_
          refine tw_dup rfl ?_
          refine tw_getS rfl (hi_111_28 ggp750.1) ?_
          refine tw_push rfl ?_
          refine tw_iadd rfl ?_
          refine tw_put rfl (fun f751 => ?_)
          refine tG_setm f751 (hw_111_28 f751 (ggp750).1) (fun hf751 ef751 => ?_)
          try dsimp only [tvI_i] at ef751
          have gf751 := mFr_s ggp750 ef751 (by unfold mFs; omega)
          have hk42 : cp703 = 42 ↔ ((rB T n (ms h).1) < n ∧ T (rB T n (ms h).1) = 42) := by have y := sgm_k kp703 42 (by decide); rw [sp702] at y; exact y
          have hs42 : ¬ ((rB T n (ms h).1) < n ∧ T (rB T n (ms h).1) = 42) := fun z => q704 (hk42.mpr z)
          have hk43 : cp703 = 43 ↔ ((rB T n (ms h).1) < n ∧ T (rB T n (ms h).1) = 43) := by have y := sgm_k kp703 43 (by decide); rw [sp702] at y; exact y
          have hs43 : ¬ ((rB T n (ms h).1) < n ∧ T (rB T n (ms h).1) = 43) := fun z => q705 (hk43.mpr z)
          have hk45 : cp703 = 45 ↔ ((rB T n (ms h).1) < n ∧ T (rB T n (ms h).1) = 45) := by have y := sgm_k kp703 45 (by decide); rw [sp702] at y; exact y
          have hs45 := hk45.mp q711
          have hmsf751 : ms hp750 = ((rB T n (ms h).1), (ms h).2.1, (ms hp748).2.2) := (sp750).trans (mA3 sp702 ap748 bp748 rfl rfl)
          obtain ⟨pf751, sf751, tf751⟩ := mTo pp750e ((mFr_n ggp750).trans hN) ef751 (v := (rB T n (ms h).1) + 1) (zp1 (by rw [mPl pp750e, hmsf751]) (by have := rB_le (T := T) hpn; omega)) hs45.1
          rw [hmsf751] at sf751
          refine tw_aload rfl rfl ?_
          refine tw_push rfl ?_
          refine tw_put rfl (fun f752 => ?_)
          refine tG_setm f752 (hw_111_46 f752 (gf751).1) (fun hf752 ef752 => ?_)
          try dsimp only [tvI_i] at ef752
          have gf752 := mFq_s (mFq_f gf751) ef752 (Or.inr rfl)
          obtain ⟨pf752, sf752, tf752⟩ := mSte pf751 ef752
          refine tw_goto rfl ?_
          have hmb : (mSk hp748, (ms hp748).2.2) = mS (mSk h) (ms h).2.2 := by rw [mp748, tp702, sp702]; rfl
          have hsk : mSk hf752 = 104 :: (mS (mSk h) (ms h).2.2).1 := by rw [tf752, tf751, tp750, ← mfst hmb]; rfl
          have hdd : mD hf752 := mD_m hD (by rw [hsk, mDp_e (by decide)]; exact mDp_S _ _) ((mI_o ef752 (by decide)).trans ((mI_o ef751 (by decide)).trans (dp750.trans (dp748.trans dp702))))
          exact tw_vret rfl ⟨rfl, gf752, mOut_r (by unfold mS2; rw [if_neg hs42, if_neg hs43, if_pos hs45]) pf752 hdd (by unfold mst; rw [mI_x ef752, hsk, sf752, sf751, msnd hmb]; rfl)⟩
        · try dsimp only [tvI_i, tvJ_j, tvR_r] at q749
          have q749i := zeqi (Y := 43) (by decide) q749
          exact absurd q749 q705
  · try dsimp only [tvI_i, tvJ_j, tvR_r] at q704
    have q704i := zeqi (Y := 42) (by decide) q704
    refine tw_aload rfl rfl ?_
    refine tw_virt0 rfl (g_makesProducts hG hX (ggp702).1 pp702e ((mFr_T ggp702).trans hT) ((mFr_n ggp702).trans hN)) (fun wp753 hp753 p753 => ?_)
    obtain ⟨rfl, gp753, pp753e, ap753, bp753, mp753, dp753⟩ := p753
    have ggp753 := mFr_t ggp702 gp753
    refine tw_aload rfl rfl ?_
    refine tw_push rfl ?_
    refine tw_virt1 rfl (g_opens hG hX (ggp753).1 pp753e ((mFr_T ggp753).trans hT) ((mFr_n ggp753).trans hN) (by decide)) (fun wp754 hp754 p754 => ?_)
    obtain ⟨rfl, gp754, pp754e, tp754, sp754, dp754⟩ := p754
    have ggp754 := mFr_t ggp753 gp754
    refine tw_aload rfl rfl ?_
    refine tw_dup rfl ?_
    refine tw_getS rfl (hi_111_28 ggp754.1) ?_
    refine tw_push rfl ?_
    refine tw_iadd rfl ?_
    refine tw_put rfl (fun f755 => ?_)
    refine tG_setm f755 (hw_111_28 f755 (ggp754).1) (fun hf755 ef755 => ?_)
    try dsimp only [tvI_i] at ef755
    have gf755 := mFr_s ggp754 ef755 (by unfold mFs; omega)
    have hk42 : cp703 = 42 ↔ ((rB T n (ms h).1) < n ∧ T (rB T n (ms h).1) = 42) := by have y := sgm_k kp703 42 (by decide); rw [sp702] at y; exact y
    have hs42 := hk42.mp q704
    have hmsf755 : ms hp754 = ((rB T n (ms h).1), (ms h).2.1, (ms hp753).2.2) := (sp754).trans (mA3 sp702 ap753 bp753 rfl rfl)
    obtain ⟨pf755, sf755, tf755⟩ := mTo pp754e ((mFr_n ggp754).trans hN) ef755 (v := (rB T n (ms h).1) + 1) (zp1 (by rw [mPl pp754e, hmsf755]) (by have := rB_le (T := T) hpn; omega)) hs42.1
    rw [hmsf755] at sf755
    refine tw_aload rfl rfl ?_
    refine tw_push rfl ?_
    refine tw_put rfl (fun f756 => ?_)
    refine tG_setm f756 (hw_111_46 f756 (gf755).1) (fun hf756 ef756 => ?_)
    try dsimp only [tvI_i] at ef756
    have gf756 := mFq_s (mFq_f gf755) ef756 (Or.inr rfl)
    obtain ⟨pf756, sf756, tf756⟩ := mSte pf755 ef756
    refine tw_goto rfl ?_
    have hmb : (mSk hp753, (ms hp753).2.2) = mT (mSk h) (ms h).2.2 := by rw [mp753, tp702, sp702]; rfl
    have hsk : mSk hf756 = 102 :: (mT (mSk h) (ms h).2.2).1 := by rw [tf756, tf755, tp754, ← mfst hmb]; rfl
    have hdd : mD hf756 := mD_m hD (by rw [hsk, mDp_e (by decide)]; exact mDp_T _ _) ((mI_o ef756 (by decide)).trans ((mI_o ef755 (by decide)).trans (dp754.trans (dp753.trans dp702))))
    exact tw_vret rfl ⟨rfl, gf756, mOut_r (by unfold mS2; rw [if_pos hs42]) pf756 hdd (by unfold mst; rw [mI_x ef756, hsk, sf756, sf755, msnd hmb]; rfl)⟩
theorem g_behindFact {G : zG} (hG : G.1 = zProg) (hX : G.2.1 = ztx) {h : zH} {T : Nat → Int32} {n : Nat} (hs : tSh h) (hp : mP h) (hT : tA h 132 = T) (hN : mn h = n) (hD : mD h) (hd : mDp (mSk h) ≤ 1000) (h46s : tvI (tF h 111 46) = 3) : tC zTt G 222 [.ref 111] h (fun w h2 => w = none ∧ mFq h h2 ∧ mOut (mS3 T n (mSk h) (ms h)) h2) := by
  refine tC_in (by rw [hG]; rfl) (fun dp => ?_)
  have g0 := mFr_r hs
  have hpn : (ms h).1 ≤ n := mPle hp hN
  have hn4 : n ≤ 400 := by have a := mNl hp hN; have b := hp.2.1; omega
  refine tw_aload rfl rfl ?_
  refine tw_virt0 rfl (g_makesNots hG hX (g0).1 hp ((mFr_T g0).trans hT) ((mFr_n g0).trans hN) hD) (fun wp757 hp757 p757 => ?_)
  obtain ⟨rfl, gp757, pp757e, ap757, bp757, mp757, dp757⟩ := p757
  have ggp757 := mFr_t g0 gp757
  refine tw_aload rfl rfl ?_
  refine tw_virt0 rfl (g_blanks hG hX (ggp757).1 pp757e ((mFr_T ggp757).trans hT) ((mFr_n ggp757).trans hN)) (fun wp758 hp758 p758 => ?_)
  obtain ⟨rfl, gp758, pp758e, sp758, tp758, dp758⟩ := p758
  have ggp758 := mFr_t ggp757 gp758
  rw [ap757] at sp758
  refine tw_aload rfl rfl ?_
  refine tw_push rfl ?_
  refine tw_virt1 rfl (g_stands hG hX (ggp758).1 ((mFr_T ggp758).trans hT) ((mFr_n ggp758).trans hN) (q := 19) (by decide +kernel) ⟨pp758e.2.1.1, by have := pp758e.2.1; omega⟩ ⟨by have := pp758e.2.1; omega, pp758e.2.1.2.2⟩) (fun w9 h9 p759 => ?_)
  obtain ⟨⟨p759, rfl⟩ | ⟨p759, rfl⟩, rfl⟩ := p759
  · try dsimp only [tvI_i, tvJ_j, tvR_r] at p759
    refine tw_if_eq rfl (fun z => absurd z (by decide)) (fun _ => ?_)
    refine tw_aload rfl rfl ?_
    refine tw_virt0 rfl (g_makesAnds hG hX (ggp758).1 pp758e ((mFr_T ggp758).trans hT) ((mFr_n ggp758).trans hN)) (fun wp760 hp760 p760 => ?_)
    obtain ⟨rfl, gp760, pp760e, ap760, bp760, mp760, dp760⟩ := p760
    have ggp760 := mFr_t ggp758 gp760
    refine tw_aload rfl rfl ?_
    refine tw_push rfl ?_
    refine tw_virt1 rfl (g_opens hG hX (ggp760).1 pp760e ((mFr_T ggp760).trans hT) ((mFr_n ggp760).trans hN) (by decide)) (fun wp761 hp761 p761 => ?_)
    obtain ⟨rfl, gp761, pp761e, tp761, sp761, dp761⟩ := p761
    have ggp761 := mFr_t ggp760 gp761
    refine tw_aload rfl rfl ?_
    refine tw_dup rfl ?_
    refine tw_getS rfl (hi_111_28 ggp761.1) ?_
    refine tw_push rfl ?_
    refine tw_iadd rfl ?_
    refine tw_put rfl (fun f762 => ?_)
    refine tG_setm f762 (hw_111_28 f762 (ggp761).1) (fun hf762 ef762 => ?_)
    try dsimp only [tvI_i] at ef762
    have gf762 := mFr_s ggp761 ef762 (by unfold mFs; omega)
    have hw18 : rW T n (rB T n (ms h).1) (rWd 18) = true := by have z := p759; rw [sp758] at z; rw [txt_k.2.1]; exact z
    have h9w : rE T n (rB T n (ms h).1) = (rB T n (ms h).1) + 3 := by rw [rW_e hw18, wlen_k.1]
    have hr9 := rE_le (T := T) (rB_le (T := T) hpn)
    rw [h9w] at hr9
    have hmsf762 : ms hp761 = ((rB T n (ms h).1), (ms h).2.1, (ms hp760).2.2) := (sp761).trans (mA3 sp758 ap760 bp760 bp757 rfl)
    obtain ⟨pf762, sf762, tf762⟩ := mTo pp761e ((mFr_n ggp761).trans hN) ef762 (v := (rB T n (ms h).1) + 3) (zp3 (k := (rB T n (ms h).1)) (j := 3) (by rw [mPl pp761e, hmsf762]) rfl (by have := rB_le (T := T) hpn; omega) (by decide)) hr9
    rw [hmsf762] at sf762
    refine tw_aload rfl rfl ?_
    refine tw_push rfl ?_
    refine tw_put rfl (fun f763 => ?_)
    refine tG_setm f763 (hw_111_46 f763 (gf762).1) (fun hf763 ef763 => ?_)
    try dsimp only [tvI_i] at ef763
    have gf763 := mFq_s (mFq_f gf762) ef763 (Or.inr rfl)
    obtain ⟨pf763, sf763, tf763⟩ := mSte pf762 ef763
    refine tw_goto rfl ?_
    have hmn : (mSk hp758, (ms hp758).2.2) = (mN (mSk h) (ms h).2.2) := by rw [tp758, sp758]; exact mp757
    have hmb : (mSk hp760, (ms hp760).2.2) = mA (mN (mSk h) (ms h).2.2).1 (mN (mSk h) (ms h).2.2).2 := by rw [mp760, mfst hmn, msnd hmn]
    have hsk : mSk hf763 = 11 :: (mA (mN (mSk h) (ms h).2.2).1 (mN (mSk h) (ms h).2.2).2).1 := by rw [tf763, tf762, tp761, ← mfst hmb]; rfl
    have hdd : mD hf763 := mD_m (mD_k dp757 tp758 dp758) (by rw [hsk, mDp_e (by decide), mDp_A, mfst hmn]) ((mI_o ef763 (by decide)).trans ((mI_o ef762 (by decide)).trans (dp761.trans dp760)))
    exact tw_vret rfl ⟨rfl, gf763, mOut_r (by unfold mS3; rw [if_pos hw18]) pf763 hdd (by unfold mst; rw [mI_x ef763, hsk, sf763, sf762, msnd hmb]; rfl)⟩
  · try dsimp only [tvI_i, tvJ_j, tvR_r] at p759
    refine tw_if_eq rfl (fun _ => ?_) (fun z => absurd z (by decide))
    refine tw_aload rfl rfl ?_
    refine tw_push rfl ?_
    refine tw_virt1 rfl (g_stands hG hX (ggp758).1 ((mFr_T ggp758).trans hT) ((mFr_n ggp758).trans hN) (q := 20) (by decide +kernel) ⟨pp758e.2.1.1, by have := pp758e.2.1; omega⟩ ⟨by have := pp758e.2.1; omega, pp758e.2.1.2.2⟩) (fun w9 h9 p764 => ?_)
    obtain ⟨⟨p764, rfl⟩ | ⟨p764, rfl⟩, rfl⟩ := p764
    · try dsimp only [tvI_i, tvJ_j, tvR_r] at p764
      refine tw_if_eq rfl (fun z => absurd z (by decide)) (fun _ => ?_)
      refine tw_aload rfl rfl ?_
      refine tw_virt0 rfl (g_makesOrs hG hX (ggp758).1 pp758e ((mFr_T ggp758).trans hT) ((mFr_n ggp758).trans hN)) (fun wp765 hp765 p765 => ?_)
      obtain ⟨rfl, gp765, pp765e, ap765, bp765, mp765, dp765⟩ := p765
      have ggp765 := mFr_t ggp758 gp765
      refine tw_aload rfl rfl ?_
      refine tw_push rfl ?_
      refine tw_virt1 rfl (g_opens hG hX (ggp765).1 pp765e ((mFr_T ggp765).trans hT) ((mFr_n ggp765).trans hN) (by decide)) (fun wp766 hp766 p766 => ?_)
      obtain ⟨rfl, gp766, pp766e, tp766, sp766, dp766⟩ := p766
      have ggp766 := mFr_t ggp765 gp766
      refine tw_aload rfl rfl ?_
      refine tw_dup rfl ?_
      refine tw_getS rfl (hi_111_28 ggp766.1) ?_
      refine tw_push rfl ?_
      refine tw_iadd rfl ?_
      refine tw_put rfl (fun f767 => ?_)
      refine tG_setm f767 (hw_111_28 f767 (ggp766).1) (fun hf767 ef767 => ?_)
      try dsimp only [tvI_i] at ef767
      have gf767 := mFr_s ggp766 ef767 (by unfold mFs; omega)
      have hw18 : ¬ rW T n (rB T n (ms h).1) (rWd 18) = true := by have z := p759; rw [sp758] at z; rw [txt_k.2.1]; exact z
      have hw17 : rW T n (rB T n (ms h).1) (rWd 17) = true := by have z := p764; rw [sp758] at z; rw [txt_k.2.2.1]; exact z
      have h9w : rE T n (rB T n (ms h).1) = (rB T n (ms h).1) + 2 := by rw [rW_e hw17, wlen_k.2.1]
      have hr9 := rE_le (T := T) (rB_le (T := T) hpn)
      rw [h9w] at hr9
      have hmsf767 : ms hp766 = ((rB T n (ms h).1), (ms h).2.1, (ms hp765).2.2) := (sp766).trans (mA3 sp758 ap765 bp765 bp757 rfl)
      obtain ⟨pf767, sf767, tf767⟩ := mTo pp766e ((mFr_n ggp766).trans hN) ef767 (v := (rB T n (ms h).1) + 2) (zp3 (k := (rB T n (ms h).1)) (j := 2) (by rw [mPl pp766e, hmsf767]) rfl (by have := rB_le (T := T) hpn; omega) (by decide)) hr9
      rw [hmsf767] at sf767
      refine tw_aload rfl rfl ?_
      refine tw_push rfl ?_
      refine tw_put rfl (fun f768 => ?_)
      refine tG_setm f768 (hw_111_46 f768 (gf767).1) (fun hf768 ef768 => ?_)
      try dsimp only [tvI_i] at ef768
      have gf768 := mFq_s (mFq_f gf767) ef768 (Or.inr rfl)
      obtain ⟨pf768, sf768, tf768⟩ := mSte pf767 ef768
      refine tw_goto rfl ?_
      have hmn : (mSk hp758, (ms hp758).2.2) = (mN (mSk h) (ms h).2.2) := by rw [tp758, sp758]; exact mp757
      have hmb : (mSk hp765, (ms hp765).2.2) = mO (mN (mSk h) (ms h).2.2).1 (mN (mSk h) (ms h).2.2).2 := by rw [mp765, mfst hmn, msnd hmn]
      have hsk : mSk hf768 = 12 :: (mO (mN (mSk h) (ms h).2.2).1 (mN (mSk h) (ms h).2.2).2).1 := by rw [tf768, tf767, tp766, ← mfst hmb]; rfl
      have hdd : mD hf768 := mD_m (mD_k dp757 tp758 dp758) (by rw [hsk, mDp_e (by decide), mDp_O, mfst hmn]) ((mI_o ef768 (by decide)).trans ((mI_o ef767 (by decide)).trans (dp766.trans dp765)))
      exact tw_vret rfl ⟨rfl, gf768, mOut_r (by unfold mS3; rw [if_neg hw18, if_pos hw17]) pf768 hdd (by unfold mst; rw [mI_x ef768, hsk, sf768, sf767, msnd hmb]; rfl)⟩
    · try dsimp only [tvI_i, tvJ_j, tvR_r] at p764
      refine tw_if_eq rfl (fun _ => ?_) (fun z => absurd z (by decide))
      refine tw_aload rfl rfl ?_
      refine tw_virt0 rfl (g_makesOrs hG hX (ggp758).1 pp758e ((mFr_T ggp758).trans hT) ((mFr_n ggp758).trans hN)) (fun wp769 hp769 p769 => ?_)
      obtain ⟨rfl, gp769, pp769e, ap769, bp769, mp769, dp769⟩ := p769
      have ggp769 := mFr_t ggp758 gp769
      refine tw_aload rfl rfl ?_
      refine tw_virt0 rfl (g_top hG hX (ggp769).1 pp769e ((mFr_T ggp769).trans hT) ((mFr_n ggp769).trans hN)) (fun wp770 hp770 p770 => ?_)
      obtain ⟨⟨cp770, rfl, Tp770⟩, rfl⟩ := p770
      refine tw_push rfl ?_
      refine tw_ic_ne rfl (fun q771 => ?_) (fun q771 => ?_)
      · try dsimp only [tvI_i, tvJ_j, tvR_r] at q771
        have q771i := zneq (Y := 13) (by decide) q771
        refine tw_aload rfl rfl ?_
        refine tw_push rfl ?_
        refine tw_put rfl (fun f772 => ?_)
        refine tG_setm f772 (hw_111_46 f772 (ggp769).1) (fun hf772 ef772 => ?_)
        try dsimp only [tvI_i] at ef772
        have gf772 := mFq_s (mFq_f ggp769) ef772 (Or.inr rfl)
        obtain ⟨pf772, sf772, tf772⟩ := mSte pp769e ef772
        have hw18 : ¬ rW T n (rB T n (ms h).1) (rWd 18) = true := by have z := p759; rw [sp758] at z; rw [txt_k.2.1]; exact z
        have hw17 : ¬ rW T n (rB T n (ms h).1) (rWd 17) = true := by have z := p764; rw [sp758] at z; rw [txt_k.2.2.1]; exact z
        have ht13 := tpm_k Tp770 (k := 13) (K := 13) rfl (by decide)
        have hn13 : ¬ (mSk hp769).headD 0 = 13 := fun z => q771 (ht13.mpr z)
        have hmn : (mSk hp758, (ms hp758).2.2) = (mN (mSk h) (ms h).2.2) := by rw [tp758, sp758]; exact mp757
        have hmb : (mSk hp769, (ms hp769).2.2) = mO (mN (mSk h) (ms h).2.2).1 (mN (mSk h) (ms h).2.2).2 := by rw [mp769, mfst hmn, msnd hmn]
        have hms : ms hf772 = ((rB T n (ms h).1), (ms h).2.1, (mO (mN (mSk h) (ms h).2.2).1 (mN (mSk h) (ms h).2.2).2).2) := (sf772).trans (mA3 sp758 ap769 bp769 bp757 (msnd hmb))
        have hsk : mSk hf772 = (mO (mN (mSk h) (ms h).2.2).1 (mN (mSk h) (ms h).2.2).2).1 := by rw [tf772, mfst hmb]
        have hdd : mD hf772 := mD_m (mD_k dp757 tp758 dp758) (by rw [hsk, mDp_O, mfst hmn]) ((mI_o ef772 (by decide)).trans dp769)
        exact tw_vret rfl ⟨rfl, gf772, mOut_r (by unfold mS3; rw [if_neg hw18, if_neg hw17, if_neg (show ¬ (mO (mN (mSk h) (ms h).2.2).1 (mN (mSk h) (ms h).2.2).2).1.headD 0 = 13 from by rw [← mfst hmb]; exact hn13)]) pf772 hdd (by unfold mst; rw [mI_x ef772, hsk, hms]; rfl)⟩
      · try dsimp only [tvI_i, tvJ_j, tvR_r] at q771
        have q771i := zeqi (Y := 13) (by decide) q771
        refine tw_aload rfl rfl ?_
        refine tw_virt0 rfl (g_sign hG hX (ggp769).1 ((mFr_T ggp769).trans hT) ((mFr_n ggp769).trans hN) ⟨pp769e.2.1.1, by have := pp769e.2.1; omega⟩) (fun wp773 hp773 p773 => ?_)
        obtain ⟨⟨cp773, rfl, kp773⟩, rfl⟩ := p773
        refine tw_push rfl ?_
        refine tw_ic_eq rfl (fun q774 => ?_) (fun q774 => ?_)
        · try dsimp only [tvI_i, tvJ_j, tvR_r] at q774
          have q774i := zeqi (Y := 93) (by decide) q774
          refine tw_aload rfl rfl ?_
          refine tw_dup rfl ?_
          refine tw_getS rfl (hi_111_28 (ggp769).1) ?_
          refine tw_push rfl ?_
          refine tw_iadd rfl ?_
          refine tw_put rfl (fun f775 => ?_)
          refine tG_setm f775 (hw_111_28 f775 (ggp769).1) (fun hf775 ef775 => ?_)
          try dsimp only [tvI_i] at ef775
          have gf775 := mFr_s ggp769 ef775 (by unfold mFs; omega)
          have hw18 : ¬ rW T n (rB T n (ms h).1) (rWd 18) = true := by have z := p759; rw [sp758] at z; rw [txt_k.2.1]; exact z
          have hw17 : ¬ rW T n (rB T n (ms h).1) (rWd 17) = true := by have z := p764; rw [sp758] at z; rw [txt_k.2.2.1]; exact z
          have ht13 := tpm_k Tp770 (k := 13) (K := 13) rfl (by decide)
          have hn13 : (mSk hp769).headD 0 = 13 := ht13.mp q771
          have hk93 : cp773 = 93 ↔ ((rB T n (ms h).1) < n ∧ T (rB T n (ms h).1) = 93) := by have y := sgm_k kp773 93 (by decide); rw [ap769, sp758] at y; exact y
          have hs93 : ((rB T n (ms h).1) < n ∧ T (rB T n (ms h).1) = 93) := hk93.mp q774
          have hDm : mD hp769 := mD_m (mD_k dp757 tp758 dp758) (by rw [mfst mp769]; exact mDp_O _ _) dp769
          obtain ⟨pf775, sf775, tf775⟩ := mTo pp769e ((mFr_n ggp769).trans hN) ef775 (v := (rB T n (ms h).1) + 1) (zp1 (by rw [mPl pp769e, show (ms hp769).1 = (rB T n (ms h).1) from by rw [ap769, sp758]; rfl]) (by have := rB_le (T := T) hpn; omega)) hs93.1
          refine tw_aload rfl rfl ?_
          refine tw_dup rfl ?_
          refine tw_getS rfl (hi_111_34 (gf775).1) ?_
          refine tw_push rfl ?_
          refine tw_isub rfl ?_
          refine tw_put rfl (fun f776 => ?_)
          refine tG_setm f776 (hw_111_34 f776 (gf775).1) (fun hf776 ef776 => ?_)
          try dsimp only [tvI_i] at ef776
          have gf776 := mFr_s gf775 ef776 (by unfold mFs; omega)
          have hst : mSk hf775 = 13 :: (mSk hp769).tail := tf775.trans (mhead (k := 12) hn13)
          obtain ⟨pf776, tf776, sf776, df776⟩ := mSk_pop pf775 (by rw [hst]; exact List.cons_ne_nil _ _) ef776
          rw [hst] at tf776
          have tf776 : mSk hf776 = (mSk hp769).tail := tf776
          refine tw_aload rfl rfl ?_
          refine tw_dup rfl ?_
          refine tw_getS rfl (hi_111_32 (gf776).1) ?_
          refine tw_push rfl ?_
          refine tw_isub rfl ?_
          refine tw_put rfl (fun f777 => ?_)
          refine tG_setm f777 (hw_111_32 f777 (gf776).1) (fun hf777 ef777 => ?_)
          try dsimp only [tvI_i] at ef777
          have gf777 := mFr_s gf776 ef777 (by unfold mFs; omega)
          have hdf777 : (tvI (tF hf776 111 32)).toInt = ((mDp (mSk hf776) + 1 : Nat) : Int) := by
            rw [df776, mI_o ef775 (by decide)]
            refine (show (tvI (tF hp769 111 32)).toInt = (mDp (mSk hp769) : Int) from hDm).trans ?_
            rw [tf776]
            exact congrArg (fun z : Nat => (z : Int)) ((congrArg mDp (mhead (k := 12) hn13)).trans (mDp_c (by decide)))
          obtain ⟨pf777, tf777, sf777, ddf777⟩ := mDn pf776 ef777 hdf777 rfl
          refine tw_goto rfl ?_
          have hmn : (mSk hp758, (ms hp758).2.2) = (mN (mSk h) (ms h).2.2) := by rw [tp758, sp758]; exact mp757
          have hmb : (mSk hp769, (ms hp769).2.2) = mO (mN (mSk h) (ms h).2.2).1 (mN (mSk h) (ms h).2.2).2 := by rw [mp769, mfst hmn, msnd hmn]
          have hms : ms hf777 = ((rB T n (ms h).1) + 1, (ms h).2.1, (mO (mN (mSk h) (ms h).2.2).1 (mN (mSk h) (ms h).2.2).2).2) := by rw [sf777, sf776, sf775]; exact mA6 (mA2 sp758 bp769 bp757) (msnd hmb)
          have hsk : mSk hf777 = (mO (mN (mSk h) (ms h).2.2).1 (mN (mSk h) (ms h).2.2).2).1.tail := by rw [tf777, tf776, mfst hmb]
          have h46 : stN (tvI (tF hf777 111 46)) = 3 := by rw [mFr_46 gf777, h46s]; rfl
          exact tw_vret rfl ⟨rfl, mFq_f gf777, mOut_r (by unfold mS3; rw [if_neg hw18, if_neg hw17, if_pos (show (mO (mN (mSk h) (ms h).2.2).1 (mN (mSk h) (ms h).2.2).2).1.headD 0 = 13 from by rw [← mfst hmb]; exact hn13), if_pos hs93]) pf777 ddf777 (by unfold mst; rw [h46, hsk, hms])⟩
        · try dsimp only [tvI_i, tvJ_j, tvR_r] at q774
          have q774i := zneq (Y := 93) (by decide) q774
          refine tw_aload rfl rfl ?_
          refine tw_push rfl ?_
          refine tw_aload rfl rfl ?_
          refine tw_getS rfl (hi_111_28 (ggp769).1) ?_
          refine tw_virt2 rfl (g_fails hG hX (ggp769).1 pp769e ((mFr_T ggp769).trans hT) ((mFr_n ggp769).trans hN) (w := 0) (b := (rB T n (ms h).1)) rfl (by decide) ((mPl pp769e).trans (by rw [show (ms hp769).1 = (rB T n (ms h).1) from by rw [ap769, sp758]; rfl])) (by have := rB_le (T := T) hpn; omega)) (fun wp778 hp778 p778 => ?_)
          obtain ⟨rfl, gp778, Fp778, ip778, jp778⟩ := p778
          have ggp778 := mFr_t ggp769 gp778
          refine tw_aload rfl rfl ?_
          refine tw_dup rfl ?_
          refine tw_getS rfl (hi_111_28 ggp778.1) ?_
          refine tw_push rfl ?_
          refine tw_iadd rfl ?_
          refine tw_put rfl (fun f779 => ?_)
          refine tG_setm f779 (hw_111_28 f779 (ggp778).1) (fun hf779 ef779 => ?_)
          try dsimp only [tvI_i] at ef779
          have gf779 := mFr_s ggp778 ef779 (by unfold mFs; omega)
          have zf779 := mFt_s Fp778 ef779 (by decide)
          have yf779 : (tvI (tF hp778 111 28)).toInt = (((rB T n (ms h).1) : Nat) : Int) := by rw [ip778, mPl pp769e, show (ms hp769).1 = (rB T n (ms h).1) from by rw [ap769, sp758]; rfl]
          have Zf779 : mZp hf779 := mZ_of ggp778 hp ef779 (zp1 yf779 (by have := rB_le (T := T) hpn; omega)) (by have := rB_le (T := T) hpn; omega)
          refine tw_aload rfl rfl ?_
          refine tw_dup rfl ?_
          refine tw_getS rfl (hi_111_34 (gf779).1) ?_
          refine tw_push rfl ?_
          refine tw_isub rfl ?_
          refine tw_put rfl (fun f780 => ?_)
          refine tG_setm f780 (hw_111_34 f780 (gf779).1) (fun hf780 ef780 => ?_)
          try dsimp only [tvI_i] at ef780
          have gf780 := mFr_s gf779 ef780 (by unfold mFs; omega)
          have zf780 := mFt_s zf779 ef780 (by decide)
          have Zf780 : mZp hf780 := mZp_o Zf779 ef780 (by decide)
          refine tw_aload rfl rfl ?_
          refine tw_dup rfl ?_
          refine tw_getS rfl (hi_111_32 (gf780).1) ?_
          refine tw_push rfl ?_
          refine tw_isub rfl ?_
          refine tw_put rfl (fun f781 => ?_)
          refine tG_setm f781 (hw_111_32 f781 (gf780).1) (fun hf781 ef781 => ?_)
          try dsimp only [tvI_i] at ef781
          have gf781 := mFr_s gf780 ef781 (by unfold mFs; omega)
          have zf781 := mFt_s zf780 ef781 (by decide)
          have Zf781 : mZp hf781 := mZp_o Zf780 ef781 (by decide)
          refine tw_goto rfl ?_
          have hw18 : ¬ rW T n (rB T n (ms h).1) (rWd 18) = true := by have z := p759; rw [sp758] at z; rw [txt_k.2.1]; exact z
          have hw17 : ¬ rW T n (rB T n (ms h).1) (rWd 17) = true := by have z := p764; rw [sp758] at z; rw [txt_k.2.2.1]; exact z
          have ht13 := tpm_k Tp770 (k := 13) (K := 13) rfl (by decide)
          have hn13 : (mSk hp769).headD 0 = 13 := ht13.mp q771
          have hk93 : cp773 = 93 ↔ ((rB T n (ms h).1) < n ∧ T (rB T n (ms h).1) = 93) := by have y := sgm_k kp773 93 (by decide); rw [ap769, sp758] at y; exact y
          have hs93 : ¬ ((rB T n (ms h).1) < n ∧ T (rB T n (ms h).1) = 93) := fun z => q774 (hk93.mpr z)
          have hDm : mD hp769 := mD_m (mD_k dp757 tp758 dp758) (by rw [mfst mp769]; exact mDp_O _ _) dp769
          have hmn : (mSk hp758, (ms hp758).2.2) = (mN (mSk h) (ms h).2.2) := by rw [tp758, sp758]; exact mp757
          have hmb : (mSk hp769, (ms hp769).2.2) = mO (mN (mSk h) (ms h).2.2).1 (mN (mSk h) (ms h).2.2).2 := by rw [mp769, mfst hmn, msnd hmn]
          exact tw_vret rfl ⟨rfl, mFq_f gf781, mOut_l (by unfold mS3; rw [if_neg hw18, if_neg hw17, if_pos (show (mO (mN (mSk h) (ms h).2.2).1 (mN (mSk h) (ms h).2.2).2).1.headD 0 = 13 from by rw [← mfst hmb]; exact hn13), if_neg hs93]) zf781 Zf781⟩
theorem mDp_N : ∀ (S o : List Nat), mDp (mN S o).1 ≤ mDp S
  | [], _ => Nat.le_refl _
  | x :: r, o => by
    unfold mN
    by_cases z : x = 10
    · rw [if_pos z, z, mDp_c (by decide)]
      exact Nat.le_succ_of_le (mDp_N r _)
    · rw [if_neg z]
      exact Nat.le_refl _
theorem mDp_t : ∀ (S : List Nat), mDp S.tail ≤ mDp S
  | [] => Nat.le_refl _
  | x :: r => by
    show mDp r ≤ (if _ then mDp r + 1 else mDp r)
    split
    · exact Nat.le_succ _
    · exact Nat.le_refl _
theorem mSt_dp {T : Nat → Int32} {n : Nat} {tst : Bool} {a : Nat} {S : List Nat} {s : rS} {x2 : rMs} (h : mDp S ≤ 10) (ha : a ≤ 3) (e : mSt T n tst (a, S, s) = .inr x2) : mDp x2.2.1 ≤ 10 ∧ x2.1 ≤ 4 := by
  match a, ha, e with
  | 0, _, e =>
    have e : mS0 T n S s = .inr x2 := e
    unfold mS0 at e
    split at e
    · split at e
      · cases e
      · rename_i z
        cases e
        exact ⟨by show mDp (10 :: S) ≤ 10; rw [mDp_c (by decide)]; omega, Nat.le_of_ble_eq_true rfl⟩
    · split at e
      · split at e
        · cases e
        · rename_i z
          cases e
          exact ⟨by show mDp (13 :: S) ≤ 10; rw [mDp_c (by decide)]; omega, Nat.le_of_ble_eq_true rfl⟩
      · cases e
        exact ⟨h, Nat.le_of_ble_eq_true rfl⟩
  | 1, _, e =>
    have e : mS1 T n S s = .inr x2 := e
    unfold mS1 at e
    split at e
    · split at e
      · cases e
      · split at e
        · cases e
        · rename_i z _
          cases e
          exact ⟨by show mDp (50 :: S) ≤ 10; rw [mDp_c (by decide)]; omega, Nat.le_of_ble_eq_true rfl⟩
    · split at e
      · split at e
        · cases e
        · cases e; exact ⟨h, Nat.le_of_ble_eq_true rfl⟩
      · split at e
        · cases e
        · split at e
          · cases e
          · cases e; exact ⟨h, Nat.le_of_ble_eq_true rfl⟩
  | 2, _, e =>
    have e : mS2 T n tst S s = .inr x2 := e
    have hT := mDp_T S s.2.2
    have hS := mDp_S S s.2.2
    have ht := mDp_t (mS S s.2.2).1
    unfold mS2 at e
    split at e
    · cases e
      exact ⟨by show mDp (102 :: _) ≤ 10; rw [mDp_e (by decide)]; omega, Nat.le_of_ble_eq_true rfl⟩
    · split at e
      · cases e
        exact ⟨by show mDp (103 :: _) ≤ 10; rw [mDp_e (by decide)]; omega, Nat.le_of_ble_eq_true rfl⟩
      · split at e
        · cases e
          exact ⟨by show mDp (104 :: _) ≤ 10; rw [mDp_e (by decide)]; omega, Nat.le_of_ble_eq_true rfl⟩
        · split at e
          · split at e
            · cases e
              exact ⟨by show mDp (mS S s.2.2).1.tail ≤ 10; omega, Nat.le_of_ble_eq_true rfl⟩
            · cases e
          · split at e
            · split at e
              · cases e
                exact ⟨by show mDp (mS S s.2.2).1.tail ≤ 10; omega, Nat.le_of_ble_eq_true rfl⟩
              · split at e
                · cases e
                · rename_i q hq
                  split at e
                  · cases e
                  · cases e
                    have r1 := (rCm_r hq).1
                    have r2 := (rCm_r hq).2.1
                    exact ⟨by show mDp ((q.1 - 99898) :: _) ≤ 10; rw [mDp_e (by omega)]; omega, Nat.le_of_ble_eq_true rfl⟩
            · cases e
              exact ⟨by show mDp (mS S s.2.2).1 ≤ 10; omega, Nat.le_of_ble_eq_true rfl⟩
  | 3, _, e =>
    have e : mS3 T n S s = .inr x2 := e
    have hN := mDp_N S s.2.2
    have hA := mDp_A (mN S s.2.2).1 (mN S s.2.2).2
    have hO := mDp_O (mN S s.2.2).1 (mN S s.2.2).2
    have ht := mDp_t (mO (mN S s.2.2).1 (mN S s.2.2).2).1
    unfold mS3 at e
    split at e
    · cases e
      exact ⟨by show mDp (11 :: _) ≤ 10; rw [mDp_e (by decide)]; omega, Nat.le_of_ble_eq_true rfl⟩
    · split at e
      · cases e
        exact ⟨by show mDp (12 :: _) ≤ 10; rw [mDp_e (by decide)]; omega, Nat.le_of_ble_eq_true rfl⟩
      · split at e
        · split at e
          · cases e
            exact ⟨by show mDp (mO (mN S s.2.2).1 (mN S s.2.2).2).1.tail ≤ 10; omega, Nat.le_of_ble_eq_true rfl⟩
          · cases e
        · cases e
          exact ⟨by show mDp (mO (mN S s.2.2).1 (mN S s.2.2).2).1 ≤ 10; omega, Nat.le_of_ble_eq_true rfl⟩
theorem mRst {h a b c : zH} {x y : Int32} (hx : 0 ≤ x.toInt) (p : mP h) (d0 : tvI (tF h 111 32) = 0) (e46 : mSet 46 x h a) (e34 : mSet 34 0 a b) (e47 : mSet 47 y b c) : mFw h c ∧ mP c ∧ mD c ∧ mst c = (stN x, [], ms h) ∧ tvI (tF c 111 47) = y := by
  have F : ∀ q, q ≠ 46 → q ≠ 34 → q ≠ 47 → tF c 111 q = tF h 111 q := fun q h1 h2 h3 => (mI_o e47 h3).trans ((mI_o e34 h2).trans (mI_o e46 h1))
  have A : tA c = tA h := e47.2.2.2.1.trans (e34.2.2.2.1.trans e46.2.2.2.1)
  have NN : tN c = tN h := e47.2.2.2.2.trans (e34.2.2.2.2.trans e46.2.2.2.2)
  have f34 : tvI (tF c 111 34) = 0 := by rw [mI_o e47 (by decide)]; exact mI_x e34
  have f46 : tvI (tF c 111 46) = x := by rw [mI_o e47 (by decide), mI_o e34 (by decide)]; exact mI_x e46
  have hk : mSk c = [] := mSk_nil (by rw [f34]; rfl)
  obtain ⟨p1, p2, p3, p4, p5, p6, p7, p8, t1, t2⟩ := p
  refine ⟨⟨e47.1, fun p q z => ?_, fun p _ _ _ => congrFun A p, NN, mLo_A A mLo_r⟩, ⟨?_, ?_, ?_, ?_, ?_, ?_, ?_, ?_, by rw [NN]; exact t1, by rw [NN]; exact t2⟩, ?_, ?_, mI_x e47⟩
  · refine (e47.2.2.1 p q (fun w => z ⟨w.1, Or.inr (Or.inr w.2)⟩)).trans ((e34.2.2.1 p q (fun w => z ⟨w.1, Or.inl (by unfold mFs; omega)⟩)).trans (e46.2.2.1 p q (fun w => z ⟨w.1, Or.inr (Or.inl w.2)⟩)))
  · rw [F 29 (by decide) (by decide) (by decide)]; exact p1
  · rw [F 28 (by decide) (by decide) (by decide), F 27 (by decide) (by decide) (by decide)]; exact p2
  · rw [F 33 (by decide) (by decide) (by decide)]; exact p3
  · rw [F 31 (by decide) (by decide) (by decide)]; exact p4
  · rw [f34]; decide
  · rw [F 30 (by decide) (by decide) (by decide)]; exact p6
  · rw [A, NN]; exact p7
  · exact p8
  · unfold mD
    rw [F 32 (by decide) (by decide) (by decide), d0, hk]
    rfl
  · unfold mst ms mEn
    rw [f46, hk, F 28 (by decide) (by decide) (by decide), F 33 (by decide) (by decide) (by decide), F 31 (by decide) (by decide) (by decide), F 30 (by decide) (by decide) (by decide), A]
theorem g_readsR {G : zG} (hG : G.1 = zProg) (hX : G.2.1 = ztx) {h : zH} {T : Nat → Int32} {n : Nat} (hs : tSh h) (hp : mP h) (hT : tA h 132 = T) (hN : mn h = n) {x : Int32} {tst : Bool} (hx0 : 0 ≤ x.toInt) (hx4 : stN x ≤ 4) (hts : x = 0 ↔ tst = true) (hd0 : tvI (tF h 111 32) = 0) : tC zTt G 223 [.ref 111, .int x] h (fun w h2 => w = none ∧ mFw h h2 ∧ ((mP h2 ∧ mD h2 ∧ mRe T n tst (stN x, [], ms h) (.inr (4, mSk h2, ms h2))) ∨ ∃ e, mFt h2 e ∧ mZp h2 ∧ mRe T n tst (stN x, [], ms h) (.inl e))) := by
  refine tC_in (by rw [hG]; rfl) (fun dp => ?_)
  refine tw_aload rfl rfl ?_
  refine tw_iload rfl rfl ?_
  refine tw_put rfl (fun f782 => ?_)
  refine tG_setm f782 (hw_111_46 f782 hs) (fun hf782 ef782 => ?_)
  try dsimp only [tvI_i] at ef782
  refine tw_aload rfl rfl ?_
  refine tw_push rfl ?_
  refine tw_put rfl (fun f783 => ?_)
  refine tG_setm f783 (hw_111_34 f783 ef782.1) (fun hf783 ef783 => ?_)
  try dsimp only [tvI_i] at ef783
  refine tw_aload rfl rfl ?_
  refine tw_iload rfl rfl ?_
  refine tw_if_ne rfl (fun q784 => ?_) (fun q784 => ?_)
  · try dsimp only [tvI_i, tvJ_j, tvR_r] at q784
    have q784i := zneq (Y := 0) (by decide) q784
    refine tw_push rfl ?_
    refine tw_put rfl (fun f785 => ?_)
    refine tG_setm f785 (hw_111_47 f785 ef783.1) (fun hf785 ef785 => ?_)
    try dsimp only [tvI_i] at ef785
    refine tG_loop (zW_mono zTt G dp) (zW_conj zTt G dp) (V := fun pc L st h9 _ _ => pc = 23 ∧ st = [] ∧ ∃ h1, h1 = h9 ∧ mFw h h1 ∧ (¬ tvI (tF h1 111 47) = 0 ↔ tst = true) ∧ ((mP h1 ∧ mD h1 ∧ mDp (mSk h1) ≤ 10 ∧ (mst h1).1 ≤ 4 ∧ mRe T n tst (stN x, [], ms h) (.inr (mst h1))) ∨ ∃ e, mFt h1 e ∧ mZp h1 ∧ mRe T n tst (stN x, [], ms h) (.inl e)) ∧ L = [some (.ref 111), some (.int x)]) ?_ (⟨rfl, rfl, _, rfl, (mRst hx0 hp hd0 ef782 ef783 ef785).1, (by rw [(mRst hx0 hp hd0 ef782 ef783 ef785).2.2.2.2]; exact ⟨fun z => absurd rfl z, fun z => absurd (hts.mpr z) q784⟩), Or.inl ⟨(mRst hx0 hp hd0 ef782 ef783 ef785).2.1, (mRst hx0 hp hd0 ef782 ef783 ef785).2.2.1, (by have z := congrArg (fun q : rMs => q.2.1) (mRst hx0 hp hd0 ef782 ef783 ef785).2.2.2.1; have z : mSk _ = [] := z; rw [z]; exact Nat.zero_le _), (by rw [(mRst hx0 hp hd0 ef782 ef783 ef785).2.2.2.1]; exact hx4), by rw [(mRst hx0 hp hd0 ef782 ef783 ef785).2.2.2.1]; exact mRe_0⟩, rfl⟩)
    rintro _ _ _ _ _ _ ⟨rfl, rfl, h1, rfl, gw, hT1, hv, rfl⟩
    refine tw_aload rfl rfl ?_
    refine tw_getS rfl (hi_111_46 gw.1) ?_
    refine tw_push rfl ?_
    refine tw_ic_eq rfl (fun q786 => ?_) (fun q786 => ?_)
    · try dsimp only [tvI_i, tvJ_j, tvR_r] at q786
      have q786i := zeqi (Y := 4) (by decide) q786
      rcases hv with ⟨hv1, hv2, hv3, hv4, hv6⟩ | ⟨e, hv1, hv2, hv3⟩
      · have hm1 : mst h1 = (4, mSk h1, ms h1) := by unfold mst; rw [q786]; rfl
        rw [hm1] at hv6
        exact tw_vret rfl ⟨rfl, gw, Or.inl ⟨hv1, hv2, hv6⟩⟩
      · exact tw_vret rfl ⟨rfl, gw, Or.inr ⟨e, hv1, hv2, hv3⟩⟩
    · try dsimp only [tvI_i, tvJ_j, tvR_r] at q786
      have q786i := zneq (Y := 4) (by decide) q786
      refine tw_aload rfl rfl ?_
      refine tw_getS rfl (hi_111_29 gw.1) ?_
      refine tw_if_ne rfl (fun q787 => ?_) (fun q787 => ?_)
      · try dsimp only [tvI_i, tvJ_j, tvR_r] at q787
        have q787i := zneq (Y := 0) (by decide) q787
        rcases hv with ⟨hv1, -⟩ | ⟨e, hv1, hv2, hv3⟩
        · exact absurd (mP_0 hv1) q787
        · exact tw_vret rfl ⟨rfl, gw, Or.inr ⟨e, hv1, hv2, hv3⟩⟩
      · try dsimp only [tvI_i, tvJ_j, tvR_r] at q787
        have q787i := zeqi (Y := 0) (by decide) q787
        refine tw_aload rfl rfl ?_
        refine tw_getS rfl (hi_111_46 gw.1) ?_
        refine tw_table rfl (fun q788 => ?_) (fun t9 q788a q788b q788c => ?_)
        · try dsimp only [tvI_i, tvJ_j, tvR_r] at q788
          refine tw_aload rfl rfl ?_
          obtain ⟨hv1, hv2, hv3, hv4, hv6⟩ := hv.resolve_right (fun z => by obtain ⟨e, z, -⟩ := z; exact mFt_n z q787)
          have hst : tvI (tF h1 111 46) = 3 := by
            refine Int32.toInt_inj.mp ?_
            show (tvI (tF h1 111 46)).toInt = 3
            have a4 : stN (tvI (tF h1 111 46)) ≤ 4 := hv4
            unfold stN at a4
            have a6 : ¬ (tvI (tF h1 111 46)).toInt < 0 := fun z => by rw [if_pos z] at a4; omega
            rw [if_neg a6] at a4
            have c29 : (2 : Int32).toInt = 2 := rfl
            have a5 : (tvI (tF h1 111 46)).toInt ≠ 4 := fun z => q786 (Int32.toInt_inj.mp z)
            have z0 := q788
            try dsimp only [tvI_i] at z0
            omega
          refine tw_virt0 rfl (g_behindFact hG hX gw.1 hv1 ((mFw_T gw).trans hT) ((mFw_n gw).trans hN) hv2 (Nat.le_trans hv3 (by decide)) hst) (fun wp789 hp789 p789 => ?_)
          obtain ⟨rfl, gp789, op789⟩ := p789
          refine tw_goto rfl ?_
          have hm1 : mst h1 = (3, mSk h1, ms h1) := by unfold mst; rw [hst]; rfl
          rw [hm1] at hv6
          refine tG_cut (zW_mono zTt G dp) (Or.inr ⟨rfl, rfl, _, rfl, mFw_t gw (mFw_q gp789), (by rw [mFq_47 gp789]; exact hT1), ?_, rfl⟩)
          cases hy : mSt T n tst (3, mSk h1, ms h1) with
          | inl e =>
            have op789 : mOut (mSt T n tst (3, mSk h1, ms h1)) hp789 := op789
            rw [hy] at op789
            exact Or.inr ⟨e, op789.1, op789.2, mRe_t hv6 (mRe_f hy)⟩
          | inr x2 =>
            have op789 : mOut (mSt T n tst (3, mSk h1, ms h1)) hp789 := op789
            rw [hy] at op789
            obtain ⟨o1, o2, o3⟩ := op789
            have hdp := mSt_dp hv3 (by decide) hy
            have o4 := mRe_t hv6 (mRe_s hy mRe_0)
            rw [← o3] at hdp o4
            exact Or.inl ⟨o1, o2, hdp.1, hdp.2, o4⟩
        · have q788d : (tvI (.int (tvI (tF h1 111 46)))).toInt = 0 ∨ (tvI (.int (tvI (tF h1 111 46)))).toInt = 1 ∨ (tvI (.int (tvI (tF h1 111 46)))).toInt = 2 := by omega
          rcases q788d with q788 | q788 | q788
          · obtain rfl : t9 = 68 := by rw [q788] at q788c; exact Option.some.inj (q788c.symm.trans rfl)
            try dsimp only [tvI_i, tvJ_j, tvR_r] at q788
            refine tw_aload rfl rfl ?_
            obtain ⟨hv1, hv2, hv3, hv4, hv6⟩ := hv.resolve_right (fun z => by obtain ⟨e, z, -⟩ := z; exact mFt_n z q787)
            have hst : tvI (tF h1 111 46) = 0 := by
              refine Int32.toInt_inj.mp ?_
              show (tvI (tF h1 111 46)).toInt = 0
              have a4 : stN (tvI (tF h1 111 46)) ≤ 4 := hv4
              unfold stN at a4
              have a6 : ¬ (tvI (tF h1 111 46)).toInt < 0 := fun z => by rw [if_pos z] at a4; omega
              rw [if_neg a6] at a4
              have c29 : (2 : Int32).toInt = 2 := rfl
              have a5 : (tvI (tF h1 111 46)).toInt ≠ 4 := fun z => q786 (Int32.toInt_inj.mp z)
              have z0 := q788
              try dsimp only [tvI_i] at z0
              omega
            refine tw_virt0 rfl (g_beginsFact hG hX gw.1 hv1 ((mFw_T gw).trans hT) ((mFw_n gw).trans hN) hv2 (Nat.le_trans hv3 (by decide)) hst) (fun wp790 hp790 p790 => ?_)
            obtain ⟨rfl, gp790, op790⟩ := p790
            refine tw_goto rfl ?_
            have hm1 : mst h1 = (0, mSk h1, ms h1) := by unfold mst; rw [hst]; rfl
            rw [hm1] at hv6
            refine tG_cut (zW_mono zTt G dp) (Or.inr ⟨rfl, rfl, _, rfl, mFw_t gw (mFw_q gp790), (by rw [mFq_47 gp790]; exact hT1), ?_, rfl⟩)
            cases hy : mSt T n tst (0, mSk h1, ms h1) with
            | inl e =>
              have op790 : mOut (mSt T n tst (0, mSk h1, ms h1)) hp790 := op790
              rw [hy] at op790
              exact Or.inr ⟨e, op790.1, op790.2, mRe_t hv6 (mRe_f hy)⟩
            | inr x2 =>
              have op790 : mOut (mSt T n tst (0, mSk h1, ms h1)) hp790 := op790
              rw [hy] at op790
              obtain ⟨o1, o2, o3⟩ := op790
              have hdp := mSt_dp hv3 (by decide) hy
              have o4 := mRe_t hv6 (mRe_s hy mRe_0)
              rw [← o3] at hdp o4
              exact Or.inl ⟨o1, o2, hdp.1, hdp.2, o4⟩
          · obtain rfl : t9 = 75 := by rw [q788] at q788c; exact Option.some.inj (q788c.symm.trans rfl)
            try dsimp only [tvI_i, tvJ_j, tvR_r] at q788
            refine tw_aload rfl rfl ?_
            obtain ⟨hv1, hv2, hv3, hv4, hv6⟩ := hv.resolve_right (fun z => by obtain ⟨e, z, -⟩ := z; exact mFt_n z q787)
            have hst : tvI (tF h1 111 46) = 1 := by
              refine Int32.toInt_inj.mp ?_
              show (tvI (tF h1 111 46)).toInt = 1
              have a4 : stN (tvI (tF h1 111 46)) ≤ 4 := hv4
              unfold stN at a4
              have a6 : ¬ (tvI (tF h1 111 46)).toInt < 0 := fun z => by rw [if_pos z] at a4; omega
              rw [if_neg a6] at a4
              have c29 : (2 : Int32).toInt = 2 := rfl
              have a5 : (tvI (tF h1 111 46)).toInt ≠ 4 := fun z => q786 (Int32.toInt_inj.mp z)
              have z0 := q788
              try dsimp only [tvI_i] at z0
              omega
            refine tw_virt0 rfl (g_value hG hX gw.1 hv1 ((mFw_T gw).trans hT) ((mFw_n gw).trans hN) hv2 (Nat.le_trans hv3 (by decide)) hst) (fun wp791 hp791 p791 => ?_)
            obtain ⟨rfl, gp791, op791⟩ := p791
            refine tw_goto rfl ?_
            have hm1 : mst h1 = (1, mSk h1, ms h1) := by unfold mst; rw [hst]; rfl
            rw [hm1] at hv6
            refine tG_cut (zW_mono zTt G dp) (Or.inr ⟨rfl, rfl, _, rfl, mFw_t gw (mFw_q gp791), (by rw [mFq_47 gp791]; exact hT1), ?_, rfl⟩)
            cases hy : mSt T n tst (1, mSk h1, ms h1) with
            | inl e =>
              have op791 : mOut (mSt T n tst (1, mSk h1, ms h1)) hp791 := op791
              rw [hy] at op791
              exact Or.inr ⟨e, op791.1, op791.2, mRe_t hv6 (mRe_f hy)⟩
            | inr x2 =>
              have op791 : mOut (mSt T n tst (1, mSk h1, ms h1)) hp791 := op791
              rw [hy] at op791
              obtain ⟨o1, o2, o3⟩ := op791
              have hdp := mSt_dp hv3 (by decide) hy
              have o4 := mRe_t hv6 (mRe_s hy mRe_0)
              rw [← o3] at hdp o4
              exact Or.inl ⟨o1, o2, hdp.1, hdp.2, o4⟩
          · obtain rfl : t9 = 82 := by rw [q788] at q788c; exact Option.some.inj (q788c.symm.trans rfl)
            try dsimp only [tvI_i, tvJ_j, tvR_r] at q788
            refine tw_aload rfl rfl ?_
            obtain ⟨hv1, hv2, hv3, hv4, hv6⟩ := hv.resolve_right (fun z => by obtain ⟨e, z, -⟩ := z; exact mFt_n z q787)
            have hst : tvI (tF h1 111 46) = 2 := by
              refine Int32.toInt_inj.mp ?_
              show (tvI (tF h1 111 46)).toInt = 2
              have a4 : stN (tvI (tF h1 111 46)) ≤ 4 := hv4
              unfold stN at a4
              have a6 : ¬ (tvI (tF h1 111 46)).toInt < 0 := fun z => by rw [if_pos z] at a4; omega
              rw [if_neg a6] at a4
              have c29 : (2 : Int32).toInt = 2 := rfl
              have a5 : (tvI (tF h1 111 46)).toInt ≠ 4 := fun z => q786 (Int32.toInt_inj.mp z)
              have z0 := q788
              try dsimp only [tvI_i] at z0
              omega
            refine tw_virt0 rfl (g_behindValue hG hX gw.1 hv1 ((mFw_T gw).trans hT) ((mFw_n gw).trans hN) hv2 (Nat.le_trans hv3 (by decide)) (tst := tst) hT1 hst) (fun wp792 hp792 p792 => ?_)
            obtain ⟨rfl, gp792, op792⟩ := p792
            refine tw_goto rfl ?_
            have hm1 : mst h1 = (2, mSk h1, ms h1) := by unfold mst; rw [hst]; rfl
            rw [hm1] at hv6
            refine tG_cut (zW_mono zTt G dp) (Or.inr ⟨rfl, rfl, _, rfl, mFw_t gw (mFw_q gp792), (by rw [mFq_47 gp792]; exact hT1), ?_, rfl⟩)
            cases hy : mSt T n tst (2, mSk h1, ms h1) with
            | inl e =>
              have op792 : mOut (mSt T n tst (2, mSk h1, ms h1)) hp792 := op792
              rw [hy] at op792
              exact Or.inr ⟨e, op792.1, op792.2, mRe_t hv6 (mRe_f hy)⟩
            | inr x2 =>
              have op792 : mOut (mSt T n tst (2, mSk h1, ms h1)) hp792 := op792
              rw [hy] at op792
              obtain ⟨o1, o2, o3⟩ := op792
              have hdp := mSt_dp hv3 (by decide) hy
              have o4 := mRe_t hv6 (mRe_s hy mRe_0)
              rw [← o3] at hdp o4
              exact Or.inl ⟨o1, o2, hdp.1, hdp.2, o4⟩
  · try dsimp only [tvI_i, tvJ_j, tvR_r] at q784
    have q784i := zeqi (Y := 0) (by decide) q784
    refine tw_push rfl ?_
    refine tw_goto rfl ?_
    refine tw_put rfl (fun f793 => ?_)
    refine tG_setm f793 (hw_111_47 f793 ef783.1) (fun hf793 ef793 => ?_)
    try dsimp only [tvI_i] at ef793
    refine tG_loop (zW_mono zTt G dp) (zW_conj zTt G dp) (V := fun pc L st h9 _ _ => pc = 23 ∧ st = [] ∧ ∃ h1, h1 = h9 ∧ mFw h h1 ∧ (¬ tvI (tF h1 111 47) = 0 ↔ tst = true) ∧ ((mP h1 ∧ mD h1 ∧ mDp (mSk h1) ≤ 10 ∧ (mst h1).1 ≤ 4 ∧ mRe T n tst (stN x, [], ms h) (.inr (mst h1))) ∨ ∃ e, mFt h1 e ∧ mZp h1 ∧ mRe T n tst (stN x, [], ms h) (.inl e)) ∧ L = [some (.ref 111), some (.int x)]) ?_ (⟨rfl, rfl, _, rfl, (mRst hx0 hp hd0 ef782 ef783 ef793).1, (by rw [(mRst hx0 hp hd0 ef782 ef783 ef793).2.2.2.2]; exact ⟨fun _ => hts.mp q784, fun _ => by decide⟩), Or.inl ⟨(mRst hx0 hp hd0 ef782 ef783 ef793).2.1, (mRst hx0 hp hd0 ef782 ef783 ef793).2.2.1, (by have z := congrArg (fun q : rMs => q.2.1) (mRst hx0 hp hd0 ef782 ef783 ef793).2.2.2.1; have z : mSk _ = [] := z; rw [z]; exact Nat.zero_le _), (by rw [(mRst hx0 hp hd0 ef782 ef783 ef793).2.2.2.1]; exact hx4), by rw [(mRst hx0 hp hd0 ef782 ef783 ef793).2.2.2.1]; exact mRe_0⟩, rfl⟩)
    rintro _ _ _ _ _ _ ⟨rfl, rfl, h1, rfl, gw, hT1, hv, rfl⟩
    refine tw_aload rfl rfl ?_
    refine tw_getS rfl (hi_111_46 gw.1) ?_
    refine tw_push rfl ?_
    refine tw_ic_eq rfl (fun q794 => ?_) (fun q794 => ?_)
    · try dsimp only [tvI_i, tvJ_j, tvR_r] at q794
      have q794i := zeqi (Y := 4) (by decide) q794
      rcases hv with ⟨hv1, hv2, hv3, hv4, hv6⟩ | ⟨e, hv1, hv2, hv3⟩
      · have hm1 : mst h1 = (4, mSk h1, ms h1) := by unfold mst; rw [q794]; rfl
        rw [hm1] at hv6
        exact tw_vret rfl ⟨rfl, gw, Or.inl ⟨hv1, hv2, hv6⟩⟩
      · exact tw_vret rfl ⟨rfl, gw, Or.inr ⟨e, hv1, hv2, hv3⟩⟩
    · try dsimp only [tvI_i, tvJ_j, tvR_r] at q794
      have q794i := zneq (Y := 4) (by decide) q794
      refine tw_aload rfl rfl ?_
      refine tw_getS rfl (hi_111_29 gw.1) ?_
      refine tw_if_ne rfl (fun q795 => ?_) (fun q795 => ?_)
      · try dsimp only [tvI_i, tvJ_j, tvR_r] at q795
        have q795i := zneq (Y := 0) (by decide) q795
        rcases hv with ⟨hv1, -⟩ | ⟨e, hv1, hv2, hv3⟩
        · exact absurd (mP_0 hv1) q795
        · exact tw_vret rfl ⟨rfl, gw, Or.inr ⟨e, hv1, hv2, hv3⟩⟩
      · try dsimp only [tvI_i, tvJ_j, tvR_r] at q795
        have q795i := zeqi (Y := 0) (by decide) q795
        refine tw_aload rfl rfl ?_
        refine tw_getS rfl (hi_111_46 gw.1) ?_
        refine tw_table rfl (fun q796 => ?_) (fun t9 q796a q796b q796c => ?_)
        · try dsimp only [tvI_i, tvJ_j, tvR_r] at q796
          refine tw_aload rfl rfl ?_
          obtain ⟨hv1, hv2, hv3, hv4, hv6⟩ := hv.resolve_right (fun z => by obtain ⟨e, z, -⟩ := z; exact mFt_n z q795)
          have hst : tvI (tF h1 111 46) = 3 := by
            refine Int32.toInt_inj.mp ?_
            show (tvI (tF h1 111 46)).toInt = 3
            have a4 : stN (tvI (tF h1 111 46)) ≤ 4 := hv4
            unfold stN at a4
            have a6 : ¬ (tvI (tF h1 111 46)).toInt < 0 := fun z => by rw [if_pos z] at a4; omega
            rw [if_neg a6] at a4
            have c29 : (2 : Int32).toInt = 2 := rfl
            have a5 : (tvI (tF h1 111 46)).toInt ≠ 4 := fun z => q794 (Int32.toInt_inj.mp z)
            have z0 := q796
            try dsimp only [tvI_i] at z0
            omega
          refine tw_virt0 rfl (g_behindFact hG hX gw.1 hv1 ((mFw_T gw).trans hT) ((mFw_n gw).trans hN) hv2 (Nat.le_trans hv3 (by decide)) hst) (fun wp797 hp797 p797 => ?_)
          obtain ⟨rfl, gp797, op797⟩ := p797
          refine tw_goto rfl ?_
          have hm1 : mst h1 = (3, mSk h1, ms h1) := by unfold mst; rw [hst]; rfl
          rw [hm1] at hv6
          refine tG_cut (zW_mono zTt G dp) (Or.inr ⟨rfl, rfl, _, rfl, mFw_t gw (mFw_q gp797), (by rw [mFq_47 gp797]; exact hT1), ?_, rfl⟩)
          cases hy : mSt T n tst (3, mSk h1, ms h1) with
          | inl e =>
            have op797 : mOut (mSt T n tst (3, mSk h1, ms h1)) hp797 := op797
            rw [hy] at op797
            exact Or.inr ⟨e, op797.1, op797.2, mRe_t hv6 (mRe_f hy)⟩
          | inr x2 =>
            have op797 : mOut (mSt T n tst (3, mSk h1, ms h1)) hp797 := op797
            rw [hy] at op797
            obtain ⟨o1, o2, o3⟩ := op797
            have hdp := mSt_dp hv3 (by decide) hy
            have o4 := mRe_t hv6 (mRe_s hy mRe_0)
            rw [← o3] at hdp o4
            exact Or.inl ⟨o1, o2, hdp.1, hdp.2, o4⟩
        · have q796d : (tvI (.int (tvI (tF h1 111 46)))).toInt = 0 ∨ (tvI (.int (tvI (tF h1 111 46)))).toInt = 1 ∨ (tvI (.int (tvI (tF h1 111 46)))).toInt = 2 := by omega
          rcases q796d with q796 | q796 | q796
          · obtain rfl : t9 = 68 := by rw [q796] at q796c; exact Option.some.inj (q796c.symm.trans rfl)
            try dsimp only [tvI_i, tvJ_j, tvR_r] at q796
            refine tw_aload rfl rfl ?_
            obtain ⟨hv1, hv2, hv3, hv4, hv6⟩ := hv.resolve_right (fun z => by obtain ⟨e, z, -⟩ := z; exact mFt_n z q795)
            have hst : tvI (tF h1 111 46) = 0 := by
              refine Int32.toInt_inj.mp ?_
              show (tvI (tF h1 111 46)).toInt = 0
              have a4 : stN (tvI (tF h1 111 46)) ≤ 4 := hv4
              unfold stN at a4
              have a6 : ¬ (tvI (tF h1 111 46)).toInt < 0 := fun z => by rw [if_pos z] at a4; omega
              rw [if_neg a6] at a4
              have c29 : (2 : Int32).toInt = 2 := rfl
              have a5 : (tvI (tF h1 111 46)).toInt ≠ 4 := fun z => q794 (Int32.toInt_inj.mp z)
              have z0 := q796
              try dsimp only [tvI_i] at z0
              omega
            refine tw_virt0 rfl (g_beginsFact hG hX gw.1 hv1 ((mFw_T gw).trans hT) ((mFw_n gw).trans hN) hv2 (Nat.le_trans hv3 (by decide)) hst) (fun wp798 hp798 p798 => ?_)
            obtain ⟨rfl, gp798, op798⟩ := p798
            refine tw_goto rfl ?_
            have hm1 : mst h1 = (0, mSk h1, ms h1) := by unfold mst; rw [hst]; rfl
            rw [hm1] at hv6
            refine tG_cut (zW_mono zTt G dp) (Or.inr ⟨rfl, rfl, _, rfl, mFw_t gw (mFw_q gp798), (by rw [mFq_47 gp798]; exact hT1), ?_, rfl⟩)
            cases hy : mSt T n tst (0, mSk h1, ms h1) with
            | inl e =>
              have op798 : mOut (mSt T n tst (0, mSk h1, ms h1)) hp798 := op798
              rw [hy] at op798
              exact Or.inr ⟨e, op798.1, op798.2, mRe_t hv6 (mRe_f hy)⟩
            | inr x2 =>
              have op798 : mOut (mSt T n tst (0, mSk h1, ms h1)) hp798 := op798
              rw [hy] at op798
              obtain ⟨o1, o2, o3⟩ := op798
              have hdp := mSt_dp hv3 (by decide) hy
              have o4 := mRe_t hv6 (mRe_s hy mRe_0)
              rw [← o3] at hdp o4
              exact Or.inl ⟨o1, o2, hdp.1, hdp.2, o4⟩
          · obtain rfl : t9 = 75 := by rw [q796] at q796c; exact Option.some.inj (q796c.symm.trans rfl)
            try dsimp only [tvI_i, tvJ_j, tvR_r] at q796
            refine tw_aload rfl rfl ?_
            obtain ⟨hv1, hv2, hv3, hv4, hv6⟩ := hv.resolve_right (fun z => by obtain ⟨e, z, -⟩ := z; exact mFt_n z q795)
            have hst : tvI (tF h1 111 46) = 1 := by
              refine Int32.toInt_inj.mp ?_
              show (tvI (tF h1 111 46)).toInt = 1
              have a4 : stN (tvI (tF h1 111 46)) ≤ 4 := hv4
              unfold stN at a4
              have a6 : ¬ (tvI (tF h1 111 46)).toInt < 0 := fun z => by rw [if_pos z] at a4; omega
              rw [if_neg a6] at a4
              have c29 : (2 : Int32).toInt = 2 := rfl
              have a5 : (tvI (tF h1 111 46)).toInt ≠ 4 := fun z => q794 (Int32.toInt_inj.mp z)
              have z0 := q796
              try dsimp only [tvI_i] at z0
              omega
            refine tw_virt0 rfl (g_value hG hX gw.1 hv1 ((mFw_T gw).trans hT) ((mFw_n gw).trans hN) hv2 (Nat.le_trans hv3 (by decide)) hst) (fun wp799 hp799 p799 => ?_)
            obtain ⟨rfl, gp799, op799⟩ := p799
            refine tw_goto rfl ?_
            have hm1 : mst h1 = (1, mSk h1, ms h1) := by unfold mst; rw [hst]; rfl
            rw [hm1] at hv6
            refine tG_cut (zW_mono zTt G dp) (Or.inr ⟨rfl, rfl, _, rfl, mFw_t gw (mFw_q gp799), (by rw [mFq_47 gp799]; exact hT1), ?_, rfl⟩)
            cases hy : mSt T n tst (1, mSk h1, ms h1) with
            | inl e =>
              have op799 : mOut (mSt T n tst (1, mSk h1, ms h1)) hp799 := op799
              rw [hy] at op799
              exact Or.inr ⟨e, op799.1, op799.2, mRe_t hv6 (mRe_f hy)⟩
            | inr x2 =>
              have op799 : mOut (mSt T n tst (1, mSk h1, ms h1)) hp799 := op799
              rw [hy] at op799
              obtain ⟨o1, o2, o3⟩ := op799
              have hdp := mSt_dp hv3 (by decide) hy
              have o4 := mRe_t hv6 (mRe_s hy mRe_0)
              rw [← o3] at hdp o4
              exact Or.inl ⟨o1, o2, hdp.1, hdp.2, o4⟩
          · obtain rfl : t9 = 82 := by rw [q796] at q796c; exact Option.some.inj (q796c.symm.trans rfl)
            try dsimp only [tvI_i, tvJ_j, tvR_r] at q796
            refine tw_aload rfl rfl ?_
            obtain ⟨hv1, hv2, hv3, hv4, hv6⟩ := hv.resolve_right (fun z => by obtain ⟨e, z, -⟩ := z; exact mFt_n z q795)
            have hst : tvI (tF h1 111 46) = 2 := by
              refine Int32.toInt_inj.mp ?_
              show (tvI (tF h1 111 46)).toInt = 2
              have a4 : stN (tvI (tF h1 111 46)) ≤ 4 := hv4
              unfold stN at a4
              have a6 : ¬ (tvI (tF h1 111 46)).toInt < 0 := fun z => by rw [if_pos z] at a4; omega
              rw [if_neg a6] at a4
              have c29 : (2 : Int32).toInt = 2 := rfl
              have a5 : (tvI (tF h1 111 46)).toInt ≠ 4 := fun z => q794 (Int32.toInt_inj.mp z)
              have z0 := q796
              try dsimp only [tvI_i] at z0
              omega
            refine tw_virt0 rfl (g_behindValue hG hX gw.1 hv1 ((mFw_T gw).trans hT) ((mFw_n gw).trans hN) hv2 (Nat.le_trans hv3 (by decide)) (tst := tst) hT1 hst) (fun wp800 hp800 p800 => ?_)
            obtain ⟨rfl, gp800, op800⟩ := p800
            refine tw_goto rfl ?_
            have hm1 : mst h1 = (2, mSk h1, ms h1) := by unfold mst; rw [hst]; rfl
            rw [hm1] at hv6
            refine tG_cut (zW_mono zTt G dp) (Or.inr ⟨rfl, rfl, _, rfl, mFw_t gw (mFw_q gp800), (by rw [mFq_47 gp800]; exact hT1), ?_, rfl⟩)
            cases hy : mSt T n tst (2, mSk h1, ms h1) with
            | inl e =>
              have op800 : mOut (mSt T n tst (2, mSk h1, ms h1)) hp800 := op800
              rw [hy] at op800
              exact Or.inr ⟨e, op800.1, op800.2, mRe_t hv6 (mRe_f hy)⟩
            | inr x2 =>
              have op800 : mOut (mSt T n tst (2, mSk h1, ms h1)) hp800 := op800
              rw [hy] at op800
              obtain ⟨o1, o2, o3⟩ := op800
              have hdp := mSt_dp hv3 (by decide) hy
              have o4 := mRe_t hv6 (mRe_s hy mRe_0)
              rw [← o3] at hdp o4
              exact Or.inl ⟨o1, o2, hdp.1, hdp.2, o4⟩
/-! the model's clause, held against what the class found -/
section R8
variable {T : Nat → Int32} {n c k : Nat} {s s0 s1 s2 s9 : rS} {r : Nat ⊕ (rS × rCt)} {e th f0 : Nat}
theorem rM_bb {M p : Nat} : rM T n M (rB T n p) = rM T n M p := by
  unfold rM
  rw [rB_2]
theorem rCl_0 (h : rCl T n c s r) (hk : ∀ k, 12 ≤ k → k ≤ 15 → ¬ rW T n (rB T n s.1) (rWd k) = true) : r = .inl (1 + 8 * rB T n s.1 + 0) := by
  rcases h with ⟨_, h⟩ | ⟨j, h1, h2, h3, _⟩
  · exact h
  · exact absurd h3 (hk j h1 h2)
theorem rCl_w (h : rCl T n c s r) (h1 : 12 ≤ k) (h2 : k ≤ 15) (hw : rW T n (rB T n s.1) (rWd k) = true) : (c = 12 ∧ r = .inl (1 + 8 * rB T n s.1 + 4)) ∨ (c ≠ 12 ∧ rCl1 T n k (rA (rE T n (rB T n s.1)) s) r) := by
  rcases h with ⟨h, _⟩ | ⟨j, j1, j2, j3, h⟩
  · exact absurd hw (h k h1 h2)
  · obtain rfl := rW_ij (by omega) (by omega) j3 hw
    exact h
theorem rCl_cc (h : rCl T n c s r) (h1 : 12 ≤ k) (h2 : k ≤ 15) (hw : rW T n (rB T n s.1) (rWd k) = true) (hc : c = 12) : r = .inl (1 + 8 * rB T n s.1 + 4) := by
  rcases rCl_w h h1 h2 hw with ⟨_, z⟩ | ⟨z, _⟩
  · exact z
  · exact absurd hc z
theorem rCl_g (h : rCl T n c s r) (h1 : 12 ≤ k) (h2 : k ≤ 15) (hw : rW T n (rB T n s.1) (rWd k) = true) (hc : c ≠ 12) : rCl1 T n k (rA (rE T n (rB T n s.1)) s) r := by
  rcases rCl_w h h1 h2 hw with ⟨z, _⟩ | ⟨_, z⟩
  · exact absurd z hc
  · exact z
theorem rCl1_e (h : rCl1 T n k s0 r) (hk : k = 12) (hm : rM T n 2 s0.1 = .inl e) : r = .inl e := by
  rcases h with ⟨_, ⟨e2, h2, h3⟩ | ⟨q, h2, _⟩⟩ | ⟨z, _⟩
  · rw [hm] at h2; cases h2; exact h3
  · rw [hm] at h2; cases h2
  · exact absurd hk z
theorem rCl1_q {q : Nat × Nat} (h : rCl1 T n k s0 r) (hk : k = 12) (hm : rM T n 2 s0.1 = .inr q) : rCl2 T n k q.2 (rA q.1 s0) r := by
  rcases h with ⟨_, ⟨e2, h2, h3⟩ | ⟨q2, h2, h3⟩⟩ | ⟨z, _⟩
  · rw [hm] at h2; cases h2
  · rw [hm] at h2; cases h2; exact h3
  · exact absurd hk z
theorem rCl1_n (h : rCl1 T n k s0 r) (hk : k ≠ 12) : rCl2 T n k k s0 r := by
  rcases h with ⟨z, _⟩ | ⟨_, h⟩
  · exact absurd z hk
  · exact h
theorem rCl2_15 (h : rCl2 T n k th s1 r) (hk : k = 15) : rCl3 T n k th s1.2.2.length s1 r := by
  rcases h with ⟨_, h⟩ | ⟨z, _⟩
  · exact h
  · exact absurd hk z
theorem pE_mS {r : Nat ⊕ rS} {y : rMo} (h : pE T n 3 0 s r) (m : mRe T n false (1, [], s) y) (hy : mHt y) : y = mEnd (r.map id (fun z => rA (rB T n z.1) z)) := by
  obtain ⟨N, hN⟩ := h
  refine mRe_u m (mSum (hN N (Nat.le_refl _))) hy ?_
  cases r with
  | inl e => exact trivial
  | inr s2 => exact Nat.le_refl 4
theorem pE_mT {r : Nat ⊕ rS} {y : rMo} (h : pE T n 9 0 s r) (m : mRe T n true (0, [], s) y) (hy : mHt y) : y = mEnd (r.map id (fun z => rA (rB T n z.1) z)) := by
  obtain ⟨N, hN⟩ := h
  refine mRe_u m (mTst (hN N (Nat.le_refl _))) hy ?_
  cases r with
  | inl e => exact trivial
  | inr s2 => exact Nat.le_refl 4
theorem rCl2_e (h : rCl2 T n k th s1 r) (hk : k ≠ 15) (hm : mRe T n false (1, [], s1) (.inl e)) : r = .inl e := by
  rcases h with ⟨z, _⟩ | ⟨_, ⟨e2, h2, h3⟩ | ⟨s2, h2, _⟩⟩
  · exact absurd z hk
  · have z := pE_mS h2 hm trivial
    cases z
    exact h3
  · have z := pE_mS h2 hm trivial
    cases z
theorem rCl2_s {S : List Nat} (h : rCl2 T n k th s1 r) (hk : k ≠ 15) (hm : mRe T n false (1, [], s1) (.inr (4, S, s9))) : S = [] ∧ ∃ s2, s9 = rA (rB T n s2.1) s2 ∧ rCl3 T n k th s1.2.2.length s2 r := by
  rcases h with ⟨z, _⟩ | ⟨_, ⟨e2, h2, _⟩ | ⟨s2, h2, h3⟩⟩
  · exact absurd z hk
  · have z := pE_mS h2 hm (Nat.le_refl 4)
    cases z
  · have z := pE_mS h2 hm (Nat.le_refl 4)
    have z : (Sum.inr (4, S, s9) : rMo) = .inr (4, [], rA (rB T n s2.1) s2) := z
    cases z
    exact ⟨rfl, s2, rfl, h3⟩
theorem rCl3_e (h : rCl3 T n k th f0 s2 r) (hw : rW T n (rB T n s2.1) (rWd 16) = true) (hm : mRe T n true (0, [], rA (rB T n s2.1 + 2) s2) (.inl e)) : r = .inl e := by
  rcases h with ⟨_, ⟨e2, h2, h3⟩ | ⟨s3, h2, _⟩⟩ | ⟨z, _⟩ | ⟨z, _⟩
  · have z := pE_mT h2 hm trivial
    cases z
    exact h3
  · have z := pE_mT h2 hm trivial
    cases z
  · exact absurd hw z
  · exact absurd hw z
theorem rCl3_s {S : List Nat} (h : rCl3 T n k th f0 s2 r) (hw : rW T n (rB T n s2.1) (rWd 16) = true) (hm : mRe T n true (0, [], rA (rB T n s2.1 + 2) s2) (.inr (4, S, s9))) : S = [] ∧ ∃ s3, s9 = rA (rB T n s3.1) s3 ∧ r = .inr (s3, th, f0, s2.2.2.length, s3.2.2.length) := by
  rcases h with ⟨_, ⟨e2, h2, _⟩ | ⟨s3, h2, h3⟩⟩ | ⟨z, _⟩ | ⟨z, _⟩
  · have z := pE_mT h2 hm (Nat.le_refl 4)
    cases z
  · have z := pE_mT h2 hm (Nat.le_refl 4)
    have z : (Sum.inr (4, S, s9) : rMo) = .inr (4, [], rA (rB T n s3.1) s3) := z
    cases z
    exact ⟨rfl, s3, rfl, h3⟩
  · exact absurd hw z
  · exact absurd hw z
theorem rCl3_1 (h : rCl3 T n k th f0 s2 r) (hw : ¬ rW T n (rB T n s2.1) (rWd 16) = true) (hk : k = 15) : r = .inl (1 + 8 * rB T n s2.1 + 0) := by
  rcases h with ⟨z, _⟩ | ⟨_, _, h⟩ | ⟨_, z, _⟩
  · exact absurd z hw
  · exact h
  · exact absurd hk z
theorem rCl3_2 (h : rCl3 T n k th f0 s2 r) (hw : ¬ rW T n (rB T n s2.1) (rWd 16) = true) (hk : k ≠ 15) : r = .inr (rA (rB T n s2.1) s2, th, f0, s2.2.2.length, s2.2.2.length) := by
  rcases h with ⟨z, _⟩ | ⟨_, z, _⟩ | ⟨_, _, h⟩
  · exact absurd z hw
  · exact absurd z hk
  · exact h
end R8
/-! a whole clause's frame: what lies below lo stays -/
noncomputable def mFz (lo : Nat) (h h2 : zH) : Prop := tSh h2 ∧ (∀ p b, ¬ (p = 111 ∧ (mFs b ∨ b = 46 ∨ b = 47)) → tF h2 p b = tF h p b) ∧ (∀ p, p ≠ 133 → p ≠ 134 → p ≠ 142 → (p < 135 ∨ 139 < p) → tA h2 p = tA h p) ∧ tN h2 = tN h ∧ mLo h h2 ∧ ∀ p q, 135 ≤ p → p ≤ 139 → q < lo → tA h2 p q = tA h p q
noncomputable def mAs (p i : Nat) (x : Int32) (h h3 : zH) : Prop := tSh h3 ∧ tF h3 = tF h ∧ tN h3 = tN h ∧ tA h3 = fun q j => if q = p ∧ j = i then x else tA h q j
section MZ
variable {h h1 h2 h3 : zH} {b e lo p i : Nat} {X x : Int32}
theorem mFz_r (hs : tSh h) : mFz lo h h := ⟨hs, fun _ _ _ => rfl, fun _ _ _ _ _ => rfl, rfl, mLo_r, fun _ _ _ _ _ => rfl⟩
theorem mFz_w (k : mFw h h2) : mFz lo h h2 := ⟨k.1, k.2.1, fun p a b c _ => k.2.2.1 p a b c, k.2.2.2.1, k.2.2.2.2, fun p q h1 h2 _ => congrFun (k.2.2.1 p (by omega) (by omega) (by omega)) q⟩
theorem mFw_f (k : mFr h h2) : mFw h h2 := mFw_q (mFq_f k)
theorem mFz_t (a : mFz lo h h1) (k : mFz lo h1 h2) : mFz lo h h2 := ⟨k.1, fun p q z => (k.2.1 p q z).trans (a.2.1 p q z), fun p z w y v => (k.2.2.1 p z w y v).trans (a.2.2.1 p z w y v), k.2.2.2.1.trans a.2.2.2.1, mLo_t (a.2.1 111 30 (fun z => by have z := z.2; unfold mFs at z; omega)) a.2.2.2.2.1 k.2.2.2.2.1, fun p q z w v => (k.2.2.2.2.2 p q z w v).trans (a.2.2.2.2.2 p q z w v)⟩
theorem mFz_l {l2 : Nat} (hl : l2 ≤ lo) (a : mFz lo h h1) : mFz l2 h h1 := ⟨a.1, a.2.1, a.2.2.1, a.2.2.2.1, a.2.2.2.2.1, fun p q z w v => a.2.2.2.2.2 p q z w (by omega)⟩
theorem mFz_s (a : mFz lo h h1) (k : mSet b X h1 h2) (hb : mFs b ∨ b = 46 ∨ b = 47) : mFz lo h h2 := mFz_t a (mFz_w (mFw_s ⟨a.1, fun _ _ _ => rfl, fun _ _ _ _ => rfl, rfl, mLo_r⟩ k hb))
theorem mFz_a (a : mFz lo h h1) (k : mAs p i x h1 h2) (hp : 135 ≤ p ∧ p ≤ 139) (hi : lo ≤ i) : mFz lo h h2 := mFz_t a ⟨k.1, fun p q _ => by rw [k.2.1], fun q h1 h2 h3 h4 => by rw [k.2.2.2]; funext j; exact if_neg (fun z => by omega), k.2.2.1, fun q _ => ⟨by rw [k.2.2.2]; exact if_neg (fun z => by omega), by rw [k.2.2.2]; exact if_neg (fun z => by omega)⟩, fun q j h1 h2 h3 => by rw [k.2.2.2]; exact if_neg (fun z => by omega)⟩
theorem mFz_T (a : mFz lo h h1) : tA h1 132 = tA h 132 := a.2.2.1 132 (by decide) (by decide) (by decide) (by decide)
theorem mFz_i {q : Nat} (a : mFz lo h h1) (hq : ¬ (mFs q ∨ q = 46 ∨ q = 47)) : tF h1 111 q = tF h 111 q := a.2.1 111 q (fun z => hq z.2)
theorem mFz_27 (a : mFz lo h h1) : tF h1 111 27 = tF h 111 27 := mFz_i a (fun z => by unfold mFs at z; omega)
theorem mFz_30 (a : mFz lo h h1) : tF h1 111 30 = tF h 111 30 := mFz_i a (fun z => by unfold mFs at z; omega)
theorem mFz_n (a : mFz lo h h1) : mn h1 = mn h := by
  unfold mn
  rw [mFz_27 a]
theorem tG_ast {tt : zT} {G : zG} {cd : zK} {bc bs : Nat} {rt : Option FieldType} {M : zM} {Q : zQ} {Z : zX} {f : Bool} {pc : Nat} {L : zL} {st : List Value} {c n kd : Nat} {i : Int32} (hf : tIn h p kd i) (hs : tSh h) (k : ∀ h3, mAs p i.toNatClampNeg x h h3 → tG tt G cd bc bs rt M Q Z f pc L st h3 c n) : tG tt G cd bc bs rt M Q Z f pc L st (tSA h p i.toNatClampNeg x) c n := k _ ⟨tSh_SA hs, tF_tSA _ _ _ _, tN_tSA _ _ _ _, tA_tSA hf.cell _ _⟩
theorem mAs_x (k : mAs p i x h h3) : tA h3 p i = x := by rw [k.2.2.2]; exact if_pos ⟨rfl, rfl⟩
theorem mAs_o {q j : Nat} (k : mAs p i x h h3) (hq : q ≠ p) : tA h3 q j = tA h q j := by rw [k.2.2.2]; exact if_neg (fun z => hq z.1)
theorem mAs_A {q : Nat} (k : mAs p i x h h3) (hq : q ≠ p) : tA h3 q = tA h q := by funext j; exact mAs_o k hq
theorem mAs_P (k : mAs p i x h h3) (hp : 135 ≤ p ∧ p ≤ 139) (P : mP h) : mP h3 := by
  unfold mP
  rw [k.2.1, k.2.2.1, mAs_A k (q := 142) (by omega)]
  exact P
theorem mAs_m (k : mAs p i x h h3) (hp : 135 ≤ p ∧ p ≤ 139) : ms h3 = ms h ∧ mSk h3 = mSk h := by
  unfold ms mEn mSk
  rw [k.2.1, mAs_A k (q := 142) (by omega), mAs_A k (q := 133) (by omega), mAs_A k (q := 134) (by omega)]
  exact ⟨rfl, rfl⟩
theorem mAs_F {w : Nat} (k : mAs p i x h h3) (F : mFt h w) : mFt h3 w := by
  unfold mFt
  rw [k.2.1]
  exact F
theorem mAs_Z (k : mAs p i x h h3) (z : mZp h) : mZp h3 := mZp_k z (by rw [k.2.1]) (by rw [k.2.1])
/-- a clause as it stands in its row -/
noncomputable def mRow (h : zH) (i : Nat) : rCt := (if (tA h 135 i).toNatClampNeg = 0 ∧ (tA h 136 i).toNatClampNeg < 12 then (tA h 136 i).toNatClampNeg else 12 + (tA h 135 i).toNatClampNeg + 100 * (tA h 136 i).toNatClampNeg, (tA h 137 i).toNatClampNeg, (tA h 138 i).toNatClampNeg, (tA h 139 i).toNatClampNeg)
theorem mEn_len : (mEn h).length = (tvI (tF h 111 31)).toNatClampNeg := by unfold mEn; rw [List.length_map, List.length_range]
theorem rB_A {T : Nat → Int32} {n : Nat} {s : rS} : rA (rB T n (rA (rB T n s.1) s).1) (rA (rB T n s.1) s) = rA (rB T n s.1) s := by
  show rA (rB T n (rB T n s.1)) _ = _
  rw [rB_2]
  rfl
end MZ
theorem zl_14 {k : Nat} (hk : k < 4) : (ztx (k + 14)).length ≤ 200 ∧ 0 < (ztx (k + 14)).length := zl_lo (k + 12) (by omega)
theorem rWd_14 {k : Nat} (hk : k < 4) : rWd (k + 12) = ztx (k + 14) := rWd_lo (k + 12) (by omega)
theorem mFw_A {h h2 : zH} {p : Nat} (k : mFw h h2) (hp : 135 ≤ p ∧ p ≤ 139) : tA h2 p = tA h p := k.2.2.1 p (by omega) (by omega) (by omega)
theorem mFt_pos {h : zH} {e : Nat} (k : mFt h e) : 0 < e ∧ e < 100000 := k.2
theorem mSk_0 {h : zH} (d : mD h) (e : mSk h = []) : tvI (tF h 111 32) = 0 := by
  refine Int32.toInt_inj.mp (d.trans ?_)
  rw [e]
  rfl
theorem rA_1 {b : Nat} {s : rS} : (rA b s).1 = b := rfl
theorem rA_A {b v : Nat} {s : rS} : rA v (rA b s) = rA v s := rfl
theorem mIx {a y : Int32} {c : Nat} (ha : 0 ≤ a.toInt ∧ a.toInt ≤ 10) (hy : y.toInt = c) (hc : c ≤ 12) : (12 * a + y).toNatClampNeg = 12 * a.toNatClampNeg + c := by
  have n1 : (12 * a).toInt = 12 * a.toInt := by
    rw [Int32.toInt_mul, show (12 : Int32).toInt = 12 from rfl]
    exact Int.bmod_eq_of_le (by show (-2147483648 : Int) ≤ 12 * a.toInt; omega) (by show 12 * a.toInt < (2147483648 : Int); omega)
  have n2 : (12 * a + y).toInt = 12 * a.toInt + c := by
    rw [Int32.toInt_add, n1, hy]
    exact Int.bmod_eq_of_le (by show (-2147483648 : Int) ≤ 12 * a.toInt + c; omega) (by show 12 * a.toInt + c < (2147483648 : Int); omega)
  rw [zclE, zclE, n2]
  omega
noncomputable def mCo (T : Nat → Int32) (n I : Nat) (r : Nat ⊕ (rS × rCt)) (h2 : zH) : Prop := match r with
  | .inl e => mFt h2 e ∧ mZp h2
  | .inr x => mP h2 ∧ ms h2 = rA (rB T n x.1.1) x.1 ∧ tvI (tF h2 111 32) = 0 ∧ mRow h2 I = x.2
theorem mCo_l {T : Nat → Int32} {n I e : Nat} {r : Nat ⊕ (rS × rCt)} {h2 : zH} (hr : r = .inl e) (F : mFt h2 e) (Z : mZp h2) : mCo T n I r h2 := by
  rw [hr]
  exact ⟨F, Z⟩
theorem mCo_r {T : Nat → Int32} {n I : Nat} {r : Nat ⊕ (rS × rCt)} {h2 : zH} {s : rS} {t : rCt} (hr : r = .inr (s, t)) (p : mP h2) (e : ms h2 = rA (rB T n s.1) s) (d : tvI (tF h2 111 32) = 0) (w : mRow h2 I = t) : mCo T n I r h2 := by
  rw [hr]
  exact ⟨p, e, d, w⟩
theorem y_blanks {G : zG} (hG : G.1 = zProg) (hX : G.2.1 = ztx) {h : zH} {T : Nat → Int32} {n : Nat} (hs : tSh h) {ef : Nat} (hp : mFt h ef) (hT : tA h 132 = T) (hN : mn h = n) (h0 : mZp h) : tC zTt G 203 [.ref 111] h (fun w h2 => w = none ∧ mFr h h2 ∧ mFt h2 ef ∧ mZp h2) := by
  refine tC_in (by rw [hG]; rfl) (fun dp => ?_)
  have g0 := mFr_r hs
  refine tG_loop (zW_mono zTt G dp) (zW_conj zTt G dp) (V := fun pc L st h9 _ _ => pc = 0 ∧ st = [] ∧ ∃ h1, h1 = h9 ∧ mFr h h1 ∧ mFt h1 ef ∧ mZp h1 ∧ L = [some (.ref 111)]) ?_ (⟨rfl, rfl, _, rfl, g0, hp, h0, rfl⟩)
  rintro _ _ _ _ _ _ ⟨rfl, rfl, h1, rfl, g1, z1, h0, rfl⟩
  refine tw_aload rfl rfl ?_
  refine tw_virt0 rfl (g_sign hG hX (g1).1 ((mFr_T g1).trans hT) ((mFr_n g1).trans hN) h0.1) (fun wp801 hp801 p801 => ?_)
  obtain ⟨⟨cp801, rfl, kp801⟩, rfl⟩ := p801
  refine tw_push rfl ?_
  refine tw_ic_ne rfl (fun q802 => ?_) (fun q802 => ?_)
  · try dsimp only [tvI_i, tvJ_j, tvR_r] at q802
    have q802i := zneq (Y := 32) (by decide) q802
    exact tw_vret rfl ⟨rfl, g1, z1, h0⟩
  · try dsimp only [tvI_i, tvJ_j, tvR_r] at q802
    have q802i := zeqi (Y := 32) (by decide) q802
    refine tw_aload rfl rfl ?_
    refine tw_dup rfl ?_
    refine tw_getS rfl (hi_111_28 (g1).1) ?_
    refine tw_push rfl ?_
    refine tw_iadd rfl ?_
    refine tw_put rfl (fun f803 => ?_)
    refine tG_setm f803 (hw_111_28 f803 (g1).1) (fun hf803 ef803 => ?_)
    try dsimp only [tvI_i] at ef803
    have gf803 := mFr_s g1 ef803 (by unfold mFs; omega)
    have zf803 := mFt_s z1 ef803 (by decide)
    have wf803 := (sgm_k kp801 32 (by decide)).mp q802
    have if803 : mZp hf803 := by
      have y := (mpos h0.1).mpr (by rw [((mFr_n g1).trans hN)]; exact wf803.1)
      have a := zj1 h0.1.1 y
      have b := h0
      unfold mZp at b ⊢
      rw [mI_x ef803, mI_o ef803 (by decide), a]
      exact ⟨⟨by omega, by omega⟩, by omega, by omega⟩
    refine tw_goto rfl ?_
    exact tG_cut (zW_mono zTt G dp) (Or.inr ⟨rfl, rfl, _, rfl, gf803, zf803, if803, rfl⟩)
theorem g_clause {G : zG} (hG : G.1 = zProg) (hX : G.2.1 = ztx) {h : zH} {T : Nat → Int32} {n : Nat} (hs : tSh h) (hp : mP h) (hT : tA h 132 = T) (hN : mn h = n) {y : Int32} {c I : Nat} (hy : y.toInt = c) (hc : c ≤ 12) (hI : I = 12 * (tvI (tF h 111 30)).toNatClampNeg + c) (hd9 : tvI (tF h 111 32) = 0) {r : Nat ⊕ (rS × rCt)} (hr0 : rCl T n c (ms h) r) : tC zTt G 224 [.ref 111, .int y] h (fun w h2 => w = none ∧ mFz I h h2 ∧ mCo T n I r h2) := by
  refine tC_in (by rw [hG]; rfl) (fun dp => ?_)
  have g0 : mFz I h h := mFz_r hs
  have hpn : (ms h).1 ≤ n := mPle hp hN
  have hn4 : n ≤ 400 := by have a := mNl hp hN; have b := hp.2.1; omega
  have c09 : (0 : Int32).toInt = 0 := rfl
  have c39 : (3 : Int32).toInt = 3 := rfl
  have c49 : (4 : Int32).toInt = 4 := rfl
  have c129 : (12 : Int32).toInt = 12 := rfl
  refine tw_aload rfl rfl ?_
  refine tw_virt0 rfl (g_blanks hG hX (g0).1 hp ((mFz_T g0).trans hT) ((mFz_n g0).trans hN)) (fun wp804 hp804 p804 => ?_)
  obtain ⟨rfl, gp804, pp804e, sp804, tp804, dp804⟩ := p804
  have gwp804 := mFw_f gp804
  have gzp804 : mFz I h hp804 := mFz_t g0 (mFz_w gwp804)
  have Dp804 : tvI (tF hp804 111 32) = 0 := by rw [dp804]; exact hd9
  have Sp804 : ms hp804 = (rA (rB T n (ms h).1) (ms h)) := sp804
  refine tw_aload rfl rfl ?_
  refine tw_getS rfl (hi_111_28 gzp804.1) ?_
  refine tw_istore rfl ?_
  refine tw_push rfl ?_
  refine tw_istore rfl ?_
  refine tG_loop (zW_mono zTt G dp) (zW_conj zTt G dp) (V := fun pc L st h9 _ _ => pc = 11 ∧ st = [] ∧ hp804 = h9 ∧ ∃ (k : Nat) (x : Int32), x.toInt = k ∧ k ≤ 4 ∧ (∀ i, i < k → ¬ rW T n (rB T n (ms h).1) (rWd (i + 12)) = true) ∧ L = [some (.ref 111), some (.int y), some (.int (tvI (tF hp804 111 28))), some (.int x), none, none]) ?_ (⟨rfl, rfl, rfl, 0, 0, rfl, by decide, fun i hi => absurd hi (Nat.not_lt_zero _), rfl⟩)
  rintro _ _ _ _ _ _ ⟨rfl, rfl, rfl, k, x, hx, hk5, hall, rfl⟩
  refine tw_iload rfl rfl ?_
  refine tw_push rfl ?_
  refine tw_ic_ge rfl (fun q805 => ?_) (fun q805 => ?_)
  · try dsimp only [tvI_i, tvJ_j, tvR_r] at q805
    refine tw_iload rfl rfl ?_
    refine tw_push rfl ?_
    refine tw_ic_ne rfl (fun q806 => ?_) (fun q806 => ?_)
    · try dsimp only [tvI_i, tvJ_j, tvR_r] at q806
      have q806i := zneq (Y := 4) (by decide) q806
      exfalso
      have z1 := q805
      have z2 := q806i
      omega
    · try dsimp only [tvI_i, tvJ_j, tvR_r] at q806
      have q806i := zeqi (Y := 4) (by decide) q806
      refine tw_aload rfl rfl ?_
      refine tw_push rfl ?_
      refine tw_iload rfl rfl ?_
      refine tw_virt2 rfl (g_fails hG hX (gzp804).1 pp804e ((mFz_T gzp804).trans hT) ((mFz_n gzp804).trans hN) (w := 0) rfl (by decide) (mPl pp804e) (by have := mPle pp804e ((mFz_n gzp804).trans hN); have := mNl pp804e ((mFz_n gzp804).trans hN); have := pp804e.2.1; omega)) (fun wp807 hp807 p807 => ?_)
      obtain ⟨rfl, gp807, Fp807, ip807, jp807⟩ := p807
      have gwp807 := mFw_f gp807
      have gzp807 : mFz I h hp807 := mFz_t gzp804 (mFz_w gwp807)
      have Zp807 : mZp hp807 := mZp_k (mZp_p pp804e) ip807 jp807
      rw [Sp804, rA_1] at Fp807
      have hk : k = 4 := by have z := q806i; omega
      have hr := rCl_0 hr0 (fun j h1 h2 => by have z := hall (j - 12) (by omega); rw [show j - 12 + 12 = j by omega] at z; exact z)
      exact tw_vret rfl ⟨rfl, gzp807, mCo_l hr Fp807 Zp807⟩
  · try dsimp only [tvI_i, tvJ_j, tvR_r] at q805
    refine tw_aload rfl rfl ?_
    refine tw_iload rfl rfl ?_
    refine tw_stat1 rfl (g_thingName hG (k := k) hx (by have z := q805; omega)) (fun wp808 hp808 p808 => ?_)
    obtain ⟨rfl, rfl⟩ := p808
    refine tw_virt1 rfl (g_stands hG hX (gzp804).1 ((mFz_T gzp804).trans hT) ((mFz_n gzp804).trans hN) (q := (k + 14)) (zl_14 (by have z := q805; omega)).1 ⟨pp804e.2.1.1, by have := pp804e.2.1; omega⟩ ⟨by have := pp804e.2.1; omega, pp804e.2.1.2.2⟩) (fun w9 h9 p809 => ?_)
    obtain ⟨⟨p809, rfl⟩ | ⟨p809, rfl⟩, rfl⟩ := p809
    · try dsimp only [tvI_i, tvJ_j, tvR_r] at p809
      refine tw_if_ne rfl (fun _ => ?_) (fun z => absurd z (by decide))
      refine tw_iload rfl rfl ?_
      refine tw_push rfl ?_
      refine tw_ic_ne rfl (fun q810 => ?_) (fun q810 => ?_)
      · try dsimp only [tvI_i, tvJ_j, tvR_r] at q810
        have q810i := zneq (Y := 4) (by decide) q810
        refine tw_iload rfl rfl ?_
        refine tw_push rfl ?_
        refine tw_ic_ne rfl (fun q811 => ?_) (fun q811 => ?_)
        · try dsimp only [tvI_i, tvJ_j, tvR_r] at q811
          have q811i := zneq (Y := 12) (by decide) q811
          refine tw_aload rfl rfl ?_
          refine tw_dup rfl ?_
          refine tw_getS rfl (hi_111_28 (gzp804).1) ?_
          refine tw_iload rfl rfl ?_
          have hk4 : k < 4 := by have z := q805; omega
          refine tw_stat1 rfl (g_thingName hG (k := k) hx hk4) (fun wp812 hp812 p812 => ?_)
          obtain ⟨rfl, rfl⟩ := p812
          refine tw_tlen rfl ?_
          refine tw_iadd rfl ?_
          refine tw_put rfl (fun f813 => ?_)
          refine tG_setm f813 (hw_111_28 f813 (gzp804).1) (fun hf813 ef813 => ?_)
          try dsimp only [tvI_i] at ef813
          have gf813 : mFz I h hf813 := mFz_s gzp804 ef813 (Or.inl (by unfold mFs; omega))
          have hk4 : k < 4 := by have z := q805; omega
          have hw : rW T n (rB T n (ms h).1) (rWd (k + 12)) = true := by have z := p809; rw [Sp804, rA_1] at z; rw [rWd_14 hk4]; exact z
          have hcn : c ≠ 12 := by have z := q811i; omega
          have K1 := rCl_g hr0 (k := k + 12) (by omega) (by omega) hw hcn
          have hre : rE T n (rB T n (ms h).1) = (rB T n (ms h).1) + (ztx (k + 14)).length := by rw [rW_e hw, rWd_14 hk4]
          have hre2 := rE_le (T := T) (rB_le (T := T) hpn)
          have hln : (Int32.ofNat (G.2.1 (k + 14)).length).toInt = ((ztx (k + 14)).length : Int) := by rw [hX]; exact zofI (by have := (zl_14 hk4).1; omega)
          obtain ⟨pf813, sf813, tf813⟩ := mTo pp804e ((mFz_n gzp804).trans hN) ef813 (v := (rB T n (ms h).1) + (ztx (k + 14)).length) (zadN (a := (rB T n (ms h).1)) (by rw [mPl pp804e, Sp804, rA_1]) hln (by omega) (by have := (zl_14 hk4).1; omega)) (by omega)
          have Sf813 : ms hf813 = (rA (rE T n (rB T n (ms h).1)) (ms h)) := by rw [sf813, Sp804, ← hre, rA_A]
          have Df813 : tvI (tF hf813 111 32) = 0 := by rw [mI_o ef813 (by decide)]; exact Dp804
          have gwf813 : tA hf813 = tA hp804 := ef813.2.2.2.1
          refine tw_push rfl ?_
          refine tw_aload rfl rfl ?_
          refine tw_getS rfl (hi_111_30 (gf813).1) ?_
          refine tw_imul rfl ?_
          refine tw_iload rfl rfl ?_
          refine tw_iadd rfl ?_
          refine tw_istore rfl ?_
          refine tw_aload rfl rfl ?_
          refine tw_getS rfl (hs_111_38 (gf813).1) ?_
          refine tw_iload rfl rfl ?_
          refine tw_iload rfl rfl ?_
          refine tw_iast rfl (fun f814 => ?_)
          have hI9 : (12 * tvI (tF hf813 111 30) + y).toNatClampNeg = I := by rw [mIx (pf813.2.2.2.2.2.1) hy hc, show tF hf813 111 30 = tF h 111 30 from mFz_30 gf813, ← hI]
          refine tG_ast f814 (gf813).1 (fun hf814 af814 => ?_)
          try dsimp only [tvI_i, tvR_r] at af814
          rw [hI9] at af814
          have gf814 : mFz I h hf814 := mFz_a gf813 af814 (by decide) (Nat.le_refl _)
          have pf814 := mAs_P af814 (by decide) pf813
          have Sf814 : ms hf814 = (rA (rE T n (rB T n (ms h).1)) (ms h)) := (mAs_m af814 (by decide)).1.trans Sf813
          have Df814 : tvI (tF hf814 111 32) = 0 := by rw [af814.2.1]; exact Df813
          refine tw_aload rfl rfl ?_
          refine tw_getS rfl (hs_111_39 (gf814).1) ?_
          refine tw_iload rfl rfl ?_
          refine tw_push rfl ?_
          refine tw_iast rfl (fun f815 => ?_)
          refine tG_ast f815 (gf814).1 (fun hf815 af815 => ?_)
          try dsimp only [tvI_i, tvR_r] at af815
          rw [hI9] at af815
          have gf815 : mFz I h hf815 := mFz_a gf814 af815 (by decide) (Nat.le_refl _)
          have pf815 := mAs_P af815 (by decide) pf814
          have Sf815 : ms hf815 = (rA (rE T n (rB T n (ms h).1)) (ms h)) := (mAs_m af815 (by decide)).1.trans Sf814
          have Df815 : tvI (tF hf815 111 32) = 0 := by rw [af815.2.1]; exact Df814
          refine tw_iload rfl rfl ?_
          refine tw_if_ne rfl (fun q816 => ?_) (fun q816 => ?_)
          · try dsimp only [tvI_i, tvJ_j, tvR_r] at q816
            have q816i := zneq (Y := 0) (by decide) q816
            refine tw_aload rfl rfl ?_
            refine tw_getS rfl (hs_111_40 (gf815).1) ?_
            refine tw_iload rfl rfl ?_
            refine tw_aload rfl rfl ?_
            refine tw_getS rfl (hi_111_31 (gf815).1) ?_
            refine tw_iast rfl (fun f817 => ?_)
            have Lf817 : (tvI (tF hf815 111 31)).toNatClampNeg = (rA (rE T n (rB T n (ms h).1)) (ms h)).2.2.length := by rw [← mEn_len]; exact congrArg (fun z : rS => z.2.2.length) Sf815
            have K2 : rCl2 T n (k + 12) (k + 12) (rA (rE T n (rB T n (ms h).1)) (ms h)) r := rCl1_n K1 (by have z := q816i; omega)
            refine tG_ast f817 (gf815).1 (fun hf817 af817 => ?_)
            try dsimp only [tvI_i, tvR_r] at af817
            rw [hI9] at af817
            have gf817 : mFz I h hf817 := mFz_a gf815 af817 (by decide) (Nat.le_refl _)
            have pf817 := mAs_P af817 (by decide) pf815
            have Sf817 : ms hf817 = (rA (rE T n (rB T n (ms h).1)) (ms h)) := (mAs_m af817 (by decide)).1.trans Sf815
            have Df817 : tvI (tF hf817 111 32) = 0 := by rw [af817.2.1]; exact Df815
            refine tw_iload rfl rfl ?_
            refine tw_push rfl ?_
            refine tw_ic_eq rfl (fun q818 => ?_) (fun q818 => ?_)
            · try dsimp only [tvI_i, tvJ_j, tvR_r] at q818
              have q818i := zeqi (Y := 3) (by decide) q818
              refine tw_aload rfl rfl ?_
              refine tw_getS rfl (hs_111_41 (gf817).1) ?_
              refine tw_iload rfl rfl ?_
              refine tw_aload rfl rfl ?_
              refine tw_getS rfl (hi_111_31 (gf817).1) ?_
              refine tw_iast rfl (fun f819 => ?_)
              have Lf819 : (tvI (tF hf817 111 31)).toNatClampNeg = (rA (rE T n (rB T n (ms h).1)) (ms h)).2.2.length := by rw [← mEn_len]; exact congrArg (fun z : rS => z.2.2.length) Sf817
              refine tG_ast f819 (gf817).1 (fun hf819 af819 => ?_)
              try dsimp only [tvI_i, tvR_r] at af819
              rw [hI9] at af819
              have gf819 : mFz I h hf819 := mFz_a gf817 af819 (by decide) (Nat.le_refl _)
              have pf819 := mAs_P af819 (by decide) pf817
              have Sf819 : ms hf819 = (rA (rE T n (rB T n (ms h).1)) (ms h)) := (mAs_m af819 (by decide)).1.trans Sf817
              have Df819 : tvI (tF hf819 111 32) = 0 := by rw [af819.2.1]; exact Df817
              refine tw_aload rfl rfl ?_
              obtain ⟨s2, hs2⟩ : ∃ s2, (rA (rE T n (rB T n (ms h).1)) (ms h)) = s2 := ⟨_, rfl⟩
              have K3 := rCl2_15 K2 (by have z := q818i; omega)
              rw [hs2] at K3
              have sm2 := Sf819.trans hs2
              refine tw_virt0 rfl (g_blanks hG hX (gf819).1 pf819 ((mFz_T gf819).trans hT) ((mFz_n gf819).trans hN)) (fun wp820 hp820 p820 => ?_)
              obtain ⟨rfl, gp820, pp820e, sp820, tp820, dp820⟩ := p820
              have gwp820 := mFw_f gp820
              have gzp820 : mFz I h hp820 := mFz_t gf819 (mFz_w gwp820)
              have Dp820 : tvI (tF hp820 111 32) = 0 := by rw [dp820]; exact Df819
              have Sp820 : ms hp820 = (rA (rB T n s2.1) s2) := (by rw [sp820, sm2])
              refine tw_aload rfl rfl ?_
              refine tw_push rfl ?_
              refine tw_virt1 rfl (g_stands hG hX (gzp820).1 ((mFz_T gzp820).trans hT) ((mFz_n gzp820).trans hN) (q := 21) (by decide +kernel) ⟨pp820e.2.1.1, by have := pp820e.2.1; omega⟩ ⟨by have := pp820e.2.1; omega, pp820e.2.1.2.2⟩) (fun w9 h9 p821 => ?_)
              obtain ⟨⟨p821, rfl⟩ | ⟨p821, rfl⟩, rfl⟩ := p821
              · try dsimp only [tvI_i, tvJ_j, tvR_r] at p821
                refine tw_istore rfl ?_
                refine tw_iload rfl rfl ?_
                refine tw_push rfl ?_
                refine tw_ic_ne rfl (fun q822 => ?_) (fun q822 => ?_)
                · try dsimp only [tvI_i, tvJ_j, tvR_r] at q822
                  have q822i := zneq (Y := 3) (by decide) q822
                  exact absurd q818 q822
                · try dsimp only [tvI_i, tvJ_j, tvR_r] at q822
                  have q822i := zeqi (Y := 3) (by decide) q822
                  refine tw_iload rfl rfl ?_
                  refine tw_if_ne rfl (fun _ => ?_) (fun z => absurd z (by decide))
                  refine tw_iload rfl rfl ?_
                  refine tw_if_eq rfl (fun z => absurd z (by decide)) (fun _ => ?_)
                  refine tw_aload rfl rfl ?_
                  refine tw_getS rfl (hi_111_29 gzp820.1) ?_
                  refine tw_if_ne rfl (fun q823 => ?_) (fun q823 => ?_)
                  · try dsimp only [tvI_i, tvJ_j, tvR_r] at q823
                    have q823i := zneq (Y := 0) (by decide) q823
                    exact absurd (mP_0 pp820e) q823
                  · try dsimp only [tvI_i, tvJ_j, tvR_r] at q823
                    have q823i := zeqi (Y := 0) (by decide) q823
                    refine tw_aload rfl rfl ?_
                    refine tw_dup rfl ?_
                    refine tw_getS rfl (hi_111_28 gzp820.1) ?_
                    refine tw_push rfl ?_
                    refine tw_iadd rfl ?_
                    refine tw_put rfl (fun f824 => ?_)
                    have hw16 : rW T n (rB T n s2.1) (rWd 16) = true := by have z := p821; rw [Sp820, rA_1] at z; exact z
                    refine tG_setm f824 (hw_111_28 f824 (gzp820).1) (fun hf824 ef824 => ?_)
                    try dsimp only [tvI_i] at ef824
                    have gf824 : mFz I h hf824 := mFz_s gzp820 ef824 (Or.inl (by unfold mFs; omega))
                    have h9w : rE T n (rB T n s2.1) = rB T n s2.1 + 2 := by rw [rW_e hw16, wlen_k.2.2.2]
                    have hpB : rB T n s2.1 ≤ n := by have z := mPle pp820e ((mFz_n gzp820).trans hN); rw [Sp820, rA_1] at z; exact z
                    have hr9 := rE_le (T := T) hpB
                    rw [h9w] at hr9
                    obtain ⟨pf824, sf824, tf824⟩ := mTo pp820e ((mFz_n gzp820).trans hN) ef824 (v := rB T n s2.1 + 2) (zadN (a := rB T n s2.1) (b := 2) (by rw [mPl pp820e, Sp820, rA_1]) rfl (by omega) (by decide)) (by omega)
                    have Sf824 : ms hf824 = (rA (rB T n s2.1 + 2) s2) := by rw [sf824, Sp820, rA_A]
                    have Df824 : tvI (tF hf824 111 32) = 0 := by rw [mI_o ef824 (by decide)]; exact Dp820
                    have gwf824 : tA hf824 = tA hp820 := ef824.2.2.2.1
                    refine tw_aload rfl rfl ?_
                    refine tw_push rfl ?_
                    refine tw_virt1 rfl (g_readsR hG hX (gf824).1 pf824 ((mFz_T gf824).trans hT) ((mFz_n gf824).trans hN) (x := 0) (tst := true) (by decide) (by decide) ⟨fun _ => rfl, fun _ => rfl⟩ Df824) (fun w9 hp825 p825 => ?_)
                    obtain ⟨rfl, gp825, ⟨pp825e, dp825, mp825⟩ | ⟨ep825, Fp825, Zp825, mp825⟩⟩ := p825
                    · have gwp825 := id gp825
                      have gzp825 : mFz I h hp825 := mFz_t gf824 (mFz_w gwp825)
                      have m9 := mp825
                      rw [Sf824, show stN 0 = 0 from rfl] at m9
                      obtain ⟨hS3, s3, hs3, hr⟩ := rCl3_s K3 hw16 m9
                      have Dp825 := mSk_0 dp825 hS3
                      refine tw_aload rfl rfl ?_
                      refine tw_getS rfl (hs_111_42 gzp825.1) ?_
                      refine tw_iload rfl rfl ?_
                      refine tw_aload rfl rfl ?_
                      refine tw_getS rfl (hi_111_31 gzp825.1) ?_
                      refine tw_iast rfl (fun f826 => ?_)
                      have Lf826 : (tvI (tF hp825 111 31)).toNatClampNeg = (rA (rB T n s3.1) s3).2.2.length := by rw [← mEn_len]; exact congrArg (fun z : rS => z.2.2.length) hs3
                      refine tG_ast f826 (gzp825).1 (fun hf826 af826 => ?_)
                      try dsimp only [tvI_i, tvR_r] at af826
                      rw [hI9] at af826
                      have gf826 : mFz I h hf826 := mFz_a gzp825 af826 (by decide) (Nat.le_refl _)
                      have pf826 := mAs_P af826 (by decide) pp825e
                      have Sf826 : ms hf826 = (rA (rB T n s3.1) s3) := (mAs_m af826 (by decide)).1.trans hs3
                      have Df826 : tvI (tF hf826 111 32) = 0 := by rw [af826.2.1]; exact Dp825
                      have c135 : tA hf826 135 I = x := ((congrFun ((mAs_A af826 (q := 135) (by decide)).trans ((mFw_A gwp825 (p := 135) (by decide)).trans ((congrFun gwf824 135).trans ((mFw_A gwp820 (p := 135) (by decide)).trans ((mAs_A af819 (q := 135) (by decide)).trans ((mAs_A af817 (q := 135) (by decide)).trans (mAs_A af815 (q := 135) (by decide)))))))) I).trans (mAs_x af814))
                      have c137 : (tA hf826 137 I).toNatClampNeg = (rA (rE T n (rB T n (ms h).1)) (ms h)).2.2.length := by rw [((congrFun ((mAs_A af826 (q := 137) (by decide)).trans ((mFw_A gwp825 (p := 137) (by decide)).trans ((congrFun gwf824 137).trans ((mFw_A gwp820 (p := 137) (by decide)).trans (mAs_A af819 (q := 137) (by decide)))))) I).trans (mAs_x af817))]; exact Lf817
                      have c138 : (tA hf826 138 I).toNatClampNeg = (rA (rE T n (rB T n (ms h).1)) (ms h)).2.2.length := by rw [((congrFun ((mAs_A af826 (q := 138) (by decide)).trans ((mFw_A gwp825 (p := 138) (by decide)).trans ((congrFun gwf824 138).trans (mFw_A gwp820 (p := 138) (by decide))))) I).trans (mAs_x af819))]; exact Lf819
                      have c139 : (tA hf826 139 I).toNatClampNeg = (rA (rB T n s3.1) s3).2.2.length := by rw [(mAs_x af826)]; exact Lf826
                      have c136 : (tA hf826 136 I).toNatClampNeg = 0 := by rw [((congrFun ((mAs_A af826 (q := 136) (by decide)).trans ((mFw_A gwp825 (p := 136) (by decide)).trans ((congrFun gwf824 136).trans ((mFw_A gwp820 (p := 136) (by decide)).trans ((mAs_A af819 (q := 136) (by decide)).trans (mAs_A af817 (q := 136) (by decide))))))) I).trans (mAs_x af815))]; rfl
                      have hrow : mRow hf826 I = ((k + 12), (rA (rE T n (rB T n (ms h).1)) (ms h)).2.2.length, (rA (rE T n (rB T n (ms h).1)) (ms h)).2.2.length, (rA (rB T n s3.1) s3).2.2.length) := by
                        unfold mRow
                        rw [c135, c137, c138, c139, zof_cl hx, c136, if_neg (fun y => by have z := q816i; have y := y.1; omega), Nat.mul_zero, Nat.add_zero, Nat.add_comm]
                      rw [hs2] at hrow
                      exact tw_vret rfl ⟨rfl, gf826, mCo_r hr pf826 Sf826 Df826 hrow⟩
                    · have gwp825 := id gp825
                      have gzp825 : mFz I h hp825 := mFz_t gf824 (mFz_w gwp825)
                      have m9 := mp825
                      rw [Sf824, show stN 0 = 0 from rfl] at m9
                      have hr := rCl3_e K3 hw16 m9
                      refine tw_aload rfl rfl ?_
                      refine tw_getS rfl (hs_111_42 gzp825.1) ?_
                      refine tw_iload rfl rfl ?_
                      refine tw_aload rfl rfl ?_
                      refine tw_getS rfl (hi_111_31 gzp825.1) ?_
                      refine tw_iast rfl (fun f827 => ?_)
                      refine tG_ast f827 (gzp825).1 (fun hf827 af827 => ?_)
                      try dsimp only [tvI_i, tvR_r] at af827
                      rw [hI9] at af827
                      have gf827 : mFz I h hf827 := mFz_a gzp825 af827 (by decide) (Nat.le_refl _)
                      have Ff827 := mAs_F af827 Fp825
                      have Zf827 := mAs_Z af827 Zp825
                      exact tw_vret rfl ⟨rfl, gf827, mCo_l hr Ff827 Zf827⟩
              · try dsimp only [tvI_i, tvJ_j, tvR_r] at p821
                refine tw_istore rfl ?_
                refine tw_iload rfl rfl ?_
                refine tw_push rfl ?_
                refine tw_ic_ne rfl (fun q828 => ?_) (fun q828 => ?_)
                · try dsimp only [tvI_i, tvJ_j, tvR_r] at q828
                  have q828i := zneq (Y := 3) (by decide) q828
                  exact absurd q818 q828
                · try dsimp only [tvI_i, tvJ_j, tvR_r] at q828
                  have q828i := zeqi (Y := 3) (by decide) q828
                  refine tw_iload rfl rfl ?_
                  refine tw_if_ne rfl (fun z => absurd z (by decide)) (fun _ => ?_)
                  refine tw_aload rfl rfl ?_
                  refine tw_push rfl ?_
                  refine tw_aload rfl rfl ?_
                  refine tw_getS rfl (hi_111_28 gzp820.1) ?_
                  refine tw_virt2 rfl (g_fails hG hX (gzp820).1 pp820e ((mFz_T gzp820).trans hT) ((mFz_n gzp820).trans hN) (w := 0) rfl (by decide) (mPl pp820e) (by have := mPle pp820e ((mFz_n gzp820).trans hN); have := mNl pp820e ((mFz_n gzp820).trans hN); have := pp820e.2.1; omega)) (fun wp829 hp829 p829 => ?_)
                  obtain ⟨rfl, gp829, Fp829, ip829, jp829⟩ := p829
                  have gwp829 := mFw_f gp829
                  have gzp829 : mFz I h hp829 := mFz_t gzp820 (mFz_w gwp829)
                  have Zp829 : mZp hp829 := mZp_k (mZp_p pp820e) ip829 jp829
                  rw [Sp820, rA_1] at Fp829
                  refine tw_iload rfl rfl ?_
                  refine tw_if_eq rfl (fun _ => ?_) (fun z => absurd z (by decide))
                  refine tw_aload rfl rfl ?_
                  refine tw_getS rfl (hs_111_42 gzp829.1) ?_
                  refine tw_iload rfl rfl ?_
                  refine tw_aload rfl rfl ?_
                  refine tw_getS rfl (hi_111_31 gzp829.1) ?_
                  refine tw_iast rfl (fun f830 => ?_)
                  refine tG_ast f830 (gzp829).1 (fun hf830 af830 => ?_)
                  try dsimp only [tvI_i, tvR_r] at af830
                  rw [hI9] at af830
                  have gf830 : mFz I h hf830 := mFz_a gzp829 af830 (by decide) (Nat.le_refl _)
                  have Ff830 := mAs_F af830 Fp829
                  have Zf830 := mAs_Z af830 Zp829
                  have hw16 : ¬ rW T n (rB T n s2.1) (rWd 16) = true := by have z := p821; rw [Sp820, rA_1] at z; exact z
                  have hr := rCl3_1 K3 hw16 (by have z := q828i; omega)
                  exact tw_vret rfl ⟨rfl, gf830, mCo_l hr Ff830 Zf830⟩
            · try dsimp only [tvI_i, tvJ_j, tvR_r] at q818
              have q818i := zneq (Y := 3) (by decide) q818
              refine tw_aload rfl rfl ?_
              refine tw_getS rfl (hi_111_29 (gf817).1) ?_
              refine tw_if_ne rfl (fun q831 => ?_) (fun q831 => ?_)
              · try dsimp only [tvI_i, tvJ_j, tvR_r] at q831
                have q831i := zneq (Y := 0) (by decide) q831
                exact absurd (mP_0 pf817) q831
              · try dsimp only [tvI_i, tvJ_j, tvR_r] at q831
                have q831i := zeqi (Y := 0) (by decide) q831
                refine tw_aload rfl rfl ?_
                refine tw_push rfl ?_
                refine tw_virt1 rfl (g_readsR hG hX (gf817).1 pf817 ((mFz_T gf817).trans hT) ((mFz_n gf817).trans hN) (x := 1) (tst := false) (by decide) (by decide) ⟨fun z => absurd z (by decide), fun z => absurd z (by decide)⟩ Df817) (fun w9 hp832 p832 => ?_)
                obtain ⟨rfl, gp832, ⟨pp832e, dp832, mp832⟩ | ⟨ep832, Fp832, Zp832, mp832⟩⟩ := p832
                · have gwp832 := id gp832
                  have gzp832 : mFz I h hp832 := mFz_t gf817 (mFz_w gwp832)
                  have m9 := mp832
                  rw [Sf817, show stN 1 = 1 from rfl] at m9
                  obtain ⟨hS, s2, hs2, K3⟩ := rCl2_s K2 (by have z := q818i; omega) m9
                  have Dp832 := mSk_0 dp832 hS
                  refine tw_aload rfl rfl ?_
                  refine tw_getS rfl (hs_111_41 gzp832.1) ?_
                  refine tw_iload rfl rfl ?_
                  refine tw_aload rfl rfl ?_
                  refine tw_getS rfl (hi_111_31 gzp832.1) ?_
                  refine tw_iast rfl (fun f833 => ?_)
                  have Lf833 : (tvI (tF hp832 111 31)).toNatClampNeg = (rA (rB T n s2.1) s2).2.2.length := by rw [← mEn_len]; exact congrArg (fun z : rS => z.2.2.length) hs2
                  refine tG_ast f833 (gzp832).1 (fun hf833 af833 => ?_)
                  try dsimp only [tvI_i, tvR_r] at af833
                  rw [hI9] at af833
                  have gf833 : mFz I h hf833 := mFz_a gzp832 af833 (by decide) (Nat.le_refl _)
                  have pf833 := mAs_P af833 (by decide) pp832e
                  have Sf833 : ms hf833 = (rA (rB T n s2.1) s2) := (mAs_m af833 (by decide)).1.trans hs2
                  have Df833 : tvI (tF hf833 111 32) = 0 := by rw [af833.2.1]; exact Dp832
                  refine tw_aload rfl rfl ?_
                  refine tw_virt0 rfl (g_blanks hG hX (gf833).1 pf833 ((mFz_T gf833).trans hT) ((mFz_n gf833).trans hN)) (fun wp834 hp834 p834 => ?_)
                  obtain ⟨rfl, gp834, pp834e, sp834, tp834, dp834⟩ := p834
                  have gwp834 := mFw_f gp834
                  have gzp834 : mFz I h hp834 := mFz_t gf833 (mFz_w gwp834)
                  have Dp834 : tvI (tF hp834 111 32) = 0 := by rw [dp834]; exact Df833
                  have Sp834 : ms hp834 = (rA (rB T n s2.1) s2) := (by rw [sp834, Sf833]; exact rB_A)
                  refine tw_aload rfl rfl ?_
                  refine tw_push rfl ?_
                  refine tw_virt1 rfl (g_stands hG hX (gzp834).1 ((mFz_T gzp834).trans hT) ((mFz_n gzp834).trans hN) (q := 21) (by decide +kernel) ⟨pp834e.2.1.1, by have := pp834e.2.1; omega⟩ ⟨by have := pp834e.2.1; omega, pp834e.2.1.2.2⟩) (fun w9 h9 p835 => ?_)
                  obtain ⟨⟨p835, rfl⟩ | ⟨p835, rfl⟩, rfl⟩ := p835
                  · try dsimp only [tvI_i, tvJ_j, tvR_r] at p835
                    refine tw_istore rfl ?_
                    refine tw_iload rfl rfl ?_
                    refine tw_push rfl ?_
                    refine tw_ic_ne rfl (fun q836 => ?_) (fun q836 => ?_)
                    · try dsimp only [tvI_i, tvJ_j, tvR_r] at q836
                      have q836i := zneq (Y := 3) (by decide) q836
                      refine tw_iload rfl rfl ?_
                      refine tw_if_eq rfl (fun z => absurd z (by decide)) (fun _ => ?_)
                      refine tw_aload rfl rfl ?_
                      refine tw_getS rfl (hi_111_29 gzp834.1) ?_
                      refine tw_if_ne rfl (fun q837 => ?_) (fun q837 => ?_)
                      · try dsimp only [tvI_i, tvJ_j, tvR_r] at q837
                        have q837i := zneq (Y := 0) (by decide) q837
                        exact absurd (mP_0 pp834e) q837
                      · try dsimp only [tvI_i, tvJ_j, tvR_r] at q837
                        have q837i := zeqi (Y := 0) (by decide) q837
                        refine tw_aload rfl rfl ?_
                        refine tw_dup rfl ?_
                        refine tw_getS rfl (hi_111_28 gzp834.1) ?_
                        refine tw_push rfl ?_
                        refine tw_iadd rfl ?_
                        refine tw_put rfl (fun f838 => ?_)
                        have hw16 : rW T n (rB T n s2.1) (rWd 16) = true := by have z := p835; rw [Sp834, rA_1] at z; exact z
                        refine tG_setm f838 (hw_111_28 f838 (gzp834).1) (fun hf838 ef838 => ?_)
                        try dsimp only [tvI_i] at ef838
                        have gf838 : mFz I h hf838 := mFz_s gzp834 ef838 (Or.inl (by unfold mFs; omega))
                        have h9w : rE T n (rB T n s2.1) = rB T n s2.1 + 2 := by rw [rW_e hw16, wlen_k.2.2.2]
                        have hpB : rB T n s2.1 ≤ n := by have z := mPle pp834e ((mFz_n gzp834).trans hN); rw [Sp834, rA_1] at z; exact z
                        have hr9 := rE_le (T := T) hpB
                        rw [h9w] at hr9
                        obtain ⟨pf838, sf838, tf838⟩ := mTo pp834e ((mFz_n gzp834).trans hN) ef838 (v := rB T n s2.1 + 2) (zadN (a := rB T n s2.1) (b := 2) (by rw [mPl pp834e, Sp834, rA_1]) rfl (by omega) (by decide)) (by omega)
                        have Sf838 : ms hf838 = (rA (rB T n s2.1 + 2) s2) := by rw [sf838, Sp834, rA_A]
                        have Df838 : tvI (tF hf838 111 32) = 0 := by rw [mI_o ef838 (by decide)]; exact Dp834
                        have gwf838 : tA hf838 = tA hp834 := ef838.2.2.2.1
                        refine tw_aload rfl rfl ?_
                        refine tw_push rfl ?_
                        refine tw_virt1 rfl (g_readsR hG hX (gf838).1 pf838 ((mFz_T gf838).trans hT) ((mFz_n gf838).trans hN) (x := 0) (tst := true) (by decide) (by decide) ⟨fun _ => rfl, fun _ => rfl⟩ Df838) (fun w9 hp839 p839 => ?_)
                        obtain ⟨rfl, gp839, ⟨pp839e, dp839, mp839⟩ | ⟨ep839, Fp839, Zp839, mp839⟩⟩ := p839
                        · have gwp839 := id gp839
                          have gzp839 : mFz I h hp839 := mFz_t gf838 (mFz_w gwp839)
                          have m9 := mp839
                          rw [Sf838, show stN 0 = 0 from rfl] at m9
                          obtain ⟨hS3, s3, hs3, hr⟩ := rCl3_s K3 hw16 m9
                          have Dp839 := mSk_0 dp839 hS3
                          refine tw_aload rfl rfl ?_
                          refine tw_getS rfl (hs_111_42 gzp839.1) ?_
                          refine tw_iload rfl rfl ?_
                          refine tw_aload rfl rfl ?_
                          refine tw_getS rfl (hi_111_31 gzp839.1) ?_
                          refine tw_iast rfl (fun f840 => ?_)
                          have Lf840 : (tvI (tF hp839 111 31)).toNatClampNeg = (rA (rB T n s3.1) s3).2.2.length := by rw [← mEn_len]; exact congrArg (fun z : rS => z.2.2.length) hs3
                          refine tG_ast f840 (gzp839).1 (fun hf840 af840 => ?_)
                          try dsimp only [tvI_i, tvR_r] at af840
                          rw [hI9] at af840
                          have gf840 : mFz I h hf840 := mFz_a gzp839 af840 (by decide) (Nat.le_refl _)
                          have pf840 := mAs_P af840 (by decide) pp839e
                          have Sf840 : ms hf840 = (rA (rB T n s3.1) s3) := (mAs_m af840 (by decide)).1.trans hs3
                          have Df840 : tvI (tF hf840 111 32) = 0 := by rw [af840.2.1]; exact Dp839
                          have c135 : tA hf840 135 I = x := ((congrFun ((mAs_A af840 (q := 135) (by decide)).trans ((mFw_A gwp839 (p := 135) (by decide)).trans ((congrFun gwf838 135).trans ((mFw_A gwp834 (p := 135) (by decide)).trans ((mAs_A af833 (q := 135) (by decide)).trans ((mFw_A gwp832 (p := 135) (by decide)).trans ((mAs_A af817 (q := 135) (by decide)).trans (mAs_A af815 (q := 135) (by decide))))))))) I).trans (mAs_x af814))
                          have c137 : (tA hf840 137 I).toNatClampNeg = (rA (rE T n (rB T n (ms h).1)) (ms h)).2.2.length := by rw [((congrFun ((mAs_A af840 (q := 137) (by decide)).trans ((mFw_A gwp839 (p := 137) (by decide)).trans ((congrFun gwf838 137).trans ((mFw_A gwp834 (p := 137) (by decide)).trans ((mAs_A af833 (q := 137) (by decide)).trans (mFw_A gwp832 (p := 137) (by decide))))))) I).trans (mAs_x af817))]; exact Lf817
                          have c138 : (tA hf840 138 I).toNatClampNeg = (rA (rB T n s2.1) s2).2.2.length := by rw [((congrFun ((mAs_A af840 (q := 138) (by decide)).trans ((mFw_A gwp839 (p := 138) (by decide)).trans ((congrFun gwf838 138).trans (mFw_A gwp834 (p := 138) (by decide))))) I).trans (mAs_x af833))]; exact Lf833
                          have c139 : (tA hf840 139 I).toNatClampNeg = (rA (rB T n s3.1) s3).2.2.length := by rw [(mAs_x af840)]; exact Lf840
                          have c136 : (tA hf840 136 I).toNatClampNeg = 0 := by rw [((congrFun ((mAs_A af840 (q := 136) (by decide)).trans ((mFw_A gwp839 (p := 136) (by decide)).trans ((congrFun gwf838 136).trans ((mFw_A gwp834 (p := 136) (by decide)).trans ((mAs_A af833 (q := 136) (by decide)).trans ((mFw_A gwp832 (p := 136) (by decide)).trans (mAs_A af817 (q := 136) (by decide)))))))) I).trans (mAs_x af815))]; rfl
                          have hrow : mRow hf840 I = ((k + 12), (rA (rE T n (rB T n (ms h).1)) (ms h)).2.2.length, (rA (rB T n s2.1) s2).2.2.length, (rA (rB T n s3.1) s3).2.2.length) := by
                            unfold mRow
                            rw [c135, c137, c138, c139, zof_cl hx, c136, if_neg (fun y => by have z := q816i; have y := y.1; omega), Nat.mul_zero, Nat.add_zero, Nat.add_comm]
                          exact tw_vret rfl ⟨rfl, gf840, mCo_r hr pf840 Sf840 Df840 hrow⟩
                        · have gwp839 := id gp839
                          have gzp839 : mFz I h hp839 := mFz_t gf838 (mFz_w gwp839)
                          have m9 := mp839
                          rw [Sf838, show stN 0 = 0 from rfl] at m9
                          have hr := rCl3_e K3 hw16 m9
                          refine tw_aload rfl rfl ?_
                          refine tw_getS rfl (hs_111_42 gzp839.1) ?_
                          refine tw_iload rfl rfl ?_
                          refine tw_aload rfl rfl ?_
                          refine tw_getS rfl (hi_111_31 gzp839.1) ?_
                          refine tw_iast rfl (fun f841 => ?_)
                          refine tG_ast f841 (gzp839).1 (fun hf841 af841 => ?_)
                          try dsimp only [tvI_i, tvR_r] at af841
                          rw [hI9] at af841
                          have gf841 : mFz I h hf841 := mFz_a gzp839 af841 (by decide) (Nat.le_refl _)
                          have Ff841 := mAs_F af841 Fp839
                          have Zf841 := mAs_Z af841 Zp839
                          exact tw_vret rfl ⟨rfl, gf841, mCo_l hr Ff841 Zf841⟩
                    · try dsimp only [tvI_i, tvJ_j, tvR_r] at q836
                      have q836i := zeqi (Y := 3) (by decide) q836
                      exact absurd q836 q818
                  · try dsimp only [tvI_i, tvJ_j, tvR_r] at p835
                    refine tw_istore rfl ?_
                    refine tw_iload rfl rfl ?_
                    refine tw_push rfl ?_
                    refine tw_ic_ne rfl (fun q842 => ?_) (fun q842 => ?_)
                    · try dsimp only [tvI_i, tvJ_j, tvR_r] at q842
                      have q842i := zneq (Y := 3) (by decide) q842
                      refine tw_iload rfl rfl ?_
                      refine tw_if_eq rfl (fun _ => ?_) (fun z => absurd z (by decide))
                      refine tw_aload rfl rfl ?_
                      refine tw_getS rfl (hs_111_42 gzp834.1) ?_
                      refine tw_iload rfl rfl ?_
                      refine tw_aload rfl rfl ?_
                      refine tw_getS rfl (hi_111_31 gzp834.1) ?_
                      refine tw_iast rfl (fun f843 => ?_)
                      have Lf843 : (tvI (tF hp834 111 31)).toNatClampNeg = (rA (rB T n s2.1) s2).2.2.length := by rw [← mEn_len]; exact congrArg (fun z : rS => z.2.2.length) Sp834
                      refine tG_ast f843 (gzp834).1 (fun hf843 af843 => ?_)
                      try dsimp only [tvI_i, tvR_r] at af843
                      rw [hI9] at af843
                      have gf843 : mFz I h hf843 := mFz_a gzp834 af843 (by decide) (Nat.le_refl _)
                      have pf843 := mAs_P af843 (by decide) pp834e
                      have Sf843 : ms hf843 = (rA (rB T n s2.1) s2) := (mAs_m af843 (by decide)).1.trans Sp834
                      have Df843 : tvI (tF hf843 111 32) = 0 := by rw [af843.2.1]; exact Dp834
                      have hw16 : ¬ rW T n (rB T n s2.1) (rWd 16) = true := by have z := p835; rw [Sp834, rA_1] at z; exact z
                      have hr := rCl3_2 K3 hw16 (by have z := q842i; omega)
                      have c135 : tA hf843 135 I = x := ((congrFun ((mAs_A af843 (q := 135) (by decide)).trans ((mFw_A gwp834 (p := 135) (by decide)).trans ((mAs_A af833 (q := 135) (by decide)).trans ((mFw_A gwp832 (p := 135) (by decide)).trans ((mAs_A af817 (q := 135) (by decide)).trans (mAs_A af815 (q := 135) (by decide))))))) I).trans (mAs_x af814))
                      have c137 : (tA hf843 137 I).toNatClampNeg = (rA (rE T n (rB T n (ms h).1)) (ms h)).2.2.length := by rw [((congrFun ((mAs_A af843 (q := 137) (by decide)).trans ((mFw_A gwp834 (p := 137) (by decide)).trans ((mAs_A af833 (q := 137) (by decide)).trans (mFw_A gwp832 (p := 137) (by decide))))) I).trans (mAs_x af817))]; exact Lf817
                      have c138 : (tA hf843 138 I).toNatClampNeg = (rA (rB T n s2.1) s2).2.2.length := by rw [((congrFun ((mAs_A af843 (q := 138) (by decide)).trans (mFw_A gwp834 (p := 138) (by decide))) I).trans (mAs_x af833))]; exact Lf833
                      have c139 : (tA hf843 139 I).toNatClampNeg = (rA (rB T n s2.1) s2).2.2.length := by rw [(mAs_x af843)]; exact Lf843
                      have c136 : (tA hf843 136 I).toNatClampNeg = 0 := by rw [((congrFun ((mAs_A af843 (q := 136) (by decide)).trans ((mFw_A gwp834 (p := 136) (by decide)).trans ((mAs_A af833 (q := 136) (by decide)).trans ((mFw_A gwp832 (p := 136) (by decide)).trans (mAs_A af817 (q := 136) (by decide)))))) I).trans (mAs_x af815))]; rfl
                      have hrow : mRow hf843 I = ((k + 12), (rA (rE T n (rB T n (ms h).1)) (ms h)).2.2.length, (rA (rB T n s2.1) s2).2.2.length, (rA (rB T n s2.1) s2).2.2.length) := by
                        unfold mRow
                        rw [c135, c137, c138, c139, zof_cl hx, c136, if_neg (fun y => by have z := q816i; have y := y.1; omega), Nat.mul_zero, Nat.add_zero, Nat.add_comm]
                      exact tw_vret rfl ⟨rfl, gf843, mCo_r hr pf843 (Sf843.trans rB_A.symm) Df843 hrow⟩
                    · try dsimp only [tvI_i, tvJ_j, tvR_r] at q842
                      have q842i := zeqi (Y := 3) (by decide) q842
                      exact absurd q842 q818
                · have gwp832 := id gp832
                  have gzp832 : mFz I h hp832 := mFz_t gf817 (mFz_w gwp832)
                  have m9 := mp832
                  rw [Sf817, show stN 1 = 1 from rfl] at m9
                  have hr := rCl2_e K2 (by have z := q818i; omega) m9
                  refine tw_aload rfl rfl ?_
                  refine tw_getS rfl (hs_111_41 gzp832.1) ?_
                  refine tw_iload rfl rfl ?_
                  refine tw_aload rfl rfl ?_
                  refine tw_getS rfl (hi_111_31 gzp832.1) ?_
                  refine tw_iast rfl (fun f844 => ?_)
                  refine tG_ast f844 (gzp832).1 (fun hf844 af844 => ?_)
                  try dsimp only [tvI_i, tvR_r] at af844
                  rw [hI9] at af844
                  have gf844 : mFz I h hf844 := mFz_a gzp832 af844 (by decide) (Nat.le_refl _)
                  have Ff844 := mAs_F af844 Fp832
                  have Zf844 := mAs_Z af844 Zp832
                  refine tw_aload rfl rfl ?_
                  refine tw_virt0 rfl (y_blanks hG hX (gf844).1 Ff844 ((mFz_T gf844).trans hT) ((mFz_n gf844).trans hN) Zf844) (fun wp845 hp845 p845 => ?_)
                  obtain ⟨rfl, gp845, Fp845, Zp845⟩ := p845
                  have gwp845 := mFw_f gp845
                  have gzp845 : mFz I h hp845 := mFz_t gf844 (mFz_w gwp845)
                  refine tw_aload rfl rfl ?_
                  refine tw_push rfl ?_
                  refine tw_virt1 rfl (g_stands hG hX (gzp845).1 ((mFz_T gzp845).trans hT) ((mFz_n gzp845).trans hN) (q := 21) (by decide +kernel) Zp845.1 ⟨by have := Zp845.2; omega, Zp845.2.2⟩) (fun w9 h9 p846 => ?_)
                  obtain ⟨⟨p846, rfl⟩ | ⟨p846, rfl⟩, rfl⟩ := p846
                  · try dsimp only [tvI_i, tvJ_j, tvR_r] at p846
                    refine tw_istore rfl ?_
                    refine tw_iload rfl rfl ?_
                    refine tw_push rfl ?_
                    refine tw_ic_ne rfl (fun q847 => ?_) (fun q847 => ?_)
                    · try dsimp only [tvI_i, tvJ_j, tvR_r] at q847
                      have q847i := zneq (Y := 3) (by decide) q847
                      refine tw_iload rfl rfl ?_
                      refine tw_if_eq rfl (fun z => absurd z (by decide)) (fun _ => ?_)
                      refine tw_aload rfl rfl ?_
                      refine tw_getS rfl (hi_111_29 gzp845.1) ?_
                      refine tw_if_ne rfl (fun q848 => ?_) (fun q848 => ?_)
                      · try dsimp only [tvI_i, tvJ_j, tvR_r] at q848
                        have q848i := zneq (Y := 0) (by decide) q848
                        refine tw_aload rfl rfl ?_
                        refine tw_getS rfl (hs_111_42 gzp845.1) ?_
                        refine tw_iload rfl rfl ?_
                        refine tw_aload rfl rfl ?_
                        refine tw_getS rfl (hi_111_31 gzp845.1) ?_
                        refine tw_iast rfl (fun f849 => ?_)
                        refine tG_ast f849 (gzp845).1 (fun hf849 af849 => ?_)
                        try dsimp only [tvI_i, tvR_r] at af849
                        rw [hI9] at af849
                        have gf849 : mFz I h hf849 := mFz_a gzp845 af849 (by decide) (Nat.le_refl _)
                        have Ff849 := mAs_F af849 Fp845
                        have Zf849 := mAs_Z af849 Zp845
                        exact tw_vret rfl ⟨rfl, gf849, mCo_l hr Ff849 Zf849⟩
                      · try dsimp only [tvI_i, tvJ_j, tvR_r] at q848
                        have q848i := zeqi (Y := 0) (by decide) q848
                        exact absurd q848 (mFt_n Fp845)
                    · try dsimp only [tvI_i, tvJ_j, tvR_r] at q847
                      have q847i := zeqi (Y := 3) (by decide) q847
                      exact absurd q847 q818
                  · try dsimp only [tvI_i, tvJ_j, tvR_r] at p846
                    refine tw_istore rfl ?_
                    refine tw_iload rfl rfl ?_
                    refine tw_push rfl ?_
                    refine tw_ic_ne rfl (fun q850 => ?_) (fun q850 => ?_)
                    · try dsimp only [tvI_i, tvJ_j, tvR_r] at q850
                      have q850i := zneq (Y := 3) (by decide) q850
                      refine tw_iload rfl rfl ?_
                      refine tw_if_eq rfl (fun _ => ?_) (fun z => absurd z (by decide))
                      refine tw_aload rfl rfl ?_
                      refine tw_getS rfl (hs_111_42 gzp845.1) ?_
                      refine tw_iload rfl rfl ?_
                      refine tw_aload rfl rfl ?_
                      refine tw_getS rfl (hi_111_31 gzp845.1) ?_
                      refine tw_iast rfl (fun f851 => ?_)
                      refine tG_ast f851 (gzp845).1 (fun hf851 af851 => ?_)
                      try dsimp only [tvI_i, tvR_r] at af851
                      rw [hI9] at af851
                      have gf851 : mFz I h hf851 := mFz_a gzp845 af851 (by decide) (Nat.le_refl _)
                      have Ff851 := mAs_F af851 Fp845
                      have Zf851 := mAs_Z af851 Zp845
                      exact tw_vret rfl ⟨rfl, gf851, mCo_l hr Ff851 Zf851⟩
                    · try dsimp only [tvI_i, tvJ_j, tvR_r] at q850
                      have q850i := zeqi (Y := 3) (by decide) q850
                      exact absurd q850 q818
          · try dsimp only [tvI_i, tvJ_j, tvR_r] at q816
            have q816i := zeqi (Y := 0) (by decide) q816
            refine tw_aload rfl rfl ?_
            refine tw_virt0 rfl (g_blanks hG hX (gf815).1 pf815 ((mFz_T gf815).trans hT) ((mFz_n gf815).trans hN)) (fun wp852 hp852 p852 => ?_)
            obtain ⟨rfl, gp852, pp852e, sp852, tp852, dp852⟩ := p852
            have gwp852 := mFw_f gp852
            have gzp852 : mFz I h hp852 := mFz_t gf815 (mFz_w gwp852)
            have Dp852 : tvI (tF hp852 111 32) = 0 := by rw [dp852]; exact Df815
            have Sp852 : ms hp852 = (rA (rB T n (rA (rE T n (rB T n (ms h).1)) (ms h)).1) (rA (rE T n (rB T n (ms h).1)) (ms h))) := (by rw [sp852, Sf815])
            refine tw_aload rfl rfl ?_
            refine tw_getS rfl (hs_111_39 gzp852.1) ?_
            refine tw_iload rfl rfl ?_
            refine tw_aload rfl rfl ?_
            refine tw_push rfl ?_
            refine tw_virt1 rfl (g_digits hG hX (gzp852).1 pp852e ((mFz_T gzp852).trans hT) ((mFz_n gzp852).trans hN) (m := 2) (M := 2) rfl (by decide) (by rw [Sp852, rA_1]; exact rB_2)) (fun w9 hp853 p853 => ?_)
            obtain ⟨gp853, ⟨vp853, Np853, rfl, pp853e, sp853, tp853, dp853⟩ | ⟨ep853, xp853, Np853, rfl, x0p853, Fp853, Zp853⟩⟩ := p853
            · have gwp853 := mFw_f gp853
              have gzp853 : mFz I h hp853 := mFz_t gzp852 (mFz_w gwp853)
              have Dp853 : tvI (tF hp853 111 32) = 0 := by rw [dp853]; exact Dp852
              have Sp853 : ms hp853 = (rA vp853.1 (rA (rE T n (rB T n (ms h).1)) (ms h))) := by rw [sp853, Sp852, rA_A, rA_A]
              have K2 : rCl2 T n (k + 12) vp853.2 (rA vp853.1 (rA (rE T n (rB T n (ms h).1)) (ms h))) r := by
                have y := rCl1_q K1 (by have z := q816i; omega) (q := vp853) (by rw [← rM_bb]; have z := Np853; rw [Sp852, rA_1] at z; exact z)
                exact y
              have hv2 : vp853.2 ≤ 2 := (rM_r (rE_le (rB_le hpn)) (by rw [← rM_bb]; have z := Np853; rw [Sp852, rA_1] at z; exact z)).2.2
              refine tw_iast rfl (fun f854 => ?_)
              refine tG_ast f854 (gzp853).1 (fun hf854 af854 => ?_)
              try dsimp only [tvI_i, tvR_r] at af854
              rw [hI9] at af854
              have gf854 : mFz I h hf854 := mFz_a gzp853 af854 (by decide) (Nat.le_refl _)
              have pf854 := mAs_P af854 (by decide) pp853e
              have Sf854 : ms hf854 = (rA vp853.1 (rA (rE T n (rB T n (ms h).1)) (ms h))) := (mAs_m af854 (by decide)).1.trans Sp853
              have Df854 : tvI (tF hf854 111 32) = 0 := by rw [af854.2.1]; exact Dp853
              refine tw_aload rfl rfl ?_
              refine tw_getS rfl (hs_111_40 (gf854).1) ?_
              refine tw_iload rfl rfl ?_
              refine tw_aload rfl rfl ?_
              refine tw_getS rfl (hi_111_31 (gf854).1) ?_
              refine tw_iast rfl (fun f855 => ?_)
              have Lf855 : (tvI (tF hf854 111 31)).toNatClampNeg = (rA vp853.1 (rA (rE T n (rB T n (ms h).1)) (ms h))).2.2.length := by rw [← mEn_len]; exact congrArg (fun z : rS => z.2.2.length) Sf854
              refine tG_ast f855 (gf854).1 (fun hf855 af855 => ?_)
              try dsimp only [tvI_i, tvR_r] at af855
              rw [hI9] at af855
              have gf855 : mFz I h hf855 := mFz_a gf854 af855 (by decide) (Nat.le_refl _)
              have pf855 := mAs_P af855 (by decide) pf854
              have Sf855 : ms hf855 = (rA vp853.1 (rA (rE T n (rB T n (ms h).1)) (ms h))) := (mAs_m af855 (by decide)).1.trans Sf854
              have Df855 : tvI (tF hf855 111 32) = 0 := by rw [af855.2.1]; exact Df854
              refine tw_iload rfl rfl ?_
              refine tw_push rfl ?_
              refine tw_ic_eq rfl (fun q856 => ?_) (fun q856 => ?_)
              · try dsimp only [tvI_i, tvJ_j, tvR_r] at q856
                have q856i := zeqi (Y := 3) (by decide) q856
                exfalso
                have z1 := q816i
                have z2 := q856i
                omega
              · try dsimp only [tvI_i, tvJ_j, tvR_r] at q856
                have q856i := zneq (Y := 3) (by decide) q856
                refine tw_aload rfl rfl ?_
                refine tw_getS rfl (hi_111_29 (gf855).1) ?_
                refine tw_if_ne rfl (fun q857 => ?_) (fun q857 => ?_)
                · try dsimp only [tvI_i, tvJ_j, tvR_r] at q857
                  have q857i := zneq (Y := 0) (by decide) q857
                  exact absurd (mP_0 pf855) q857
                · try dsimp only [tvI_i, tvJ_j, tvR_r] at q857
                  have q857i := zeqi (Y := 0) (by decide) q857
                  refine tw_aload rfl rfl ?_
                  refine tw_push rfl ?_
                  refine tw_virt1 rfl (g_readsR hG hX (gf855).1 pf855 ((mFz_T gf855).trans hT) ((mFz_n gf855).trans hN) (x := 1) (tst := false) (by decide) (by decide) ⟨fun z => absurd z (by decide), fun z => absurd z (by decide)⟩ Df855) (fun w9 hp858 p858 => ?_)
                  obtain ⟨rfl, gp858, ⟨pp858e, dp858, mp858⟩ | ⟨ep858, Fp858, Zp858, mp858⟩⟩ := p858
                  · have gwp858 := id gp858
                    have gzp858 : mFz I h hp858 := mFz_t gf855 (mFz_w gwp858)
                    have m9 := mp858
                    rw [Sf855, show stN 1 = 1 from rfl] at m9
                    obtain ⟨hS, s2, hs2, K3⟩ := rCl2_s K2 (by have z := q856i; omega) m9
                    have Dp858 := mSk_0 dp858 hS
                    refine tw_aload rfl rfl ?_
                    refine tw_getS rfl (hs_111_41 gzp858.1) ?_
                    refine tw_iload rfl rfl ?_
                    refine tw_aload rfl rfl ?_
                    refine tw_getS rfl (hi_111_31 gzp858.1) ?_
                    refine tw_iast rfl (fun f859 => ?_)
                    have Lf859 : (tvI (tF hp858 111 31)).toNatClampNeg = (rA (rB T n s2.1) s2).2.2.length := by rw [← mEn_len]; exact congrArg (fun z : rS => z.2.2.length) hs2
                    refine tG_ast f859 (gzp858).1 (fun hf859 af859 => ?_)
                    try dsimp only [tvI_i, tvR_r] at af859
                    rw [hI9] at af859
                    have gf859 : mFz I h hf859 := mFz_a gzp858 af859 (by decide) (Nat.le_refl _)
                    have pf859 := mAs_P af859 (by decide) pp858e
                    have Sf859 : ms hf859 = (rA (rB T n s2.1) s2) := (mAs_m af859 (by decide)).1.trans hs2
                    have Df859 : tvI (tF hf859 111 32) = 0 := by rw [af859.2.1]; exact Dp858
                    refine tw_aload rfl rfl ?_
                    refine tw_virt0 rfl (g_blanks hG hX (gf859).1 pf859 ((mFz_T gf859).trans hT) ((mFz_n gf859).trans hN)) (fun wp860 hp860 p860 => ?_)
                    obtain ⟨rfl, gp860, pp860e, sp860, tp860, dp860⟩ := p860
                    have gwp860 := mFw_f gp860
                    have gzp860 : mFz I h hp860 := mFz_t gf859 (mFz_w gwp860)
                    have Dp860 : tvI (tF hp860 111 32) = 0 := by rw [dp860]; exact Df859
                    have Sp860 : ms hp860 = (rA (rB T n s2.1) s2) := (by rw [sp860, Sf859]; exact rB_A)
                    refine tw_aload rfl rfl ?_
                    refine tw_push rfl ?_
                    refine tw_virt1 rfl (g_stands hG hX (gzp860).1 ((mFz_T gzp860).trans hT) ((mFz_n gzp860).trans hN) (q := 21) (by decide +kernel) ⟨pp860e.2.1.1, by have := pp860e.2.1; omega⟩ ⟨by have := pp860e.2.1; omega, pp860e.2.1.2.2⟩) (fun w9 h9 p861 => ?_)
                    obtain ⟨⟨p861, rfl⟩ | ⟨p861, rfl⟩, rfl⟩ := p861
                    · try dsimp only [tvI_i, tvJ_j, tvR_r] at p861
                      refine tw_istore rfl ?_
                      refine tw_iload rfl rfl ?_
                      refine tw_push rfl ?_
                      refine tw_ic_ne rfl (fun q862 => ?_) (fun q862 => ?_)
                      · try dsimp only [tvI_i, tvJ_j, tvR_r] at q862
                        have q862i := zneq (Y := 3) (by decide) q862
                        refine tw_iload rfl rfl ?_
                        refine tw_if_eq rfl (fun z => absurd z (by decide)) (fun _ => ?_)
                        refine tw_aload rfl rfl ?_
                        refine tw_getS rfl (hi_111_29 gzp860.1) ?_
                        refine tw_if_ne rfl (fun q863 => ?_) (fun q863 => ?_)
                        · try dsimp only [tvI_i, tvJ_j, tvR_r] at q863
                          have q863i := zneq (Y := 0) (by decide) q863
                          exact absurd (mP_0 pp860e) q863
                        · try dsimp only [tvI_i, tvJ_j, tvR_r] at q863
                          have q863i := zeqi (Y := 0) (by decide) q863
                          refine tw_aload rfl rfl ?_
                          refine tw_dup rfl ?_
                          refine tw_getS rfl (hi_111_28 gzp860.1) ?_
                          refine tw_push rfl ?_
                          refine tw_iadd rfl ?_
                          refine tw_put rfl (fun f864 => ?_)
                          have hw16 : rW T n (rB T n s2.1) (rWd 16) = true := by have z := p861; rw [Sp860, rA_1] at z; exact z
                          refine tG_setm f864 (hw_111_28 f864 (gzp860).1) (fun hf864 ef864 => ?_)
                          try dsimp only [tvI_i] at ef864
                          have gf864 : mFz I h hf864 := mFz_s gzp860 ef864 (Or.inl (by unfold mFs; omega))
                          have h9w : rE T n (rB T n s2.1) = rB T n s2.1 + 2 := by rw [rW_e hw16, wlen_k.2.2.2]
                          have hpB : rB T n s2.1 ≤ n := by have z := mPle pp860e ((mFz_n gzp860).trans hN); rw [Sp860, rA_1] at z; exact z
                          have hr9 := rE_le (T := T) hpB
                          rw [h9w] at hr9
                          obtain ⟨pf864, sf864, tf864⟩ := mTo pp860e ((mFz_n gzp860).trans hN) ef864 (v := rB T n s2.1 + 2) (zadN (a := rB T n s2.1) (b := 2) (by rw [mPl pp860e, Sp860, rA_1]) rfl (by omega) (by decide)) (by omega)
                          have Sf864 : ms hf864 = (rA (rB T n s2.1 + 2) s2) := by rw [sf864, Sp860, rA_A]
                          have Df864 : tvI (tF hf864 111 32) = 0 := by rw [mI_o ef864 (by decide)]; exact Dp860
                          have gwf864 : tA hf864 = tA hp860 := ef864.2.2.2.1
                          refine tw_aload rfl rfl ?_
                          refine tw_push rfl ?_
                          refine tw_virt1 rfl (g_readsR hG hX (gf864).1 pf864 ((mFz_T gf864).trans hT) ((mFz_n gf864).trans hN) (x := 0) (tst := true) (by decide) (by decide) ⟨fun _ => rfl, fun _ => rfl⟩ Df864) (fun w9 hp865 p865 => ?_)
                          obtain ⟨rfl, gp865, ⟨pp865e, dp865, mp865⟩ | ⟨ep865, Fp865, Zp865, mp865⟩⟩ := p865
                          · have gwp865 := id gp865
                            have gzp865 : mFz I h hp865 := mFz_t gf864 (mFz_w gwp865)
                            have m9 := mp865
                            rw [Sf864, show stN 0 = 0 from rfl] at m9
                            obtain ⟨hS3, s3, hs3, hr⟩ := rCl3_s K3 hw16 m9
                            have Dp865 := mSk_0 dp865 hS3
                            refine tw_aload rfl rfl ?_
                            refine tw_getS rfl (hs_111_42 gzp865.1) ?_
                            refine tw_iload rfl rfl ?_
                            refine tw_aload rfl rfl ?_
                            refine tw_getS rfl (hi_111_31 gzp865.1) ?_
                            refine tw_iast rfl (fun f866 => ?_)
                            have Lf866 : (tvI (tF hp865 111 31)).toNatClampNeg = (rA (rB T n s3.1) s3).2.2.length := by rw [← mEn_len]; exact congrArg (fun z : rS => z.2.2.length) hs3
                            refine tG_ast f866 (gzp865).1 (fun hf866 af866 => ?_)
                            try dsimp only [tvI_i, tvR_r] at af866
                            rw [hI9] at af866
                            have gf866 : mFz I h hf866 := mFz_a gzp865 af866 (by decide) (Nat.le_refl _)
                            have pf866 := mAs_P af866 (by decide) pp865e
                            have Sf866 : ms hf866 = (rA (rB T n s3.1) s3) := (mAs_m af866 (by decide)).1.trans hs3
                            have Df866 : tvI (tF hf866 111 32) = 0 := by rw [af866.2.1]; exact Dp865
                            have c135 : tA hf866 135 I = x := ((congrFun ((mAs_A af866 (q := 135) (by decide)).trans ((mFw_A gwp865 (p := 135) (by decide)).trans ((congrFun gwf864 135).trans ((mFw_A gwp860 (p := 135) (by decide)).trans ((mAs_A af859 (q := 135) (by decide)).trans ((mFw_A gwp858 (p := 135) (by decide)).trans ((mAs_A af855 (q := 135) (by decide)).trans ((mAs_A af854 (q := 135) (by decide)).trans ((mFw_A gwp853 (p := 135) (by decide)).trans ((mFw_A gwp852 (p := 135) (by decide)).trans (mAs_A af815 (q := 135) (by decide)))))))))))) I).trans (mAs_x af814))
                            have c137 : (tA hf866 137 I).toNatClampNeg = (rA vp853.1 (rA (rE T n (rB T n (ms h).1)) (ms h))).2.2.length := by rw [((congrFun ((mAs_A af866 (q := 137) (by decide)).trans ((mFw_A gwp865 (p := 137) (by decide)).trans ((congrFun gwf864 137).trans ((mFw_A gwp860 (p := 137) (by decide)).trans ((mAs_A af859 (q := 137) (by decide)).trans (mFw_A gwp858 (p := 137) (by decide))))))) I).trans (mAs_x af855))]; exact Lf855
                            have c138 : (tA hf866 138 I).toNatClampNeg = (rA (rB T n s2.1) s2).2.2.length := by rw [((congrFun ((mAs_A af866 (q := 138) (by decide)).trans ((mFw_A gwp865 (p := 138) (by decide)).trans ((congrFun gwf864 138).trans (mFw_A gwp860 (p := 138) (by decide))))) I).trans (mAs_x af859))]; exact Lf859
                            have c139 : (tA hf866 139 I).toNatClampNeg = (rA (rB T n s3.1) s3).2.2.length := by rw [(mAs_x af866)]; exact Lf866
                            have c136 : (tA hf866 136 I).toNatClampNeg = vp853.2 := by rw [((congrFun ((mAs_A af866 (q := 136) (by decide)).trans ((mFw_A gwp865 (p := 136) (by decide)).trans ((congrFun gwf864 136).trans ((mFw_A gwp860 (p := 136) (by decide)).trans ((mAs_A af859 (q := 136) (by decide)).trans ((mFw_A gwp858 (p := 136) (by decide)).trans (mAs_A af855 (q := 136) (by decide)))))))) I).trans (mAs_x af854))]; exact zoN (by omega)
                            have hrow : mRow hf866 I = (vp853.2, (rA vp853.1 (rA (rE T n (rB T n (ms h).1)) (ms h))).2.2.length, (rA (rB T n s2.1) s2).2.2.length, (rA (rB T n s3.1) s3).2.2.length) := by
                              unfold mRow
                              rw [c135, c137, c138, c139, zof_cl hx, c136, if_pos ⟨by have z := q816i; omega, by omega⟩]
                            exact tw_vret rfl ⟨rfl, gf866, mCo_r hr pf866 Sf866 Df866 hrow⟩
                          · have gwp865 := id gp865
                            have gzp865 : mFz I h hp865 := mFz_t gf864 (mFz_w gwp865)
                            have m9 := mp865
                            rw [Sf864, show stN 0 = 0 from rfl] at m9
                            have hr := rCl3_e K3 hw16 m9
                            refine tw_aload rfl rfl ?_
                            refine tw_getS rfl (hs_111_42 gzp865.1) ?_
                            refine tw_iload rfl rfl ?_
                            refine tw_aload rfl rfl ?_
                            refine tw_getS rfl (hi_111_31 gzp865.1) ?_
                            refine tw_iast rfl (fun f867 => ?_)
                            refine tG_ast f867 (gzp865).1 (fun hf867 af867 => ?_)
                            try dsimp only [tvI_i, tvR_r] at af867
                            rw [hI9] at af867
                            have gf867 : mFz I h hf867 := mFz_a gzp865 af867 (by decide) (Nat.le_refl _)
                            have Ff867 := mAs_F af867 Fp865
                            have Zf867 := mAs_Z af867 Zp865
                            exact tw_vret rfl ⟨rfl, gf867, mCo_l hr Ff867 Zf867⟩
                      · try dsimp only [tvI_i, tvJ_j, tvR_r] at q862
                        have q862i := zeqi (Y := 3) (by decide) q862
                        exfalso
                        have z1 := q816i
                        have z2 := q862i
                        omega
                    · try dsimp only [tvI_i, tvJ_j, tvR_r] at p861
                      refine tw_istore rfl ?_
                      refine tw_iload rfl rfl ?_
                      refine tw_push rfl ?_
                      refine tw_ic_ne rfl (fun q868 => ?_) (fun q868 => ?_)
                      · try dsimp only [tvI_i, tvJ_j, tvR_r] at q868
                        have q868i := zneq (Y := 3) (by decide) q868
                        refine tw_iload rfl rfl ?_
                        refine tw_if_eq rfl (fun _ => ?_) (fun z => absurd z (by decide))
                        refine tw_aload rfl rfl ?_
                        refine tw_getS rfl (hs_111_42 gzp860.1) ?_
                        refine tw_iload rfl rfl ?_
                        refine tw_aload rfl rfl ?_
                        refine tw_getS rfl (hi_111_31 gzp860.1) ?_
                        refine tw_iast rfl (fun f869 => ?_)
                        have Lf869 : (tvI (tF hp860 111 31)).toNatClampNeg = (rA (rB T n s2.1) s2).2.2.length := by rw [← mEn_len]; exact congrArg (fun z : rS => z.2.2.length) Sp860
                        refine tG_ast f869 (gzp860).1 (fun hf869 af869 => ?_)
                        try dsimp only [tvI_i, tvR_r] at af869
                        rw [hI9] at af869
                        have gf869 : mFz I h hf869 := mFz_a gzp860 af869 (by decide) (Nat.le_refl _)
                        have pf869 := mAs_P af869 (by decide) pp860e
                        have Sf869 : ms hf869 = (rA (rB T n s2.1) s2) := (mAs_m af869 (by decide)).1.trans Sp860
                        have Df869 : tvI (tF hf869 111 32) = 0 := by rw [af869.2.1]; exact Dp860
                        have hw16 : ¬ rW T n (rB T n s2.1) (rWd 16) = true := by have z := p861; rw [Sp860, rA_1] at z; exact z
                        have hr := rCl3_2 K3 hw16 (by have z := q868i; omega)
                        have c135 : tA hf869 135 I = x := ((congrFun ((mAs_A af869 (q := 135) (by decide)).trans ((mFw_A gwp860 (p := 135) (by decide)).trans ((mAs_A af859 (q := 135) (by decide)).trans ((mFw_A gwp858 (p := 135) (by decide)).trans ((mAs_A af855 (q := 135) (by decide)).trans ((mAs_A af854 (q := 135) (by decide)).trans ((mFw_A gwp853 (p := 135) (by decide)).trans ((mFw_A gwp852 (p := 135) (by decide)).trans (mAs_A af815 (q := 135) (by decide)))))))))) I).trans (mAs_x af814))
                        have c137 : (tA hf869 137 I).toNatClampNeg = (rA vp853.1 (rA (rE T n (rB T n (ms h).1)) (ms h))).2.2.length := by rw [((congrFun ((mAs_A af869 (q := 137) (by decide)).trans ((mFw_A gwp860 (p := 137) (by decide)).trans ((mAs_A af859 (q := 137) (by decide)).trans (mFw_A gwp858 (p := 137) (by decide))))) I).trans (mAs_x af855))]; exact Lf855
                        have c138 : (tA hf869 138 I).toNatClampNeg = (rA (rB T n s2.1) s2).2.2.length := by rw [((congrFun ((mAs_A af869 (q := 138) (by decide)).trans (mFw_A gwp860 (p := 138) (by decide))) I).trans (mAs_x af859))]; exact Lf859
                        have c139 : (tA hf869 139 I).toNatClampNeg = (rA (rB T n s2.1) s2).2.2.length := by rw [(mAs_x af869)]; exact Lf869
                        have c136 : (tA hf869 136 I).toNatClampNeg = vp853.2 := by rw [((congrFun ((mAs_A af869 (q := 136) (by decide)).trans ((mFw_A gwp860 (p := 136) (by decide)).trans ((mAs_A af859 (q := 136) (by decide)).trans ((mFw_A gwp858 (p := 136) (by decide)).trans (mAs_A af855 (q := 136) (by decide)))))) I).trans (mAs_x af854))]; exact zoN (by omega)
                        have hrow : mRow hf869 I = (vp853.2, (rA vp853.1 (rA (rE T n (rB T n (ms h).1)) (ms h))).2.2.length, (rA (rB T n s2.1) s2).2.2.length, (rA (rB T n s2.1) s2).2.2.length) := by
                          unfold mRow
                          rw [c135, c137, c138, c139, zof_cl hx, c136, if_pos ⟨by have z := q816i; omega, by omega⟩]
                        exact tw_vret rfl ⟨rfl, gf869, mCo_r hr pf869 (Sf869.trans rB_A.symm) Df869 hrow⟩
                      · try dsimp only [tvI_i, tvJ_j, tvR_r] at q868
                        have q868i := zeqi (Y := 3) (by decide) q868
                        exfalso
                        have z1 := q816i
                        have z2 := q868i
                        omega
                  · have gwp858 := id gp858
                    have gzp858 : mFz I h hp858 := mFz_t gf855 (mFz_w gwp858)
                    have m9 := mp858
                    rw [Sf855, show stN 1 = 1 from rfl] at m9
                    have hr := rCl2_e K2 (by have z := q856i; omega) m9
                    refine tw_aload rfl rfl ?_
                    refine tw_getS rfl (hs_111_41 gzp858.1) ?_
                    refine tw_iload rfl rfl ?_
                    refine tw_aload rfl rfl ?_
                    refine tw_getS rfl (hi_111_31 gzp858.1) ?_
                    refine tw_iast rfl (fun f870 => ?_)
                    refine tG_ast f870 (gzp858).1 (fun hf870 af870 => ?_)
                    try dsimp only [tvI_i, tvR_r] at af870
                    rw [hI9] at af870
                    have gf870 : mFz I h hf870 := mFz_a gzp858 af870 (by decide) (Nat.le_refl _)
                    have Ff870 := mAs_F af870 Fp858
                    have Zf870 := mAs_Z af870 Zp858
                    refine tw_aload rfl rfl ?_
                    refine tw_virt0 rfl (y_blanks hG hX (gf870).1 Ff870 ((mFz_T gf870).trans hT) ((mFz_n gf870).trans hN) Zf870) (fun wp871 hp871 p871 => ?_)
                    obtain ⟨rfl, gp871, Fp871, Zp871⟩ := p871
                    have gwp871 := mFw_f gp871
                    have gzp871 : mFz I h hp871 := mFz_t gf870 (mFz_w gwp871)
                    refine tw_aload rfl rfl ?_
                    refine tw_push rfl ?_
                    refine tw_virt1 rfl (g_stands hG hX (gzp871).1 ((mFz_T gzp871).trans hT) ((mFz_n gzp871).trans hN) (q := 21) (by decide +kernel) Zp871.1 ⟨by have := Zp871.2; omega, Zp871.2.2⟩) (fun w9 h9 p872 => ?_)
                    obtain ⟨⟨p872, rfl⟩ | ⟨p872, rfl⟩, rfl⟩ := p872
                    · try dsimp only [tvI_i, tvJ_j, tvR_r] at p872
                      refine tw_istore rfl ?_
                      refine tw_iload rfl rfl ?_
                      refine tw_push rfl ?_
                      refine tw_ic_ne rfl (fun q873 => ?_) (fun q873 => ?_)
                      · try dsimp only [tvI_i, tvJ_j, tvR_r] at q873
                        have q873i := zneq (Y := 3) (by decide) q873
                        refine tw_iload rfl rfl ?_
                        refine tw_if_eq rfl (fun z => absurd z (by decide)) (fun _ => ?_)
                        refine tw_aload rfl rfl ?_
                        refine tw_getS rfl (hi_111_29 gzp871.1) ?_
                        refine tw_if_ne rfl (fun q874 => ?_) (fun q874 => ?_)
                        · try dsimp only [tvI_i, tvJ_j, tvR_r] at q874
                          have q874i := zneq (Y := 0) (by decide) q874
                          refine tw_aload rfl rfl ?_
                          refine tw_getS rfl (hs_111_42 gzp871.1) ?_
                          refine tw_iload rfl rfl ?_
                          refine tw_aload rfl rfl ?_
                          refine tw_getS rfl (hi_111_31 gzp871.1) ?_
                          refine tw_iast rfl (fun f875 => ?_)
                          refine tG_ast f875 (gzp871).1 (fun hf875 af875 => ?_)
                          try dsimp only [tvI_i, tvR_r] at af875
                          rw [hI9] at af875
                          have gf875 : mFz I h hf875 := mFz_a gzp871 af875 (by decide) (Nat.le_refl _)
                          have Ff875 := mAs_F af875 Fp871
                          have Zf875 := mAs_Z af875 Zp871
                          exact tw_vret rfl ⟨rfl, gf875, mCo_l hr Ff875 Zf875⟩
                        · try dsimp only [tvI_i, tvJ_j, tvR_r] at q874
                          have q874i := zeqi (Y := 0) (by decide) q874
                          exact absurd q874 (mFt_n Fp871)
                      · try dsimp only [tvI_i, tvJ_j, tvR_r] at q873
                        have q873i := zeqi (Y := 3) (by decide) q873
                        exfalso
                        have z1 := q816i
                        have z2 := q873i
                        omega
                    · try dsimp only [tvI_i, tvJ_j, tvR_r] at p872
                      refine tw_istore rfl ?_
                      refine tw_iload rfl rfl ?_
                      refine tw_push rfl ?_
                      refine tw_ic_ne rfl (fun q876 => ?_) (fun q876 => ?_)
                      · try dsimp only [tvI_i, tvJ_j, tvR_r] at q876
                        have q876i := zneq (Y := 3) (by decide) q876
                        refine tw_iload rfl rfl ?_
                        refine tw_if_eq rfl (fun _ => ?_) (fun z => absurd z (by decide))
                        refine tw_aload rfl rfl ?_
                        refine tw_getS rfl (hs_111_42 gzp871.1) ?_
                        refine tw_iload rfl rfl ?_
                        refine tw_aload rfl rfl ?_
                        refine tw_getS rfl (hi_111_31 gzp871.1) ?_
                        refine tw_iast rfl (fun f877 => ?_)
                        refine tG_ast f877 (gzp871).1 (fun hf877 af877 => ?_)
                        try dsimp only [tvI_i, tvR_r] at af877
                        rw [hI9] at af877
                        have gf877 : mFz I h hf877 := mFz_a gzp871 af877 (by decide) (Nat.le_refl _)
                        have Ff877 := mAs_F af877 Fp871
                        have Zf877 := mAs_Z af877 Zp871
                        exact tw_vret rfl ⟨rfl, gf877, mCo_l hr Ff877 Zf877⟩
                      · try dsimp only [tvI_i, tvJ_j, tvR_r] at q876
                        have q876i := zeqi (Y := 3) (by decide) q876
                        exfalso
                        have z1 := q816i
                        have z2 := q876i
                        omega
            · have gwp853 := mFw_f gp853
              have gzp853 : mFz I h hp853 := mFz_t gzp852 (mFz_w gwp853)
              have hr : r = .inl ep853 := rCl1_e K1 (by have z := q816i; omega) (by rw [← rM_bb]; have z := Np853; rw [Sp852, rA_1] at z; exact z)
              refine tw_iast rfl (fun f878 => ?_)
              refine tG_ast f878 (gzp853).1 (fun hf878 af878 => ?_)
              try dsimp only [tvI_i, tvR_r] at af878
              rw [hI9] at af878
              have gf878 : mFz I h hf878 := mFz_a gzp853 af878 (by decide) (Nat.le_refl _)
              have Ff878 := mAs_F af878 Fp853
              have Zf878 := mAs_Z af878 Zp853
              refine tw_aload rfl rfl ?_
              refine tw_getS rfl (hs_111_40 (gf878).1) ?_
              refine tw_iload rfl rfl ?_
              refine tw_aload rfl rfl ?_
              refine tw_getS rfl (hi_111_31 (gf878).1) ?_
              refine tw_iast rfl (fun f879 => ?_)
              refine tG_ast f879 (gf878).1 (fun hf879 af879 => ?_)
              try dsimp only [tvI_i, tvR_r] at af879
              rw [hI9] at af879
              have gf879 : mFz I h hf879 := mFz_a gf878 af879 (by decide) (Nat.le_refl _)
              have Ff879 := mAs_F af879 Ff878
              have Zf879 := mAs_Z af879 Zf878
              refine tw_iload rfl rfl ?_
              refine tw_push rfl ?_
              refine tw_ic_eq rfl (fun q880 => ?_) (fun q880 => ?_)
              · try dsimp only [tvI_i, tvJ_j, tvR_r] at q880
                have q880i := zeqi (Y := 3) (by decide) q880
                exfalso
                have z1 := q816i
                have z2 := q880i
                omega
              · try dsimp only [tvI_i, tvJ_j, tvR_r] at q880
                have q880i := zneq (Y := 3) (by decide) q880
                refine tw_aload rfl rfl ?_
                refine tw_getS rfl (hi_111_29 (gf879).1) ?_
                refine tw_if_ne rfl (fun q881 => ?_) (fun q881 => ?_)
                · try dsimp only [tvI_i, tvJ_j, tvR_r] at q881
                  have q881i := zneq (Y := 0) (by decide) q881
                  refine tw_aload rfl rfl ?_
                  refine tw_getS rfl (hs_111_41 (gf879).1) ?_
                  refine tw_iload rfl rfl ?_
                  refine tw_aload rfl rfl ?_
                  refine tw_getS rfl (hi_111_31 (gf879).1) ?_
                  refine tw_iast rfl (fun f882 => ?_)
                  refine tG_ast f882 (gf879).1 (fun hf882 af882 => ?_)
                  try dsimp only [tvI_i, tvR_r] at af882
                  rw [hI9] at af882
                  have gf882 : mFz I h hf882 := mFz_a gf879 af882 (by decide) (Nat.le_refl _)
                  have Ff882 := mAs_F af882 Ff879
                  have Zf882 := mAs_Z af882 Zf879
                  refine tw_aload rfl rfl ?_
                  refine tw_virt0 rfl (y_blanks hG hX (gf882).1 Ff882 ((mFz_T gf882).trans hT) ((mFz_n gf882).trans hN) Zf882) (fun wp883 hp883 p883 => ?_)
                  obtain ⟨rfl, gp883, Fp883, Zp883⟩ := p883
                  have gwp883 := mFw_f gp883
                  have gzp883 : mFz I h hp883 := mFz_t gf882 (mFz_w gwp883)
                  refine tw_aload rfl rfl ?_
                  refine tw_push rfl ?_
                  refine tw_virt1 rfl (g_stands hG hX (gzp883).1 ((mFz_T gzp883).trans hT) ((mFz_n gzp883).trans hN) (q := 21) (by decide +kernel) Zp883.1 ⟨by have := Zp883.2; omega, Zp883.2.2⟩) (fun w9 h9 p884 => ?_)
                  obtain ⟨⟨p884, rfl⟩ | ⟨p884, rfl⟩, rfl⟩ := p884
                  · try dsimp only [tvI_i, tvJ_j, tvR_r] at p884
                    refine tw_istore rfl ?_
                    refine tw_iload rfl rfl ?_
                    refine tw_push rfl ?_
                    refine tw_ic_ne rfl (fun q885 => ?_) (fun q885 => ?_)
                    · try dsimp only [tvI_i, tvJ_j, tvR_r] at q885
                      have q885i := zneq (Y := 3) (by decide) q885
                      refine tw_iload rfl rfl ?_
                      refine tw_if_eq rfl (fun z => absurd z (by decide)) (fun _ => ?_)
                      refine tw_aload rfl rfl ?_
                      refine tw_getS rfl (hi_111_29 gzp883.1) ?_
                      refine tw_if_ne rfl (fun q886 => ?_) (fun q886 => ?_)
                      · try dsimp only [tvI_i, tvJ_j, tvR_r] at q886
                        have q886i := zneq (Y := 0) (by decide) q886
                        refine tw_aload rfl rfl ?_
                        refine tw_getS rfl (hs_111_42 gzp883.1) ?_
                        refine tw_iload rfl rfl ?_
                        refine tw_aload rfl rfl ?_
                        refine tw_getS rfl (hi_111_31 gzp883.1) ?_
                        refine tw_iast rfl (fun f887 => ?_)
                        refine tG_ast f887 (gzp883).1 (fun hf887 af887 => ?_)
                        try dsimp only [tvI_i, tvR_r] at af887
                        rw [hI9] at af887
                        have gf887 : mFz I h hf887 := mFz_a gzp883 af887 (by decide) (Nat.le_refl _)
                        have Ff887 := mAs_F af887 Fp883
                        have Zf887 := mAs_Z af887 Zp883
                        exact tw_vret rfl ⟨rfl, gf887, mCo_l hr Ff887 Zf887⟩
                      · try dsimp only [tvI_i, tvJ_j, tvR_r] at q886
                        have q886i := zeqi (Y := 0) (by decide) q886
                        exact absurd q886 (mFt_n Fp883)
                    · try dsimp only [tvI_i, tvJ_j, tvR_r] at q885
                      have q885i := zeqi (Y := 3) (by decide) q885
                      exfalso
                      have z1 := q816i
                      have z2 := q885i
                      omega
                  · try dsimp only [tvI_i, tvJ_j, tvR_r] at p884
                    refine tw_istore rfl ?_
                    refine tw_iload rfl rfl ?_
                    refine tw_push rfl ?_
                    refine tw_ic_ne rfl (fun q888 => ?_) (fun q888 => ?_)
                    · try dsimp only [tvI_i, tvJ_j, tvR_r] at q888
                      have q888i := zneq (Y := 3) (by decide) q888
                      refine tw_iload rfl rfl ?_
                      refine tw_if_eq rfl (fun _ => ?_) (fun z => absurd z (by decide))
                      refine tw_aload rfl rfl ?_
                      refine tw_getS rfl (hs_111_42 gzp883.1) ?_
                      refine tw_iload rfl rfl ?_
                      refine tw_aload rfl rfl ?_
                      refine tw_getS rfl (hi_111_31 gzp883.1) ?_
                      refine tw_iast rfl (fun f889 => ?_)
                      refine tG_ast f889 (gzp883).1 (fun hf889 af889 => ?_)
                      try dsimp only [tvI_i, tvR_r] at af889
                      rw [hI9] at af889
                      have gf889 : mFz I h hf889 := mFz_a gzp883 af889 (by decide) (Nat.le_refl _)
                      have Ff889 := mAs_F af889 Fp883
                      have Zf889 := mAs_Z af889 Zp883
                      exact tw_vret rfl ⟨rfl, gf889, mCo_l hr Ff889 Zf889⟩
                    · try dsimp only [tvI_i, tvJ_j, tvR_r] at q888
                      have q888i := zeqi (Y := 3) (by decide) q888
                      exfalso
                      have z1 := q816i
                      have z2 := q888i
                      omega
                · try dsimp only [tvI_i, tvJ_j, tvR_r] at q881
                  have q881i := zeqi (Y := 0) (by decide) q881
                  exact absurd q881 (mFt_n Ff879)
        · try dsimp only [tvI_i, tvJ_j, tvR_r] at q811
          have q811i := zeqi (Y := 12) (by decide) q811
          refine tw_aload rfl rfl ?_
          refine tw_push rfl ?_
          refine tw_iload rfl rfl ?_
          refine tw_virt2 rfl (g_fails hG hX (gzp804).1 pp804e ((mFz_T gzp804).trans hT) ((mFz_n gzp804).trans hN) (w := 4) rfl (by decide) (mPl pp804e) (by have := mPle pp804e ((mFz_n gzp804).trans hN); have := mNl pp804e ((mFz_n gzp804).trans hN); have := pp804e.2.1; omega)) (fun wp890 hp890 p890 => ?_)
          obtain ⟨rfl, gp890, Fp890, ip890, jp890⟩ := p890
          have gwp890 := mFw_f gp890
          have gzp890 : mFz I h hp890 := mFz_t gzp804 (mFz_w gwp890)
          have Zp890 : mZp hp890 := mZp_k (mZp_p pp804e) ip890 jp890
          rw [Sp804, rA_1] at Fp890
          have hk4 : k < 4 := by have z := q805; omega
          have hw : rW T n (rB T n (ms h).1) (rWd (k + 12)) = true := by have z := p809; rw [Sp804, rA_1] at z; rw [rWd_14 hk4]; exact z
          have hr := rCl_cc hr0 (k := k + 12) (by omega) (by omega) hw (by have z := q811i; omega)
          exact tw_vret rfl ⟨rfl, gzp890, mCo_l hr Fp890 Zp890⟩
      · try dsimp only [tvI_i, tvJ_j, tvR_r] at q810
        have q810i := zeqi (Y := 4) (by decide) q810
        exfalso
        have z1 := q805
        have z2 := q810i
        omega
    · try dsimp only [tvI_i, tvJ_j, tvR_r] at p809
      refine tw_if_ne rfl (fun z => absurd z (by decide)) (fun _ => ?_)
      refine tw_iinc rfl rfl ?_
      refine tw_goto rfl ?_
      have hk4 : k < 4 := by have z := q805; omega
      have hno : ¬ rW T n (rB T n (ms h).1) (rWd (k + 12)) = true := by have z := p809; rw [Sp804, rA_1] at z; rw [rWd_14 hk4]; exact z
      exact tG_cut (zW_mono zTt G dp) (Or.inr ⟨rfl, rfl, rfl, k + 1, x + 1, zincN hx (by omega), by omega, fun i hi => (Classical.em (i = k)).elim (fun z => by rw [z]; exact hno) (fun z => hall i (by omega)), rfl⟩)
/-! the reference's whole rule: what its loop stands on -/
section R9
variable {T : Nat → Int32} {n f : Nat} {s : rS} {cl : List rCt} {r : Nat ⊕ (rS × List rCt)}
/-- what follows a clause -/
noncomputable def rNx (T : Nat → Int32) (n : Nat) (cl : List rCt) (r : Nat ⊕ (rS × List rCt)) : Nat ⊕ (rS × rCt) → Prop
  | .inl e => r = .inl e
  | .inr x => (¬ rB T n x.1.1 < n ∧ r = .inr (rA (rB T n x.1.1) x.1, cl ++ [x.2])) ∨ ((rB T n x.1.1 < n ∧ T (rB T n x.1.1) = 59) ∧ ∃ f, rRu T n f (rA (rB T n x.1.1 + 1) x.1) (cl ++ [x.2]) r) ∨ ((rB T n x.1.1 < n ∧ ¬ T (rB T n x.1.1) = 59) ∧ r = .inl (1 + 8 * rB T n x.1.1 + 0))
theorem rRu_st (h : rRu T n f s cl r) : ∃ r2, rCl T n cl.length s r2 ∧ rNx T n cl r r2 := by
  cases f with
  | zero => exact h.elim
  | succ f =>
    rcases h with ⟨e, h1, h2⟩ | ⟨s1, c, h1, h2⟩
    · exact ⟨.inl e, h1, h2⟩
    · refine ⟨.inr (s1, c), h1, ?_⟩
      rcases h2 with h2 | ⟨h2, h3⟩ | h2
      · exact Or.inl h2
      · exact Or.inr (Or.inl ⟨h2, f, h3⟩)
      · exact Or.inr (Or.inr h2)
theorem mCo_w {I : Nat} {r2 : Nat ⊕ (rS × rCt)} {h h2 : zH} {w : Option Value} (k : w = none ∧ mFz I h h2 ∧ mCo T n I r2 h2) (q : rNx T n cl r r2) : w = none ∧ mFz I h h2 ∧ ((∃ e, r = .inl e ∧ mFt h2 e ∧ mZp h2) ∨ ∃ s1 c1, r2 = .inr (s1, c1) ∧ mP h2 ∧ ms h2 = rA (rB T n s1.1) s1 ∧ tvI (tF h2 111 32) = 0 ∧ mRow h2 I = c1 ∧ rNx T n cl r (.inr (s1, c1))) := by
  refine ⟨k.1, k.2.1, ?_⟩
  cases r2 with
  | inl e => exact Or.inl ⟨e, q, k.2.2.1, k.2.2.2⟩
  | inr x => exact Or.inr ⟨x.1, x.2, rfl, k.2.2.1, k.2.2.2.1, k.2.2.2.2.1, k.2.2.2.2.2, q⟩
/-- what the reference's reader keeps between rules -/
noncomputable def mK (h : zH) : Prop := (0 ≤ (tvI (tF h 111 27)).toInt ∧ (tvI (tF h 111 27)).toInt ≤ 400) ∧ 0 ≤ (tvI (tF h 111 34)).toInt ∧ (0 ≤ (tvI (tF h 111 30)).toInt ∧ (tvI (tF h 111 30)).toInt ≤ 10) ∧ (∀ i, i < tN h 142 → 0 ≤ (tA h 142 i).toInt) ∧ (∀ i : Nat, i = i) ∧ tN h 133 ≤ 100000 ∧ tN h 142 ≤ 100000
theorem mRs9 {h a b c d e : zH} {lo : Nat} (hs : tSh h) (k : mK h) (e28 : mSet 28 0 h a) (e29 : mSet 29 0 a b) (e31 : mSet 31 0 b c) (e32 : mSet 32 0 c d) (e33 : mSet 33 0 d e) : mFz lo h e ∧ mP e ∧ ms e = (0, 0, []) ∧ tvI (tF e 111 32) = 0 := by
  have z0 : mFz lo h h := mFz_r hs
  have z1 := mFz_s z0 e28 (Or.inl (by unfold mFs; omega))
  have z2 := mFz_s z1 e29 (Or.inl (by unfold mFs; omega))
  have z3 := mFz_s z2 e31 (Or.inl (by unfold mFs; omega))
  have z4 := mFz_s z3 e32 (Or.inl (by unfold mFs; omega))
  have z5 := mFz_s z4 e33 (Or.inl (by unfold mFs; omega))
  have f28 : tF e 111 28 = .int 0 := (e33.2.2.1 111 28 (by decide)).trans ((e32.2.2.1 111 28 (by decide)).trans ((e31.2.2.1 111 28 (by decide)).trans ((e29.2.2.1 111 28 (by decide)).trans e28.2.1)))
  have f29 : tF e 111 29 = .int 0 := (e33.2.2.1 111 29 (by decide)).trans ((e32.2.2.1 111 29 (by decide)).trans ((e31.2.2.1 111 29 (by decide)).trans e29.2.1))
  have f31 : tF e 111 31 = .int 0 := (e33.2.2.1 111 31 (by decide)).trans ((e32.2.2.1 111 31 (by decide)).trans e31.2.1)
  have f32 : tF e 111 32 = .int 0 := (e33.2.2.1 111 32 (by decide)).trans e32.2.1
  have f33 : tF e 111 33 = .int 0 := e33.2.1
  have f34 : tF e 111 34 = tF h 111 34 := (e33.2.2.1 111 34 (by decide)).trans ((e32.2.2.1 111 34 (by decide)).trans ((e31.2.2.1 111 34 (by decide)).trans ((e29.2.2.1 111 34 (by decide)).trans (e28.2.2.1 111 34 (by decide)))))
  have A : tA e = tA h := e33.2.2.2.1.trans (e32.2.2.2.1.trans (e31.2.2.2.1.trans (e29.2.2.2.1.trans e28.2.2.2.1)))
  have N : tN e = tN h := z5.2.2.2.1
  obtain ⟨k1, k2, k3, k4, k5, k6, k7⟩ := k
  refine ⟨z5, ⟨f29, ?_, ?_, ?_, ?_, ?_, ?_, ?_, by rw [N]; exact k6, by rw [N]; exact k7⟩, ?_, ?_⟩
  · rw [f28, mFz_27 z5]
    refine ⟨by decide, ?_, k1.2⟩
    show (0 : Int) ≤ _
    exact k1.1
  · rw [f33]; decide
  · rw [f31]; decide
  · rw [f34]; exact k2
  · rw [mFz_30 z5]; exact k3
  · rw [A, N]; exact k4
  · exact k5
  · unfold ms mEn
    rw [f28, f33, f31]
    rfl
  · rw [f32]; rfl
/-- the codes of rule q, k of them -/
noncomputable def mEk (h : zH) (q k : Nat) : List Nat := (List.range k).map (fun i => mCode (tA h 133 (500 * q + i)).toNatClampNeg (tA h 134 (500 * q + i)).toNatClampNeg)
theorem mEn_k {h : zH} : mEn h = mEk h (tvI (tF h 111 30)).toNatClampNeg (tvI (tF h 111 31)).toNatClampNeg := rfl
end R9
section R10
variable {T : Nat → Int32} {n : Nat} {h h1 h2 : zH}
theorem mRow_z {lo j : Nat} (a : mFz lo h h2) (hj : j < lo) : mRow h2 j = mRow h j := by
  unfold mRow
  rw [a.2.2.2.2.2 135 j (by decide) (by decide) hj, a.2.2.2.2.2 136 j (by decide) (by decide) hj, a.2.2.2.2.2 137 j (by decide) (by decide) hj, a.2.2.2.2.2 138 j (by decide) (by decide) hj, a.2.2.2.2.2 139 j (by decide) (by decide) hj]
noncomputable def mRw (h : zH) (b : Nat) (cl : List rCt) : Prop := ∀ i, i < cl.length → cl[i]? = some (mRow h (b + i))
theorem mRw_0 {b : Nat} : mRw h b [] := fun i hi => absurd hi (Nat.not_lt_zero _)
theorem mRw_z {b lo : Nat} {cl : List rCt} (k : mRw h b cl) (a : mFz lo h h2) (hl : b + cl.length ≤ lo) : mRw h2 b cl := fun i hi => by
  rw [mRow_z a (by omega)]
  exact k i hi
theorem mRw_s {b : Nat} {cl : List rCt} {c1 : rCt} (k : mRw h b cl) (e : mRow h (b + cl.length) = c1) : mRw h b (cl ++ [c1]) := fun i hi => by
  rcases Nat.lt_or_ge i cl.length with z | z
  · rw [List.getElem?_append_left z]
    exact k i z
  · have hi : i < cl.length + 1 := by rw [List.length_append] at hi; exact hi
    obtain rfl : i = cl.length := by omega
    rw [List.getElem?_append_right (Nat.le_refl _), Nat.sub_self, e]
    rfl
/-- a whole rule's frame -/
noncomputable def mFy (h h2 : zH) : Prop := tSh h2 ∧ (∀ p b, ¬ (p = 111 ∧ (mFs b ∨ b = 46 ∨ b = 47 ∨ b = 27 ∨ b = 30)) → tF h2 p b = tF h p b) ∧ (∀ p, p ≠ 133 → p ≠ 134 → p ≠ 142 → (p < 135 ∨ 141 < p) → tA h2 p = tA h p) ∧ tN h2 = tN h ∧ mLo h h2 ∧ (∀ p q, 135 ≤ p → p ≤ 139 → q < 12 * (tvI (tF h 111 30)).toNatClampNeg → tA h2 p q = tA h p q)
noncomputable def mRo (y : Int32) (r : Nat ⊕ (rS × List rCt)) (w : Option Value) (h h2 : zH) : Prop := mFy h h2 ∧ tvI (tF h2 111 27) = 0 ∧ match r with
  | .inl e => e < 100000 ∧ w = some (.int (-2 - Int32.ofNat e)) ∧ tF h2 111 30 = tF h 111 30 ∧ tA h2 140 = tA h 140 ∧ tA h2 141 = tA h 141
  | .inr x => w = some (.int (tvI (tF h 111 30) + 1 - 1)) ∧ tvI (tF h2 111 30) = tvI (tF h 111 30) + 1 ∧ (tA h2 140 (tvI (tF h 111 30)).toNatClampNeg).toNatClampNeg = x.2.length ∧ tA h2 141 (tvI (tF h 111 30)).toNatClampNeg = y ∧ (∀ q, q ≠ (tvI (tF h 111 30)).toNatClampNeg → tA h2 140 q = tA h 140 q ∧ tA h2 141 q = tA h 141 q) ∧ mRw h2 (12 * (tvI (tF h 111 30)).toNatClampNeg) x.2 ∧ x.1.2.2 = mEk h2 (tvI (tF h 111 30)).toNatClampNeg x.1.2.2.length
/-- the loop's end, and its middle -/
noncomputable def mLp (T : Nat → Int32) (n : Nat) (r : Nat ⊕ (rS × List rCt)) (b k : Nat) (m : Int32) (h1 : zH) : Prop :=
  (m ≠ 0 ∧ k ≤ 12 ∧ mP h1 ∧ tvI (tF h1 111 32) = 0 ∧ ∃ cl f, cl.length = k ∧ mRw h1 b cl ∧ rRu T n f (ms h1) cl r)
  ∨ (m = 0 ∧ ((∃ e, r = .inl e ∧ mFt h1 e) ∨ ∃ s cl, r = .inr (s, cl) ∧ cl.length = k ∧ mRw h1 b cl ∧ tF h1 111 29 = .int 0 ∧ mEn h1 = s.2.2))
theorem nx_1 {cl : List rCt} {c1 : rCt} {s1 : rS} {r : Nat ⊕ (rS × List rCt)} (q : rNx T n cl r (.inr (s1, c1))) (h1 : ¬ rB T n s1.1 < n) : r = .inr (rA (rB T n s1.1) s1, cl ++ [c1]) := by
  rcases q with ⟨_, q⟩ | ⟨z, _⟩ | ⟨z, _⟩
  · exact q
  · exact absurd z.1 h1
  · exact absurd z.1 h1
theorem nx_2 {cl : List rCt} {c1 : rCt} {s1 : rS} {r : Nat ⊕ (rS × List rCt)} (q : rNx T n cl r (.inr (s1, c1))) (h1 : rB T n s1.1 < n ∧ T (rB T n s1.1) = 59) : ∃ f, rRu T n f (rA (rB T n s1.1 + 1) s1) (cl ++ [c1]) r := by
  rcases q with ⟨z, _⟩ | ⟨_, q⟩ | ⟨z, _⟩
  · exact absurd h1.1 z
  · exact q
  · exact absurd h1.2 z.2
theorem nx_3 {cl : List rCt} {c1 : rCt} {s1 : rS} {r : Nat ⊕ (rS × List rCt)} (q : rNx T n cl r (.inr (s1, c1))) (h1 : rB T n s1.1 < n) (h2 : ¬ (rB T n s1.1 < n ∧ T (rB T n s1.1) = 59)) : r = .inl (1 + 8 * rB T n s1.1 + 0) := by
  rcases q with ⟨z, _⟩ | ⟨z, _⟩ | ⟨_, q⟩
  · exact absurd h1 z
  · exact absurd z h2
  · exact q
theorem mFt_m {b w : Nat} {X : Int32} {h3 : zH} (k : mSet b X h h3) (hb : b ≠ 29) (F : mFt h w) : mFt h3 w := ⟨(k.2.2.1 111 29 (fun z => hb z.2.symm)).trans F.1, F.2⟩
theorem mRw_m {b q : Nat} {X : Int32} {h3 : zH} {cl : List rCt} (k : mRw h b cl) (e : mSet q X h h3) : mRw h3 b cl := fun i hi => by
  rw [k i hi]
  unfold mRow
  rw [e.2.2.2.1]
theorem mRw_a {b q i : Nat} {x : Int32} {h3 : zH} {cl : List rCt} (k : mRw h b cl) (e : mAs q i x h h3) (hq : 139 < q) : mRw h3 b cl := fun j hj => by
  rw [k j hj]
  unfold mRow
  rw [mAs_A e (q := 135) (by omega), mAs_A e (q := 136) (by omega), mAs_A e (q := 137) (by omega), mAs_A e (q := 138) (by omega), mAs_A e (q := 139) (by omega)]
theorem mFy_1 {X : Int32} {h3 : zH} (g : mFz (12 * (tvI (tF h 111 30)).toNatClampNeg) h h1) (e : mSet 27 X h1 h3) : mFy h h3 := ⟨e.1, fun p b z => (e.2.2.1 p b (fun w => z ⟨w.1, by omega⟩)).trans (g.2.1 p b (fun w => z ⟨w.1, w.2.elim Or.inl (fun y => y.elim (fun y => Or.inr (Or.inl y)) (fun y => Or.inr (Or.inr (Or.inl y))))⟩)), fun p a b c d => (congrFun e.2.2.2.1 p).trans (g.2.2.1 p a b c (by omega)), e.2.2.2.2.trans g.2.2.2.1, mLo_A e.2.2.2.1 g.2.2.2.2.1, fun p q a b c => (congrFun (congrFun e.2.2.2.1 p) q).trans (g.2.2.2.2.2 p q a b c)⟩
theorem mFy_2 {q i : Nat} {x : Int32} {h3 : zH} (a : mFy h h1) (e : mAs q i x h1 h3) (hq : q = 140 ∨ q = 141) : mFy h h3 := ⟨e.1, fun p b z => by rw [e.2.1]; exact a.2.1 p b z, fun p w1 w2 w3 w4 => (mAs_A e (by omega)).trans (a.2.2.1 p w1 w2 w3 w4), e.2.2.1.trans a.2.2.2.1, fun j hj => ⟨(mAs_o e (by omega)).trans (a.2.2.2.2.1 j hj).1, (mAs_o e (by omega)).trans (a.2.2.2.2.1 j hj).2⟩, fun p j w1 w2 w3 => (mAs_o e (by omega)).trans (a.2.2.2.2.2 p j w1 w2 w3)⟩
theorem mFy_3 {X : Int32} {h3 : zH} (a : mFy h h1) (e : mSet 30 X h1 h3) : mFy h h3 := ⟨e.1, fun p b z => (e.2.2.1 p b (fun w => z ⟨w.1, by omega⟩)).trans (a.2.1 p b z), fun p w1 w2 w3 w4 => (congrFun e.2.2.2.1 p).trans (a.2.2.1 p w1 w2 w3 w4), e.2.2.2.2.trans a.2.2.2.1, mLo_A e.2.2.2.1 a.2.2.2.2.1, fun p j w1 w2 w3 => (congrFun (congrFun e.2.2.2.1 p) j).trans (a.2.2.2.2.2 p j w1 w2 w3)⟩
theorem mEk_c {q k : Nat} (a : tA h2 133 = tA h 133) (b : tA h2 134 = tA h 134) : mEk h2 q k = mEk h q k := by
  unfold mEk
  rw [a, b]
/-- the end, with a fault; the end without one -/
theorem mRo_l {y : Int32} {r : Nat ⊕ (rS × List rCt)} {e : Nat} {hA : zH} (hr : r = .inl e) (g1 : mFz (12 * (tvI (tF h 111 30)).toNatClampNeg) h h1) (k : mSet 27 0 h1 hA) (F : mFt h1 e) : mRo y r (some (.int (-2 - tvI (tF hA 111 29)))) h hA := by
  subst hr
  refine ⟨mFy_1 g1 k, mI_x k, F.2.2, ?_, (k.2.2.1 111 30 (by decide)).trans (mFz_30 g1), (congrFun k.2.2.2.1 140).trans (g1.2.2.1 140 (by decide) (by decide) (by decide) (by decide)), (congrFun k.2.2.2.1 141).trans (g1.2.2.1 141 (by decide) (by decide) (by decide) (by decide))⟩
  rw [(k.2.2.1 111 29 (by decide)).trans F.1]
  rfl
theorem mRo_r {y x : Int32} {r : Nat ⊕ (rS × List rCt)} {s9 : rS} {cl9 : List rCt} {i1 i2 X : Int32} {hA hB hC hD : zH} (hr : r = .inr (s9, cl9)) (g1 : mFz (12 * (tvI (tF h 111 30)).toNatClampNeg) h h1) (k : mSet 27 0 h1 hA) (a1 : mAs 140 i1.toNatClampNeg x hA hB) (hi1 : i1 = tvI (tF hA 111 30)) (a2 : mAs 141 i2.toNatClampNeg y hB hC) (hi2 : i2 = tvI (tF hB 111 30)) (k2 : mSet 30 X hC hD) (hX : X = tvI (tF hC 111 30) + 1) (hx : x.toInt = cl9.length) (rw9 : mRw h1 (12 * (tvI (tF h 111 30)).toNatClampNeg) cl9) (h5 : mEn h1 = s9.2.2) : mRo y r (some (.int (tvI (tF hD 111 30) - 1))) h hD := by
  subst hr
  have EA : tF hA 111 30 = tF h 111 30 := (k.2.2.1 111 30 (by decide)).trans (mFz_30 g1)
  have EB : tF hB 111 30 = tF h 111 30 := by rw [a1.2.1]; exact EA
  have EC : tF hC 111 30 = tF h 111 30 := by rw [a2.2.1]; exact EB
  rw [hi1, EA] at a1
  rw [hi2, EB] at a2
  have ED : tvI (tF hD 111 30) = tvI (tF h 111 30) + 1 := (mI_x k2).trans (by rw [hX, EC])
  refine ⟨mFy_3 (mFy_2 (mFy_2 (mFy_1 g1 k) a1 (Or.inl rfl)) a2 (Or.inr rfl)) k2, ?_, by rw [ED], ED, ?_, ?_, fun q hq => ⟨?_, ?_⟩, mRw_m (mRw_a (mRw_a (mRw_m rw9 k) a1 (by decide)) a2 (by decide)) k2, ?_⟩
  · rw [k2.2.2.1 111 27 (by decide), a2.2.1, a1.2.1]
    exact mI_x k
  · rw [k2.2.2.2.1, mAs_o a2 (by decide), mAs_x a1]
    exact zof_cl hx
  · rw [k2.2.2.2.1]
    exact mAs_x a2
  · rw [k2.2.2.2.1, mAs_o a2 (by decide), a1.2.2.2]
    refine (if_neg (fun z => hq z.2)).trans ?_
    rw [k.2.2.2.1, g1.2.2.1 140 (by decide) (by decide) (by decide) (by decide)]
  · rw [k2.2.2.2.1, a2.2.2.2]
    refine (if_neg (fun z => hq z.2)).trans ?_
    rw [mAs_A a1 (by decide), k.2.2.2.1, g1.2.2.1 141 (by decide) (by decide) (by decide) (by decide)]
  · rw [← h5, mEn_len, mEn_k, mFz_30 g1]
    refine (mEk_c ?_ ?_).symm
    · rw [k2.2.2.2.1, mAs_A a2 (by decide), mAs_A a1 (by decide), k.2.2.2.1]
    · rw [k2.2.2.2.1, mAs_A a2 (by decide), mAs_A a1 (by decide), k.2.2.2.1]
end R10
theorem g_rule {G : zG} (hG : G.1 = zProg) (hX : G.2.1 = ztx) {h : zH} {T : Nat → Int32} {n : Nat} (hs : tSh h) (hk : mK h) (hT : tA h 132 = T) (hN : mn h = n) {y : Int32} {r : Nat ⊕ (rS × List rCt)} (hr0 : ∃ f, rRu T n f (0, 0, []) [] r) : tC zTt G 225 [.ref 111, .int y] h (fun w h2 => (¬ (¬ tvI (tF h 111 30) = 10 ∧ (tvI (tF h 111 1)).toInt ≤ y.toInt ∧ y.toInt ≤ 599) ∧ w = some (.int (-1)) ∧ h2 = h) ∨ ((¬ tvI (tF h 111 30) = 10 ∧ (tvI (tF h 111 1)).toInt ≤ y.toInt ∧ y.toInt ≤ 599) ∧ mRo y r w h h2)) := by
  refine tC_in (by rw [hG]; rfl) (fun dp => ?_)
  have g0 : mFz (12 * (tvI (tF h 111 30)).toNatClampNeg) h h := mFz_r hs
  refine tw_aload rfl rfl ?_
  refine tw_getS rfl (hi_111_30 hs) ?_
  refine tw_push rfl ?_
  refine tw_ic_eq rfl (fun q891 => ?_) (fun q891 => ?_)
  · try dsimp only [tvI_i, tvJ_j, tvR_r] at q891
    have q891i := zeqi (Y := 10) (by decide) q891
    refine tw_push rfl ?_
    exact tw_iret rfl (Or.inl ⟨fun z => z.1 q891, rfl, rfl⟩)
  · try dsimp only [tvI_i, tvJ_j, tvR_r] at q891
    have q891i := zneq (Y := 10) (by decide) q891
    refine tw_iload rfl rfl ?_
    refine tw_i2l rfl ?_
    refine tw_aload rfl rfl ?_
    refine tw_getS rfl (hi_111_1 hs) ?_
    refine tw_i2l rfl ?_
    refine tw_push rfl ?_
    refine tw_stat3 rfl (f_in hG   (HI := 599) (Int32.toInt_toInt64 _) (Int32.toInt_toInt64 _) (by decide)) (fun w9 h9 p892 => ?_)
    obtain ⟨⟨p892, rfl⟩ | ⟨p892, rfl⟩, e9⟩ := p892
    · try dsimp only [tvI_i, tvJ_j, tvR_r] at p892
      obtain rfl := e9.symm
      refine tw_if_ne rfl (fun _ => ?_) (fun z => absurd z (by decide))
      refine tw_aload rfl rfl ?_
      refine tw_push rfl ?_
      refine tw_put rfl (fun f893 => ?_)
      refine tG_setm f893 (hw_111_28 f893 (g0).1) (fun hf893 ef893 => ?_)
      try dsimp only [tvI_i] at ef893
      have gf893 : mFz (12 * (tvI (tF h 111 30)).toNatClampNeg) h hf893 := mFz_s g0 ef893 (Or.inl (by unfold mFs; omega))
      refine tw_aload rfl rfl ?_
      refine tw_push rfl ?_
      refine tw_put rfl (fun f894 => ?_)
      refine tG_setm f894 (hw_111_29 f894 (gf893).1) (fun hf894 ef894 => ?_)
      try dsimp only [tvI_i] at ef894
      have gf894 : mFz (12 * (tvI (tF h 111 30)).toNatClampNeg) h hf894 := mFz_s gf893 ef894 (Or.inl (by unfold mFs; omega))
      refine tw_aload rfl rfl ?_
      refine tw_push rfl ?_
      refine tw_put rfl (fun f895 => ?_)
      refine tG_setm f895 (hw_111_31 f895 (gf894).1) (fun hf895 ef895 => ?_)
      try dsimp only [tvI_i] at ef895
      have gf895 : mFz (12 * (tvI (tF h 111 30)).toNatClampNeg) h hf895 := mFz_s gf894 ef895 (Or.inl (by unfold mFs; omega))
      refine tw_aload rfl rfl ?_
      refine tw_push rfl ?_
      refine tw_put rfl (fun f896 => ?_)
      refine tG_setm f896 (hw_111_32 f896 (gf895).1) (fun hf896 ef896 => ?_)
      try dsimp only [tvI_i] at ef896
      have gf896 : mFz (12 * (tvI (tF h 111 30)).toNatClampNeg) h hf896 := mFz_s gf895 ef896 (Or.inl (by unfold mFs; omega))
      refine tw_aload rfl rfl ?_
      refine tw_push rfl ?_
      refine tw_put rfl (fun f897 => ?_)
      refine tG_setm f897 (hw_111_33 f897 (gf896).1) (fun hf897 ef897 => ?_)
      try dsimp only [tvI_i] at ef897
      have gf897 : mFz (12 * (tvI (tF h 111 30)).toNatClampNeg) h hf897 := mFz_s gf896 ef897 (Or.inl (by unfold mFs; omega))
      refine tw_push rfl ?_
      refine tw_istore rfl ?_
      refine tw_push rfl ?_
      refine tw_istore rfl ?_
      refine tG_loop (zW_mono zTt G dp) (zW_conj zTt G dp) (V := fun pc L st h9 _ _ => pc = 56 ∧ st = [] ∧ ∃ (h1 : zH) (k : Nat) (x m : Int32), h1 = h9 ∧ x.toInt = k ∧ k ≤ 13 ∧ mFz (12 * (tvI (tF h 111 30)).toNatClampNeg) h h1 ∧ mLp T n r (12 * (tvI (tF h 111 30)).toNatClampNeg) k m h1 ∧ L = [some (.ref 111), some (.int y), some (.int x), some (.int m)]) ?_ (⟨rfl, rfl, _, 0, 0, 1, rfl, rfl, by decide, (mRs9 (lo := (12 * (tvI (tF h 111 30)).toNatClampNeg)) hs hk ef893 ef894 ef895 ef896 ef897).1, Or.inl ⟨by decide, by decide, (mRs9 (lo := (12 * (tvI (tF h 111 30)).toNatClampNeg)) hs hk ef893 ef894 ef895 ef896 ef897).2.1, (mRs9 (lo := (12 * (tvI (tF h 111 30)).toNatClampNeg)) hs hk ef893 ef894 ef895 ef896 ef897).2.2.2, [], hr0.choose, rfl, mRw_0, by rw [(mRs9 (lo := (12 * (tvI (tF h 111 30)).toNatClampNeg)) hs hk ef893 ef894 ef895 ef896 ef897).2.2.1]; exact hr0.choose_spec⟩, rfl⟩)
      rintro _ _ _ _ _ _ ⟨rfl, rfl, h1, k, x, m, rfl, hx, hk13, g1, hlp, rfl⟩
      refine tw_iload rfl rfl ?_
      refine tw_if_eq rfl (fun q898 => ?_) (fun q898 => ?_)
      · try dsimp only [tvI_i, tvJ_j, tvR_r] at q898
        have q898i := zeqi (Y := 0) (by decide) q898
        refine tw_aload rfl rfl ?_
        refine tw_push rfl ?_
        refine tw_put rfl (fun f899 => ?_)
        refine tG_setm f899 (hw_111_27 f899 (g1).1) (fun hf899 ef899 => ?_)
        try dsimp only [tvI_i] at ef899
        have gf899 : tSh hf899 ∧ True := ⟨ef899.1, trivial⟩
        refine tw_aload rfl rfl ?_
        refine tw_getS rfl (hi_111_29 (gf899).1) ?_
        refine tw_if_le rfl (fun q900 => ?_) (fun q900 => ?_)
        · try dsimp only [tvI_i, tvJ_j, tvR_r] at q900
          refine tw_aload rfl rfl ?_
          refine tw_getS rfl (hs_111_43 (gf899).1) ?_
          refine tw_aload rfl rfl ?_
          refine tw_getS rfl (hi_111_30 (gf899).1) ?_
          refine tw_iload rfl rfl ?_
          refine tw_iast rfl (fun f901 => ?_)
          refine tG_ast f901 (gf899).1 (fun hf901 af901 => ?_)
          try dsimp only [tvI_i, tvR_r] at af901
          have gf901 : tSh hf901 ∧ True := ⟨af901.1, trivial⟩
          refine tw_aload rfl rfl ?_
          refine tw_getS rfl (hs_111_44 (gf901).1) ?_
          refine tw_aload rfl rfl ?_
          refine tw_getS rfl (hi_111_30 (gf901).1) ?_
          refine tw_iload rfl rfl ?_
          refine tw_iast rfl (fun f902 => ?_)
          refine tG_ast f902 (gf901).1 (fun hf902 af902 => ?_)
          try dsimp only [tvI_i, tvR_r] at af902
          have gf902 : tSh hf902 ∧ True := ⟨af902.1, trivial⟩
          refine tw_aload rfl rfl ?_
          refine tw_dup rfl ?_
          refine tw_getS rfl (hi_111_30 (gf902).1) ?_
          refine tw_push rfl ?_
          refine tw_iadd rfl ?_
          refine tw_put rfl (fun f903 => ?_)
          refine tG_setm f903 (hw_111_30 f903 (gf902).1) (fun hf903 ef903 => ?_)
          try dsimp only [tvI_i] at ef903
          have gf903 : tSh hf903 ∧ True := ⟨ef903.1, trivial⟩
          refine tw_aload rfl rfl ?_
          refine tw_getS rfl (hi_111_30 (gf903).1) ?_
          refine tw_push rfl ?_
          refine tw_isub rfl ?_
          have hend := (hlp.resolve_left (fun z => z.1 q898)).2
          rcases hend with ⟨e9, hr, F9⟩ | ⟨s9, cl9, hr, l9, w9, f9, n9⟩
          · exfalso
            have z := q900
            have c09 : (0 : Int32).toInt = 0 := rfl
            have y9 : (tvI (tF h1 111 29)).toInt = e9 := by rw [F9.1]; exact zofI (by have := F9.2.2; omega)
            rw [ef899.2.2.1 111 29 (by decide)] at z
            have := F9.2.1
            omega
          · exact tw_iret rfl (Or.inr ⟨⟨q891, p892⟩, mRo_r hr g1 ef899 af901 rfl af902 rfl ef903 rfl (by rw [l9]; exact hx) w9 n9⟩)
        · try dsimp only [tvI_i, tvJ_j, tvR_r] at q900
          refine tw_push rfl ?_
          refine tw_aload rfl rfl ?_
          refine tw_getS rfl (hi_111_29 (gf899).1) ?_
          refine tw_isub rfl ?_
          have hend := (hlp.resolve_left (fun z => z.1 q898)).2
          rcases hend with ⟨e9, hr, F9⟩ | ⟨s9, cl9, hr, l9, w9, f9, n9⟩
          · exact tw_iret rfl (Or.inr ⟨⟨q891, p892⟩, mRo_l hr g1 ef899 F9⟩)
          · exfalso
            have z := q900
            rw [ef899.2.2.1 111 29 (by decide), f9] at z
            exact absurd z (by decide)
      · try dsimp only [tvI_i, tvJ_j, tvR_r] at q898
        have q898i := zneq (Y := 0) (by decide) q898
        refine tw_aload rfl rfl ?_
        refine tw_iload rfl rfl ?_
        obtain ⟨hk12, p1, d1, cl, f, hcl, hrw, hru⟩ := (hlp.resolve_right (fun z => q898 z.1)).2
        obtain ⟨r2, hc2, hnx⟩ := rRu_st hru
        refine tw_virt1 rfl (g_clause hG hX g1.1 p1 ((mFz_T g1).trans hT) ((mFz_n g1).trans hN) (c := cl.length) (by rw [hcl]; exact hx) (by omega) rfl d1 hc2) (fun w9 hp904 p904 => ?_)
        obtain ⟨rfl, gp904, ⟨e2, he2, Fp904, Zp904⟩ | ⟨s1, c1, hc1, pp904, sp904, dp904, wp904, nxp904⟩⟩ := mCo_w p904 hnx
        · have gzp904 : mFz (12 * (tvI (tF h 111 30)).toNatClampNeg) h hp904 := mFz_t g1 (mFz_l (by rw [mFz_30 g1]; omega) gp904)
          refine tw_iinc rfl rfl ?_
          refine tw_aload rfl rfl ?_
          refine tw_virt0 rfl (y_blanks hG hX (gzp904).1 Fp904 ((mFz_T gzp904).trans hT) ((mFz_n gzp904).trans hN) Zp904) (fun wp905 hp905 p905 => ?_)
          obtain ⟨rfl, gp905, Fp905, Zp905⟩ := p905
          have gzp905 : mFz (12 * (tvI (tF h 111 30)).toNatClampNeg) h hp905 := mFz_t gzp904 (mFz_w (mFw_f gp905))
          refine tw_aload rfl rfl ?_
          refine tw_getS rfl (hi_111_29 gzp905.1) ?_
          refine tw_if_ne rfl (fun q906 => ?_) (fun q906 => ?_)
          · try dsimp only [tvI_i, tvJ_j, tvR_r] at q906
            have q906i := zneq (Y := 0) (by decide) q906
            refine tw_aload rfl rfl ?_
            refine tw_getS rfl (hi_111_29 gzp905.1) ?_
            refine tw_if_ne rfl (fun q907 => ?_) (fun q907 => ?_)
            · try dsimp only [tvI_i, tvJ_j, tvR_r] at q907
              have q907i := zneq (Y := 0) (by decide) q907
              refine tw_push rfl ?_
              refine tw_istore rfl ?_
              refine tw_aload rfl rfl ?_
              refine tw_dup rfl ?_
              refine tw_getS rfl (hi_111_28 gzp905.1) ?_
              refine tw_push rfl ?_
              refine tw_iadd rfl ?_
              refine tw_put rfl (fun f908 => ?_)
              refine tG_setm f908 (hw_111_28 f908 (gzp905).1) (fun hf908 ef908 => ?_)
              try dsimp only [tvI_i] at ef908
              have gf908 : mFz (12 * (tvI (tF h 111 30)).toNatClampNeg) h hf908 := mFz_s gzp905 ef908 (Or.inl (by unfold mFs; omega))
              refine tw_goto rfl ?_
              exact tG_cut (zW_mono zTt G dp) (Or.inr ⟨rfl, rfl, _, k + 1, x + 1, 0, rfl, zincN hx (by omega), by omega, gf908, Or.inr ⟨rfl, Or.inl ⟨_, he2, mFt_m ef908 (by decide) Fp905⟩⟩, rfl⟩)
            · try dsimp only [tvI_i, tvJ_j, tvR_r] at q907
              have q907i := zeqi (Y := 0) (by decide) q907
              exact absurd q907 (mFt_n Fp905)
          · try dsimp only [tvI_i, tvJ_j, tvR_r] at q906
            have q906i := zeqi (Y := 0) (by decide) q906
            exact absurd q906 (mFt_n Fp905)
        · have gzp904 : mFz (12 * (tvI (tF h 111 30)).toNatClampNeg) h hp904 := mFz_t g1 (mFz_l (by rw [mFz_30 g1]; omega) gp904)
          have hwp904 : mRw hp904 (12 * (tvI (tF h 111 30)).toNatClampNeg) (cl ++ [c1]) := mRw_s (mRw_z hrw gp904 (by rw [mFz_30 g1]; exact Nat.le_refl _)) (by have z := wp904; rw [mFz_30 g1] at z; exact z)
          refine tw_iinc rfl rfl ?_
          refine tw_aload rfl rfl ?_
          refine tw_virt0 rfl (g_blanks hG hX (gzp904).1 pp904 ((mFz_T gzp904).trans hT) ((mFz_n gzp904).trans hN)) (fun wp909 hp909 p909 => ?_)
          obtain ⟨rfl, gp909, pp909, sp909, tp909, dp909⟩ := p909
          have gzp909 : mFz (12 * (tvI (tF h 111 30)).toNatClampNeg) h hp909 := mFz_t gzp904 (mFz_w (mFw_f gp909))
          have Sp909 : ms hp909 = rA (rB T n s1.1) s1 := by rw [sp909, sp904]; exact rB_A
          have Dp909 : tvI (tF hp909 111 32) = 0 := by rw [dp909]; exact dp904
          have hwp909 : mRw hp909 (12 * (tvI (tF h 111 30)).toNatClampNeg) (cl ++ [c1]) := mRw_z hwp904 (mFz_w (lo := (12 * (tvI (tF h 111 30)).toNatClampNeg) + (cl ++ [c1]).length) (mFw_f gp909)) (Nat.le_refl _)
          refine tw_aload rfl rfl ?_
          refine tw_getS rfl (hi_111_29 gzp909.1) ?_
          refine tw_if_ne rfl (fun q910 => ?_) (fun q910 => ?_)
          · try dsimp only [tvI_i, tvJ_j, tvR_r] at q910
            have q910i := zneq (Y := 0) (by decide) q910
            exact absurd (mP_0 pp909) q910
          · try dsimp only [tvI_i, tvJ_j, tvR_r] at q910
            have q910i := zeqi (Y := 0) (by decide) q910
            refine tw_aload rfl rfl ?_
            refine tw_getS rfl (hi_111_28 gzp909.1) ?_
            refine tw_aload rfl rfl ?_
            refine tw_getS rfl (hi_111_27 gzp909.1) ?_
            refine tw_ic_ge rfl (fun q911 => ?_) (fun q911 => ?_)
            · try dsimp only [tvI_i, tvJ_j, tvR_r] at q911
              refine tw_aload rfl rfl ?_
              refine tw_getS rfl (hi_111_29 gzp909.1) ?_
              refine tw_if_ne rfl (fun q912 => ?_) (fun q912 => ?_)
              · try dsimp only [tvI_i, tvJ_j, tvR_r] at q912
                have q912i := zneq (Y := 0) (by decide) q912
                exact absurd (mP_0 pp909) q912
              · try dsimp only [tvI_i, tvJ_j, tvR_r] at q912
                have q912i := zeqi (Y := 0) (by decide) q912
                refine tw_aload rfl rfl ?_
                refine tw_getS rfl (hi_111_28 gzp909.1) ?_
                refine tw_aload rfl rfl ?_
                refine tw_getS rfl (hi_111_27 gzp909.1) ?_
                refine tw_ic_ge rfl (fun q913 => ?_) (fun q913 => ?_)
                · try dsimp only [tvI_i, tvJ_j, tvR_r] at q913
                  refine tw_push rfl ?_
                  refine tw_istore rfl ?_
                  refine tw_aload rfl rfl ?_
                  refine tw_dup rfl ?_
                  refine tw_getS rfl (hi_111_28 gzp909.1) ?_
                  refine tw_push rfl ?_
                  refine tw_iadd rfl ?_
                  refine tw_put rfl (fun f914 => ?_)
                  refine tG_setm f914 (hw_111_28 f914 (gzp909).1) (fun hf914 ef914 => ?_)
                  try dsimp only [tvI_i] at ef914
                  have gf914 : mFz (12 * (tvI (tF h 111 30)).toNatClampNeg) h hf914 := mFz_s gzp909 ef914 (Or.inl (by unfold mFs; omega))
                  refine tw_goto rfl ?_
                  have hlt : ¬ rB T n s1.1 < n := by have z := fun y => Int.not_lt.mpr q911 ((mpos ⟨pp909.2.1.1, by have := pp909.2.1; omega⟩).mpr y); rw [Sp909, rA_1, (mFz_n gzp909).trans hN] at z; exact z
                  have hwn := mRw_m hwp909 ef914
                  have hln : (cl ++ [c1]).length = k + 1 := by rw [List.length_append, hcl]; rfl
                  have hr := nx_1 nxp904 hlt
                  exact tG_cut (zW_mono zTt G dp) (Or.inr ⟨rfl, rfl, _, k + 1, x + 1, 0, rfl, zincN hx (by omega), by omega, gf914, Or.inr ⟨rfl, Or.inr ⟨_, _, hr, hln, hwn, (ef914.2.2.1 111 29 (by decide)).trans pp909.1, (mEn_o ef914 (by decide) (by decide)).trans (congrArg (fun z : rS => z.2.2) Sp909)⟩⟩, rfl⟩)
                · try dsimp only [tvI_i, tvJ_j, tvR_r] at q913
                  exact absurd q913 (Int.not_lt.mpr q911)
            · try dsimp only [tvI_i, tvJ_j, tvR_r] at q911
              refine tw_aload rfl rfl ?_
              refine tw_virt0 rfl (g_sign hG hX (gzp909).1 ((mFz_T gzp909).trans hT) ((mFz_n gzp909).trans hN) ⟨pp909.2.1.1, by have := pp909.2.1; omega⟩) (fun wp915 hp915 p915 => ?_)
              obtain ⟨⟨cp915, rfl, kp915⟩, rfl⟩ := p915
              refine tw_push rfl ?_
              refine tw_ic_eq rfl (fun q916 => ?_) (fun q916 => ?_)
              · try dsimp only [tvI_i, tvJ_j, tvR_r] at q916
                have q916i := zeqi (Y := 59) (by decide) q916
                refine tw_aload rfl rfl ?_
                refine tw_getS rfl (hi_111_29 (gzp909).1) ?_
                refine tw_if_ne rfl (fun q917 => ?_) (fun q917 => ?_)
                · try dsimp only [tvI_i, tvJ_j, tvR_r] at q917
                  have q917i := zneq (Y := 0) (by decide) q917
                  exact absurd (mP_0 pp909) q917
                · try dsimp only [tvI_i, tvJ_j, tvR_r] at q917
                  have q917i := zeqi (Y := 0) (by decide) q917
                  refine tw_aload rfl rfl ?_
                  refine tw_getS rfl (hi_111_28 (gzp909).1) ?_
                  refine tw_aload rfl rfl ?_
                  refine tw_getS rfl (hi_111_27 (gzp909).1) ?_
                  refine tw_ic_ge rfl (fun q918 => ?_) (fun q918 => ?_)
                  · try dsimp only [tvI_i, tvJ_j, tvR_r] at q918
                    exact absurd q911 (Int.not_lt.mpr q918)
                  · try dsimp only [tvI_i, tvJ_j, tvR_r] at q918
                    refine tw_push rfl ?_
                    refine tw_goto rfl ?_
                    refine tw_istore rfl ?_
                    refine tw_aload rfl rfl ?_
                    refine tw_dup rfl ?_
                    refine tw_getS rfl (hi_111_28 (gzp909).1) ?_
                    refine tw_push rfl ?_
                    refine tw_iadd rfl ?_
                    refine tw_put rfl (fun f919 => ?_)
                    refine tG_setm f919 (hw_111_28 f919 (gzp909).1) (fun hf919 ef919 => ?_)
                    try dsimp only [tvI_i] at ef919
                    have gf919 : mFz (12 * (tvI (tF h 111 30)).toNatClampNeg) h hf919 := mFz_s gzp909 ef919 (Or.inl (by unfold mFs; omega))
                    refine tw_goto rfl ?_
                    have hlt : rB T n s1.1 < n := by have z := (mpos ⟨pp909.2.1.1, by have := pp909.2.1; omega⟩).mp q911; rw [Sp909, rA_1, (mFz_n gzp909).trans hN] at z; exact z
                    have h59 : cp915 = 59 ↔ rB T n s1.1 < n ∧ T (rB T n s1.1) = 59 := by have y := sgm_k kp915 59 (by decide); rw [Sp909, rA_1] at y; exact y
                    have hwn := mRw_m hwp909 ef919
                    have hln : (cl ++ [c1]).length = k + 1 := by rw [List.length_append, hcl]; rfl
                    have hcn := rCl_12 (by rw [hc1] at hc2; exact hc2)
                    obtain ⟨f9, hf9⟩ := nx_2 nxp904 (h59.mp q916)
                    have hn4 : n ≤ 400 := by have a := mNl pp909 ((mFz_n gzp909).trans hN); have b := pp909.2.1; omega
                    obtain ⟨pn, sn, tn⟩ := mTo pp909 ((mFz_n gzp909).trans hN) ef919 (v := rB T n s1.1 + 1) (zincN (n := rB T n s1.1) (by rw [mPl pp909, Sp909, rA_1]) (by omega)) hlt
                    rw [Sp909, rA_A] at sn
                    exact tG_cut (zW_mono zTt G dp) (Or.inr ⟨rfl, rfl, _, k + 1, x + 1, 1, rfl, zincN hx (by omega), by omega, gf919, Or.inl ⟨by decide, by omega, pn, (by rw [mI_o ef919 (by decide)]; exact Dp909), _, f9, hln, hwn, by rw [sn]; exact hf9⟩, rfl⟩)
              · try dsimp only [tvI_i, tvJ_j, tvR_r] at q916
                have q916i := zneq (Y := 59) (by decide) q916
                refine tw_aload rfl rfl ?_
                refine tw_push rfl ?_
                refine tw_aload rfl rfl ?_
                refine tw_getS rfl (hi_111_28 (gzp909).1) ?_
                refine tw_virt2 rfl (g_fails hG hX (gzp909).1 pp909 ((mFz_T gzp909).trans hT) ((mFz_n gzp909).trans hN) (w := 0) rfl (by decide) (mPl pp909) (by have := mPle pp909 ((mFz_n gzp909).trans hN); have := mNl pp909 ((mFz_n gzp909).trans hN); have := pp909.2.1; omega)) (fun wp920 hp920 p920 => ?_)
                obtain ⟨rfl, gp920, Fp920, ip920, jp920⟩ := p920
                have gzp920 : mFz (12 * (tvI (tF h 111 30)).toNatClampNeg) h hp920 := mFz_t gzp909 (mFz_w (mFw_f gp920))
                have Zp920 : mZp hp920 := mZp_k (mZp_p pp909) ip920 jp920
                rw [Sp909, rA_1] at Fp920
                refine tw_aload rfl rfl ?_
                refine tw_getS rfl (hi_111_29 gzp920.1) ?_
                refine tw_if_ne rfl (fun q921 => ?_) (fun q921 => ?_)
                · try dsimp only [tvI_i, tvJ_j, tvR_r] at q921
                  have q921i := zneq (Y := 0) (by decide) q921
                  refine tw_push rfl ?_
                  refine tw_istore rfl ?_
                  refine tw_aload rfl rfl ?_
                  refine tw_dup rfl ?_
                  refine tw_getS rfl (hi_111_28 gzp920.1) ?_
                  refine tw_push rfl ?_
                  refine tw_iadd rfl ?_
                  refine tw_put rfl (fun f922 => ?_)
                  refine tG_setm f922 (hw_111_28 f922 (gzp920).1) (fun hf922 ef922 => ?_)
                  try dsimp only [tvI_i] at ef922
                  have gf922 : mFz (12 * (tvI (tF h 111 30)).toNatClampNeg) h hf922 := mFz_s gzp920 ef922 (Or.inl (by unfold mFs; omega))
                  refine tw_goto rfl ?_
                  have hlt : rB T n s1.1 < n := by have z := (mpos ⟨pp909.2.1.1, by have := pp909.2.1; omega⟩).mp q911; rw [Sp909, rA_1, (mFz_n gzp909).trans hN] at z; exact z
                  have h59 : cp915 = 59 ↔ rB T n s1.1 < n ∧ T (rB T n s1.1) = 59 := by have y := sgm_k kp915 59 (by decide); rw [Sp909, rA_1] at y; exact y
                  have hr := nx_3 nxp904 hlt (fun z => q916 (h59.mpr z))
                  exact tG_cut (zW_mono zTt G dp) (Or.inr ⟨rfl, rfl, _, k + 1, x + 1, 0, rfl, zincN hx (by omega), by omega, gf922, Or.inr ⟨rfl, Or.inl ⟨_, hr, mFt_m ef922 (by decide) Fp920⟩⟩, rfl⟩)
                · try dsimp only [tvI_i, tvJ_j, tvR_r] at q921
                  have q921i := zeqi (Y := 0) (by decide) q921
                  exact absurd q921 (mFt_n Fp920)
    · try dsimp only [tvI_i, tvJ_j, tvR_r] at p892
      obtain rfl := e9.symm
      refine tw_if_ne rfl (fun z => absurd z (by decide)) (fun _ => ?_)
      refine tw_push rfl ?_
      exact tw_iret rfl (Or.inl ⟨fun z => p892 z.2, rfl, rfl⟩)
/-- what an array holds -/
noncomputable def tK (h : zH) (p : Nat) : Nat := match h[p]? with
  | some (.inl (k, _, _)) => k
  | _ => 0
theorem tK_tSF (h : zH) (r : Nat) (b : Nat) (w : Value) : tK (tSF h r b w) = tK h := by
  unfold tSF
  split
  · rename_i e
    funext p
    unfold tK
    rw [tup_at e]
    by_cases q : p = r
    · subst q; rw [if_pos rfl, e]
    · rw [if_neg q]
  · rfl
theorem tK_tSA (h : zH) (r : Nat) (i : Nat) (x : Int32) : tK (tSA h r i x) = tK h := by
  unfold tSA
  split
  · rename_i e
    funext p
    unfold tK
    rw [tup_at e]
    by_cases q : p = r
    · subst q; rw [if_pos rfl, e]
    · rw [if_neg q]
  · rfl
theorem tK_tSJ (h : zH) (r : Nat) (i : Nat) (x : Int64) : tK (tSJ h r i x) = tK h := by
  unfold tSJ
  split
  · rename_i e
    funext p
    unfold tK
    rw [tup_at e]
    by_cases q : p = r
    · subst q; rw [if_pos rfl, e]
    · rw [if_neg q]
  · rfl
theorem tK_tSO (h : zH) (r : Nat) (i : Nat) (x : Option Nat) : tK (tSO h r i x) = tK h := by
  unfold tSO
  split
  · rename_i e
    funext p
    unfold tK
    rw [tup_at e]
    by_cases q : p = r
    · subst q; rw [if_pos rfl, e]
    · rw [if_neg q]
  · rfl
theorem tIn.kd {h : zH} {r kd : Nat} {i : Int32} (k : tIn h r kd i) : tK h r = kd := by
  obtain ⟨N, f, e, -⟩ := k
  unfold tK
  rw [e]
theorem tkd_k {xs : Nat → Int32} {τ : List Nat} {h : zH} {p t k nlo nhi : Nat} {vt : yT} (hB : zBs xs τ h) (ht : zTG[p]? = some t) (hT : zTTy[t]? = some (.inr (k, nlo, nhi, vt))) : tK h p = k := by
  obtain ⟨ct, c, a1, a2, a3⟩ := hB.1.2 _ _ (hB.2.1 _ _ ht)
  rw [hT] at a1
  cases a1
  obtain ⟨N, x, rfl, -⟩ := a3
  unfold tK
  rw [a2]
theorem bst_k {h : zH} {r kd : Nat} {i : Int32} {x : Int32} (hk : tK h r = 2) (f : tIn h r kd i) : vp_nar (if kd = 1 then .boolean else .byte) x = vp_nar .byte x := by
  have := f.kd
  rw [if_neg (by omega)]
/-- a byte of a number -/
noncomputable def bF (x s : Int32) : Int32 := vp_nar .byte (x >>> (s &&& 31)).toInt8.toInt32
/-- four bytes behind a tape -/
noncomputable def f4 (f : Nat → Int32) (n x : Int32) : Nat → Int32 := fun j => if j = (n + 1 + 1 + 1).toNatClampNeg then bF x (24 + -8 + -8 + -8) else if j = (n + 1 + 1).toNatClampNeg then bF x (24 + -8 + -8) else if j = (n + 1).toNatClampNeg then bF x (24 + -8) else if j = n.toNatClampNeg then bF x 24 else f j
noncomputable abbrev z4 (n : Int32) : Int32 := n + 1 + 1 + 1 + 1
theorem zi1n {x : Int32} {k : Int} (h : x.toInt = k) (h0 : 0 ≤ k ∧ k ≤ 1000) : (x + 1).toInt = k + 1 := (zincN (n := k.toNat) (by omega) (by omega)).trans (by omega)
theorem z4n {x : Int32} {k : Int} (h : x.toInt = k) (h0 : 0 ≤ k ∧ k ≤ 900) : (z4 x).toInt = k + 4 := by
  have e1 := zi1n h (by omega)
  have e2 := zi1n e1 (by omega)
  have e3 := zi1n e2 (by omega)
  have e4 := zi1n e3 (by omega)
  show (x + 1 + 1 + 1 + 1).toInt = _
  omega
theorem z20n {x : Int32} (h : 0 ≤ x.toInt ∧ x.toInt ≤ 1000) : (x + 20).toInt = x.toInt + 20 := by
  rw [Int32.toInt_add, show (20 : Int32).toInt = 20 from rfl]
  exact Int.bmod_eq_of_le (by show (-2147483648 : Int) ≤ x.toInt + 20; omega) (by show x.toInt + 20 < (2147483648 : Int); omega)
noncomputable abbrev f20 (f : Nat → Int32) (n a b c d e : Int32) : Nat → Int32 := f4 (f4 (f4 (f4 (f4 f n a) (z4 n) b) (z4 (z4 n)) c) (z4 (z4 (z4 n))) d) (z4 (z4 (z4 (z4 n)))) e
noncomputable abbrev z20 (n : Int32) : Int32 := z4 (z4 (z4 (z4 (z4 n))))
section CP11
variable {tt : zT} {G : zG} {cd : zK} {bc bs : Nat} {rt : Option FieldType} {dp : Nat} {Q : zQ} {Z : zX} {f : Bool} {pc : Nat} {L : zL} {s : List Value} {h : zH} {c n nx a b d r y : Nat} {v : Value} {m x1 x2 : Int32}
theorem tw_clone (hc : cd[pc]? = some (some (.castore, nx, a, b, d, v))) (k : ∀ (N : Nat) (g : Nat → Int32), h[r]? = some (.inl (0, N, .inl g)) → tG tt G cd bc bs rt (zW tt G dp) Q Z true nx L (.ref h.length :: s) (h ++ [.inl (0, N, .inl g)]) (c + 1) (n + N)) : tG tt G cd bc bs rt (zW tt G dp) Q Z f pc L (.ref r :: s) h c n := tG_row hc (fun z => Or.elim z (fun z => False.elim z) (fun z => by
  obtain ⟨N, g, e, e2, z⟩ := z
  exact Or.inr ⟨N, g, e, e2, k N g e z⟩))
theorem tw_cast (hc : cd[pc]? = some (some (.fmul, nx, a, b, d, v))) (k : tG tt G cd bc bs rt (zW tt G dp) Q Z true nx L (.ref r :: s) h c n) : tG tt G cd bc bs rt (zW tt G dp) Q Z f pc L (.ref r :: s) h c n := tG_row hc (fun z => Or.elim z (fun z => False.elim z) (fun z => by
  obtain ⟨N, g, e, e2, z⟩ := z
  exact Or.inr ⟨N, g, e, e2, k z⟩))
theorem tw_acpy (hc : cd[pc]? = some (some (.sastore, nx, a, b, d, v))) (k : ∀ (N K : Nat) (f1 g1 : Nat → Int32), h[r]? = some (.inl (0, N, .inl f1)) → h[y]? = some (.inl (0, K, .inl g1)) → tG tt G cd bc bs rt (zW tt G dp) Q Z true nx L s (h.set y (.inl (0, K, .inl (va_cpy f1 g1 0 0 m.toNatClampNeg)))) c n) : tG tt G cd bc bs rt (zW tt G dp) Q Z f pc L (.int m :: .int x1 :: .ref y :: .int x2 :: .ref r :: s) h c n := tG_row hc (fun z => Or.elim z (fun z => False.elim z) (fun z => by
  obtain ⟨N, K, f1, g1, e1, e2, e3, z⟩ := z
  exact Or.inr ⟨N, K, f1, g1, e1, e2, e3, k N K f1 g1 e1 e2 z⟩))
end CP11
/-- one array more, the first of another one's -/
noncomputable def cpy (h h2 : zH) (r : Nat) (m : Int32) : Prop := h2.length = h.length + 1 ∧ (∀ p b, p < h.length → tF h2 p b = tF h p b) ∧ (∀ p, p < h.length → tA h2 p = tA h p ∧ tO h2 p = tO h p ∧ tN h2 p = tN h p) ∧ tN h2 h.length = m.toNatClampNeg ∧ ∀ i, i < m.toNatClampNeg → tA h2 h.length i = tA h r i
theorem cpy_of {h : zH} {r N : Nat} {m : Int32} {f g : Nat → Int32} (hr : h[r]? = some (.inl (0, N, .inl f))) (hg : ∀ i, i < m.toNatClampNeg → g i = f i) : cpy h (h ++ [.inl (0, m.toNatClampNeg, .inl g)]) r m := by
  have hf : tA h r = f := by
    funext i
    unfold tA
    rw [hr]
  refine ⟨by rw [List.length_append]; rfl, fun p b hp => ?_, fun p hp => ⟨?_, ?_, ?_⟩, ?_, fun i hi => ?_⟩
  · unfold tF
    rw [List.getElem?_append_left hp]
  · funext i
    unfold tA
    rw [List.getElem?_append_left hp]
  · funext i
    unfold tO
    rw [List.getElem?_append_left hp]
  · unfold tN
    rw [List.getElem?_append_left hp]
  · unfold tN
    rw [List.getElem?_append_right (Nat.le_refl _), Nat.sub_self]
    rfl
  · rw [hf, ← hg i hi]
    unfold tA
    rw [List.getElem?_append_right (Nat.le_refl _), Nat.sub_self]
    rfl
theorem cpy_sh {h h2 : zH} {r : Nat} {m : Int32} (hl : 182 ≤ h.length) (k : cpy h h2 r m) (hs : tSh h) : tSh h2 := by
  have a1 : tSr.all (fun q => Nat.blt q.1 182) = true := by decide +kernel
  have a2 : tSi.all (fun q => Nat.blt q.1 182) = true := by decide +kernel
  refine ⟨fun q hq => ?_, fun q hq => ?_⟩
  · have := Nat.le_of_ble_eq_true (List.all_eq_true.mp a1 q hq)
    rw [k.2.1 _ _ (by omega)]; exact hs.1 q hq
  · have := Nat.le_of_ble_eq_true (List.all_eq_true.mp a2 q hq)
    rw [k.2.1 _ _ (by omega)]; exact hs.2 q hq
theorem tw_alenF {tt : zT} {G : zG} {cd : zK} {bc bs : Nat} {rt : Option FieldType} {dp : Nat} {Q : zQ} {Z : zX} {f : Bool} {pc : Nat} {L : zL} {s : List Value} {h : zH} {c n nx a b d r : Nat} {v : Value} (hc : cd[pc]? = some (some (.arraylength, nx, a, b, d, v))) (k : ∀ (kd N : Nat) (x : (Nat → Int32) ⊕ (Nat → Int64) ⊕ (Nat → UInt32) ⊕ (Nat → UInt64) ⊕ (Nat → Option Nat)), h[r]? = some (.inl (kd, N, x)) → tG tt G cd bc bs rt (zW tt G dp) Q Z true nx L (.int (Int32.ofNat N) :: s) h c n) : tG tt G cd bc bs rt (zW tt G dp) Q Z f pc L (.ref r :: s) h c n := tG_row hc (fun z => Or.elim z (fun z => False.elim z) (fun z => by
  obtain ⟨kd, N, x, hk, e, z⟩ := z
  exact Or.inr ⟨kd, N, x, hk, e, k kd N x e z⟩))
theorem f_copyOf {G : zG} (hG : G.1 = zProg) {h : zH} {r : Nat} {m : Int32} (hm : 0 ≤ m.toInt ∧ m.toInt ≤ (tN h r : Int) ∧ tN h r ≤ 1000) : tC zTt G 283 [.ref r, .int m] h (fun w h2 => w = some (.ref h.length) ∧ cpy h h2 r m) := by
  refine tC_in (by rw [hG]; rfl) (fun dp => ?_)
  refine tw_iload rfl rfl ?_
  refine tw_aload rfl rfl ?_
  refine tw_alenF rfl (fun kd N x e0 => ?_)
  have hl : r < h.length := by
    rcases Nat.lt_or_ge r h.length with z | z
    · exact z
    · rw [List.getElem?_eq_none z] at e0; cases e0
  have hN : tN h r = N := by unfold tN; rw [e0]
  rw [hN] at hm
  refine tw_ic_ne rfl (fun q => ?_) (fun q => ?_)
  · have q : ¬ m = Int32.ofNat N := q
    have hlt : m < Int32.ofNat N := Int32.lt_iff_toInt_lt.mpr (by
      rw [yofN (by omega)]
      have : m.toInt ≠ (N : Int) := fun z => q (Int32.toInt_inj.mp (by rw [yofN (by omega)]; exact z))
      omega)
    refine tw_iload rfl rfl ?_
    refine tw_newa rfl ?_
    refine tw_astore rfl ?_
    refine tw_aload rfl rfl ?_
    refine tw_push rfl ?_
    refine tw_aload rfl rfl ?_
    refine tw_push rfl ?_
    refine tw_aload rfl rfl ?_
    refine tw_alenF rfl (fun k5 N5 x5 e5 => ?_)
    have e5 : (h ++ [zarr (zkind .int) m.toNatClampNeg])[r]? = some (.inl (k5, N5, x5)) := e5
    rw [List.getElem?_append_left hl, e0] at e5
    cases e5
    refine tw_iload rfl rfl ?_
    refine tw_imin rfl ?_
    refine tw_acpy rfl (fun N2 K f1 g1 e1 e2 => ?_)
    have e1 : (h ++ [zarr (zkind .int) m.toNatClampNeg])[r]? = some (.inl (0, N2, .inl f1)) := e1
    have e2 : (h ++ [zarr (zkind .int) m.toNatClampNeg])[h.length]? = some (.inl (0, K, .inl g1)) := e2
    rw [List.getElem?_append_left hl, e0] at e1
    cases e1
    rw [List.getElem?_append_right (Nat.le_refl _), Nat.sub_self] at e2
    have e3 : zarr (zkind .int) m.toNatClampNeg = .inl (0, m.toNatClampNeg, .inl (fun _ => 0)) := rfl
    have e2 : some (zarr (zkind .int) m.toNatClampNeg) = some (.inl (0, K, .inl g1)) := e2
    rw [e3] at e2
    cases e2
    refine tw_aload rfl rfl ?_
    refine tw_aret rfl ⟨rfl, ?_⟩
    show cpy h ((h ++ [zarr (zkind .int) m.toNatClampNeg]).set h.length (.inl (0, m.toNatClampNeg, .inl (va_cpy f1 (fun _ => 0) 0 0 (if m < Int32.ofNat N then m else Int32.ofNat N).toNatClampNeg)))) r m
    rw [List.set_append_right _ _ (Nat.le_refl _), Nat.sub_self, if_pos hlt]
    exact cpy_of e0 (fun i hi => by
      unfold va_cpy
      rw [if_pos ⟨Nat.zero_le _, by omega⟩, Nat.zero_add, Nat.sub_zero])
  · have q : m = Int32.ofNat N := q
    have hmN : m.toNatClampNeg = N := by
      rw [zclE, q, yofN (by omega)]
      rfl
    refine tw_aload rfl rfl ?_
    refine tw_clone rfl (fun N2 g e => ?_)
    have e : h[r]? = some (.inl (0, N2, .inl g)) := e
    rw [e0] at e
    cases e
    refine tw_cast rfl ?_
    refine tw_aret rfl ⟨rfl, ?_⟩
    have := cpy_of (m := m) (g := g) e0 (fun _ _ => rfl)
    rw [hmN] at this
    exact this
theorem tO_st {h : zH} {r i : Nat} {x : Option Nat} {z : Int32} (hf : tInO h r z) {f : Nat → Option Nat} (k : tO h r = f) : tO (tSO h r i x) r = fun j => if j = i then x else f j := by
  rw [tO_tSO hf.cell]
  funext j
  dsimp only
  rw [k]
  by_cases e : j = i
  · rw [if_pos ⟨rfl, e⟩, if_pos e]
  · rw [if_neg (fun z => e z.2), if_neg e]
theorem tO_nz {h : zH} {r i p : Nat} {x : Option Nat} {z : Int32} (hf : tInO h r z) (hn : p ≠ r) : tO (tSO h r i x) p = tO h p := by
  rw [tO_tSO hf.cell]
  funext j
  exact if_neg (fun z => hn z.1)
/-- one rule more -/
noncomputable def cAdd (m : Int32) (h h2 : zH) : Prop := tF h2 48 3 = .int (tvI (tF h 48 3) + 1) ∧ tA h2 49 = (fun j => if j = (tvI (tF h 48 3)).toNatClampNeg then m else tA h 49 j) ∧ tO h2 50 = (fun j => if j = (tvI (tF h 48 3)).toNatClampNeg then some h.length else tO h 50 j) ∧ tO h2 51 = (fun j => if j = (tvI (tF h 48 3)).toNatClampNeg then some (h.length + 1) else tO h 51 j) ∧ tN h2 h.length = (tvI (tF h 44 5)).toNatClampNeg ∧ (∀ i, i < (tvI (tF h 44 5)).toNatClampNeg → tA h2 h.length i = tA h 46 i) ∧ tN h2 (h.length + 1) = (tvI (tF h 44 7) * 4).toNatClampNeg ∧ (∀ i, i < (tvI (tF h 44 7) * 4).toNatClampNeg → tA h2 (h.length + 1) i = tA h 47 i) ∧ (∀ p, p < h.length → p ≠ 49 → tA h2 p = tA h p) ∧ (∀ p b, p < h.length → ¬ (p = 48 ∧ b = 3) → tF h2 p b = tF h p b) ∧ (∀ p, p < h.length → p ≠ 50 → p ≠ 51 → tO h2 p = tO h p) ∧ ∀ p, p < h.length → tN h2 p = tN h p
theorem cAdd_of {h a b : zH} {m i : Int32} {kd : Nat} (hl : 182 ≤ h.length) (e : i = tvI (tF h 48 3)) (f1 : tIn h 49 kd i) (k1 : cpy (tSA h 49 i.toNatClampNeg m) a 46 (tvI (tF h 44 5))) (f2 : tInO a 50 i) (k2 : cpy (tSO a 50 i.toNatClampNeg (some (tSA h 49 i.toNatClampNeg m).length)) b 47 (tvI (tF h 44 7) * 4)) (f3 : tInO b 51 i) (f4 : tFd (tSO b 51 i.toNatClampNeg (some (tSO a 50 i.toNatClampNeg (some (tSA h 49 i.toNatClampNeg m).length)).length)) 48 3) : cAdd m h (tSF (tSO b 51 i.toNatClampNeg (some (tSO a 50 i.toNatClampNeg (some (tSA h 49 i.toNatClampNeg m).length)).length)) 48 3 (.int (i + 1))) := by
  subst e
  have L1 : (tSA h 49 (tvI (tF h 48 3)).toNatClampNeg m).length = h.length := tlen_tSA _ _ _ _
  rw [L1] at k2 f4 ⊢
  have La : a.length = h.length + 1 := by rw [k1.1, L1]
  have L2 : (tSO a 50 (tvI (tF h 48 3)).toNatClampNeg (some h.length)).length = h.length + 1 := by rw [tlen_tSO, La]
  rw [L2] at f4 ⊢
  obtain ⟨-, u1, u2, u3, u4⟩ := k1
  obtain ⟨-, v1, v2, v3, v4⟩ := k2
  rw [L1] at u1 u2 u3 u4
  rw [L2] at v1 v2 v3 v4
  refine ⟨tF_same f4, ?_, ?_, ?_, ?_, ?_, ?_, ?_, ?_, ?_, ?_, ?_⟩
  · rw [tA_tSF, tA_tSO, (v2 49 (by omega)).1, tA_tSO, (u2 49 (by omega)).1]
    exact tA_st f1 rfl
  · rw [tO_tSF, tO_nz f3 (by decide), (v2 50 (by omega)).2.1]
    refine tO_st f2 ?_
    rw [(u2 50 (by omega)).2.1, tO_tSA]
  · rw [tO_tSF]
    refine tO_st f3 ?_
    rw [(v2 51 (by omega)).2.1, tO_nz f2 (by decide), (u2 51 (by omega)).2.1, tO_tSA]
  · rw [tN_tSF, tN_tSO, (v2 h.length (by omega)).2.2, tN_tSO]
    exact u3
  · intro j hj
    rw [tA_tSF, tA_tSO, (v2 h.length (by omega)).1, tA_tSO, u4 j hj, tA_nz (by decide)]
  · rw [tN_tSF, tN_tSO]
    exact v3
  · intro j hj
    rw [tA_tSF, tA_tSO, v4 j hj, tA_tSO, (u2 47 (by omega)).1, tA_nz (by decide)]
  · intro p hp hn
    rw [tA_tSF, tA_tSO, (v2 p (by omega)).1, tA_tSO, (u2 p hp).1, tA_nz hn]
  · intro p c hp hn
    rw [tF_nz hn, tF_tSO, v1 p c (by omega), tF_tSO, u1 p c hp, tF_tSA]
  · intro p hp n1 n2
    rw [tO_tSF, tO_nz f3 n2, (v2 p (by omega)).2.1, tO_nz f2 n1, (u2 p hp).2.1, tO_tSA]
  · intro p hp
    rw [tN_tSF, tN_tSO, (v2 p (by omega)).2.2, tN_tSO, (u2 p hp).2.2, tN_tSA]
theorem f_bfull {G : zG} (hG : G.1 = zProg) {h : zH} (hs : tSh h) : tC zTt G 63 [.ref 48] h (fun w h2 => tBo ((tvI (tF h 48 3)).toInt = 10) w ∧ h2 = h) := by
  refine tC_in (by rw [hG]; rfl) (fun dp => ?_)
  refine tw_aload rfl rfl ?_
  refine tw_getS rfl (hi_48_3 hs) ?_
  refine tw_push rfl ?_
  refine tw_ic_ne rfl (fun q923 => ?_) (fun q923 => ?_)
  · try dsimp only [tvI_i, tvJ_j, tvR_r] at q923
    have q923i := zneq (Y := 10) (by decide) q923
    refine tw_push rfl ?_
    exact tw_iret rfl ⟨Or.inr ⟨by omega, rfl⟩, rfl⟩
  · try dsimp only [tvI_i, tvJ_j, tvR_r] at q923
    have q923i := zeqi (Y := 10) (by decide) q923
    refine tw_push rfl ?_
    refine tw_goto rfl ?_
    exact tw_iret rfl ⟨Or.inl ⟨by omega, rfl⟩, rfl⟩
theorem f_addRule {G : zG} (hG : G.1 = zProg) {h : zH} {m : Int32} (hs : tSh h) (hl : 182 ≤ h.length) (hc : 0 ≤ (tvI (tF h 44 5)).toInt ∧ (tvI (tF h 44 5)).toInt ≤ 400) (hk : 0 ≤ (tvI (tF h 44 7)).toInt ∧ (tvI (tF h 44 7)).toInt ≤ 12) (h46 : tN h 46 = 400) (h47 : tN h 47 = 48) : tC zTt G 64 [.ref 48, .int m, .ref 44] h (fun w h2 => (¬ (tvI (tF h 48 3)).toInt = 10 ∧ w = some (tF h 48 3) ∧ cAdd m h h2) ∨ (¬ ¬ (tvI (tF h 48 3)).toInt = 10 ∧ w = some (.int (-1)) ∧ h2 = h)) := by
  refine tC_in (by rw [hG]; rfl) (fun dp => ?_)
  have m4 : (tvI (tF h 44 7) * 4).toInt = (tvI (tF h 44 7)).toInt * 4 := zi32_4 hk.1 (by omega)
  refine tw_aload rfl rfl ?_
  refine tw_virt0 rfl (f_bfull hG hs) (fun w9 h9 p924 => ?_)
  obtain ⟨⟨p924, rfl⟩ | ⟨p924, rfl⟩, e9⟩ := p924
  · try dsimp only [tvI_i, tvJ_j, tvR_r] at p924
    obtain rfl := e9.symm
    refine tw_if_eq rfl (fun z => absurd z (by decide)) (fun _ => ?_)
    refine tw_push rfl ?_
    exact tw_iret rfl (Or.inr ⟨by omega, rfl, rfl⟩)
  · try dsimp only [tvI_i, tvJ_j, tvR_r] at p924
    obtain rfl := e9.symm
    refine tw_if_eq rfl (fun _ => ?_) (fun z => absurd z (by decide))
    refine tw_aload rfl rfl ?_
    refine tw_getS rfl (hs_48_0 hs) ?_
    refine tw_aload rfl rfl ?_
    refine tw_getS rfl (hi_48_3 hs) ?_
    refine tw_iload rfl rfl ?_
    refine tw_iast rfl (fun f925 => ?_)
    refine tw_aload rfl rfl ?_
    refine tw_getS rfl (hs_48_1 (tSh_SA hs)) ?_
    refine tw_aload rfl rfl ?_
    refine tw_getS rfl (tF_a (hi_48_3 hs)) ?_
    refine tw_aload rfl rfl ?_
    refine tw_getS rfl (hs_44_4 (tSh_SA hs)) ?_
    refine tw_aload rfl rfl ?_
    refine tw_getS rfl (tF_a (hi_44_5 hs)) ?_
    refine tw_stat2 rfl (f_copyOf hG (r := 46) (by rw [tN_tSA, h46]; omega)) (fun wp926 hp926 p926 => ?_)
    obtain ⟨rfl, cp926⟩ := p926
    refine tw_aast rfl (fun f927 => ?_)
    refine tw_aload rfl rfl ?_
    refine tw_getS rfl (hs_48_2 (tSh_SO (cpy_sh (by rw [tlen_tSA]; exact hl) cp926 (tSh_SA hs)))) ?_
    refine tw_aload rfl rfl ?_
    refine tw_getS rfl (tF_o ((cp926.2.1 48 3 (by rw [tlen_tSA]; omega)).trans (tF_a (hi_48_3 hs)))) ?_
    refine tw_aload rfl rfl ?_
    refine tw_getS rfl (hs_44_6 (tSh_SO (cpy_sh (by rw [tlen_tSA]; exact hl) cp926 (tSh_SA hs)))) ?_
    refine tw_aload rfl rfl ?_
    refine tw_getS rfl (tF_o ((cp926.2.1 44 7 (by rw [tlen_tSA]; omega)).trans (tF_a (hi_44_7 hs)))) ?_
    refine tw_push rfl ?_
    refine tw_imul rfl ?_
    refine tw_stat2 rfl (f_copyOf hG (r := 47) (by rw [tN_tSO, (cp926.2.2.1 47 (by rw [tlen_tSA]; omega)).2.2, tN_tSA, h47]; show 0 ≤ (tvI (tF h 44 7) * 4).toInt ∧ (tvI (tF h 44 7) * 4).toInt ≤ ((48 : Nat) : Int) ∧ 48 ≤ 1000; rw [m4]; omega)) (fun wp928 hp928 p928 => ?_)
    obtain ⟨rfl, cp928⟩ := p928
    refine tw_aast rfl (fun f929 => ?_)
    refine tw_aload rfl rfl ?_
    refine tw_dup rfl ?_
    refine tw_getS rfl (tF_o ((cp928.2.1 48 3 (by rw [tlen_tSO, cp926.1, tlen_tSA]; omega)).trans (tF_o ((cp926.2.1 48 3 (by rw [tlen_tSA]; omega)).trans (tF_a (hi_48_3 hs)))))) ?_
    refine tw_dup_x1 rfl ?_
    refine tw_push rfl ?_
    refine tw_iadd rfl ?_
    refine tw_put rfl (fun f930 => ?_)
    exact tw_iret rfl (Or.inl ⟨by omega, congrArg some (hi_48_3 hs).symm, cAdd_of hl rfl f925 cp926 f927 cp928 f929 f930⟩)
noncomputable def R_tlen (h : zH) : Prop := tF h 44 1 = tF h 111 27
noncomputable def R_tape (h : zH) : Prop := tA h 45 = tA h 132
noncomputable def R_rules (h : zH) : Prop := tF h 48 3 = tF h 111 30
noncomputable def R_froms (h : zH) : Prop := tA h 49 = tA h 141
theorem len_181 {h : zH} (e : tN h 181 = 81) : 182 ≤ h.length := by
  rcases Nat.lt_or_ge 181 h.length with q | q
  · omega
  · unfold tN at e
    rw [List.getElem?_eq_none q] at e
    cases e
theorem tN_lt {h : zH} {p : Nat} (e : 0 < tN h p) : p < h.length := by
  refine Classical.byContradiction (fun z => ?_)
  unfold tN at e
  rw [List.getElem?_eq_none (by omega)] at e
  exact absurd e (Nat.lt_irrefl 0)
theorem tC_and {tt : zT} {G : zG} {j : Nat} {as : List Value} {h : zH} {P Q : zQ} (k : tC tt G j as h P) (k2 : tC tt G j as h Q) : tC tt G j as h (fun w h2 => P w h2 ∧ Q w h2) := fun d z => zW_conj tt G d _ _ _ _ _ (k d z) (k2 d z)
theorem tC_triv {tt : zT} {G : zG} {j : Nat} {as : List Value} {h : zH} {Q : zQ} (k : ∀ w h2, Q w h2) : tC tt G j as h Q := fun d z => zW_mono tt G d _ _ _ _ _ (fun w h2 _ => k w h2) z
theorem f_cutTo2 {G : zG} (hG : G.1 = zProg) {h : zH} {n : Int32} : tC zTt G 74 [.ref 44, .int n] h (fun w h2 => w = some (.int n) ∧ h2 = tSF h 44 1 (.int n) ∧ tFd h 44 1) := by
  refine tC_in (by rw [hG]; rfl) (fun dp => ?_)
  refine tw_aload rfl rfl ?_
  refine tw_iload rfl rfl ?_
  refine tw_put rfl (fun f2 => ?_)
  refine tw_iload rfl rfl ?_
  exact tw_iret rfl ⟨rfl, rfl, f2⟩
/-- the codes in an array; a rule's clauses in one -/
noncomputable def cArr (h : zH) (a : Nat) : List Nat := (List.range (tN h a)).map (fun i => (tA h a i).toNatClampNeg)
noncomputable def cCls (h : zH) (b k : Nat) : List rCt := (List.range k).map (fun i => ((tA h b (4 * i)).toNatClampNeg, (tA h b (4 * i + 1)).toNatClampNeg, (tA h b (4 * i + 2)).toNatClampNeg, (tA h b (4 * i + 3)).toNatClampNeg))
/-- what the class's rule leaves -/
noncomputable def cRo (y : Int32) (r : Nat ⊕ (rS × List rCt)) (w : Option Value) (h h2 : zH) : Prop := match r with
  | .inl e => 100000 ≤ e ∨ (tF h2 44 1 = .int 0 ∧ w = some (.int (-2 - Int32.ofNat e)) ∧ tF h2 48 3 = tF h 48 3 ∧ tA h2 49 = tA h 49 ∧ (∀ p, 182 ≤ p → tA h2 p = tA h p) ∧ tO h2 50 = tO h 50 ∧ tO h2 51 = tO h 51)
  | .inr x => tF h2 44 1 = .int 0 ∧ w = some (tF h 48 3) ∧ tF h2 48 3 = .int (tvI (tF h 48 3) + 1) ∧ tA h2 49 = (fun j => if j = (tvI (tF h 48 3)).toNatClampNeg then y else tA h 49 j) ∧ ∃ a, 182 ≤ a ∧ tO h2 50 = (fun j => if j = (tvI (tF h 48 3)).toNatClampNeg then some a else tO h 50 j) ∧ tO h2 51 = (fun j => if j = (tvI (tF h 48 3)).toNatClampNeg then some (a + 1) else tO h 51 j) ∧ cArr h2 a = x.1.2.2 ∧ tN h2 (a + 1) = 4 * x.2.length ∧ cCls h2 (a + 1) x.2.length = x.2 ∧ ∀ p, 182 ≤ p → 0 < tN h p → tA h2 p = tA h p
theorem cRo_r {y : Int32} {h ha : zH} {b : zH} {w : Option Value} (hF : cFq h ha) (hP : cP ha) (hQ : cQ ha) (f1 : tFd ha 44 1) (hl : 182 ≤ ha.length) (hO : tO ha 50 = tO h 50 ∧ tO ha 51 = tO h 51) (k : cAdd y (tSF ha 44 1 (.int 0)) b) (hw : w = some (tF (tSF ha 44 1 (.int 0)) 48 3)) : cRo y (.inr (cs ha, cCl ha)) w h b := by
  have E : tF (tSF ha 44 1 (.int 0)) 48 3 = tF h 48 3 := (tF_nz (by decide)).trans (hF.2.1 48 3 (by decide))
  have E5 : tF (tSF ha 44 1 (.int 0)) 44 5 = tF ha 44 5 := tF_nz (by decide)
  have E7 : tF (tSF ha 44 1 (.int 0)) 44 7 = tF ha 44 7 := tF_nz (by decide)
  have L : (tSF ha 44 1 (.int 0)).length = ha.length := tlen_tSF _ _ _ _
  obtain ⟨k1, k2, k3, k4, k5, k6, k7, k8, k9, k10, k11, k12⟩ := k
  rw [E] at k1 k2 k3 k4
  rw [E5] at k5 k6
  rw [E7] at k7 k8
  rw [L] at k3 k4 k5 k6 k7 k8 k9 k10 k11 k12
  have m4 : (tvI (tF ha 44 7) * 4).toNatClampNeg = 4 * (tvI (tF ha 44 7)).toNatClampNeg := by
    rw [zclE, zi32_4 hQ.1 (by have := hQ.2.1; omega), zclE]
    have := hQ.1
    omega
  have hlen : (cCl ha).length = (tvI (tF ha 44 7)).toNatClampNeg := by unfold cCl; rw [List.length_map, List.length_range]
  refine ⟨?_, hw.trans (by rw [E]), k1, ?_, ha.length, hl, ?_, ?_, ?_, ?_, ?_, fun p hp h0 => ?_⟩
  · rw [k10 44 1 (by omega) (by decide)]
    exact tF_same f1
  · rw [k2]
    funext j
    rw [tA_tSF, hF.2.2.1 49 (by decide) (by decide)]
  · rw [k3, tO_tSF, hO.1]
  · rw [k4, tO_tSF, hO.2]
  · show cArr b ha.length = cCo ha
    unfold cArr cCo
    rw [k5]
    refine List.map_congr_left (fun i hi => ?_)
    have hi := List.mem_range.mp hi
    rw [k6 i hi, tA_tSF]
  · show tN b (ha.length + 1) = 4 * (cCl ha).length
    rw [k7, m4, hlen]
  · show cCls b (ha.length + 1) (cCl ha).length = cCl ha
    rw [hlen]
    unfold cCls cCl
    refine List.map_congr_left (fun i hi => ?_)
    have hi := List.mem_range.mp hi
    rw [k8 (4 * i) (by omega), k8 (4 * i + 1) (by omega), k8 (4 * i + 2) (by omega), k8 (4 * i + 3) (by omega), tA_tSF]
  · have h1 : p < ha.length := tN_lt (by rw [hF.2.2.2]; exact h0)
    rw [k9 p h1 (by omega), tA_tSF, hF.2.2.1 p (by omega) (by omega)]
theorem ofN_ne {e : Nat} (h : e < 100000) : ¬ Int32.ofNat e = -1 := by
  intro z
  have := congrArg Int32.toInt z
  rw [yofN (by omega)] at this
  have m : (-1 : Int32).toInt = -1 := rfl
  omega
noncomputable def ph_ruc (y : Int32) (h : zH) (w : Option Value) (h2 : zH) : Prop := (¬ ((tvI (tF h 48 3)).toInt ≠ 10 ∧ (tvI (tF h 0 14)).toInt ≤ y.toInt ∧ y.toInt ≤ 599) ∧ w = some (.int (-1)) ∧ h2 = h) ∨ (((tvI (tF h 48 3)).toInt ≠ 10 ∧ (tvI (tF h 0 14)).toInt ≤ y.toInt ∧ y.toInt ≤ 599) ∧ ∃ r, (∃ f, rRu (tA h 45) (cn h) f (0, 0, []) [] r) ∧ cRo y r w h h2)
theorem f_rule {G : zG} (hG : G.1 = zProg) (hX : G.2.1 = ztx) (hN : G.2.2.1 ≤ 4096) {τ : List Nat} {h : zH} {y : Int32} (hB : zBs G.2.2.2 τ h) (hs : tSh h) (hl : 0 ≤ (tvI (tF h 44 1)).toInt ∧ (tvI (tF h 44 1)).toInt ≤ 400) (hT9 : ∀ i, i < 400 → -128 ≤ (tA h 45 i).toInt ∧ (tA h 45 i).toInt ≤ 127) (h46 : tN h 46 = 400) (h47 : tN h 47 = 48) (h181 : tN h 181 = 81) : tC zTt G 124 [.ref 0, .int y] h (ph_ruc y h) := by
  by_cases hcnd : ((tvI (tF h 48 3)).toInt ≠ 10 ∧ (tvI (tF h 0 14)).toInt ≤ y.toInt ∧ y.toInt ≤ 599)
  · by_cases hbig : ∃ e f, rRu (tA h 45) (cn h) f (0, 0, []) [] (.inl e) ∧ 100000 ≤ e
    · obtain ⟨e, f, h1, h2⟩ := hbig
      exact tC_triv (fun _ _ => Or.inr ⟨hcnd, .inl e, ⟨f, h1⟩, Or.inl h2⟩)
    · refine tC_in (by rw [hG]; rfl) (fun dp => ?_)
      refine tw_aload rfl rfl ?_
      refine tw_getS rfl (hs_0_3 hs) ?_
      refine tw_virt0 rfl (f_bfull hG hs) (fun w9 h9 p931 => ?_)
      obtain ⟨⟨p931, rfl⟩ | ⟨p931, rfl⟩, e9⟩ := p931
      · try dsimp only [tvI_i, tvJ_j, tvR_r] at p931
        obtain rfl := e9.symm
        refine tw_if_ne rfl (fun _ => ?_) (fun z => absurd z (by decide))
        refine tw_push rfl ?_
        exact tw_iret rfl (Or.inl ⟨fun z => by have := z.1; omega, rfl, rfl⟩)
      · try dsimp only [tvI_i, tvJ_j, tvR_r] at p931
        obtain rfl := e9.symm
        refine tw_if_ne rfl (fun z => absurd z (by decide)) (fun _ => ?_)
        refine tw_iload rfl rfl ?_
        refine tw_aload rfl rfl ?_
        refine tw_getS rfl (hi_0_14 hs) ?_
        refine tw_push rfl ?_
        refine tw_stat3 rfl (f_isWithin hG  (HI := 599) rfl (by decide)) (fun w9 h9 p932 => ?_)
        obtain ⟨⟨p932, rfl⟩ | ⟨p932, rfl⟩, e9⟩ := p932
        · try dsimp only [tvI_i, tvJ_j, tvR_r] at p932
          obtain rfl := e9.symm
          refine tw_if_ne rfl (fun _ => ?_) (fun z => absurd z (by decide))
          refine tw_aload rfl rfl ?_
          refine tw_getS rfl (hs_0_2 hs) ?_
          refine tw_virt0 rfl (tC_and (f_readRule hG hX hs rfl rfl hl hT9 h46 h47) (tC_of (zpub hG hX hN (j := 75) (x := 44) (bs := []) (xs := []) (ct := kt_75_0) (g := false) (kd := 0) (lv := 42) (cts := [kt_75_0]) (by rfl) List.mem_cons_self (by rfl) (by rfl) (by decide) (by decide +kernel) (by decide +kernel) trivial hB))) (fun w9 hp933 p933 => ?_)
          obtain ⟨⟨Fp933, ⟨Np933, rp933, rfl, Pp933, Qp933⟩ | ⟨ep933, Np933, rp933, rfl⟩⟩, -, -, Yp933⟩ := p933
          · refine tw_istore rfl ?_
            refine tw_aload rfl rfl ?_
            refine tw_getS rfl (hs_0_2 Fp933.1) ?_
            refine tw_push rfl ?_
            refine tw_virt1 rfl (f_cutTo2 hG) (fun wp934 hp934 p934 => ?_)
            obtain ⟨rfl, rfl, fp934⟩ := p934
            refine tw_pop rfl ?_
            refine tw_iload rfl rfl ?_
            refine tw_push rfl ?_
            refine tw_ic_ne rfl (fun z => absurd z (by decide)) (fun _ => ?_)
            refine tw_aload rfl rfl ?_
            refine tw_getS rfl (hs_0_3 (hw_44_1 fp934 Fp933.1)) ?_
            refine tw_iload rfl rfl ?_
            refine tw_aload rfl rfl ?_
            refine tw_getS rfl (hs_0_2 (hw_44_1 fp934 Fp933.1)) ?_
            refine tw_virt2 rfl (f_addRule hG (hw_44_1 fp934 Fp933.1) (by rw [tlen_tSF]; exact len_181 ((congrFun Fp933.2.2.2 181).trans h181)) (by rw [tF_nz (by decide)]; exact ⟨Pp933.2.2.1.1, by have a := Pp933.2.2.1.2; have b := Pp933.1.2.1; have c := Pp933.1.2.2; omega⟩) (by rw [tF_nz (by decide)]; exact ⟨Qp933.1, Qp933.2.1⟩) (by rw [tN_tSF, Fp933.2.2.2]; exact h46) (by rw [tN_tSF, Fp933.2.2.2]; exact h47)) (fun wp935 hp935 p935 => ?_)
            refine tw_goto rfl ?_
            have E48 : tF (tSF hp933 44 1 (.int 0)) 48 3 = tF h 48 3 := (tF_nz (by decide)).trans (Fp933.2.1 48 3 (by decide))
            rcases p935 with ⟨c9, w9, k9⟩ | ⟨c9, w9, k9⟩
            · subst w9; exact tw_iret rfl (Or.inr ⟨⟨by omega, by omega⟩, _, ⟨Np933, rp933⟩, cRo_r Fp933 Pp933 Qp933 fp934 (len_181 ((congrFun Fp933.2.2.2 181).trans h181)) ⟨(tfr_A hB Yp933 (p := 50) rfl rfl).2.2, (tfr_A hB Yp933 (p := 51) rfl rfl).2.2⟩ k9 (congrArg some (hi_48_3 (hw_44_1 fp934 Fp933.1)).symm)⟩)
            · exfalso
              rw [E48] at c9
              omega
          · refine tw_istore rfl ?_
            refine tw_aload rfl rfl ?_
            refine tw_getS rfl (hs_0_2 Fp933.1) ?_
            refine tw_push rfl ?_
            refine tw_virt1 rfl (f_cutTo2 hG) (fun wp936 hp936 p936 => ?_)
            obtain ⟨rfl, rfl, fp936⟩ := p936
            refine tw_pop rfl ?_
            refine tw_iload rfl rfl ?_
            refine tw_push rfl ?_
            refine tw_ic_ne rfl (fun q937 => ?_) (fun q937 => ?_)
            · try dsimp only [tvI_i, tvJ_j, tvR_r] at q937
              have q937i := zneq (Y := (-1)) (by decide) q937
              refine tw_push rfl ?_
              refine tw_iload rfl rfl ?_
              refine tw_isub rfl ?_
              exact tw_iret rfl (Or.inr ⟨⟨by omega, by omega⟩, .inl ep933, ⟨Np933, rp933⟩, Or.inr ⟨tF_same fp936, rfl, (tF_nz (by decide)).trans (Fp933.2.1 48 3 (by decide)), (congrFun (tA_tSF _ _ _ _) 49).trans (Fp933.2.2.1 49 (by decide) (by decide)), fun p9 hp9 => (congrFun (tA_tSF _ _ _ _) p9).trans (Fp933.2.2.1 p9 (by omega) (by omega)), (congrFun (tO_tSF _ _ _ _) 50).trans (tfr_A hB Yp933 (p := 50) rfl rfl).2.2, (congrFun (tO_tSF _ _ _ _) 51).trans (tfr_A hB Yp933 (p := 51) rfl rfl).2.2⟩⟩)
            · try dsimp only [tvI_i, tvJ_j, tvR_r] at q937
              have q937i := zeqi (Y := (-1)) (by decide) q937
              exact absurd q937 (ofN_ne (Nat.lt_of_not_le (fun z => hbig ⟨_, _, rp933, z⟩)))
        · try dsimp only [tvI_i, tvJ_j, tvR_r] at p932
          obtain rfl := e9.symm
          refine tw_if_ne rfl (fun z => absurd z (by decide)) (fun _ => ?_)
          refine tw_push rfl ?_
          exact tw_iret rfl (Or.inl ⟨fun z => by have := z.1; omega, rfl, rfl⟩)
  · refine tC_in (by rw [hG]; rfl) (fun dp => ?_)
    refine tw_aload rfl rfl ?_
    refine tw_getS rfl (hs_0_3 hs) ?_
    refine tw_virt0 rfl (f_bfull hG hs) (fun w9 h9 p938 => ?_)
    obtain ⟨⟨p938, rfl⟩ | ⟨p938, rfl⟩, e9⟩ := p938
    · try dsimp only [tvI_i, tvJ_j, tvR_r] at p938
      obtain rfl := e9.symm
      refine tw_if_ne rfl (fun _ => ?_) (fun z => absurd z (by decide))
      refine tw_push rfl ?_
      exact tw_iret rfl (Or.inl ⟨fun z => by have := z.1; omega, rfl, rfl⟩)
    · try dsimp only [tvI_i, tvJ_j, tvR_r] at p938
      obtain rfl := e9.symm
      refine tw_if_ne rfl (fun z => absurd z (by decide)) (fun _ => ?_)
      refine tw_iload rfl rfl ?_
      refine tw_aload rfl rfl ?_
      refine tw_getS rfl (hi_0_14 hs) ?_
      refine tw_push rfl ?_
      refine tw_stat3 rfl (f_isWithin hG  (HI := 599) rfl (by decide)) (fun w9 h9 p939 => ?_)
      obtain ⟨⟨p939, rfl⟩ | ⟨p939, rfl⟩, e9⟩ := p939
      · try dsimp only [tvI_i, tvJ_j, tvR_r] at p939
        obtain rfl := e9.symm
        refine tw_if_ne rfl (fun _ => ?_) (fun z => absurd z (by decide))
        refine tw_aload rfl rfl ?_
        refine tw_getS rfl (hs_0_2 hs) ?_
        refine tw_virt0 rfl (tC_and (f_readRule hG hX hs rfl rfl hl hT9 h46 h47) (tC_of (zpub hG hX hN (j := 75) (x := 44) (bs := []) (xs := []) (ct := kt_75_0) (g := false) (kd := 0) (lv := 42) (cts := [kt_75_0]) (by rfl) List.mem_cons_self (by rfl) (by rfl) (by decide) (by decide +kernel) (by decide +kernel) trivial hB))) (fun w9 hp940 p940 => ?_)
        obtain ⟨⟨Fp940, ⟨Np940, rp940, rfl, Pp940, Qp940⟩ | ⟨ep940, Np940, rp940, rfl⟩⟩, -, -, Yp940⟩ := p940
        · exact absurd ⟨by omega, by omega⟩ hcnd
        · exact absurd ⟨by omega, by omega⟩ hcnd
      · try dsimp only [tvI_i, tvJ_j, tvR_r] at p939
        obtain rfl := e9.symm
        refine tw_if_ne rfl (fun z => absurd z (by decide)) (fun _ => ?_)
        refine tw_push rfl ?_
        exact tw_iret rfl (Or.inl ⟨fun z => by have := z.1; omega, rfl, rfl⟩)
theorem mK_of {xs : Nat → Int32} {τ : List Nat} {h : zH} (hB : zBs xs τ h) : mK h := ⟨kb_111_27 hB, (kb_111_34 hB).1, kb_111_30 hB, fun i hi => ((ka_142 hB).2 i (by rw [(ka_142 hB).1] at hi; exact hi)).1, fun _ => rfl, by rw [(ka_133 hB).1]; decide, by rw [(ka_142 hB).1]; decide⟩
theorem zAr_dep {G : zG} (hG : G.1 = zProg) (hT : G.2.1 = ztx) (hN : G.2.2.1 ≤ 4096) {R : zH → Prop} {cmp : Bool} {φ1 : List Int32 → zH → Option Value → zH → Prop} {φ2 : List Int32 → zH → Option Value → zH → Option Value → zH → Prop} {j1 j2 kd : Nat} {bs : List (Int × Int)} {ct1 ct2 : yCt} {g1 g2 : Bool} {l1 l2 : Nat} {cs1 cs2 : List yCt} (c1 : zCT[j1]? = some cs1) (i1 : ct1 ∈ cs1) (p1 : ct1.1 = zpM 0 bs g1) (v1 : ct1.2.2.1 = (.ofNat l1, [])) (v1' : l1 ≤ 64) (k1 : zpT kd ct1.2.2.2 = true) (q1 : zpG (ywf ct1.2.1) ct1.2.2.2 = true)
  (c2 : zCT[j2]? = some cs2) (i2 : ct2 ∈ cs2) (p2 : ct2.1 = zpM 111 bs g2) (v2 : ct2.2.2.1 = (.ofNat l2, [])) (v2' : l2 ≤ 64) (k2 : zpT kd ct2.2.2.2 = true) (q2 : zpG (ywf ct2.2.1) ct2.2.2.2 = true)
  (f1 : ∀ xs τ h, zpB bs xs → zBs G.2.2.2 τ h → R h → tC zTt G j1 (.ref 0 :: xs.map Value.int) h (fun w h2 => φ1 xs h w h2)) (f2 : ∀ xs τ h w h2 τ2, zpB bs xs → zBs G.2.2.2 τ h → R h → φ1 xs h w h2 → zBs G.2.2.2 τ2 h2 → yFr (ywf ct1.2.1) τ h h2 → tC zTt G j2 (.ref 111 :: xs.map Value.int) h2 (fun w2 h3 => φ2 xs h w h2 w2 h3))
  (fin : ∀ xs τ h w h2 τ2 w2 h3 τ3, zpB bs xs → zBs G.2.2.2 τ h → R h → φ1 xs h w h2 → zBs G.2.2.2 τ2 h2 → yFr (ywf ct1.2.1) τ h h2 → φ2 xs h w h2 w2 h3 → zBs G.2.2.2 τ3 h3 → yFr (ywf ct2.2.1) τ2 h2 h3 → (cmp = true → w2 = w) ∧ R h3) : zAr G R j1 j2 kd bs cmp := by
  intro xs h hb ⟨⟨τ, hB⟩, hR⟩
  refine zW_mono zTt G 64 _ _ _ _ _ ?_ ((f1 xs τ h hb hB hR).both (zpub hG hT hN c1 i1 p1 v1 v1' k1 q1 hb hB))
  rintro w h2 ⟨⟨t1, ⟨τ2, hB2⟩, r1⟩, h1⟩
  refine ⟨t1, zBs_111 hB2, zW_mono zTt G 64 _ _ _ _ _ ?_ ((f2 xs τ h w h2 τ2 hb hB hR h1 hB2 r1).both (zpub hG hT hN c2 i2 p2 v2 v2' k2 q2 hb hB2))⟩
  rintro w2 h3 ⟨⟨t2, ⟨τ3, hB3⟩, r2⟩, hh2⟩
  obtain ⟨e1, e2⟩ := fin xs τ h w h2 τ2 w2 h3 τ3 hb hB hR h1 hB2 r1 hh2 hB3 r2
  exact ⟨t2, e1, ⟨τ3, hB3⟩, e2⟩
noncomputable def ph_rum (y : Int32) (h : zH) (w : Option Value) (h2 : zH) (w2 : Option Value) (h3 : zH) : Prop := (w = some (.int (-1)) ∧ h2 = h ∧ w2 = some (.int (-1)) ∧ h3 = h2) ∨ ∃ r, (∃ f, rRu (tA h 45) (cn h) f (0, 0, []) [] r) ∧ cRo y r w h h2 ∧ mRo y r w2 h2 h3
theorem g_rule0 {G : zG} (hG : G.1 = zProg) {h : zH} {y : Int32} (hs : tSh h) (hc : ¬ ((tvI (tF h 111 30)).toInt ≠ 10 ∧ (tvI (tF h 111 1)).toInt ≤ y.toInt ∧ y.toInt ≤ 599)) : tC zTt G 225 [.ref 111, .int y] h (fun w h2 => w = some (.int (-1)) ∧ h2 = h) := by
  refine tC_in (by rw [hG]; rfl) (fun dp => ?_)
  refine tw_aload rfl rfl ?_
  refine tw_getS rfl (hi_111_30 hs) ?_
  refine tw_push rfl ?_
  refine tw_ic_eq rfl (fun q941 => ?_) (fun q941 => ?_)
  · try dsimp only [tvI_i, tvJ_j, tvR_r] at q941
    have q941i := zeqi (Y := 10) (by decide) q941
    refine tw_push rfl ?_
    exact tw_iret rfl ⟨rfl, rfl⟩
  · try dsimp only [tvI_i, tvJ_j, tvR_r] at q941
    have q941i := zneq (Y := 10) (by decide) q941
    refine tw_iload rfl rfl ?_
    refine tw_i2l rfl ?_
    refine tw_aload rfl rfl ?_
    refine tw_getS rfl (hi_111_1 hs) ?_
    refine tw_i2l rfl ?_
    refine tw_push rfl ?_
    refine tw_stat3 rfl (f_in hG   (HI := 599) (Int32.toInt_toInt64 _) (Int32.toInt_toInt64 _) (by decide)) (fun w9 h9 p942 => ?_)
    obtain ⟨⟨p942, rfl⟩ | ⟨p942, rfl⟩, e9⟩ := p942
    · try dsimp only [tvI_i, tvJ_j, tvR_r] at p942
      obtain rfl := e9.symm
      exact absurd ⟨by omega, by omega⟩ hc
    · try dsimp only [tvI_i, tvJ_j, tvR_r] at p942
      obtain rfl := e9.symm
      refine tw_if_ne rfl (fun z => absurd z (by decide)) (fun _ => ?_)
      refine tw_push rfl ?_
      exact tw_iret rfl ⟨rfl, rfl⟩
theorem g_ruleD {G : zG} (hG : G.1 = zProg) (hX : G.2.1 = ztx) {τ τ2 : List Nat} {y : Int32} {h h2 : zH} {w : Option Value} (hB : zBs G.2.2.2 τ h) (hB2 : zBs G.2.2.2 τ2 h2) (hL : R_tlen h) (hT : R_tape h) (hN : R_rules h) (hW : R_now h) (e1 : tF h2 111 27 = tF h 111 27) (e2 : tF h2 111 30 = tF h 111 30) (e3 : tF h2 111 1 = tF h 111 1) (o1 : tA h2 132 = tA h 132) (k1 : ph_ruc y h w h2) : tC zTt G 225 [.ref 111, .int y] h2 (ph_rum y h w h2) := by
  unfold R_tlen at hL
  unfold R_tape at hT
  unfold R_rules at hN
  unfold R_now at hW
  rcases k1 with ⟨c1, rfl, rfl⟩ | ⟨c1, r, ⟨f, hr⟩, k1⟩
  · refine (g_rule0 hG (zBs_sh hB2) ?_).mono (fun w2 h3 z => Or.inl ⟨rfl, rfl, z.1, z.2⟩)
    rw [← hN, ← hW]
    exact c1
  · have hmn : mn h2 = cn h := by unfold mn cn; rw [e1, ← hL]
    refine (g_rule hG hX (zBs_sh hB2) (mK_of hB2) (o1.trans hT.symm) hmn ⟨f, hr⟩).mono (fun w2 h3 z => ?_)
    rcases z with ⟨c2, -⟩ | ⟨-, z⟩
    · refine absurd ?_ c2
      rw [e2, e3, ← hN, ← hW]
      exact ⟨fun y9 => c1.1 (by rw [y9]; rfl), c1.2.1, c1.2.2⟩
    · exact Or.inr ⟨r, ⟨f, hr⟩, k1, z⟩
theorem a_rule {xs : Nat → Int32} {τ : List Nat} {y : Int32} {h h2 h3 : zH} {w w2 : Option Value} (hB : zBs xs τ h) (hL : R_tlen h) (hN : R_rules h) (hF : R_froms h) (e1 : tF h2 111 27 = tF h 111 27) (e2 : tF h2 111 30 = tF h 111 30) (o2 : tA h2 141 = tA h 141) (t1 : tF h3 44 1 = tF h2 44 1) (t2 : tF h3 48 3 = tF h2 48 3) (t3 : tA h3 49 = tA h2 49) (k2 : ph_rum y h w h2 w2 h3) : w2 = w ∧ R_tlen h3 ∧ R_rules h3 ∧ R_froms h3 := by
  have hN0 := hN
  have hF0 := hF
  unfold R_rules at hN0
  unfold R_froms at hF0
  have i48 := hi_48_3 (zBs_sh hB)
  rcases k2 with ⟨rfl, rfl, rfl, rfl⟩ | ⟨r, -, k1, k2⟩
  · exact ⟨rfl, hL, hN, hF⟩
  · obtain ⟨m1, m2, k2⟩ := k2
    have E27 : tF h3 111 27 = .int 0 := by rw [hi_111_27 m1.1, m2]
    cases r with
    | inl e =>
      obtain ⟨m3, rfl, m4, -, m5⟩ := k2
      rcases k1 with k1 | ⟨k1, rfl, k3, k4, -⟩
      · exact absurd m3 (Nat.not_lt_of_le k1)
      · refine ⟨rfl, ?_, ?_, ?_⟩
        · unfold R_tlen
          rw [t1, k1, E27]
        · unfold R_rules
          rw [t2, k3, m4, e2]
          exact hN0
        · unfold R_froms
          rw [t3, k4, m5, o2]
          exact hF0
    | inr x =>
      obtain ⟨rfl, m4, m5, m6, m7, -⟩ := k2
      obtain ⟨k1, rfl, k3, k4, -⟩ := k1
      have E30 : tvI (tF h2 111 30) = tvI (tF h 48 3) := by rw [e2, ← hN0]
      refine ⟨?_, ?_, ?_, ?_⟩
      · rw [zi1, E30]
        exact congrArg some i48.symm
      · unfold R_tlen
        rw [t1, k1, E27]
      · unfold R_rules
        rw [t2, k3, hi_111_30 m1.1, m4, E30]
      · unfold R_froms
        rw [t3, k4]
        funext q
        rw [E30] at m6 m7
        by_cases z : q = (tvI (tF h 48 3)).toNatClampNeg
        · rw [if_pos z, z, m6]
        · rw [if_neg z, (m7 q z).2, o2, ← hF0]
theorem f_put {G : zG} (hG : G.1 = zProg) {h : zH} {x : Int32} (hs : tSh h) (hk : tK h 45 = 2) (hl : 0 ≤ (tvI (tF h 44 1)).toInt ∧ (tvI (tF h 44 1)).toInt ≤ 396) : tC zTt G 73 [.ref 44, .int x] h (fun w h2 => w = none ∧ tSh h2 ∧ tF h2 44 1 = .int (z4 (tvI (tF h 44 1))) ∧ tA h2 45 = f4 (tA h 45) (tvI (tF h 44 1)) x ∧ tK h2 45 = 2) := by
  refine tC_in (by rw [hG]; rfl) (fun dp => ?_)
  have e0 : (tvI (tF h 44 1)).toInt = (tvI (tF h 44 1)).toInt := rfl
  have e1 := zi1n e0 (by omega)
  have e2 := zi1n e1 (by omega)
  have e3 := zi1n e2 (by omega)
  have h4 : (400 : Int32).toInt = 400 := rfl
  refine tw_push rfl ?_
  refine tw_istore rfl ?_
  refine tw_iload rfl rfl ?_
  refine tw_if_lt rfl (fun z => absurd z (by decide)) (fun _ => ?_)
  refine tw_aload rfl rfl ?_
  refine tw_getS rfl (hi_44_1 hs) ?_
  refine tw_push rfl ?_
  refine tw_ic_ge rfl (fun q943 => ?_) (fun q943 => ?_)
  · try dsimp only [tvI_i, tvJ_j, tvR_r] at q943
    exact absurd q943 (by omega)
  · try dsimp only [tvI_i, tvJ_j, tvR_r] at q943
    refine tw_aload rfl rfl ?_
    refine tw_getS rfl (hs_44_0 hs) ?_
    refine tw_aload rfl rfl ?_
    refine tw_getS rfl (hi_44_1 hs) ?_
    refine tw_iload rfl rfl ?_
    refine tw_iload rfl rfl ?_
    refine tw_ishr rfl ?_
    refine tw_i2b rfl ?_
    refine tw_bast rfl (fun kf944 zf944 f944 => ?_)
    rw [bst_k hk f944]
    refine tw_aload rfl rfl ?_
    refine tw_dup rfl ?_
    refine tw_getS rfl (tF_a (hi_44_1 hs)) ?_
    refine tw_push rfl ?_
    refine tw_iadd rfl ?_
    refine tw_put rfl (fun f945 => ?_)
    refine tw_iinc rfl rfl ?_
    refine tw_goto rfl ?_
    refine tw_iload rfl rfl ?_
    refine tw_if_lt rfl (fun z => absurd z (by decide)) (fun _ => ?_)
    refine tw_aload rfl rfl ?_
    refine tw_getS rfl (tF_same f945) ?_
    refine tw_push rfl ?_
    refine tw_ic_ge rfl (fun q946 => ?_) (fun q946 => ?_)
    · try dsimp only [tvI_i, tvJ_j, tvR_r] at q946
      exact absurd q946 (by omega)
    · try dsimp only [tvI_i, tvJ_j, tvR_r] at q946
      refine tw_aload rfl rfl ?_
      refine tw_getS rfl (hs_44_0 (hw_44_1 f945 (tSh_SA hs))) ?_
      refine tw_aload rfl rfl ?_
      refine tw_getS rfl (tF_same f945) ?_
      refine tw_iload rfl rfl ?_
      refine tw_iload rfl rfl ?_
      refine tw_ishr rfl ?_
      refine tw_i2b rfl ?_
      refine tw_bast rfl (fun kf947 zf947 f947 => ?_)
      rw [bst_k (by rw [tK_tSF]; exact (by rw [tK_tSA]; exact hk)) f947]
      refine tw_aload rfl rfl ?_
      refine tw_dup rfl ?_
      refine tw_getS rfl (tF_a (tF_same f945)) ?_
      refine tw_push rfl ?_
      refine tw_iadd rfl ?_
      refine tw_put rfl (fun f948 => ?_)
      refine tw_iinc rfl rfl ?_
      refine tw_goto rfl ?_
      refine tw_iload rfl rfl ?_
      refine tw_if_lt rfl (fun z => absurd z (by decide)) (fun _ => ?_)
      refine tw_aload rfl rfl ?_
      refine tw_getS rfl (tF_same f948) ?_
      refine tw_push rfl ?_
      refine tw_ic_ge rfl (fun q949 => ?_) (fun q949 => ?_)
      · try dsimp only [tvI_i, tvJ_j, tvR_r] at q949
        exact absurd q949 (by omega)
      · try dsimp only [tvI_i, tvJ_j, tvR_r] at q949
        refine tw_aload rfl rfl ?_
        refine tw_getS rfl (hs_44_0 (hw_44_1 f948 (tSh_SA (hw_44_1 f945 (tSh_SA hs))))) ?_
        refine tw_aload rfl rfl ?_
        refine tw_getS rfl (tF_same f948) ?_
        refine tw_iload rfl rfl ?_
        refine tw_iload rfl rfl ?_
        refine tw_ishr rfl ?_
        refine tw_i2b rfl ?_
        refine tw_bast rfl (fun kf950 zf950 f950 => ?_)
        rw [bst_k (by rw [tK_tSF]; exact (by rw [tK_tSA]; exact (by rw [tK_tSF]; exact (by rw [tK_tSA]; exact hk)))) f950]
        refine tw_aload rfl rfl ?_
        refine tw_dup rfl ?_
        refine tw_getS rfl (tF_a (tF_same f948)) ?_
        refine tw_push rfl ?_
        refine tw_iadd rfl ?_
        refine tw_put rfl (fun f951 => ?_)
        refine tw_iinc rfl rfl ?_
        refine tw_goto rfl ?_
        refine tw_iload rfl rfl ?_
        refine tw_if_lt rfl (fun z => absurd z (by decide)) (fun _ => ?_)
        refine tw_aload rfl rfl ?_
        refine tw_getS rfl (tF_same f951) ?_
        refine tw_push rfl ?_
        refine tw_ic_ge rfl (fun q952 => ?_) (fun q952 => ?_)
        · try dsimp only [tvI_i, tvJ_j, tvR_r] at q952
          exact absurd q952 (by omega)
        · try dsimp only [tvI_i, tvJ_j, tvR_r] at q952
          refine tw_aload rfl rfl ?_
          refine tw_getS rfl (hs_44_0 (hw_44_1 f951 (tSh_SA (hw_44_1 f948 (tSh_SA (hw_44_1 f945 (tSh_SA hs))))))) ?_
          refine tw_aload rfl rfl ?_
          refine tw_getS rfl (tF_same f951) ?_
          refine tw_iload rfl rfl ?_
          refine tw_iload rfl rfl ?_
          refine tw_ishr rfl ?_
          refine tw_i2b rfl ?_
          refine tw_bast rfl (fun kf953 zf953 f953 => ?_)
          rw [bst_k (by rw [tK_tSF]; exact (by rw [tK_tSA]; exact (by rw [tK_tSF]; exact (by rw [tK_tSA]; exact (by rw [tK_tSF]; exact (by rw [tK_tSA]; exact hk)))))) f953]
          refine tw_aload rfl rfl ?_
          refine tw_dup rfl ?_
          refine tw_getS rfl (tF_a (tF_same f951)) ?_
          refine tw_push rfl ?_
          refine tw_iadd rfl ?_
          refine tw_put rfl (fun f954 => ?_)
          refine tw_iinc rfl rfl ?_
          refine tw_goto rfl ?_
          refine tw_iload rfl rfl ?_
          refine tw_if_lt rfl (fun _ => ?_) (fun z => absurd z (by decide))
          exact tw_vret rfl ⟨rfl, (hw_44_1 f954 (tSh_SA (hw_44_1 f951 (tSh_SA (hw_44_1 f948 (tSh_SA (hw_44_1 f945 (tSh_SA hs)))))))), (tF_same f954), (tA_ff (tA_st f953 (tA_ff (tA_st f950 (tA_ff (tA_st f947 (tA_ff (tA_st f944 rfl)))))))), (by rw [tK_tSF]; exact (by rw [tK_tSA]; exact (by rw [tK_tSF]; exact (by rw [tK_tSA]; exact (by rw [tK_tSF]; exact (by rw [tK_tSA]; exact (by rw [tK_tSF]; exact (by rw [tK_tSA]; exact hk))))))))⟩
theorem g_put {G : zG} (hG : G.1 = zProg) {h : zH} {x : Int32} (hs : tSh h) (hk : tK h 132 = 2) (hl : 0 ≤ (tvI (tF h 111 27)).toInt ∧ (tvI (tF h 111 27)).toInt ≤ 396) : tC zTt G 197 [.ref 111, .int x] h (fun w h2 => w = none ∧ tSh h2 ∧ tF h2 111 27 = .int (z4 (tvI (tF h 111 27))) ∧ tA h2 132 = f4 (tA h 132) (tvI (tF h 111 27)) x ∧ tK h2 132 = 2) := by
  refine tC_in (by rw [hG]; rfl) (fun dp => ?_)
  have e0 : (tvI (tF h 111 27)).toInt = (tvI (tF h 111 27)).toInt := rfl
  have e1 := zi1n e0 (by omega)
  have e2 := zi1n e1 (by omega)
  have e3 := zi1n e2 (by omega)
  have h4 : (400 : Int32).toInt = 400 := rfl
  refine tw_push rfl ?_
  refine tw_istore rfl ?_
  refine tw_iload rfl rfl ?_
  refine tw_if_lt rfl (fun z => absurd z (by decide)) (fun _ => ?_)
  refine tw_aload rfl rfl ?_
  refine tw_getS rfl (hs_111_35 hs) ?_
  refine tw_aload rfl rfl ?_
  refine tw_getS rfl (hi_111_27 hs) ?_
  refine tw_iload rfl rfl ?_
  refine tw_iload rfl rfl ?_
  refine tw_ishr rfl ?_
  refine tw_i2b rfl ?_
  refine tw_bast rfl (fun kf955 zf955 f955 => ?_)
  rw [bst_k hk f955]
  refine tw_aload rfl rfl ?_
  refine tw_dup rfl ?_
  refine tw_getS rfl (tF_a (hi_111_27 hs)) ?_
  refine tw_push rfl ?_
  refine tw_iadd rfl ?_
  refine tw_put rfl (fun f956 => ?_)
  refine tw_iinc rfl rfl ?_
  refine tw_goto rfl ?_
  refine tw_iload rfl rfl ?_
  refine tw_if_lt rfl (fun z => absurd z (by decide)) (fun _ => ?_)
  refine tw_aload rfl rfl ?_
  refine tw_getS rfl (hs_111_35 (hw_111_27 f956 (tSh_SA hs))) ?_
  refine tw_aload rfl rfl ?_
  refine tw_getS rfl (tF_same f956) ?_
  refine tw_iload rfl rfl ?_
  refine tw_iload rfl rfl ?_
  refine tw_ishr rfl ?_
  refine tw_i2b rfl ?_
  refine tw_bast rfl (fun kf957 zf957 f957 => ?_)
  rw [bst_k (by rw [tK_tSF]; exact (by rw [tK_tSA]; exact hk)) f957]
  refine tw_aload rfl rfl ?_
  refine tw_dup rfl ?_
  refine tw_getS rfl (tF_a (tF_same f956)) ?_
  refine tw_push rfl ?_
  refine tw_iadd rfl ?_
  refine tw_put rfl (fun f958 => ?_)
  refine tw_iinc rfl rfl ?_
  refine tw_goto rfl ?_
  refine tw_iload rfl rfl ?_
  refine tw_if_lt rfl (fun z => absurd z (by decide)) (fun _ => ?_)
  refine tw_aload rfl rfl ?_
  refine tw_getS rfl (hs_111_35 (hw_111_27 f958 (tSh_SA (hw_111_27 f956 (tSh_SA hs))))) ?_
  refine tw_aload rfl rfl ?_
  refine tw_getS rfl (tF_same f958) ?_
  refine tw_iload rfl rfl ?_
  refine tw_iload rfl rfl ?_
  refine tw_ishr rfl ?_
  refine tw_i2b rfl ?_
  refine tw_bast rfl (fun kf959 zf959 f959 => ?_)
  rw [bst_k (by rw [tK_tSF]; exact (by rw [tK_tSA]; exact (by rw [tK_tSF]; exact (by rw [tK_tSA]; exact hk)))) f959]
  refine tw_aload rfl rfl ?_
  refine tw_dup rfl ?_
  refine tw_getS rfl (tF_a (tF_same f958)) ?_
  refine tw_push rfl ?_
  refine tw_iadd rfl ?_
  refine tw_put rfl (fun f960 => ?_)
  refine tw_iinc rfl rfl ?_
  refine tw_goto rfl ?_
  refine tw_iload rfl rfl ?_
  refine tw_if_lt rfl (fun z => absurd z (by decide)) (fun _ => ?_)
  refine tw_aload rfl rfl ?_
  refine tw_getS rfl (hs_111_35 (hw_111_27 f960 (tSh_SA (hw_111_27 f958 (tSh_SA (hw_111_27 f956 (tSh_SA hs))))))) ?_
  refine tw_aload rfl rfl ?_
  refine tw_getS rfl (tF_same f960) ?_
  refine tw_iload rfl rfl ?_
  refine tw_iload rfl rfl ?_
  refine tw_ishr rfl ?_
  refine tw_i2b rfl ?_
  refine tw_bast rfl (fun kf961 zf961 f961 => ?_)
  rw [bst_k (by rw [tK_tSF]; exact (by rw [tK_tSA]; exact (by rw [tK_tSF]; exact (by rw [tK_tSA]; exact (by rw [tK_tSF]; exact (by rw [tK_tSA]; exact hk)))))) f961]
  refine tw_aload rfl rfl ?_
  refine tw_dup rfl ?_
  refine tw_getS rfl (tF_a (tF_same f960)) ?_
  refine tw_push rfl ?_
  refine tw_iadd rfl ?_
  refine tw_put rfl (fun f962 => ?_)
  refine tw_iinc rfl rfl ?_
  refine tw_goto rfl ?_
  refine tw_iload rfl rfl ?_
  refine tw_if_lt rfl (fun _ => ?_) (fun z => absurd z (by decide))
  exact tw_vret rfl ⟨rfl, (hw_111_27 f962 (tSh_SA (hw_111_27 f960 (tSh_SA (hw_111_27 f958 (tSh_SA (hw_111_27 f956 (tSh_SA hs)))))))), (tF_same f962), (tA_ff (tA_st f961 (tA_ff (tA_st f959 (tA_ff (tA_st f957 (tA_ff (tA_st f955 rfl)))))))), (by rw [tK_tSF]; exact (by rw [tK_tSA]; exact (by rw [tK_tSF]; exact (by rw [tK_tSA]; exact (by rw [tK_tSF]; exact (by rw [tK_tSA]; exact (by rw [tK_tSF]; exact (by rw [tK_tSA]; exact hk))))))))⟩
theorem f_hasRoom {G : zG} (hG : G.1 = zProg) {h : zH} {n : Int32} (hs : tSh h) : tC zTt G 72 [.ref 44, .int n] h (fun w h2 => tBo ((tvI (tF h 44 1) + n).toInt ≤ 400) w ∧ h2 = h) := by
  refine tC_in (by rw [hG]; rfl) (fun dp => ?_)
  have h4 : (400 : Int32).toInt = 400 := rfl
  refine tw_aload rfl rfl ?_
  refine tw_getS rfl (hi_44_1 hs) ?_
  refine tw_iload rfl rfl ?_
  refine tw_iadd rfl ?_
  refine tw_push rfl ?_
  refine tw_ic_gt rfl (fun q963 => ?_) (fun q963 => ?_)
  · try dsimp only [tvI_i, tvJ_j, tvR_r] at q963
    refine tw_push rfl ?_
    exact tw_iret rfl ⟨Or.inr ⟨by omega, rfl⟩, rfl⟩
  · try dsimp only [tvI_i, tvJ_j, tvR_r] at q963
    refine tw_push rfl ?_
    refine tw_goto rfl ?_
    exact tw_iret rfl ⟨Or.inl ⟨by omega, rfl⟩, rfl⟩
theorem f_feed {G : zG} (hG : G.1 = zProg) {h : zH} {a b c d e : Int32} (hs : tSh h) (hk : tK h 45 = 2) (hl : 0 ≤ (tvI (tF h 44 1)).toInt ∧ (tvI (tF h 44 1)).toInt ≤ 400) : tC zTt G 122 [.ref 0, .int a, .int b, .int c, .int d, .int e] h (fun w h2 => ((tvI (tF h 44 1)).toInt ≤ 380 ∧ w = some (.int (z20 (tvI (tF h 44 1)))) ∧ tF h2 44 1 = .int (z20 (tvI (tF h 44 1))) ∧ tA h2 45 = f20 (tA h 45) (tvI (tF h 44 1)) a b c d e) ∨ (¬ (tvI (tF h 44 1)).toInt ≤ 380 ∧ w = some (.int (-1)) ∧ h2 = h)) := by
  refine tC_in (by rw [hG]; rfl) (fun dp => ?_)
  have n0 : (tvI (tF h 44 1)).toInt = (tvI (tF h 44 1)).toInt := rfl
  have n20 := z20n (x := tvI (tF h 44 1)) (by omega)
  have h4 : (400 : Int32).toInt = 400 := rfl
  have n1 : (tvI (tF h 44 1)).toInt ≤ 380 → (z4 (tvI (tF h 44 1))).toInt = (tvI (tF h 44 1)).toInt + 4 := fun z => z4n n0 (by omega)
  have n2 : (tvI (tF h 44 1)).toInt ≤ 380 → (z4 (z4 (tvI (tF h 44 1)))).toInt = (tvI (tF h 44 1)).toInt + 8 := fun z => (z4n (n1 z) (by omega)).trans (by omega)
  have n3 : (tvI (tF h 44 1)).toInt ≤ 380 → (z4 (z4 (z4 (tvI (tF h 44 1))))).toInt = (tvI (tF h 44 1)).toInt + 12 := fun z => (z4n (n2 z) (by omega)).trans (by omega)
  have n4 : (tvI (tF h 44 1)).toInt ≤ 380 → (z4 (z4 (z4 (z4 (tvI (tF h 44 1)))))).toInt = (tvI (tF h 44 1)).toInt + 16 := fun z => (z4n (n3 z) (by omega)).trans (by omega)
  have n5 : (tvI (tF h 44 1)).toInt ≤ 380 → (z4 (z4 (z4 (z4 (z4 (tvI (tF h 44 1))))))).toInt = (tvI (tF h 44 1)).toInt + 20 := fun z => (z4n (n4 z) (by omega)).trans (by omega)
  refine tw_aload rfl rfl ?_
  refine tw_getS rfl (hs_0_2 hs) ?_
  refine tw_push rfl ?_
  refine tw_virt1 rfl (f_hasRoom hG hs) (fun w9 h9 p964 => ?_)
  obtain ⟨⟨p964, rfl⟩ | ⟨p964, rfl⟩, rfl⟩ := p964
  · try dsimp only [tvI_i, tvJ_j, tvR_r] at p964
    refine tw_if_ne rfl (fun _ => ?_) (fun z => absurd z (by decide))
    refine tw_aload rfl rfl ?_
    refine tw_getS rfl (hs_0_2 hs) ?_
    refine tw_iload rfl rfl ?_
    refine tw_virt1 rfl (f_put hG hs hk (by omega)) (fun wp965 hp965 p965 => ?_)
    obtain ⟨rfl, sp965, lp965, tp965, kp965⟩ := p965
    refine tw_aload rfl rfl ?_
    refine tw_getS rfl (hs_0_2 sp965) ?_
    refine tw_iload rfl rfl ?_
    refine tw_virt1 rfl (f_put hG sp965 kp965 (by rw [lp965, tvI_i, n1 (by omega)]; omega)) (fun wp966 hp966 p966 => ?_)
    obtain ⟨rfl, sp966, lp966, tp966, kp966⟩ := p966
    rw [lp965, tp965] at tp966
    rw [lp965] at lp966
    rw [tvI_i] at lp966 tp966
    refine tw_aload rfl rfl ?_
    refine tw_getS rfl (hs_0_2 sp966) ?_
    refine tw_iload rfl rfl ?_
    refine tw_virt1 rfl (f_put hG sp966 kp966 (by rw [lp966, tvI_i, n2 (by omega)]; omega)) (fun wp967 hp967 p967 => ?_)
    obtain ⟨rfl, sp967, lp967, tp967, kp967⟩ := p967
    rw [lp966, tp966] at tp967
    rw [lp966] at lp967
    rw [tvI_i] at lp967 tp967
    refine tw_aload rfl rfl ?_
    refine tw_getS rfl (hs_0_2 sp967) ?_
    refine tw_iload rfl rfl ?_
    refine tw_virt1 rfl (f_put hG sp967 kp967 (by rw [lp967, tvI_i, n3 (by omega)]; omega)) (fun wp968 hp968 p968 => ?_)
    obtain ⟨rfl, sp968, lp968, tp968, kp968⟩ := p968
    rw [lp967, tp967] at tp968
    rw [lp967] at lp968
    rw [tvI_i] at lp968 tp968
    refine tw_aload rfl rfl ?_
    refine tw_getS rfl (hs_0_2 sp968) ?_
    refine tw_iload rfl rfl ?_
    refine tw_virt1 rfl (f_put hG sp968 kp968 (by rw [lp968, tvI_i, n4 (by omega)]; omega)) (fun wp969 hp969 p969 => ?_)
    obtain ⟨rfl, sp969, lp969, tp969, kp969⟩ := p969
    rw [lp968, tp968] at tp969
    rw [lp968] at lp969
    rw [tvI_i] at lp969 tp969
    refine tw_aload rfl rfl ?_
    refine tw_getS rfl (hs_0_2 sp969) ?_
    refine tw_getS rfl (hi_44_1 sp969) ?_
    exact tw_iret rfl (Or.inl ⟨by omega, by rw [lp969]; rfl, lp969, tp969⟩)
  · try dsimp only [tvI_i, tvJ_j, tvR_r] at p964
    refine tw_if_ne rfl (fun z => absurd z (by decide)) (fun _ => ?_)
    refine tw_push rfl ?_
    exact tw_iret rfl (Or.inr ⟨by omega, rfl, rfl⟩)
theorem g_feed {G : zG} (hG : G.1 = zProg) {h : zH} {a b c d e : Int32} (hs : tSh h) (hk : tK h 132 = 2) (hl : 0 ≤ (tvI (tF h 111 27)).toInt ∧ (tvI (tF h 111 27)).toInt ≤ 400) : tC zTt G 196 [.ref 111, .int a, .int b, .int c, .int d, .int e] h (fun w h2 => ((tvI (tF h 111 27)).toInt ≤ 380 ∧ w = some (.int (z20 (tvI (tF h 111 27)))) ∧ tF h2 111 27 = .int (z20 (tvI (tF h 111 27))) ∧ tA h2 132 = f20 (tA h 132) (tvI (tF h 111 27)) a b c d e) ∨ (¬ (tvI (tF h 111 27)).toInt ≤ 380 ∧ w = some (.int (-1)) ∧ h2 = h)) := by
  refine tC_in (by rw [hG]; rfl) (fun dp => ?_)
  have n0 : (tvI (tF h 111 27)).toInt = (tvI (tF h 111 27)).toInt := rfl
  have n20 := z20n (x := tvI (tF h 111 27)) (by omega)
  have h4 : (400 : Int32).toInt = 400 := rfl
  have n1 : (tvI (tF h 111 27)).toInt ≤ 380 → (z4 (tvI (tF h 111 27))).toInt = (tvI (tF h 111 27)).toInt + 4 := fun z => z4n n0 (by omega)
  have n2 : (tvI (tF h 111 27)).toInt ≤ 380 → (z4 (z4 (tvI (tF h 111 27)))).toInt = (tvI (tF h 111 27)).toInt + 8 := fun z => (z4n (n1 z) (by omega)).trans (by omega)
  have n3 : (tvI (tF h 111 27)).toInt ≤ 380 → (z4 (z4 (z4 (tvI (tF h 111 27))))).toInt = (tvI (tF h 111 27)).toInt + 12 := fun z => (z4n (n2 z) (by omega)).trans (by omega)
  have n4 : (tvI (tF h 111 27)).toInt ≤ 380 → (z4 (z4 (z4 (z4 (tvI (tF h 111 27)))))).toInt = (tvI (tF h 111 27)).toInt + 16 := fun z => (z4n (n3 z) (by omega)).trans (by omega)
  have n5 : (tvI (tF h 111 27)).toInt ≤ 380 → (z4 (z4 (z4 (z4 (z4 (tvI (tF h 111 27))))))).toInt = (tvI (tF h 111 27)).toInt + 20 := fun z => (z4n (n4 z) (by omega)).trans (by omega)
  refine tw_aload rfl rfl ?_
  refine tw_getS rfl (hi_111_27 hs) ?_
  refine tw_push rfl ?_
  refine tw_iadd rfl ?_
  refine tw_push rfl ?_
  refine tw_ic_le rfl (fun q970 => ?_) (fun q970 => ?_)
  · try dsimp only [tvI_i, tvJ_j, tvR_r] at q970
    refine tw_aload rfl rfl ?_
    refine tw_iload rfl rfl ?_
    refine tw_virt1 rfl (g_put hG hs hk (by omega)) (fun wp971 hp971 p971 => ?_)
    obtain ⟨rfl, sp971, lp971, tp971, kp971⟩ := p971
    refine tw_aload rfl rfl ?_
    refine tw_iload rfl rfl ?_
    refine tw_virt1 rfl (g_put hG sp971 kp971 (by rw [lp971, tvI_i, n1 (by omega)]; omega)) (fun wp972 hp972 p972 => ?_)
    obtain ⟨rfl, sp972, lp972, tp972, kp972⟩ := p972
    rw [lp971, tp971] at tp972
    rw [lp971] at lp972
    rw [tvI_i] at lp972 tp972
    refine tw_aload rfl rfl ?_
    refine tw_iload rfl rfl ?_
    refine tw_virt1 rfl (g_put hG sp972 kp972 (by rw [lp972, tvI_i, n2 (by omega)]; omega)) (fun wp973 hp973 p973 => ?_)
    obtain ⟨rfl, sp973, lp973, tp973, kp973⟩ := p973
    rw [lp972, tp972] at tp973
    rw [lp972] at lp973
    rw [tvI_i] at lp973 tp973
    refine tw_aload rfl rfl ?_
    refine tw_iload rfl rfl ?_
    refine tw_virt1 rfl (g_put hG sp973 kp973 (by rw [lp973, tvI_i, n3 (by omega)]; omega)) (fun wp974 hp974 p974 => ?_)
    obtain ⟨rfl, sp974, lp974, tp974, kp974⟩ := p974
    rw [lp973, tp973] at tp974
    rw [lp973] at lp974
    rw [tvI_i] at lp974 tp974
    refine tw_aload rfl rfl ?_
    refine tw_iload rfl rfl ?_
    refine tw_virt1 rfl (g_put hG sp974 kp974 (by rw [lp974, tvI_i, n4 (by omega)]; omega)) (fun wp975 hp975 p975 => ?_)
    obtain ⟨rfl, sp975, lp975, tp975, kp975⟩ := p975
    rw [lp974, tp974] at tp975
    rw [lp974] at lp975
    rw [tvI_i] at lp975 tp975
    refine tw_aload rfl rfl ?_
    refine tw_getS rfl (hi_111_27 sp975) ?_
    exact tw_iret rfl (Or.inl ⟨by omega, by rw [lp975]; rfl, lp975, tp975⟩)
  · try dsimp only [tvI_i, tvJ_j, tvR_r] at q970
    refine tw_push rfl ?_
    exact tw_iret rfl (Or.inr ⟨by omega, rfl, rfl⟩)
theorem a_feed {a b c d e : Int32} {h h2 h3 : zH} {w w2 : Option Value} (hL : R_tlen h) (hT : R_tape h) (e1 : tF h2 111 27 = tF h 111 27) (o1 : tA h2 132 = tA h 132) (e2 : tF h3 44 1 = tF h2 44 1) (t1 : tA h3 45 = tA h2 45) (k1 : (fun a b c d e h w h2 => ((tvI (tF h 44 1)).toInt ≤ 380 ∧ w = some (.int (z20 (tvI (tF h 44 1)))) ∧ tF h2 44 1 = .int (z20 (tvI (tF h 44 1))) ∧ tA h2 45 = f20 (tA h 45) (tvI (tF h 44 1)) a b c d e) ∨ (¬ (tvI (tF h 44 1)).toInt ≤ 380 ∧ w = some (.int (-1)) ∧ h2 = h)) a b c d e h w h2) (k2 : (fun a b c d e h w h2 => ((tvI (tF h 111 27)).toInt ≤ 380 ∧ w = some (.int (z20 (tvI (tF h 111 27)))) ∧ tF h2 111 27 = .int (z20 (tvI (tF h 111 27))) ∧ tA h2 132 = f20 (tA h 132) (tvI (tF h 111 27)) a b c d e) ∨ (¬ (tvI (tF h 111 27)).toInt ≤ 380 ∧ w = some (.int (-1)) ∧ h2 = h)) a b c d e h2 w2 h3) : w2 = w ∧ R_tlen h3 ∧ R_tape h3 := by
  try dsimp only at k1 k2
  unfold R_tlen R_tape at *
  rw [e1, o1, ← hL, ← hT] at k2
  rcases k1 with ⟨c1, rfl, f1, g1⟩ | ⟨c1, rfl, rfl⟩ <;> rcases k2 with ⟨c2, rfl, f2, g2⟩ | ⟨c2, rfl, rfl⟩
  · exact ⟨rfl, by rw [e2, f1, f2], by rw [t1, g1, g2]⟩
  · exact absurd c1 c2
  · exact absurd c2 c1
  · exact ⟨rfl, hL, hT⟩
theorem f_cutTo {G : zG} (hG : G.1 = zProg) {h : zH} {n : Int32} (hs : tSh h) : tC zTt G 74 [.ref 44, .int n] h (fun w h2 => w = some (.int n) ∧ tF h2 44 1 = .int n) := by
  refine tC_in (by rw [hG]; rfl) (fun dp => ?_)
  refine tw_aload rfl rfl ?_
  refine tw_iload rfl rfl ?_
  refine tw_put rfl (fun f976 => ?_)
  refine tw_iload rfl rfl ?_
  exact tw_iret rfl ⟨rfl, (tF_same f976)⟩
theorem f_end {G : zG} (hG : G.1 = zProg) {h : zH} {n : Int32} (hs : tSh h) : tC zTt G 123 [.ref 0, .int n] h (fun w h2 => (fun n h w h2 => ((0 ≤ n.toInt ∧ n.toInt ≤ (tvI (tF h 44 1)).toInt) ∧ w = some (.int n) ∧ tF h2 44 1 = .int n) ∨ (¬ (0 ≤ n.toInt ∧ n.toInt ≤ (tvI (tF h 44 1)).toInt) ∧ w = some (.int (-1)) ∧ h2 = h)) n h w h2) := by
  refine tC_in (by rw [hG]; rfl) (fun dp => ?_)
  refine tw_iload rfl rfl ?_
  refine tw_push rfl ?_
  refine tw_aload rfl rfl ?_
  refine tw_getS rfl (hs_0_2 hs) ?_
  refine tw_getS rfl (hi_44_1 hs) ?_
  refine tw_stat3 rfl (f_isWithin hG (LO := 0)  (by decide) rfl) (fun w9 h9 p977 => ?_)
  obtain ⟨⟨p977, rfl⟩ | ⟨p977, rfl⟩, rfl⟩ := p977
  · try dsimp only [tvI_i, tvJ_j, tvR_r] at p977
    refine tw_if_eq rfl (fun z => absurd z (by decide)) (fun _ => ?_)
    refine tw_aload rfl rfl ?_
    refine tw_getS rfl (hs_0_2 hs) ?_
    refine tw_iload rfl rfl ?_
    refine tw_virt1 rfl (f_cutTo hG hs) (fun wp978 hp978 p978 => ?_)
    obtain ⟨rfl, lp978⟩ := p978
    refine tw_goto rfl ?_
    exact tw_iret rfl (Or.inl ⟨by omega, rfl, lp978⟩)
  · try dsimp only [tvI_i, tvJ_j, tvR_r] at p977
    refine tw_if_eq rfl (fun _ => ?_) (fun z => absurd z (by decide))
    refine tw_push rfl ?_
    exact tw_iret rfl (Or.inr ⟨by omega, rfl, rfl⟩)
theorem g_end {G : zG} (hG : G.1 = zProg) {h : zH} {n : Int32} (hs : tSh h) : tC zTt G 198 [.ref 111, .int n] h (fun w h2 => (fun n h w h2 => ((0 ≤ n.toInt ∧ n.toInt ≤ (tvI (tF h 111 27)).toInt) ∧ w = some (.int n) ∧ tF h2 111 27 = .int n) ∨ (¬ (0 ≤ n.toInt ∧ n.toInt ≤ (tvI (tF h 111 27)).toInt) ∧ w = some (.int (-1)) ∧ h2 = h)) n h w h2) := by
  refine tC_in (by rw [hG]; rfl) (fun dp => ?_)
  refine tw_iload rfl rfl ?_
  refine tw_if_lt rfl (fun q979 => ?_) (fun q979 => ?_)
  · try dsimp only [tvI_i, tvJ_j, tvR_r] at q979
    refine tw_push rfl ?_
    exact tw_iret rfl (Or.inr ⟨by omega, rfl, rfl⟩)
  · try dsimp only [tvI_i, tvJ_j, tvR_r] at q979
    refine tw_iload rfl rfl ?_
    refine tw_aload rfl rfl ?_
    refine tw_getS rfl (hi_111_27 hs) ?_
    refine tw_ic_le rfl (fun q980 => ?_) (fun q980 => ?_)
    · try dsimp only [tvI_i, tvJ_j, tvR_r] at q980
      refine tw_aload rfl rfl ?_
      refine tw_iload rfl rfl ?_
      refine tw_put rfl (fun f981 => ?_)
      refine tw_iload rfl rfl ?_
      exact tw_iret rfl (Or.inl ⟨by omega, rfl, (tF_same f981)⟩)
    · try dsimp only [tvI_i, tvJ_j, tvR_r] at q980
      refine tw_push rfl ?_
      exact tw_iret rfl (Or.inr ⟨by omega, rfl, rfl⟩)
theorem a_end {n : Int32} {h h2 h3 : zH} {w w2 : Option Value} (hL : R_tlen h) (e1 : tF h2 111 27 = tF h 111 27) (e2 : tF h3 44 1 = tF h2 44 1) (k1 : (fun n h w h2 => ((0 ≤ n.toInt ∧ n.toInt ≤ (tvI (tF h 44 1)).toInt) ∧ w = some (.int n) ∧ tF h2 44 1 = .int n) ∨ (¬ (0 ≤ n.toInt ∧ n.toInt ≤ (tvI (tF h 44 1)).toInt) ∧ w = some (.int (-1)) ∧ h2 = h)) n h w h2) (k2 : (fun n h w h2 => ((0 ≤ n.toInt ∧ n.toInt ≤ (tvI (tF h 111 27)).toInt) ∧ w = some (.int n) ∧ tF h2 111 27 = .int n) ∨ (¬ (0 ≤ n.toInt ∧ n.toInt ≤ (tvI (tF h 111 27)).toInt) ∧ w = some (.int (-1)) ∧ h2 = h)) n h2 w2 h3) : w2 = w ∧ R_tlen h3 := by
  try dsimp only at k1 k2
  unfold R_tlen at *
  rw [e1, ← hL] at k2
  rcases k1 with ⟨c1, rfl, f1⟩ | ⟨c1, rfl, rfl⟩ <;> rcases k2 with ⟨c2, rfl, f2⟩ | ⟨c2, rfl, rfl⟩
  · exact ⟨rfl, by rw [e2, f1, f2]⟩
  · exact absurd c1 c2
  · exact absurd c2 c1
  · exact ⟨rfl, hL⟩
theorem f_count {G : zG} (hG : G.1 = zProg) {h : zH} {x : Int32} (hs : tSh h) : tC zTt G 157 [.ref 0, .int x] h (fun w h2 => (fun x h w h2 => ((∃ i : Nat, i < 12 ∧ x.toInt = (i : Int) ∧ w = ([tF h 0 14, tF h 36 2, tF h 1 6, tF h 1 7, tF h 36 4, tF h 48 3, tF h 54 5, tF h 63 8, tF h 76 0, tF h 81 7, tF h 89 4, tF h 44 1] : List Value)[i]?) ∨ (¬ (0 ≤ x.toInt ∧ x.toInt ≤ 11) ∧ w = some (.int (-1)))) ∧ h2 = h) x h w h2) := by
  refine tC_in (by rw [hG]; rfl) (fun dp => ?_)
  refine tw_iload rfl rfl ?_
  refine tw_table rfl (fun q982 => ?_) (fun t9 q982a q982b q982c => ?_)
  · try dsimp only [tvI_i, tvJ_j, tvR_r] at q982
    refine tw_push rfl ?_
    exact tw_iret rfl ⟨Or.inr ⟨by omega, rfl⟩, rfl⟩
  · have q982d : (tvI (.int x)).toInt = 0 ∨ (tvI (.int x)).toInt = 1 ∨ (tvI (.int x)).toInt = 2 ∨ (tvI (.int x)).toInt = 3 ∨ (tvI (.int x)).toInt = 4 ∨ (tvI (.int x)).toInt = 5 ∨ (tvI (.int x)).toInt = 6 ∨ (tvI (.int x)).toInt = 7 ∨ (tvI (.int x)).toInt = 8 ∨ (tvI (.int x)).toInt = 9 ∨ (tvI (.int x)).toInt = 10 ∨ (tvI (.int x)).toInt = 11 := by omega
    rcases q982d with q982 | q982 | q982 | q982 | q982 | q982 | q982 | q982 | q982 | q982 | q982 | q982
    · obtain rfl : t9 = 64 := by rw [q982] at q982c; exact Option.some.inj (q982c.symm.trans rfl)
      try dsimp only [tvI_i, tvJ_j, tvR_r] at q982
      refine tw_aload rfl rfl ?_
      refine tw_getS rfl (hi_0_14 hs) ?_
      exact tw_iret rfl ⟨Or.inl ⟨0, by decide, by omega, congrArg some (hi_0_14 hs).symm⟩, rfl⟩
    · obtain rfl : t9 = 69 := by rw [q982] at q982c; exact Option.some.inj (q982c.symm.trans rfl)
      try dsimp only [tvI_i, tvJ_j, tvR_r] at q982
      refine tw_aload rfl rfl ?_
      refine tw_getS rfl (hs_0_1 hs) ?_
      refine tw_getS rfl (hi_36_2 hs) ?_
      exact tw_iret rfl ⟨Or.inl ⟨1, by decide, by omega, congrArg some (hi_36_2 hs).symm⟩, rfl⟩
    · obtain rfl : t9 = 77 := by rw [q982] at q982c; exact Option.some.inj (q982c.symm.trans rfl)
      try dsimp only [tvI_i, tvJ_j, tvR_r] at q982
      refine tw_aload rfl rfl ?_
      refine tw_getS rfl (hs_0_0 hs) ?_
      refine tw_getS rfl (hi_1_6 hs) ?_
      exact tw_iret rfl ⟨Or.inl ⟨2, by decide, by omega, congrArg some (hi_1_6 hs).symm⟩, rfl⟩
    · obtain rfl : t9 = 85 := by rw [q982] at q982c; exact Option.some.inj (q982c.symm.trans rfl)
      try dsimp only [tvI_i, tvJ_j, tvR_r] at q982
      refine tw_aload rfl rfl ?_
      refine tw_getS rfl (hs_0_0 hs) ?_
      refine tw_getS rfl (hi_1_7 hs) ?_
      exact tw_iret rfl ⟨Or.inl ⟨3, by decide, by omega, congrArg some (hi_1_7 hs).symm⟩, rfl⟩
    · obtain rfl : t9 = 93 := by rw [q982] at q982c; exact Option.some.inj (q982c.symm.trans rfl)
      try dsimp only [tvI_i, tvJ_j, tvR_r] at q982
      refine tw_aload rfl rfl ?_
      refine tw_getS rfl (hs_0_1 hs) ?_
      refine tw_getS rfl (hi_36_4 hs) ?_
      exact tw_iret rfl ⟨Or.inl ⟨4, by decide, by omega, congrArg some (hi_36_4 hs).symm⟩, rfl⟩
    · obtain rfl : t9 = 101 := by rw [q982] at q982c; exact Option.some.inj (q982c.symm.trans rfl)
      try dsimp only [tvI_i, tvJ_j, tvR_r] at q982
      refine tw_aload rfl rfl ?_
      refine tw_getS rfl (hs_0_3 hs) ?_
      refine tw_getS rfl (hi_48_3 hs) ?_
      exact tw_iret rfl ⟨Or.inl ⟨5, by decide, by omega, congrArg some (hi_48_3 hs).symm⟩, rfl⟩
    · obtain rfl : t9 = 109 := by rw [q982] at q982c; exact Option.some.inj (q982c.symm.trans rfl)
      try dsimp only [tvI_i, tvJ_j, tvR_r] at q982
      refine tw_aload rfl rfl ?_
      refine tw_getS rfl (hs_0_4 hs) ?_
      refine tw_getS rfl (hi_54_5 hs) ?_
      exact tw_iret rfl ⟨Or.inl ⟨6, by decide, by omega, congrArg some (hi_54_5 hs).symm⟩, rfl⟩
    · obtain rfl : t9 = 117 := by rw [q982] at q982c; exact Option.some.inj (q982c.symm.trans rfl)
      try dsimp only [tvI_i, tvJ_j, tvR_r] at q982
      refine tw_aload rfl rfl ?_
      refine tw_getS rfl (hs_0_5 hs) ?_
      refine tw_getS rfl (hi_63_8 hs) ?_
      exact tw_iret rfl ⟨Or.inl ⟨7, by decide, by omega, congrArg some (hi_63_8 hs).symm⟩, rfl⟩
    · obtain rfl : t9 = 125 := by rw [q982] at q982c; exact Option.some.inj (q982c.symm.trans rfl)
      try dsimp only [tvI_i, tvJ_j, tvR_r] at q982
      refine tw_aload rfl rfl ?_
      refine tw_getS rfl (hs_0_6 hs) ?_
      refine tw_getS rfl (hi_76_0 hs) ?_
      exact tw_iret rfl ⟨Or.inl ⟨8, by decide, by omega, congrArg some (hi_76_0 hs).symm⟩, rfl⟩
    · obtain rfl : t9 = 133 := by rw [q982] at q982c; exact Option.some.inj (q982c.symm.trans rfl)
      try dsimp only [tvI_i, tvJ_j, tvR_r] at q982
      refine tw_aload rfl rfl ?_
      refine tw_getS rfl (hs_0_7 hs) ?_
      refine tw_getS rfl (hi_81_7 hs) ?_
      exact tw_iret rfl ⟨Or.inl ⟨9, by decide, by omega, congrArg some (hi_81_7 hs).symm⟩, rfl⟩
    · obtain rfl : t9 = 141 := by rw [q982] at q982c; exact Option.some.inj (q982c.symm.trans rfl)
      try dsimp only [tvI_i, tvJ_j, tvR_r] at q982
      refine tw_aload rfl rfl ?_
      refine tw_getS rfl (hs_0_8 hs) ?_
      refine tw_getS rfl (hi_89_4 hs) ?_
      exact tw_iret rfl ⟨Or.inl ⟨10, by decide, by omega, congrArg some (hi_89_4 hs).symm⟩, rfl⟩
    · obtain rfl : t9 = 149 := by rw [q982] at q982c; exact Option.some.inj (q982c.symm.trans rfl)
      try dsimp only [tvI_i, tvJ_j, tvR_r] at q982
      refine tw_aload rfl rfl ?_
      refine tw_getS rfl (hs_0_2 hs) ?_
      refine tw_getS rfl (hi_44_1 hs) ?_
      exact tw_iret rfl ⟨Or.inl ⟨11, by decide, by omega, congrArg some (hi_44_1 hs).symm⟩, rfl⟩
theorem g_count {G : zG} (hG : G.1 = zProg) {h : zH} {x : Int32} (hs : tSh h) : tC zTt G 279 [.ref 111, .int x] h (fun w h2 => (fun x h w h2 => ((∃ i : Nat, i < 12 ∧ x.toInt = (i : Int) ∧ w = ([tF h 111 1, tF h 111 2, tF h 111 3, tF h 111 4, tF h 111 5, tF h 111 30, tF h 111 50, tF h 111 59, tF h 111 71, tF h 111 76, tF h 111 83, tF h 111 27] : List Value)[i]?) ∨ (¬ (0 ≤ x.toInt ∧ x.toInt ≤ 11) ∧ w = some (.int (-1)))) ∧ h2 = h) x h w h2) := by
  refine tC_in (by rw [hG]; rfl) (fun dp => ?_)
  refine tw_iload rfl rfl ?_
  refine tw_table rfl (fun q983 => ?_) (fun t9 q983a q983b q983c => ?_)
  · try dsimp only [tvI_i, tvJ_j, tvR_r] at q983
    refine tw_push rfl ?_
    exact tw_iret rfl ⟨Or.inr ⟨by omega, rfl⟩, rfl⟩
  · have q983d : (tvI (.int x)).toInt = 0 ∨ (tvI (.int x)).toInt = 1 ∨ (tvI (.int x)).toInt = 2 ∨ (tvI (.int x)).toInt = 3 ∨ (tvI (.int x)).toInt = 4 ∨ (tvI (.int x)).toInt = 5 ∨ (tvI (.int x)).toInt = 6 ∨ (tvI (.int x)).toInt = 7 ∨ (tvI (.int x)).toInt = 8 ∨ (tvI (.int x)).toInt = 9 ∨ (tvI (.int x)).toInt = 10 ∨ (tvI (.int x)).toInt = 11 := by omega
    rcases q983d with q983 | q983 | q983 | q983 | q983 | q983 | q983 | q983 | q983 | q983 | q983 | q983
    · obtain rfl : t9 = 64 := by rw [q983] at q983c; exact Option.some.inj (q983c.symm.trans rfl)
      try dsimp only [tvI_i, tvJ_j, tvR_r] at q983
      refine tw_aload rfl rfl ?_
      refine tw_getS rfl (hi_111_1 hs) ?_
      exact tw_iret rfl ⟨Or.inl ⟨0, by decide, by omega, congrArg some (hi_111_1 hs).symm⟩, rfl⟩
    · obtain rfl : t9 = 69 := by rw [q983] at q983c; exact Option.some.inj (q983c.symm.trans rfl)
      try dsimp only [tvI_i, tvJ_j, tvR_r] at q983
      refine tw_aload rfl rfl ?_
      refine tw_getS rfl (hi_111_2 hs) ?_
      exact tw_iret rfl ⟨Or.inl ⟨1, by decide, by omega, congrArg some (hi_111_2 hs).symm⟩, rfl⟩
    · obtain rfl : t9 = 74 := by rw [q983] at q983c; exact Option.some.inj (q983c.symm.trans rfl)
      try dsimp only [tvI_i, tvJ_j, tvR_r] at q983
      refine tw_aload rfl rfl ?_
      refine tw_getS rfl (hi_111_3 hs) ?_
      exact tw_iret rfl ⟨Or.inl ⟨2, by decide, by omega, congrArg some (hi_111_3 hs).symm⟩, rfl⟩
    · obtain rfl : t9 = 79 := by rw [q983] at q983c; exact Option.some.inj (q983c.symm.trans rfl)
      try dsimp only [tvI_i, tvJ_j, tvR_r] at q983
      refine tw_aload rfl rfl ?_
      refine tw_getS rfl (hi_111_4 hs) ?_
      exact tw_iret rfl ⟨Or.inl ⟨3, by decide, by omega, congrArg some (hi_111_4 hs).symm⟩, rfl⟩
    · obtain rfl : t9 = 84 := by rw [q983] at q983c; exact Option.some.inj (q983c.symm.trans rfl)
      try dsimp only [tvI_i, tvJ_j, tvR_r] at q983
      refine tw_aload rfl rfl ?_
      refine tw_getS rfl (hi_111_5 hs) ?_
      exact tw_iret rfl ⟨Or.inl ⟨4, by decide, by omega, congrArg some (hi_111_5 hs).symm⟩, rfl⟩
    · obtain rfl : t9 = 89 := by rw [q983] at q983c; exact Option.some.inj (q983c.symm.trans rfl)
      try dsimp only [tvI_i, tvJ_j, tvR_r] at q983
      refine tw_aload rfl rfl ?_
      refine tw_getS rfl (hi_111_30 hs) ?_
      exact tw_iret rfl ⟨Or.inl ⟨5, by decide, by omega, congrArg some (hi_111_30 hs).symm⟩, rfl⟩
    · obtain rfl : t9 = 94 := by rw [q983] at q983c; exact Option.some.inj (q983c.symm.trans rfl)
      try dsimp only [tvI_i, tvJ_j, tvR_r] at q983
      refine tw_aload rfl rfl ?_
      refine tw_getS rfl (hi_111_50 hs) ?_
      exact tw_iret rfl ⟨Or.inl ⟨6, by decide, by omega, congrArg some (hi_111_50 hs).symm⟩, rfl⟩
    · obtain rfl : t9 = 99 := by rw [q983] at q983c; exact Option.some.inj (q983c.symm.trans rfl)
      try dsimp only [tvI_i, tvJ_j, tvR_r] at q983
      refine tw_aload rfl rfl ?_
      refine tw_getS rfl (hi_111_59 hs) ?_
      exact tw_iret rfl ⟨Or.inl ⟨7, by decide, by omega, congrArg some (hi_111_59 hs).symm⟩, rfl⟩
    · obtain rfl : t9 = 104 := by rw [q983] at q983c; exact Option.some.inj (q983c.symm.trans rfl)
      try dsimp only [tvI_i, tvJ_j, tvR_r] at q983
      refine tw_aload rfl rfl ?_
      refine tw_getS rfl (hi_111_71 hs) ?_
      exact tw_iret rfl ⟨Or.inl ⟨8, by decide, by omega, congrArg some (hi_111_71 hs).symm⟩, rfl⟩
    · obtain rfl : t9 = 109 := by rw [q983] at q983c; exact Option.some.inj (q983c.symm.trans rfl)
      try dsimp only [tvI_i, tvJ_j, tvR_r] at q983
      refine tw_aload rfl rfl ?_
      refine tw_getS rfl (hi_111_76 hs) ?_
      exact tw_iret rfl ⟨Or.inl ⟨9, by decide, by omega, congrArg some (hi_111_76 hs).symm⟩, rfl⟩
    · obtain rfl : t9 = 114 := by rw [q983] at q983c; exact Option.some.inj (q983c.symm.trans rfl)
      try dsimp only [tvI_i, tvJ_j, tvR_r] at q983
      refine tw_aload rfl rfl ?_
      refine tw_getS rfl (hi_111_83 hs) ?_
      exact tw_iret rfl ⟨Or.inl ⟨10, by decide, by omega, congrArg some (hi_111_83 hs).symm⟩, rfl⟩
    · obtain rfl : t9 = 119 := by rw [q983] at q983c; exact Option.some.inj (q983c.symm.trans rfl)
      try dsimp only [tvI_i, tvJ_j, tvR_r] at q983
      refine tw_aload rfl rfl ?_
      refine tw_getS rfl (hi_111_27 hs) ?_
      exact tw_iret rfl ⟨Or.inl ⟨11, by decide, by omega, congrArg some (hi_111_27 hs).symm⟩, rfl⟩
theorem a_count {x : Int32} {h h2 h3 : zH} {w w2 : Option Value} (h_now : R_now h) (h_people : R_people h) (h_kinds : R_kinds h) (h_parts : R_parts h) (h_cars : R_cars h) (h_rules : R_rules h) (h_tests : R_tests h) (h_crashes : R_crashes h) (h_memos : R_memos h) (h_steps : R_steps h) (h_calls : R_calls h) (h_tlen : R_tlen h) (k1 : (fun x h w h2 => ((∃ i : Nat, i < 12 ∧ x.toInt = (i : Int) ∧ w = ([tF h 0 14, tF h 36 2, tF h 1 6, tF h 1 7, tF h 36 4, tF h 48 3, tF h 54 5, tF h 63 8, tF h 76 0, tF h 81 7, tF h 89 4, tF h 44 1] : List Value)[i]?) ∨ (¬ (0 ≤ x.toInt ∧ x.toInt ≤ 11) ∧ w = some (.int (-1)))) ∧ h2 = h) x h w h2) (k2 : (fun x h w h2 => ((∃ i : Nat, i < 12 ∧ x.toInt = (i : Int) ∧ w = ([tF h 111 1, tF h 111 2, tF h 111 3, tF h 111 4, tF h 111 5, tF h 111 30, tF h 111 50, tF h 111 59, tF h 111 71, tF h 111 76, tF h 111 83, tF h 111 27] : List Value)[i]?) ∨ (¬ (0 ≤ x.toInt ∧ x.toInt ≤ 11) ∧ w = some (.int (-1)))) ∧ h2 = h) x h2 w2 h3) : w2 = w := by
  obtain ⟨k1, rfl⟩ := k1
  obtain ⟨k2, -⟩ := k2
  unfold R_now at h_now
  unfold R_people at h_people
  unfold R_kinds at h_kinds
  unfold R_parts at h_parts
  unfold R_cars at h_cars
  unfold R_rules at h_rules
  unfold R_tests at h_tests
  unfold R_crashes at h_crashes
  unfold R_memos at h_memos
  unfold R_steps at h_steps
  unfold R_calls at h_calls
  unfold R_tlen at h_tlen
  rw [← h_now, ← h_people, ← h_kinds, ← h_parts, ← h_cars, ← h_rules, ← h_tests, ← h_crashes, ← h_memos, ← h_steps, ← h_calls, ← h_tlen] at k2
  rcases k1 with ⟨i, c1, d1, rfl⟩ | ⟨c1, rfl⟩ <;> rcases k2 with ⟨j, c2, d2, rfl⟩ | ⟨c2, rfl⟩
  · obtain rfl : i = j := by omega
    rfl
  · exact absurd ⟨by omega, by omega⟩ c2
  · exact absurd ⟨by omega, by omega⟩ c1
  · rfl
