theorem rWd_lo : ∀ k, k < 16 → rWd k = ztx (k + 2) := by
  have a : (List.range 16).all (fun k => Nat.beq (rWn k) (k + 2)) = true := by decide +kernel
  intro k hk
  have e := Nat.eq_of_beq_eq_true (List.all_eq_true.mp a k (List.mem_range.mpr hk))
  unfold rWd
  rw [e]
theorem zl_lo : ∀ k, k < 16 → (ztx (k + 2)).length ≤ 200 ∧ 0 < (ztx (k + 2)).length := by
  have a : (List.range 16).all (fun k => decide ((ztx (k + 2)).length ≤ 200 ∧ 0 < (ztx (k + 2)).length)) = true := by decide +kernel
  intro k hk
  exact of_decide_eq_true (List.all_eq_true.mp a k (List.mem_range.mpr hk))
noncomputable def mOut (y : rMo) (h2 : zH) : Prop := match y with
  | .inl e => mFt h2 e ∧ mZp h2
  | .inr x => mP h2 ∧ mD h2 ∧ mst h2 = x
theorem mOut_l {y : rMo} {h2 : zH} {e : Nat} (hy : y = .inl e) (k : mFt h2 e) (z : mZp h2) : mOut y h2 := by rw [hy]; exact ⟨k, z⟩
theorem mOut_r {y : rMo} {h2 : zH} {x : rMs} (hy : y = .inr x) (k : mP h2) (d : mD h2) (z : mst h2 = x) : mOut y h2 := by rw [hy]; exact ⟨k, d, z⟩
theorem mD_k {h h2 : zH} (d : mD h) (a : mSk h2 = mSk h) (b : tF h2 111 32 = tF h 111 32) : mD h2 := by
  unfold mD
  rw [a, b]
  exact d
theorem g_wordOf {G : zG} (hG : G.1 = zProg) {h : zH} {x : Int32} {k : Nat} (hx : x.toInt = k) (hk : k < 12) : tC zTt G 199 [.int x] h (fun w h2 => w = some (.retAddr (k + 2)) ∧ h = h2) := by
  refine tC_in (by rw [hG]; rfl) (fun dp => ?_)
  refine tw_iload rfl rfl ?_
  refine tw_table rfl (fun q631 => ?_) (fun t9 q631a q631b q631c => ?_)
  · try dsimp only [tvI_i, tvJ_j, tvR_r] at q631
    refine tw_push rfl ?_
    try dsimp only [tvI_i] at q631
    have hk9 : k = 11 := by omega
    subst hk9
    exact tw_aret rfl ⟨rfl, rfl⟩
  · have q631d : (tvI (.int x)).toInt = 0 ∨ (tvI (.int x)).toInt = 1 ∨ (tvI (.int x)).toInt = 2 ∨ (tvI (.int x)).toInt = 3 ∨ (tvI (.int x)).toInt = 4 ∨ (tvI (.int x)).toInt = 5 ∨ (tvI (.int x)).toInt = 6 ∨ (tvI (.int x)).toInt = 7 ∨ (tvI (.int x)).toInt = 8 ∨ (tvI (.int x)).toInt = 9 ∨ (tvI (.int x)).toInt = 10 := by omega
    rcases q631d with q631 | q631 | q631 | q631 | q631 | q631 | q631 | q631 | q631 | q631 | q631
    · obtain rfl : t9 = 60 := by rw [q631] at q631c; exact Option.some.inj (q631c.symm.trans rfl)
      try dsimp only [tvI_i, tvJ_j, tvR_r] at q631
      refine tw_push rfl ?_
      try dsimp only [tvI_i] at q631
      have hk9 : k = 0 := by omega
      subst hk9
      exact tw_aret rfl ⟨rfl, rfl⟩
    · obtain rfl : t9 = 64 := by rw [q631] at q631c; exact Option.some.inj (q631c.symm.trans rfl)
      try dsimp only [tvI_i, tvJ_j, tvR_r] at q631
      refine tw_push rfl ?_
      try dsimp only [tvI_i] at q631
      have hk9 : k = 1 := by omega
      subst hk9
      exact tw_aret rfl ⟨rfl, rfl⟩
    · obtain rfl : t9 = 68 := by rw [q631] at q631c; exact Option.some.inj (q631c.symm.trans rfl)
      try dsimp only [tvI_i, tvJ_j, tvR_r] at q631
      refine tw_push rfl ?_
      try dsimp only [tvI_i] at q631
      have hk9 : k = 2 := by omega
      subst hk9
      exact tw_aret rfl ⟨rfl, rfl⟩
    · obtain rfl : t9 = 72 := by rw [q631] at q631c; exact Option.some.inj (q631c.symm.trans rfl)
      try dsimp only [tvI_i, tvJ_j, tvR_r] at q631
      refine tw_push rfl ?_
      try dsimp only [tvI_i] at q631
      have hk9 : k = 3 := by omega
      subst hk9
      exact tw_aret rfl ⟨rfl, rfl⟩
    · obtain rfl : t9 = 76 := by rw [q631] at q631c; exact Option.some.inj (q631c.symm.trans rfl)
      try dsimp only [tvI_i, tvJ_j, tvR_r] at q631
      refine tw_push rfl ?_
      try dsimp only [tvI_i] at q631
      have hk9 : k = 4 := by omega
      subst hk9
      exact tw_aret rfl ⟨rfl, rfl⟩
    · obtain rfl : t9 = 80 := by rw [q631] at q631c; exact Option.some.inj (q631c.symm.trans rfl)
      try dsimp only [tvI_i, tvJ_j, tvR_r] at q631
      refine tw_push rfl ?_
      try dsimp only [tvI_i] at q631
      have hk9 : k = 5 := by omega
      subst hk9
      exact tw_aret rfl ⟨rfl, rfl⟩
    · obtain rfl : t9 = 84 := by rw [q631] at q631c; exact Option.some.inj (q631c.symm.trans rfl)
      try dsimp only [tvI_i, tvJ_j, tvR_r] at q631
      refine tw_push rfl ?_
      try dsimp only [tvI_i] at q631
      have hk9 : k = 6 := by omega
      subst hk9
      exact tw_aret rfl ⟨rfl, rfl⟩
    · obtain rfl : t9 = 88 := by rw [q631] at q631c; exact Option.some.inj (q631c.symm.trans rfl)
      try dsimp only [tvI_i, tvJ_j, tvR_r] at q631
      refine tw_push rfl ?_
      try dsimp only [tvI_i] at q631
      have hk9 : k = 7 := by omega
      subst hk9
      exact tw_aret rfl ⟨rfl, rfl⟩
    · obtain rfl : t9 = 92 := by rw [q631] at q631c; exact Option.some.inj (q631c.symm.trans rfl)
      try dsimp only [tvI_i, tvJ_j, tvR_r] at q631
      refine tw_push rfl ?_
      try dsimp only [tvI_i] at q631
      have hk9 : k = 8 := by omega
      subst hk9
      exact tw_aret rfl ⟨rfl, rfl⟩
    · obtain rfl : t9 = 96 := by rw [q631] at q631c; exact Option.some.inj (q631c.symm.trans rfl)
      try dsimp only [tvI_i, tvJ_j, tvR_r] at q631
      refine tw_push rfl ?_
      try dsimp only [tvI_i] at q631
      have hk9 : k = 9 := by omega
      subst hk9
      exact tw_aret rfl ⟨rfl, rfl⟩
    · obtain rfl : t9 = 100 := by rw [q631] at q631c; exact Option.some.inj (q631c.symm.trans rfl)
      try dsimp only [tvI_i, tvJ_j, tvR_r] at q631
      refine tw_push rfl ?_
      try dsimp only [tvI_i] at q631
      have hk9 : k = 10 := by omega
      subst hk9
      exact tw_aret rfl ⟨rfl, rfl⟩
theorem g_thingName {G : zG} (hG : G.1 = zProg) {h : zH} {x : Int32} {k : Nat} (hx : x.toInt = k) (hk : k < 4) : tC zTt G 200 [.int x] h (fun w h2 => w = some (.retAddr (k + 14)) ∧ h = h2) := by
  refine tC_in (by rw [hG]; rfl) (fun dp => ?_)
  refine tw_iload rfl rfl ?_
  refine tw_table rfl (fun q632 => ?_) (fun t9 q632a q632b q632c => ?_)
  · try dsimp only [tvI_i, tvJ_j, tvR_r] at q632
    refine tw_push rfl ?_
    try dsimp only [tvI_i] at q632
    have hk9 : k = 3 := by omega
    subst hk9
    exact tw_aret rfl ⟨rfl, rfl⟩
  · have q632d : (tvI (.int x)).toInt = 0 ∨ (tvI (.int x)).toInt = 1 ∨ (tvI (.int x)).toInt = 2 := by omega
    rcases q632d with q632 | q632 | q632
    · obtain rfl : t9 = 28 := by rw [q632] at q632c; exact Option.some.inj (q632c.symm.trans rfl)
      try dsimp only [tvI_i, tvJ_j, tvR_r] at q632
      refine tw_push rfl ?_
      try dsimp only [tvI_i] at q632
      have hk9 : k = 0 := by omega
      subst hk9
      exact tw_aret rfl ⟨rfl, rfl⟩
    · obtain rfl : t9 = 32 := by rw [q632] at q632c; exact Option.some.inj (q632c.symm.trans rfl)
      try dsimp only [tvI_i, tvJ_j, tvR_r] at q632
      refine tw_push rfl ?_
      try dsimp only [tvI_i] at q632
      have hk9 : k = 1 := by omega
      subst hk9
      exact tw_aret rfl ⟨rfl, rfl⟩
    · obtain rfl : t9 = 36 := by rw [q632] at q632c; exact Option.some.inj (q632c.symm.trans rfl)
      try dsimp only [tvI_i, tvJ_j, tvR_r] at q632
      refine tw_push rfl ?_
      try dsimp only [tvI_i] at q632
      have hk9 : k = 2 := by omega
      subst hk9
      exact tw_aret rfl ⟨rfl, rfl⟩
theorem g_value {G : zG} (hG : G.1 = zProg) (hX : G.2.1 = ztx) {h : zH} {T : Nat → Int32} {n : Nat} (hs : tSh h) (hp : mP h) (hT : tA h 132 = T) (hN : mn h = n) (hD : mD h) (hd : mDp (mSk h) ≤ 1000) (h46s : tvI (tF h 111 46) = 1) : tC zTt G 213 [.ref 111] h (fun w h2 => w = none ∧ mFq h h2 ∧ mOut (mS1 T n (mSk h) (ms h)) h2) := by
  refine tC_in (by rw [hG]; rfl) (fun dp => ?_)
  have g0 := mFr_r hs
  have hpn : (ms h).1 ≤ n := mPle hp hN
  have c129 : (12 : Int32).toInt = 12 := rfl
  have hn4 : n ≤ 400 := by have a := mNl hp hN; have b := hp.2.1; omega
  refine tw_aload rfl rfl ?_
  refine tw_virt0 rfl (g_blanks hG hX (g0).1 hp ((mFr_T g0).trans hT) ((mFr_n g0).trans hN)) (fun wp633 hp633 p633 => ?_)
  obtain ⟨rfl, gp633, pp633e, sp633, tp633, dp633⟩ := p633
  have ggp633 := mFr_t g0 gp633
  refine tw_aload rfl rfl ?_
  refine tw_getS rfl (hi_111_28 ggp633.1) ?_
  refine tw_istore rfl ?_
  refine tw_aload rfl rfl ?_
  refine tw_virt0 rfl (g_sign hG hX (ggp633).1 ((mFr_T ggp633).trans hT) ((mFr_n ggp633).trans hN) ⟨pp633e.2.1.1, by have := pp633e.2.1; omega⟩) (fun wp634 hp634 p634 => ?_)
  obtain ⟨⟨cp634, rfl, kp634⟩, rfl⟩ := p634
  refine tw_push rfl ?_
  refine tw_ic_ne rfl (fun q635 => ?_) (fun q635 => ?_)
  · try dsimp only [tvI_i, tvJ_j, tvR_r] at q635
    have q635i := zneq (Y := 40) (by decide) q635
    refine tw_aload rfl rfl ?_
    refine tw_virt0 rfl (g_sign hG hX (ggp633).1 ((mFr_T ggp633).trans hT) ((mFr_n ggp633).trans hN) ⟨pp633e.2.1.1, by have := pp633e.2.1; omega⟩) (fun wp636 hp636 p636 => ?_)
    obtain ⟨⟨cp636, rfl, kp636⟩, rfl⟩ := p636
    refine tw_stat1 rfl (g_isDigit hG) (fun w9 h9 p637 => ?_)
    obtain ⟨⟨p637, rfl⟩ | ⟨p637, rfl⟩, rfl⟩ := p637
    · try dsimp only [tvI_i, tvJ_j, tvR_r] at p637
      refine tw_if_eq rfl (fun z => absurd z (by decide)) (fun _ => ?_)
      refine tw_aload rfl rfl ?_
      refine tw_push rfl ?_
      refine tw_virt1 rfl (g_digits hG hX (ggp633).1 pp633e ((mFr_T ggp633).trans hT) ((mFr_n ggp633).trans hN) (m := 99999) (M := 99999) rfl (by decide) (by rw [sp633]; exact rB_2)) (fun w9 hp638 p638 => ?_)
      obtain ⟨gp638, ⟨vp638, Np638, rfl, pp638e, sp638, tp638, dp638⟩ | ⟨ep638, xp638, Np638, rfl, x0p638, Fp638, Zp638⟩⟩ := p638
      · have ggp638 := mFr_t ggp633 gp638
        refine tw_istore rfl ?_
        refine tw_aload rfl rfl ?_
        refine tw_iload rfl rfl ?_
        refine tw_virt1 rfl (g_counts hG hX (ggp638).1 pp638e ((mFr_T ggp638).trans hT) ((mFr_n ggp638).trans hN) (b := (rB T n (ms h).1)) ((mPl pp633e).trans (by rw [sp633]; rfl)) (by have := rB_le (T := T) hpn; omega)) (fun w9 hp639 p639 => ?_)
        obtain ⟨rfl, gp639, ⟨np639, pp639e, sp639, tp639, dp639⟩ | ⟨np639, Fp639⟩, ip639, jp639⟩ := p639
        · have ggp639 := mFr_t ggp638 gp639
          refine tw_aload rfl rfl ?_
          refine tw_push rfl ?_
          refine tw_iload rfl rfl ?_
          refine tw_virt2 rfl (g_entry hG hX (ggp639).1 pp639e ((mFr_T ggp639).trans hT) ((mFr_n ggp639).trans hN) ⟨by decide, by show 0 ≤ (Int32.ofNat vp638.2).toInt; have z := Np638; rw [sp633] at z; have := (rM_r (rB_le hpn) z).2.2; rw [zofI (by omega)]; omega⟩) (fun wp640 hp640 p640 => ?_)
          obtain ⟨rfl, gp640, pp640e, sp640, tp640, dp640⟩ := p640
          have ggp640 := mFr_t ggp639 gp640
          refine tw_aload rfl rfl ?_
          refine tw_push rfl ?_
          refine tw_put rfl (fun f641 => ?_)
          refine tG_setm f641 (hw_111_46 f641 (ggp640).1) (fun hf641 ef641 => ?_)
          try dsimp only [tvI_i] at ef641
          have gf641 := mFq_s (mFq_f ggp640) ef641 (Or.inr rfl)
          obtain ⟨pf641, sf641, tf641⟩ := mSte pp640e ef641
          refine tw_goto rfl ?_
          have hdg := (sgm_d kp636).mp p637
          rw [sp633] at hdg
          have hk12 : rK12 T n (rB T n (ms h).1) = none := rK12_n (fun k hk z => by have y := rW_l (by omega) z; have y2 : _ ∧ _ := hdg.2; have y3 : T (rB T n (ms h).1) = T (rA (rB T n (ms h).1) (ms h)).1 := rfl; rw [← y3] at y2; omega)
          have hrm : rM T n 99999 (rB T n (ms h).1) = .inr vp638 := by have z := Np638; rw [sp633] at z; exact z
          have h80 : (ms h).2.1 ≠ 80 := by have z := np639; rw [sp638, sp633] at z; exact z
          have hsk : mSk hf641 = mSk h := by rw [tf641, tp640, tp639, tp638, tp633]
          have h32 : tF hf641 111 32 = tF h 111 32 := (mI_o ef641 (by decide)).trans (dp640.trans (dp639.trans (dp638.trans dp633)))
          have hms : ms hf641 = (vp638.1, (ms h).2.1 + 1, (ms h).2.2 ++ [vp638.2]) := by rw [sf641, sp640, sp639, sp638, sp633]; show (_, _, _ ++ [mCode 0 (Int32.ofNat vp638.2).toNatClampNeg]) = _; rw [zoN (by have := (rM_r (rB_le hpn) hrm).2.2; omega)]; rfl
          exact tw_vret rfl ⟨rfl, gf641, mOut_r (by unfold mS1; rw [if_neg (fun z => q635 ((by have y := sgm_k kp634 40 (by decide); rw [sp633] at y; exact y.mpr z))), hk12]; (try dsimp only); rw [hrm]; (try dsimp only); rw [if_neg h80]) pf641 (mD_k hD hsk h32) (by unfold mst; rw [mI_x ef641, hsk, hms]; rfl)⟩
        · have ggp639 := mFr_t ggp638 gp639
          refine tw_aload rfl rfl ?_
          refine tw_push rfl ?_
          refine tw_iload rfl rfl ?_
          refine tw_virt2 rfl (z_entry hG hX (ggp639).1 Fp639 ((mFr_T ggp639).trans hT) ((mFr_n ggp639).trans hN)) (fun wp642 hp642 p642 => ?_)
          obtain ⟨rfl, e9⟩ := p642
          obtain rfl := e9.symm
          refine tw_aload rfl rfl ?_
          refine tw_push rfl ?_
          refine tw_put rfl (fun f643 => ?_)
          refine tG_setm f643 (hw_111_46 f643 (ggp639).1) (fun hf643 ef643 => ?_)
          try dsimp only [tvI_i] at ef643
          have gf643 := mFq_s (mFq_f ggp639) ef643 (Or.inr rfl)
          have zf643 := mFt_s Fp639 ef643 (by decide)
          refine tw_goto rfl ?_
          have hdg := (sgm_d kp636).mp p637
          rw [sp633] at hdg
          have hk12 : rK12 T n (rB T n (ms h).1) = none := rK12_n (fun k hk z => by have y := rW_l (by omega) z; have y2 : _ ∧ _ := hdg.2; have y3 : T (rB T n (ms h).1) = T (rA (rB T n (ms h).1) (ms h)).1 := rfl; rw [← y3] at y2; omega)
          have hrm : rM T n 99999 (rB T n (ms h).1) = .inr vp638 := by have z := Np638; rw [sp633] at z; exact z
          have h80 : (ms h).2.1 = 80 := by have z := np639; rw [sp638, sp633] at z; exact z
          have Zfin : mZp hf643 := mZp_o (mZp_k (mZp_p pp638e) ip639 jp639) ef643 (by decide)
          exact tw_vret rfl ⟨rfl, gf643, mOut_l (by unfold mS1; rw [if_neg (fun z => q635 ((by have y := sgm_k kp634 40 (by decide); rw [sp633] at y; exact y.mpr z))), hk12]; (try dsimp only); rw [hrm]; (try dsimp only); rw [if_pos h80]) zf643 Zfin⟩
      · have ggp638 := mFr_t ggp633 gp638
        refine tw_istore rfl ?_
        refine tw_aload rfl rfl ?_
        refine tw_iload rfl rfl ?_
        refine tw_virt1 rfl (z_counts hG hX (ggp638).1 Fp638 ((mFr_T ggp638).trans hT) ((mFr_n ggp638).trans hN)) (fun w9 hp644 p644 => ?_)
        obtain ⟨rfl, gp644, Fp644, ip644, jp644⟩ := p644
        · have ggp644 := mFr_t ggp638 gp644
          refine tw_aload rfl rfl ?_
          refine tw_push rfl ?_
          refine tw_iload rfl rfl ?_
          refine tw_virt2 rfl (z_entry hG hX (ggp644).1 Fp644 ((mFr_T ggp644).trans hT) ((mFr_n ggp644).trans hN)) (fun wp645 hp645 p645 => ?_)
          obtain ⟨rfl, e9⟩ := p645
          obtain rfl := e9.symm
          refine tw_aload rfl rfl ?_
          refine tw_push rfl ?_
          refine tw_put rfl (fun f646 => ?_)
          refine tG_setm f646 (hw_111_46 f646 (ggp644).1) (fun hf646 ef646 => ?_)
          try dsimp only [tvI_i] at ef646
          have gf646 := mFq_s (mFq_f ggp644) ef646 (Or.inr rfl)
          have zf646 := mFt_s Fp644 ef646 (by decide)
          refine tw_goto rfl ?_
          have hdg := (sgm_d kp636).mp p637
          rw [sp633] at hdg
          have hk12 : rK12 T n (rB T n (ms h).1) = none := rK12_n (fun k hk z => by have y := rW_l (by omega) z; have y2 : _ ∧ _ := hdg.2; have y3 : T (rB T n (ms h).1) = T (rA (rB T n (ms h).1) (ms h)).1 := rfl; rw [← y3] at y2; omega)
          have hrm : rM T n 99999 (rB T n (ms h).1) = .inl ep638 := by have z := Np638; rw [sp633] at z; exact z
          have Zfin : mZp hf646 := mZp_o (mZp_k Zp638 ip644 jp644) ef646 (by decide)
          exact tw_vret rfl ⟨rfl, gf646, mOut_l (by unfold mS1; rw [if_neg (fun z => q635 ((by have y := sgm_k kp634 40 (by decide); rw [sp633] at y; exact y.mpr z))), hk12]; (try dsimp only); rw [hrm]) zf646 Zfin⟩
    · try dsimp only [tvI_i, tvJ_j, tvR_r] at p637
      refine tw_if_eq rfl (fun _ => ?_) (fun z => absurd z (by decide))
      refine tw_push rfl ?_
      refine tw_istore rfl ?_
      refine tG_loop (zW_mono zTt G dp) (zW_conj zTt G dp) (V := fun pc L st h9 _ _ => pc = 82 ∧ st = [] ∧ hp633 = h9 ∧ ∃ (k : Nat) (x : Int32), x.toInt = k ∧ k ≤ 12 ∧ (∀ i, i < k → ¬ rW T n (rB T n (ms h).1) (rWd i) = true) ∧ L = [some (.ref 111), some (.int (tvI (tF hp633 111 28))), some (.int x)]) ?_ (⟨rfl, rfl, rfl, 0, 0, rfl, by omega, fun i hi => by omega, rfl⟩)
      rintro _ _ _ _ _ _ ⟨rfl, rfl, rfl, k, x, hx, hk, hall, rfl⟩
      refine tw_iload rfl rfl ?_
      refine tw_push rfl ?_
      refine tw_ic_ge rfl (fun q647 => ?_) (fun q647 => ?_)
      · try dsimp only [tvI_i, tvJ_j, tvR_r] at q647
        refine tw_iload rfl rfl ?_
        refine tw_push rfl ?_
        refine tw_ic_ne rfl (fun q648 => ?_) (fun q648 => ?_)
        · try dsimp only [tvI_i, tvJ_j, tvR_r] at q648
          have q648i := zneq (Y := 12) (by decide) q648
          exact absurd (show x.toInt = 12 by have z := q647; omega) (fun z => q648i z)
        · try dsimp only [tvI_i, tvJ_j, tvR_r] at q648
          have q648i := zeqi (Y := 12) (by decide) q648
          refine tw_aload rfl rfl ?_
          refine tw_push rfl ?_
          refine tw_iload rfl rfl ?_
          refine tw_virt2 rfl (g_fails hG hX (ggp633).1 pp633e ((mFr_T ggp633).trans hT) ((mFr_n ggp633).trans hN) (w := 0) (b := (rB T n (ms h).1)) rfl (by decide) ((mPl pp633e).trans (by rw [sp633]; rfl)) (by have := rB_le (T := T) hpn; omega)) (fun wp649 hp649 p649 => ?_)
          obtain ⟨rfl, gp649, Fp649, ip649, jp649⟩ := p649
          have ggp649 := mFr_t ggp633 gp649
          refine tw_goto rfl ?_
          have hk12 : rK12 T n (rB T n (ms h).1) = none := rK12_n (fun i hi => hall i (by have z := q648; have z2 : x.toInt = 12 := q648i; omega))
          have hnd : rD T n (rB T n (ms h).1) = (rB T n (ms h).1) := rD_n (fun z => p637 (by have y := sgm_d kp636; rw [sp633] at y; exact y.mpr z))
          have hrm := rM_a (M := 99999) (T := T) (n := n) (p := (rB T n (ms h).1)) (b := (rB T n (ms h).1)) rB_2 hnd
          have Zfin : mZp hp649 := mZp_k (mZp_p pp633e) ip649 jp649
          exact tw_vret rfl ⟨rfl, mFq_f ggp649, mOut_l (by unfold mS1; rw [if_neg (fun z => q635 ((by have y := sgm_k kp634 40 (by decide); rw [sp633] at y; exact y.mpr z))), hk12]; (try dsimp only); rw [hrm]) Fp649 Zfin⟩
      · try dsimp only [tvI_i, tvJ_j, tvR_r] at q647
        refine tw_aload rfl rfl ?_
        refine tw_iload rfl rfl ?_
        refine tw_stat1 rfl (g_wordOf hG (k := k) hx (by omega)) (fun wp650 hp650 p650 => ?_)
        obtain ⟨rfl, rfl⟩ := p650
        refine tw_virt1 rfl (g_stands hG hX (ggp633).1 ((mFr_T ggp633).trans hT) ((mFr_n ggp633).trans hN) (q := (k + 2)) (zl_lo k (by omega)).1 ⟨pp633e.2.1.1, by have := pp633e.2.1; omega⟩ ⟨by have := pp633e.2.1; omega, pp633e.2.1.2.2⟩) (fun w9 h9 p651 => ?_)
        obtain ⟨⟨p651, rfl⟩ | ⟨p651, rfl⟩, rfl⟩ := p651
        · try dsimp only [tvI_i, tvJ_j, tvR_r] at p651
          refine tw_if_ne rfl (fun _ => ?_) (fun z => absurd z (by decide))
          refine tw_iload rfl rfl ?_
          refine tw_push rfl ?_
          refine tw_ic_ne rfl (fun q652 => ?_) (fun q652 => ?_)
          · try dsimp only [tvI_i, tvJ_j, tvR_r] at q652
            have q652i := zneq (Y := 12) (by decide) q652
            refine tw_aload rfl rfl ?_
            refine tw_iload rfl rfl ?_
            have hk11 : k < 12 := by have z := q647; omega
            have hwk : rW T n (rB T n (ms h).1) (rWd k) = true := by have z := p651; rw [sp633] at z; rw [rWd_lo k (by omega)]; exact z
            refine tw_virt1 rfl (g_counts hG hX (ggp633).1 pp633e ((mFr_T ggp633).trans hT) ((mFr_n ggp633).trans hN) (b := (rB T n (ms h).1)) ((mPl pp633e).trans (by rw [sp633]; rfl)) (by have := rB_le (T := T) hpn; omega)) (fun w9 hp653 p653 => ?_)
            obtain ⟨rfl, gp653, ⟨np653, pp653e, sp653, tp653, dp653⟩ | ⟨np653, Fp653⟩, ip653, jp653⟩ := p653
            · have ggp653 := mFr_t ggp633 gp653
              refine tw_aload rfl rfl ?_
              refine tw_push rfl ?_
              refine tw_iload rfl rfl ?_
              refine tw_virt2 rfl (g_entry hG hX (ggp653).1 pp653e ((mFr_T ggp653).trans hT) ((mFr_n ggp653).trans hN) ⟨by decide, by omega⟩) (fun wp654 hp654 p654 => ?_)
              obtain ⟨rfl, gp654, pp654e, sp654, tp654, dp654⟩ := p654
              have ggp654 := mFr_t ggp653 gp654
              refine tw_aload rfl rfl ?_
              refine tw_dup rfl ?_
              refine tw_getS rfl (hi_111_28 ggp654.1) ?_
              refine tw_iload rfl rfl ?_
              refine tw_stat1 rfl (g_wordOf hG (k := k) hx (by omega)) (fun wp655 hp655 p655 => ?_)
              obtain ⟨rfl, rfl⟩ := p655
              refine tw_tlen rfl ?_
              refine tw_iadd rfl ?_
              refine tw_put rfl (fun f656 => ?_)
              refine tG_setm f656 (hw_111_28 f656 (ggp654).1) (fun hf656 ef656 => ?_)
              try dsimp only [tvI_i] at ef656
              have gf656 := mFr_s ggp654 ef656 (by unfold mFs; omega)
              have hln : (Int32.ofNat (G.2.1 (k + 2)).length).toInt = ((ztx (k + 2)).length : Int) := by rw [hX]; exact zofI (by have := (zl_lo k (by omega)).1; omega)
              have hre : rE T n (rB T n (ms h).1) = (rB T n (ms h).1) + (ztx (k + 2)).length := by rw [rW_e hwk, rWd_lo k (by omega)]
              have hre2 := rE_le (T := T) (rB_le (T := T) hpn)
              obtain ⟨pf656, sf656, tf656⟩ := mTo pp654e ((mFr_n ggp654).trans hN) ef656 (v := (rB T n (ms h).1) + (ztx (k + 2)).length) (zadN (a := (rB T n (ms h).1)) (by rw [mPl pp654e, sp654, sp653, sp633]; rfl) hln (by omega) (by have := (zl_lo k (by omega)).1; omega)) (by omega)
              rw [sp654, sp653, sp633, ← hre] at sf656
              refine tw_aload rfl rfl ?_
              refine tw_push rfl ?_
              refine tw_put rfl (fun f657 => ?_)
              refine tG_setm f657 (hw_111_46 f657 (gf656).1) (fun hf657 ef657 => ?_)
              try dsimp only [tvI_i] at ef657
              have gf657 := mFq_s (mFq_f gf656) ef657 (Or.inr rfl)
              obtain ⟨pf657, sf657, tf657⟩ := mSte pf656 ef657
              have hk12 : rK12 T n (rB T n (ms h).1) = some k := rK12_i (by omega) hwk
              have h80 : (ms h).2.1 ≠ 80 := by have z := np653; rw [sp633] at z; exact z
              have hsk : mSk hf657 = mSk h := by rw [tf657, tf656, tp654, tp653, tp633]
              have h32 : tF hf657 111 32 = tF h 111 32 := (mI_o ef657 (by decide)).trans ((mI_o ef656 (by decide)).trans (dp654.trans (dp653.trans dp633)))
              have hms : ms hf657 = (rE T n (rB T n (ms h).1), (ms h).2.1 + 1, (ms h).2.2 ++ [100000 + k]) := by rw [sf657, sf656]; show (_, _, _ ++ [mCode 1 x.toNatClampNeg]) = _; rw [zof_cl hx, mCode_1 (by omega)]; rfl
              exact tw_vret rfl ⟨rfl, gf657, mOut_r (by unfold mS1; rw [if_neg (fun z => q635 ((by have y := sgm_k kp634 40 (by decide); rw [sp633] at y; exact y.mpr z))), hk12]; (try dsimp only); rw [if_neg h80]) pf657 (mD_k hD hsk h32) (by unfold mst; rw [mI_x ef657, hsk, hms]; rfl)⟩
            · have ggp653 := mFr_t ggp633 gp653
              refine tw_aload rfl rfl ?_
              refine tw_push rfl ?_
              refine tw_iload rfl rfl ?_
              refine tw_virt2 rfl (z_entry hG hX (ggp653).1 Fp653 ((mFr_T ggp653).trans hT) ((mFr_n ggp653).trans hN)) (fun wp658 hp658 p658 => ?_)
              obtain ⟨rfl, e9⟩ := p658
              obtain rfl := e9.symm
              refine tw_aload rfl rfl ?_
              refine tw_dup rfl ?_
              refine tw_getS rfl (hi_111_28 (ggp653).1) ?_
              refine tw_iload rfl rfl ?_
              refine tw_stat1 rfl (g_wordOf hG (k := k) hx (by omega)) (fun wp659 hp659 p659 => ?_)
              obtain ⟨rfl, rfl⟩ := p659
              refine tw_tlen rfl ?_
              refine tw_iadd rfl ?_
              refine tw_put rfl (fun f660 => ?_)
              refine tG_setm f660 (hw_111_28 f660 (ggp653).1) (fun hf660 ef660 => ?_)
              try dsimp only [tvI_i] at ef660
              have gf660 := mFr_s ggp653 ef660 (by unfold mFs; omega)
              have zf660 := mFt_s Fp653 ef660 (by decide)
              have Zbf660 : 0 ≤ (tvI (tF hp653 111 27)).toInt ∧ (tvI (tF hp653 111 27)).toInt ≤ 400 := by rw [show tF hp653 111 27 = tF h 111 27 from mFr_27 ggp653]; have := hp.2.1; omega
              have yf660 : (tvI (tF hp653 111 28)).toInt = (((rB T n (ms h).1) : Nat) : Int) := by rw [ip653, mPl pp633e, sp633]; rfl
              have hln : (Int32.ofNat (G.2.1 (k + 2)).length).toInt = ((ztx (k + 2)).length : Int) := by rw [hX]; exact zofI (by have := (zl_lo k (by omega)).1; omega)
              have Zf660 : mZp hf660 := by have y := zadN yf660 hln (by have := rB_le (T := T) hpn; omega) (by have := (zl_lo k (by omega)).1; omega); have y2 := rE_le (T := T) (rB_le (T := T) hpn); rw [rW_e hwk, rWd_lo k (by omega)] at y2; unfold mZp; rw [mI_x ef660, mI_o ef660 (by decide)]; exact ⟨⟨by omega, Zbf660.1⟩, by omega, Zbf660.2⟩
              refine tw_aload rfl rfl ?_
              refine tw_push rfl ?_
              refine tw_put rfl (fun f661 => ?_)
              refine tG_setm f661 (hw_111_46 f661 (gf660).1) (fun hf661 ef661 => ?_)
              try dsimp only [tvI_i] at ef661
              have gf661 := mFq_s (mFq_f gf660) ef661 (Or.inr rfl)
              have zf661 := mFt_s zf660 ef661 (by decide)
              have hk12 : rK12 T n (rB T n (ms h).1) = some k := rK12_i (by omega) hwk
              have h80 : (ms h).2.1 = 80 := by have z := np653; rw [sp633] at z; exact z
              have Zfin : mZp hf661 := mZp_o Zf660 ef661 (by decide)
              exact tw_vret rfl ⟨rfl, gf661, mOut_l (by unfold mS1; rw [if_neg (fun z => q635 ((by have y := sgm_k kp634 40 (by decide); rw [sp633] at y; exact y.mpr z))), hk12]; (try dsimp only); rw [if_pos h80]) zf661 Zfin⟩
          · try dsimp only [tvI_i, tvJ_j, tvR_r] at q652
            have q652i := zeqi (Y := 12) (by decide) q652
            exact absurd (show x.toInt = 12 from q652i) (by have z := q647; omega)
        · try dsimp only [tvI_i, tvJ_j, tvR_r] at p651
          refine tw_if_ne rfl (fun z => absurd z (by decide)) (fun _ => ?_)
          refine tw_iinc rfl rfl ?_
          refine tw_goto rfl ?_
          have hno : ¬ rW T n (rB T n (ms h).1) (rWd k) = true := by have z := p651; rw [sp633] at z; rw [rWd_lo k (by omega)]; exact z
          exact tG_cut (zW_mono zTt G dp) (Or.inr ⟨rfl, rfl, rfl, k + 1, x + 1, zincN hx (by omega), by omega, fun i hi => (Classical.em (i = k)).elim (fun z => by rw [z]; exact hno) (fun z => hall i (by omega)), rfl⟩)
  · try dsimp only [tvI_i, tvJ_j, tvR_r] at q635
    have q635i := zeqi (Y := 40) (by decide) q635
    refine tw_aload rfl rfl ?_
    refine tw_push rfl ?_
    refine tw_iload rfl rfl ?_
    have hw40 : (rB T n (ms h).1) < n ∧ T (rB T n (ms h).1) = 40 := by have y := sgm_k kp634 40 (by decide); rw [sp633] at y; exact y.mp q635
    refine tw_virt2 rfl (g_opensDeep hG hX (ggp633).1 pp633e ((mFr_T ggp633).trans hT) ((mFr_n ggp633).trans hN) (by decide) (by decide) (b := (rB T n (ms h).1)) ((mPl pp633e).trans (by rw [sp633]; rfl)) (by have := rB_le (T := T) hpn; omega) (mD_k hD tp633 dp633) (by rw [tp633]; exact hd)) (fun w9 hp662 p662 => ?_)
    obtain ⟨rfl, gp662, ⟨np662, pp662e, tp662, sp662, ddp662⟩ | ⟨np662, Fp662, ip662, jp662⟩⟩ := p662
    · have ggp662 := mFr_t ggp633 gp662
      refine tw_aload rfl rfl ?_
      refine tw_iload rfl rfl ?_
      refine tw_virt1 rfl (g_counts hG hX (ggp662).1 pp662e ((mFr_T ggp662).trans hT) ((mFr_n ggp662).trans hN) (b := (rB T n (ms h).1)) ((mPl pp633e).trans (by rw [sp633]; rfl)) (by have := rB_le (T := T) hpn; omega)) (fun w9 hp663 p663 => ?_)
      obtain ⟨rfl, gp663, ⟨np663, pp663e, sp663, tp663, dp663⟩ | ⟨np663, Fp663⟩, ip663, jp663⟩ := p663
      · have ggp663 := mFr_t ggp662 gp663
        refine tw_aload rfl rfl ?_
        refine tw_dup rfl ?_
        refine tw_getS rfl (hi_111_28 ggp663.1) ?_
        refine tw_push rfl ?_
        refine tw_iadd rfl ?_
        refine tw_put rfl (fun f664 => ?_)
        refine tG_setm f664 (hw_111_28 f664 (ggp663).1) (fun hf664 ef664 => ?_)
        try dsimp only [tvI_i] at ef664
        have gf664 := mFr_s ggp663 ef664 (by unfold mFs; omega)
        have wf664 := hw40
        obtain ⟨pf664, sf664, tf664⟩ := mTo pp663e ((mFr_n ggp663).trans hN) ef664 (v := (rB T n (ms h).1) + 1) (zincN (n := (rB T n (ms h).1)) (by rw [mPl pp663e, sp663, sp662, sp633]; rfl) (by omega)) wf664.1
        rw [sp663, sp662, sp633] at sf664
        refine tw_goto rfl ?_
        have hnd : mDp (mSk h) ≠ 10 := by rw [← tp633]; exact np662
        have h80 : (ms h).2.1 ≠ 80 := by have z := np663; rw [sp662, sp633] at z; exact z
        have hsk : mSk hf664 = 50 :: mSk h := by rw [tf664, tp663, tp662, tp633]; rfl
        have hdd : mD hf664 := mD_o ef664 (by decide) (by decide) (mD_k ddp662 tp663 dp663)
        have h46 : stN (tvI (tF hf664 111 46)) = 1 := by rw [mFr_46 gf664, h46s]; rfl
        exact tw_vret rfl ⟨rfl, mFq_f gf664, mOut_r (by unfold mS1; rw [if_pos hw40, if_neg hnd, if_neg h80]) pf664 hdd (by unfold mst; rw [h46, hsk, sf664]; rfl)⟩
      · have ggp663 := mFr_t ggp662 gp663
        refine tw_aload rfl rfl ?_
        refine tw_dup rfl ?_
        refine tw_getS rfl (hi_111_28 ggp663.1) ?_
        refine tw_push rfl ?_
        refine tw_iadd rfl ?_
        refine tw_put rfl (fun f665 => ?_)
        refine tG_setm f665 (hw_111_28 f665 (ggp663).1) (fun hf665 ef665 => ?_)
        try dsimp only [tvI_i] at ef665
        have gf665 := mFr_s ggp663 ef665 (by unfold mFs; omega)
        have zf665 := mFt_s Fp663 ef665 (by decide)
        have yf665 : (tvI (tF hp663 111 28)).toInt = (((rB T n (ms h).1) : Nat) : Int) := by rw [ip663, mPl pp662e, sp662, sp633]; rfl
        have Zbf665 : 0 ≤ (tvI (tF hp663 111 27)).toInt ∧ (tvI (tF hp663 111 27)).toInt ≤ 400 := by rw [show tF hp663 111 27 = tF h 111 27 from mFr_27 ggp663]; have := hp.2.1; omega
        have Zf665 : mZp hf665 := by have y := zp1 yf665 (by have := rB_le (T := T) hpn; omega); have y2 := rB_le (T := T) hpn; unfold mZp; rw [mI_x ef665, mI_o ef665 (by decide)]; exact ⟨⟨by omega, Zbf665.1⟩, by omega, Zbf665.2⟩
        refine tw_goto rfl ?_
        have hnd : mDp (mSk h) ≠ 10 := by rw [← tp633]; exact np662
        have h80 : (ms h).2.1 = 80 := by have z := np663; rw [sp662, sp633] at z; exact z
        exact tw_vret rfl ⟨rfl, mFq_f gf665, mOut_l (by unfold mS1; rw [if_pos hw40, if_neg hnd, if_pos h80]) zf665 Zf665⟩
    · have ggp662 := mFr_t ggp633 gp662
      refine tw_aload rfl rfl ?_
      refine tw_iload rfl rfl ?_
      refine tw_virt1 rfl (z_counts hG hX (ggp662).1 Fp662 ((mFr_T ggp662).trans hT) ((mFr_n ggp662).trans hN)) (fun w9 hp666 p666 => ?_)
      obtain ⟨rfl, gp666, Fp666, ip666, jp666⟩ := p666
      · have ggp666 := mFr_t ggp662 gp666
        refine tw_aload rfl rfl ?_
        refine tw_dup rfl ?_
        refine tw_getS rfl (hi_111_28 ggp666.1) ?_
        refine tw_push rfl ?_
        refine tw_iadd rfl ?_
        refine tw_put rfl (fun f667 => ?_)
        refine tG_setm f667 (hw_111_28 f667 (ggp666).1) (fun hf667 ef667 => ?_)
        try dsimp only [tvI_i] at ef667
        have gf667 := mFr_s ggp666 ef667 (by unfold mFs; omega)
        have zf667 := mFt_s Fp666 ef667 (by decide)
        have yf667 : (tvI (tF hp666 111 28)).toInt = (((rB T n (ms h).1) : Nat) : Int) := by rw [ip666, ip662, mPl pp633e, sp633]; rfl
        have Zbf667 : 0 ≤ (tvI (tF hp666 111 27)).toInt ∧ (tvI (tF hp666 111 27)).toInt ≤ 400 := by rw [show tF hp666 111 27 = tF h 111 27 from mFr_27 ggp666]; have := hp.2.1; omega
        have Zf667 : mZp hf667 := by have y := zp1 yf667 (by have := rB_le (T := T) hpn; omega); have y2 := rB_le (T := T) hpn; unfold mZp; rw [mI_x ef667, mI_o ef667 (by decide)]; exact ⟨⟨by omega, Zbf667.1⟩, by omega, Zbf667.2⟩
        refine tw_goto rfl ?_
        exact tw_vret rfl ⟨rfl, mFq_f gf667, mOut_l (by unfold mS1; rw [if_pos hw40, if_pos (by rw [← tp633]; exact np662)]) zf667 Zf667⟩
theorem txt_k : rWd 19 = ztx 18 ∧ rWd 18 = ztx 19 ∧ rWd 17 = ztx 20 ∧ rWd 16 = ztx 21 := by decide +kernel
theorem zp3 {x y : Int32} {k j : Nat} (h : x.toInt = k) (hy : y.toInt = j) (hk : k ≤ 1000) (hj : j ≤ 10) : (x + y).toInt = ((k + j : Nat) : Int) := zadN h hy (by omega) (by omega)
theorem mZ_of {h h0 h3 : zH} {X : Int32} {v : Nat} (g : mFr h0 h) (p : mP h0) (s : mSet 28 X h h3) (hx : X.toInt = v) (hv : v ≤ 500) : mZp h3 := by
  have e := mFr_27 g
  have := p.2.1
  unfold mZp
  rw [mI_x s, mI_o s (by decide), e]
  exact ⟨⟨by omega, by omega⟩, by omega, by omega⟩
theorem g_beginsFact {G : zG} (hG : G.1 = zProg) (hX : G.2.1 = ztx) {h : zH} {T : Nat → Int32} {n : Nat} (hs : tSh h) (hp : mP h) (hT : tA h 132 = T) (hN : mn h = n) (hD : mD h) (hd : mDp (mSk h) ≤ 1000) (h46s : tvI (tF h 111 46) = 0) : tC zTt G 216 [.ref 111] h (fun w h2 => w = none ∧ mFq h h2 ∧ mOut (mS0 T n (mSk h) (ms h)) h2) := by
  refine tC_in (by rw [hG]; rfl) (fun dp => ?_)
  have g0 := mFr_r hs
  have hpn : (ms h).1 ≤ n := mPle hp hN
  have hn4 : n ≤ 400 := by have a := mNl hp hN; have b := hp.2.1; omega
  refine tw_aload rfl rfl ?_
  refine tw_virt0 rfl (g_blanks hG hX (g0).1 hp ((mFr_T g0).trans hT) ((mFr_n g0).trans hN)) (fun wp668 hp668 p668 => ?_)
  obtain ⟨rfl, gp668, pp668e, sp668, tp668, dp668⟩ := p668
  have ggp668 := mFr_t g0 gp668
  refine tw_aload rfl rfl ?_
  refine tw_push rfl ?_
  refine tw_virt1 rfl (g_stands hG hX (ggp668).1 ((mFr_T ggp668).trans hT) ((mFr_n ggp668).trans hN) (q := 18) (by decide +kernel) ⟨pp668e.2.1.1, by have := pp668e.2.1; omega⟩ ⟨by have := pp668e.2.1; omega, pp668e.2.1.2.2⟩) (fun w9 h9 p669 => ?_)
  obtain ⟨⟨p669, rfl⟩ | ⟨p669, rfl⟩, rfl⟩ := p669
  · try dsimp only [tvI_i, tvJ_j, tvR_r] at p669
    refine tw_if_eq rfl (fun z => absurd z (by decide)) (fun _ => ?_)
    refine tw_aload rfl rfl ?_
    refine tw_push rfl ?_
    refine tw_aload rfl rfl ?_
    refine tw_getS rfl (hi_111_28 ggp668.1) ?_
    have hwn : rW T n (rB T n (ms h).1) (rWd 19) = true := by have z := p669; rw [sp668] at z; rw [txt_k.1]; exact z
    refine tw_virt2 rfl (g_opensDeep hG hX (ggp668).1 pp668e ((mFr_T ggp668).trans hT) ((mFr_n ggp668).trans hN) (by decide) (by decide) (b := (rB T n (ms h).1)) ((mPl pp668e).trans (by rw [sp668]; rfl)) (by have := rB_le (T := T) hpn; omega) (mD_k hD tp668 dp668) (by rw [tp668]; exact hd)) (fun w9 hp670 p670 => ?_)
    obtain ⟨rfl, gp670, ⟨np670, pp670e, tp670, sp670, ddp670⟩ | ⟨np670, Fp670, ip670, jp670⟩⟩ := p670
    · have ggp670 := mFr_t ggp668 gp670
      refine tw_aload rfl rfl ?_
      refine tw_dup rfl ?_
      refine tw_getS rfl (hi_111_28 ggp670.1) ?_
      refine tw_push rfl ?_
      refine tw_iadd rfl ?_
      refine tw_put rfl (fun f671 => ?_)
      refine tG_setm f671 (hw_111_28 f671 (ggp670).1) (fun hf671 ef671 => ?_)
      try dsimp only [tvI_i] at ef671
      have gf671 := mFr_s ggp670 ef671 (by unfold mFs; omega)
      have h9w : rE T n (rB T n (ms h).1) = (rB T n (ms h).1) + 3 := by rw [rW_e hwn, wlen_k.2.2.1]
      have hr9 := rE_le (T := T) (rB_le (T := T) hpn)
      rw [h9w] at hr9
      obtain ⟨pf671, sf671, tf671⟩ := mTo pp670e ((mFr_n ggp670).trans hN) ef671 (v := (rB T n (ms h).1) + 3) (zp3 (k := (rB T n (ms h).1)) (j := 3) (by rw [mPl pp670e, sp670, sp668]; rfl) rfl (by have := rB_le (T := T) hpn; omega) (by decide)) hr9
      rw [sp670, sp668] at sf671
      refine tw_goto rfl ?_
      have hsk : mSk hf671 = 10 :: mSk h := by rw [tf671, tp670, tp668]; rfl
      have h46 : stN (tvI (tF hf671 111 46)) = 0 := by rw [mFr_46 gf671, h46s]; rfl
      exact tw_vret rfl ⟨rfl, mFq_f gf671, mOut_r (by unfold mS0; rw [if_pos hwn, if_neg (by rw [← tp668]; exact np670)]) pf671 (mD_o ef671 (by decide) (by decide) ddp670) (by unfold mst; rw [h46, hsk, sf671]; rfl)⟩
    · have ggp670 := mFr_t ggp668 gp670
      refine tw_aload rfl rfl ?_
      refine tw_dup rfl ?_
      refine tw_getS rfl (hi_111_28 ggp670.1) ?_
      refine tw_push rfl ?_
      refine tw_iadd rfl ?_
      refine tw_put rfl (fun f672 => ?_)
      refine tG_setm f672 (hw_111_28 f672 (ggp670).1) (fun hf672 ef672 => ?_)
      try dsimp only [tvI_i] at ef672
      have gf672 := mFr_s ggp670 ef672 (by unfold mFs; omega)
      have zf672 := mFt_s Fp670 ef672 (by decide)
      have yf672 : (tvI (tF hp670 111 28)).toInt = (((rB T n (ms h).1) : Nat) : Int) := by rw [ip670, mPl pp668e, sp668]; rfl
      have Zf672 : mZp hf672 := mZ_of ggp670 hp ef672 (zp3 yf672 (j := 3) rfl (by have := rB_le (T := T) hpn; omega) (by decide)) (by have := rB_le (T := T) hpn; omega)
      refine tw_goto rfl ?_
      exact tw_vret rfl ⟨rfl, mFq_f gf672, mOut_l (by unfold mS0; rw [if_pos hwn, if_pos (by rw [← tp668]; exact np670)]) zf672 Zf672⟩
  · try dsimp only [tvI_i, tvJ_j, tvR_r] at p669
    refine tw_if_eq rfl (fun _ => ?_) (fun z => absurd z (by decide))
    refine tw_aload rfl rfl ?_
    refine tw_virt0 rfl (g_sign hG hX (ggp668).1 ((mFr_T ggp668).trans hT) ((mFr_n ggp668).trans hN) ⟨pp668e.2.1.1, by have := pp668e.2.1; omega⟩) (fun wp673 hp673 p673 => ?_)
    obtain ⟨⟨cp673, rfl, kp673⟩, rfl⟩ := p673
    refine tw_push rfl ?_
    refine tw_ic_ne rfl (fun q674 => ?_) (fun q674 => ?_)
    · try dsimp only [tvI_i, tvJ_j, tvR_r] at q674
      have q674i := zneq (Y := 91) (by decide) q674
      refine tw_aload rfl rfl ?_
      refine tw_push rfl ?_
      refine tw_put rfl (fun f675 => ?_)
      refine tG_setm f675 (hw_111_46 f675 (ggp668).1) (fun hf675 ef675 => ?_)
      try dsimp only [tvI_i] at ef675
      have gf675 := mFq_s (mFq_f ggp668) ef675 (Or.inr rfl)
      obtain ⟨pf675, sf675, tf675⟩ := mSte pp668e ef675
      exact tw_vret rfl ⟨rfl, gf675, mOut_r (by unfold mS0; rw [if_neg (fun z => p669 (by have y := z; rw [txt_k.1] at y; rw [sp668]; exact y)), if_neg (fun z => q674 (by have y := sgm_k kp673 91 (by decide); rw [sp668] at y; exact y.mpr z))]) pf675 (mD_k hD (tf675.trans tp668) ((mI_o ef675 (by decide)).trans dp668)) (by unfold mst; rw [mI_x ef675, tf675, tp668, sf675, sp668]; rfl)⟩
    · try dsimp only [tvI_i, tvJ_j, tvR_r] at q674
      have q674i := zeqi (Y := 91) (by decide) q674
      refine tw_aload rfl rfl ?_
      refine tw_push rfl ?_
      refine tw_aload rfl rfl ?_
      refine tw_getS rfl (hi_111_28 (ggp668).1) ?_
      have hw91 : (rB T n (ms h).1) < n ∧ T (rB T n (ms h).1) = 91 := by have y := sgm_k kp673 91 (by decide); rw [sp668] at y; exact y.mp q674
      refine tw_virt2 rfl (g_opensDeep hG hX (ggp668).1 pp668e ((mFr_T ggp668).trans hT) ((mFr_n ggp668).trans hN) (by decide) (by decide) (b := (rB T n (ms h).1)) ((mPl pp668e).trans (by rw [sp668]; rfl)) (by have := rB_le (T := T) hpn; omega) (mD_k hD tp668 dp668) (by rw [tp668]; exact hd)) (fun w9 hp676 p676 => ?_)
      obtain ⟨rfl, gp676, ⟨np676, pp676e, tp676, sp676, ddp676⟩ | ⟨np676, Fp676, ip676, jp676⟩⟩ := p676
      · have ggp676 := mFr_t ggp668 gp676
        refine tw_aload rfl rfl ?_
        refine tw_dup rfl ?_
        refine tw_getS rfl (hi_111_28 ggp676.1) ?_
        refine tw_push rfl ?_
        refine tw_iadd rfl ?_
        refine tw_put rfl (fun f677 => ?_)
        refine tG_setm f677 (hw_111_28 f677 (ggp676).1) (fun hf677 ef677 => ?_)
        try dsimp only [tvI_i] at ef677
        have gf677 := mFr_s ggp676 ef677 (by unfold mFs; omega)
        have hr9 : (rB T n (ms h).1) + 1 ≤ n := hw91.1
        obtain ⟨pf677, sf677, tf677⟩ := mTo pp676e ((mFr_n ggp676).trans hN) ef677 (v := (rB T n (ms h).1) + 1) (zp3 (k := (rB T n (ms h).1)) (j := 1) (by rw [mPl pp676e, sp676, sp668]; rfl) rfl (by have := rB_le (T := T) hpn; omega) (by decide)) hr9
        rw [sp676, sp668] at sf677
        refine tw_goto rfl ?_
        have hsk : mSk hf677 = 13 :: mSk h := by rw [tf677, tp676, tp668]; rfl
        have h46 : stN (tvI (tF hf677 111 46)) = 0 := by rw [mFr_46 gf677, h46s]; rfl
        exact tw_vret rfl ⟨rfl, mFq_f gf677, mOut_r (by unfold mS0; rw [if_neg (fun z => p669 (by have y := z; rw [txt_k.1] at y; rw [sp668]; exact y)), if_pos hw91, if_neg (by rw [← tp668]; exact np676)]) pf677 (mD_o ef677 (by decide) (by decide) ddp676) (by unfold mst; rw [h46, hsk, sf677]; rfl)⟩
      · have ggp676 := mFr_t ggp668 gp676
        refine tw_aload rfl rfl ?_
        refine tw_dup rfl ?_
        refine tw_getS rfl (hi_111_28 ggp676.1) ?_
        refine tw_push rfl ?_
        refine tw_iadd rfl ?_
        refine tw_put rfl (fun f678 => ?_)
        refine tG_setm f678 (hw_111_28 f678 (ggp676).1) (fun hf678 ef678 => ?_)
        try dsimp only [tvI_i] at ef678
        have gf678 := mFr_s ggp676 ef678 (by unfold mFs; omega)
        have zf678 := mFt_s Fp676 ef678 (by decide)
        have yf678 : (tvI (tF hp676 111 28)).toInt = (((rB T n (ms h).1) : Nat) : Int) := by rw [ip676, mPl pp668e, sp668]; rfl
        have Zf678 : mZp hf678 := mZ_of ggp676 hp ef678 (zp3 yf678 (j := 1) rfl (by have := rB_le (T := T) hpn; omega) (by decide)) (by have := rB_le (T := T) hpn; omega)
        refine tw_goto rfl ?_
        exact tw_vret rfl ⟨rfl, mFq_f gf678, mOut_l (by unfold mS0; rw [if_neg (fun z => p669 (by have y := z; rw [txt_k.1] at y; rw [sp668]; exact y)), if_pos hw91, if_pos (by rw [← tp668]; exact np676)]) zf678 Zf678⟩
theorem g_closesRound {G : zG} (hG : G.1 = zProg) (hX : G.2.1 = ztx) {h : zH} {T : Nat → Int32} {n : Nat} (hs : tSh h) (hp : mP h) (hT : tA h 132 = T) (hN : mn h = n) {c : Int32} (hc : sgm T n (ms h).1 c) (hhd : (mSk h).headD 0 = 50) (hD : mD h) : tC zTt G 218 [.ref 111, .int c] h (fun w h2 => w = none ∧ mFr h h2 ∧ ((((ms h).1 < n ∧ T (ms h).1 = 41) ∧ mP h2 ∧ ms h2 = rA ((ms h).1 + 1) (ms h) ∧ mSk h2 = (mSk h).tail ∧ mD h2) ∨ (¬ ((ms h).1 < n ∧ T (ms h).1 = 41) ∧ mFt h2 (1 + 8 * (ms h).1 + 0) ∧ mZp h2))) := by
  refine tC_in (by rw [hG]; rfl) (fun dp => ?_)
  have g0 := mFr_r hs
  have hpn : (ms h).1 ≤ n := mPle hp hN
  have hn4 : n ≤ 400 := by have a := mNl hp hN; have b := hp.2.1; omega
  refine tw_iload rfl rfl ?_
  refine tw_push rfl ?_
  refine tw_ic_eq rfl (fun q679 => ?_) (fun q679 => ?_)
  · try dsimp only [tvI_i, tvJ_j, tvR_r] at q679
    have q679i := zeqi (Y := 41) (by decide) q679
    refine tw_aload rfl rfl ?_
    refine tw_dup rfl ?_
    refine tw_getS rfl (hi_111_28 hs) ?_
    refine tw_push rfl ?_
    refine tw_iadd rfl ?_
    refine tw_put rfl (fun f680 => ?_)
    refine tG_setm f680 (hw_111_28 f680 (g0).1) (fun hf680 ef680 => ?_)
    try dsimp only [tvI_i] at ef680
    have gf680 := mFr_s g0 ef680 (by unfold mFs; omega)
    have w9 := (sgm_k hc 41 (by decide)).mp q679
    obtain ⟨pf680, sf680, tf680⟩ := mTo hp ((mFr_n g0).trans hN) ef680 (v := (ms h).1 + 1) (zp1 (mPl hp) (by omega)) w9.1
    refine tw_aload rfl rfl ?_
    refine tw_dup rfl ?_
    refine tw_getS rfl (hi_111_34 (gf680).1) ?_
    refine tw_push rfl ?_
    refine tw_isub rfl ?_
    refine tw_put rfl (fun f681 => ?_)
    refine tG_setm f681 (hw_111_34 f681 (gf680).1) (fun hf681 ef681 => ?_)
    try dsimp only [tvI_i] at ef681
    have gf681 := mFr_s gf680 ef681 (by unfold mFs; omega)
    have hst : mSk hf680 = 50 :: (mSk h).tail := tf680.trans (mhead (k := 49) hhd)
    obtain ⟨pf681, tf681, sf681, df681⟩ := mSk_pop pf680 (by rw [hst]; exact List.cons_ne_nil _ _) ef681
    rw [hst] at tf681
    have tf681 : mSk hf681 = (mSk h).tail := tf681
    refine tw_aload rfl rfl ?_
    refine tw_dup rfl ?_
    refine tw_getS rfl (hi_111_32 (gf681).1) ?_
    refine tw_push rfl ?_
    refine tw_isub rfl ?_
    refine tw_put rfl (fun f682 => ?_)
    refine tG_setm f682 (hw_111_32 f682 (gf681).1) (fun hf682 ef682 => ?_)
    try dsimp only [tvI_i] at ef682
    have gf682 := mFr_s gf681 ef682 (by unfold mFs; omega)
    have hdf682 : (tvI (tF hf681 111 32)).toInt = ((mDp (mSk hf681) + 1 : Nat) : Int) := by
      rw [df681, mI_o ef680 (by decide)]
      refine (show (tvI (tF h 111 32)).toInt = (mDp (mSk h) : Int) from hD).trans ?_
      rw [tf681]
      exact congrArg (fun z : Nat => (z : Int)) ((congrArg mDp (mhead (k := 49) hhd)).trans (mDp_c (by decide)))
    obtain ⟨pf682, tf682, sf682, ddf682⟩ := mDn pf681 ef682 hdf682 rfl
    exact tw_vret rfl ⟨rfl, gf682, Or.inl ⟨w9, pf682, by rw [sf682, sf681, sf680], by rw [tf682, tf681], ddf682⟩⟩
  · try dsimp only [tvI_i, tvJ_j, tvR_r] at q679
    have q679i := zneq (Y := 41) (by decide) q679
    refine tw_aload rfl rfl ?_
    refine tw_push rfl ?_
    refine tw_aload rfl rfl ?_
    refine tw_getS rfl (hi_111_28 hs) ?_
    refine tw_virt2 rfl (g_fails hG hX (g0).1 hp ((mFr_T g0).trans hT) ((mFr_n g0).trans hN) (w := 0) (b := (ms h).1) rfl (by decide) (mPl hp) (by omega)) (fun wp683 hp683 p683 => ?_)
    obtain ⟨rfl, gp683, Fp683, ip683, jp683⟩ := p683
    have ggp683 := mFr_t g0 gp683
    refine tw_aload rfl rfl ?_
    refine tw_dup rfl ?_
    refine tw_getS rfl (hi_111_28 ggp683.1) ?_
    refine tw_push rfl ?_
    refine tw_iadd rfl ?_
    refine tw_put rfl (fun f684 => ?_)
    refine tG_setm f684 (hw_111_28 f684 (ggp683).1) (fun hf684 ef684 => ?_)
    try dsimp only [tvI_i] at ef684
    have gf684 := mFr_s ggp683 ef684 (by unfold mFs; omega)
    have zf684 := mFt_s Fp683 ef684 (by decide)
    have yf684 : (tvI (tF hp683 111 28)).toInt = (((ms h).1 : Nat) : Int) := by rw [ip683]; exact mPl hp
    have Zf684 : mZp hf684 := mZ_of ggp683 hp ef684 (zp1 yf684 (by omega)) (by omega)
    refine tw_aload rfl rfl ?_
    refine tw_dup rfl ?_
    refine tw_getS rfl (hi_111_34 (gf684).1) ?_
    refine tw_push rfl ?_
    refine tw_isub rfl ?_
    refine tw_put rfl (fun f685 => ?_)
    refine tG_setm f685 (hw_111_34 f685 (gf684).1) (fun hf685 ef685 => ?_)
    try dsimp only [tvI_i] at ef685
    have gf685 := mFr_s gf684 ef685 (by unfold mFs; omega)
    have zf685 := mFt_s zf684 ef685 (by decide)
    have Zf685 : mZp hf685 := mZp_o Zf684 ef685 (by decide)
    refine tw_aload rfl rfl ?_
    refine tw_dup rfl ?_
    refine tw_getS rfl (hi_111_32 (gf685).1) ?_
    refine tw_push rfl ?_
    refine tw_isub rfl ?_
    refine tw_put rfl (fun f686 => ?_)
    refine tG_setm f686 (hw_111_32 f686 (gf685).1) (fun hf686 ef686 => ?_)
    try dsimp only [tvI_i] at ef686
    have gf686 := mFr_s gf685 ef686 (by unfold mFs; omega)
    have zf686 := mFt_s zf685 ef686 (by decide)
    have Zf686 : mZp hf686 := mZp_o Zf685 ef686 (by decide)
    exact tw_vret rfl ⟨rfl, gf686, Or.inr ⟨fun z => q679 ((sgm_k hc 41 (by decide)).mpr z), zf686, Zf686⟩⟩
theorem mDp_T : ∀ (S o : List Nat), mDp (mT S o).1 = mDp S
  | [], _ => rfl
  | x :: r, o => by
    unfold mT
    by_cases z : x = 102
    · rw [if_pos z, mDp_T r, z, mDp_e (by decide)]
    · rw [if_neg z]
theorem mDp_P : ∀ (S o : List Nat), mDp (mPm S o).1 = mDp S
  | [], _ => rfl
  | x :: r, o => by
    unfold mPm
    by_cases z : x = 103
    · rw [if_pos z, mDp_P r, z, mDp_e (by decide)]
    · rw [if_neg z]
      by_cases y : x = 104
      · rw [if_pos y, mDp_P r, y, mDp_e (by decide)]
      · rw [if_neg y]
theorem mDp_S (S o : List Nat) : mDp (mS S o).1 = mDp S := (mDp_P _ _).trans (mDp_T _ _)
theorem mDp_A : ∀ (S o : List Nat), mDp (mA S o).1 = mDp S
  | [], _ => rfl
  | x :: r, o => by
    unfold mA
    by_cases z : x = 11
    · rw [if_pos z, mDp_A r, z, mDp_e (by decide)]
    · rw [if_neg z]
theorem mDp_O1 : ∀ (S o : List Nat), mDp (mO1 S o).1 = mDp S
  | [], _ => rfl
  | x :: r, o => by
    unfold mO1
    by_cases z : x = 12
    · rw [if_pos z, mDp_O1 r, z, mDp_e (by decide)]
    · rw [if_neg z]
theorem mDp_O (S o : List Nat) : mDp (mO S o).1 = mDp S := (mDp_O1 _ _).trans (mDp_A _ _)
theorem mD_m {h h2 : zH} (d : mD h) (a : mDp (mSk h2) = mDp (mSk h)) (b : tF h2 111 32 = tF h 111 32) : mD h2 := by
  unfold mD
  rw [a, b]
  exact d
theorem mfst {α β : Type} {x : α} {y : β} {p : α × β} (h : (x, y) = p) : x = p.1 := congrArg Prod.fst h
theorem mA1 {h1 h2 : zH} {b : Nat} {s : rS} (e : ms h1 = rA b s) (a : (ms h2).1 = (ms h1).1) : (ms h2).1 = b := by
  rw [a, e]
  rfl
theorem mA2 {h1 h2 : zH} {b y0 : Nat} {s : rS} (e : ms h1 = rA b s) (c : (ms h2).2.1 = (ms h1).2.1) (y : s.2.1 = y0) : (ms h2).2.1 = y0 := by
  rw [c, e]
  exact y
theorem mA3 {h1 h2 : zH} {b y0 : Nat} {s : rS} {z : List Nat} (e : ms h1 = rA b s) (a : (ms h2).1 = (ms h1).1) (c : (ms h2).2.1 = (ms h1).2.1) (y : s.2.1 = y0) (k : (ms h2).2.2 = z) : ms h2 = (b, y0, z) :=
  Prod.ext (mA1 e a) (Prod.ext (mA2 e c y) k)
theorem mA6 {b y0 : Nat} {s : rS} {z : List Nat} (y : s.2.1 = y0) (k : s.2.2 = z) : rA b s = (b, y0, z) := by
  rw [← y, ← k]
  rfl
theorem mA4 {h1 h2 h3 : zH} {b y0 : Nat} {s : rS} {z : List Nat} (g : ms h3 = rA ((ms h2).1 + 1) (ms h2)) (e : ms h1 = rA b s) (a : (ms h2).1 = (ms h1).1) (c : (ms h2).2.1 = (ms h1).2.1) (y : s.2.1 = y0) (k : (ms h2).2.2 = z) : ms h3 = (b + 1, y0, z) := by
  rw [g, mA1 e a]
  exact mA6 (mA2 e c y) k
theorem cm_d {q : Nat} {x : Int32} (h1 : 100103 ≤ q) (hx : x.toInt + 100098 = (q : Int)) : ∃ d, q = 100103 + d ∧ x.toInt = ((d + 5 : Nat) : Int) := ⟨q - 100103, by omega, by omega⟩
theorem cm_x {q : Nat} {x : Int32} (h1 : 100103 ≤ q) (h2 : q ≤ 100107) (hx : x.toInt + 100098 = (q : Int)) : (200 + x).toNatClampNeg = q - 99898 := by
  obtain ⟨d, rfl, h⟩ := cm_d h1 hx
  rw [zof_cl (zadN (x := 200) (a := 200) rfl h (by omega) (by omega))]
  omega
theorem cm_0 {q : Nat} {x : Int32} (h1 : 100103 ≤ q) (h2 : q ≤ 100107) (hx : x.toInt + 100098 = (q : Int)) : 0 ≤ (200 + x).toInt := by
  obtain ⟨d, rfl, h⟩ := cm_d h1 hx
  rw [zadN (x := 200) (a := 200) rfl h (by omega) (by omega)]
  omega
theorem cm_z {q : Nat} {x : Int32} (h1 : 100103 ≤ q) (hx : x.toInt + 100098 = (q : Int)) (h : x = 0) : False := by
  obtain ⟨d, -, h4⟩ := cm_d h1 hx
  rw [h] at h4
  have h5 : (0 : Int) = ((d + 5 : Nat) : Int) := h4
  omega
theorem msnd {α β : Type} {x : α} {y : β} {p : α × β} (h : (x, y) = p) : y = p.2 := congrArg Prod.snd h
theorem mDp_tl {S : List Nat} (h : 205 ≤ S.headD 0 ∧ S.headD 0 ≤ 209) : mDp S.tail = mDp S := by
  cases S with
  | nil => exact absurd h.1 (by decide)
  | cons x r =>
    have h : 205 ≤ x ∧ x ≤ 209 := h
    exact (mDp_e (by omega)).symm
theorem g_behindValue {G : zG} (hG : G.1 = zProg) (hX : G.2.1 = ztx) {h : zH} {T : Nat → Int32} {n : Nat} (hs : tSh h) (hp : mP h) (hT : tA h 132 = T) (hN : mn h = n) (hD : mD h) (hd : mDp (mSk h) ≤ 1000) {tst : Bool} (hts : ¬ tvI (tF h 111 47) = 0 ↔ tst = true) (h46s : tvI (tF h 111 46) = 2) : tC zTt G 217 [.ref 111] h (fun w h2 => w = none ∧ mFq h h2 ∧ mOut (mS2 T n tst (mSk h) (ms h)) h2) := by
  refine tC_in (by rw [hG]; rfl) (fun dp => ?_)
  have g0 := mFr_r hs
  have hpn : (ms h).1 ≤ n := mPle hp hN
  have hn4 : n ≤ 400 := by have a := mNl hp hN; have b := hp.2.1; omega
  refine tw_aload rfl rfl ?_
  refine tw_virt0 rfl (g_blanks hG hX (g0).1 hp ((mFr_T g0).trans hT) ((mFr_n g0).trans hN)) (fun wp687 hp687 p687 => ?_)
  obtain ⟨rfl, gp687, pp687e, sp687, tp687, dp687⟩ := p687
  have ggp687 := mFr_t g0 gp687
  refine tw_aload rfl rfl ?_
  refine tw_virt0 rfl (g_sign hG hX (ggp687).1 ((mFr_T ggp687).trans hT) ((mFr_n ggp687).trans hN) ⟨pp687e.2.1.1, by have := pp687e.2.1; omega⟩) (fun wp688 hp688 p688 => ?_)
  obtain ⟨⟨cp688, rfl, kp688⟩, rfl⟩ := p688
  refine tw_istore rfl ?_
  refine tw_iload rfl rfl ?_
  refine tw_push rfl ?_
  refine tw_ic_ne rfl (fun q689 => ?_) (fun q689 => ?_)
  · try dsimp only [tvI_i, tvJ_j, tvR_r] at q689
    have q689i := zneq (Y := 42) (by decide) q689
    refine tw_iload rfl rfl ?_
    refine tw_push rfl ?_
    refine tw_ic_eq rfl (fun q690 => ?_) (fun q690 => ?_)
    · try dsimp only [tvI_i, tvJ_j, tvR_r] at q690
      have q690i := zeqi (Y := 43) (by decide) q690
      refine tw_aload rfl rfl ?_
      refine tw_virt0 rfl (g_makesSums hG hX (ggp687).1 pp687e ((mFr_T ggp687).trans hT) ((mFr_n ggp687).trans hN)) (fun wp691 hp691 p691 => ?_)
      obtain ⟨rfl, gp691, pp691e, ap691, bp691, mp691, dp691⟩ := p691
      have ggp691 := mFr_t ggp687 gp691
      refine tw_aload rfl rfl ?_
      refine tw_push rfl ?_
      refine tw_iload rfl rfl ?_
      refine tw_push rfl ?_
      refine tw_ic_ne rfl (fun q692 => ?_) (fun q692 => ?_)
      · try dsimp only [tvI_i, tvJ_j, tvR_r] at q692
        have q692i := zneq (Y := 43) (by decide) q692
        exact absurd q690 q692
      · try dsimp only [tvI_i, tvJ_j, tvR_r] at q692
        have q692i := zeqi (Y := 43) (by decide) q692
        refine tw_push rfl ?_
        refine tw_goto rfl ?_
        refine tw_iadd rfl ?_
        refine tw_virt1 rfl (g_opens hG hX (ggp691).1 pp691e ((mFr_T ggp691).trans hT) ((mFr_n ggp691).trans hN) (by decide)) (fun wp693 hp693 p693 => ?_)
        obtain ⟨rfl, gp693, pp693e, tp693, sp693, dp693⟩ := p693
        have ggp693 := mFr_t ggp691 gp693
        refine tw_aload rfl rfl ?_
        refine tw_dup rfl ?_
        refine tw_getS rfl (hi_111_28 ggp693.1) ?_
        refine tw_push rfl ?_
        refine tw_iadd rfl ?_
        refine tw_put rfl (fun f694 => ?_)
        refine tG_setm f694 (hw_111_28 f694 (ggp693).1) (fun hf694 ef694 => ?_)
        try dsimp only [tvI_i] at ef694
        have gf694 := mFr_s ggp693 ef694 (by unfold mFs; omega)
        have hk42 : cp688 = 42 ↔ ((rB T n (ms h).1) < n ∧ T (rB T n (ms h).1) = 42) := by have y := sgm_k kp688 42 (by decide); rw [sp687] at y; exact y
        have hs42 : ¬ ((rB T n (ms h).1) < n ∧ T (rB T n (ms h).1) = 42) := fun z => q689 (hk42.mpr z)
        have hk43 : cp688 = 43 ↔ ((rB T n (ms h).1) < n ∧ T (rB T n (ms h).1) = 43) := by have y := sgm_k kp688 43 (by decide); rw [sp687] at y; exact y
        have hs43 := hk43.mp q690
        have hmsf694 : ms hp693 = ((rB T n (ms h).1), (ms h).2.1, (ms hp691).2.2) := (sp693).trans (mA3 sp687 ap691 bp691 rfl rfl)
        obtain ⟨pf694, sf694, tf694⟩ := mTo pp693e ((mFr_n ggp693).trans hN) ef694 (v := (rB T n (ms h).1) + 1) (zp1 (by rw [mPl pp693e, hmsf694]) (by have := rB_le (T := T) hpn; omega)) hs43.1
        rw [hmsf694] at sf694
        refine tw_aload rfl rfl ?_
        refine tw_push rfl ?_
        refine tw_put rfl (fun f695 => ?_)
        refine tG_setm f695 (hw_111_46 f695 (gf694).1) (fun hf695 ef695 => ?_)
        try dsimp only [tvI_i] at ef695
        have gf695 := mFq_s (mFq_f gf694) ef695 (Or.inr rfl)
        obtain ⟨pf695, sf695, tf695⟩ := mSte pf694 ef695
        refine tw_goto rfl ?_
        have hmb : (mSk hp691, (ms hp691).2.2) = mS (mSk h) (ms h).2.2 := by rw [mp691, tp687, sp687]; rfl
        have hsk : mSk hf695 = 103 :: (mS (mSk h) (ms h).2.2).1 := by rw [tf695, tf694, tp693, ← mfst hmb]; rfl
        have hdd : mD hf695 := mD_m hD (by rw [hsk, mDp_e (by decide)]; exact mDp_S _ _) ((mI_o ef695 (by decide)).trans ((mI_o ef694 (by decide)).trans (dp693.trans (dp691.trans dp687))))
        exact tw_vret rfl ⟨rfl, gf695, mOut_r (by unfold mS2; rw [if_neg hs42, if_pos hs43]) pf695 hdd (by unfold mst; rw [mI_x ef695, hsk, sf695, sf694, msnd hmb]; rfl)⟩
    · try dsimp only [tvI_i, tvJ_j, tvR_r] at q690
      have q690i := zneq (Y := 43) (by decide) q690
      refine tw_iload rfl rfl ?_
      refine tw_push rfl ?_
      refine tw_ic_ne rfl (fun q696 => ?_) (fun q696 => ?_)
      · try dsimp only [tvI_i, tvJ_j, tvR_r] at q696
        have q696i := zneq (Y := 45) (by decide) q696
        refine tw_aload rfl rfl ?_
        refine tw_virt0 rfl (g_makesSums hG hX (ggp687).1 pp687e ((mFr_T ggp687).trans hT) ((mFr_n ggp687).trans hN)) (fun wp697 hp697 p697 => ?_)
        obtain ⟨rfl, gp697, pp697e, ap697, bp697, mp697, dp697⟩ := p697
        have ggp697 := mFr_t ggp687 gp697
        refine tw_aload rfl rfl ?_
        refine tw_virt0 rfl (g_top hG hX (ggp697).1 pp697e ((mFr_T ggp697).trans hT) ((mFr_n ggp697).trans hN)) (fun wp698 hp698 p698 => ?_)
        obtain ⟨⟨cp698, rfl, Tp698⟩, rfl⟩ := p698
        refine tw_push rfl ?_
        refine tw_ic_ne rfl (fun q699 => ?_) (fun q699 => ?_)
        · try dsimp only [tvI_i, tvJ_j, tvR_r] at q699
          have q699i := zneq (Y := 50) (by decide) q699
          refine tw_aload rfl rfl ?_
          refine tw_getS rfl (hi_111_47 (ggp697).1) ?_
          refine tw_if_eq rfl (fun q700 => ?_) (fun q700 => ?_)
          · try dsimp only [tvI_i, tvJ_j, tvR_r] at q700
            have q700i := zeqi (Y := 0) (by decide) q700
            refine tw_aload rfl rfl ?_
            refine tw_getS rfl (hi_111_47 (ggp697).1) ?_
            refine tw_if_eq rfl (fun q701 => ?_) (fun q701 => ?_)
            · try dsimp only [tvI_i, tvJ_j, tvR_r] at q701
              have q701i := zeqi (Y := 0) (by decide) q701
              refine tw_aload rfl rfl ?_
              refine tw_push rfl ?_
              refine tw_put rfl (fun f702 => ?_)
              refine tG_setm f702 (hw_111_46 f702 (ggp697).1) (fun hf702 ef702 => ?_)
              try dsimp only [tvI_i] at ef702
              have gf702 := mFq_s (mFq_f ggp697) ef702 (Or.inr rfl)
              obtain ⟨pf702, sf702, tf702⟩ := mSte pp697e ef702
              have hk42 : cp688 = 42 ↔ ((rB T n (ms h).1) < n ∧ T (rB T n (ms h).1) = 42) := by have y := sgm_k kp688 42 (by decide); rw [sp687] at y; exact y
              have hs42 : ¬ ((rB T n (ms h).1) < n ∧ T (rB T n (ms h).1) = 42) := fun z => q689 (hk42.mpr z)
              have hk43 : cp688 = 43 ↔ ((rB T n (ms h).1) < n ∧ T (rB T n (ms h).1) = 43) := by have y := sgm_k kp688 43 (by decide); rw [sp687] at y; exact y
              have hs43 : ¬ ((rB T n (ms h).1) < n ∧ T (rB T n (ms h).1) = 43) := fun z => q690 (hk43.mpr z)
              have hk45 : cp688 = 45 ↔ ((rB T n (ms h).1) < n ∧ T (rB T n (ms h).1) = 45) := by have y := sgm_k kp688 45 (by decide); rw [sp687] at y; exact y
              have hs45 : ¬ ((rB T n (ms h).1) < n ∧ T (rB T n (ms h).1) = 45) := fun z => q696 (hk45.mpr z)
              have ht50 := tpm_k Tp698 (k := 50) (K := 50) rfl (by decide)
              have hn50 : ¬ (mSk hp697).headD 0 = 50 := fun z => q699 (ht50.mpr z)
              have hin : tvI (tF h 111 47) = 0 := by have z := q700; rw [mFr_47 ggp697] at z; exact z
              have hmb : (mSk hp697, (ms hp697).2.2) = mS (mSk h) (ms h).2.2 := by rw [mp697, tp687, sp687]; rfl
              have hms : ms hf702 = ((rB T n (ms h).1), (ms h).2.1, (mS (mSk h) (ms h).2.2).2) := (sf702).trans (mA3 sp687 ap697 bp697 rfl (msnd hmb))
              have hsk : mSk hf702 = (mS (mSk h) (ms h).2.2).1 := by rw [tf702, mfst hmb]
              have hdd : mD hf702 := mD_m hD (by rw [hsk]; exact mDp_S _ _) ((mI_o ef702 (by decide)).trans (dp697.trans dp687))
              exact tw_vret rfl ⟨rfl, gf702, mOut_r (by unfold mS2; rw [if_neg hs42, if_neg hs43, if_neg hs45, if_neg (show ¬ (mS (mSk h) (ms h).2.2).1.headD 0 = 50 from by rw [← mfst hmb]; exact hn50), if_neg (fun z => hts.mpr z hin)]) pf702 hdd (by unfold mst; rw [mI_x ef702, hsk, hms]; rfl)⟩
            · try dsimp only [tvI_i, tvJ_j, tvR_r] at q701
              have q701i := zneq (Y := 0) (by decide) q701
              exact absurd q700 q701
          · try dsimp only [tvI_i, tvJ_j, tvR_r] at q700
            have q700i := zneq (Y := 0) (by decide) q700
            refine tw_aload rfl rfl ?_
            refine tw_virt0 rfl (g_top hG hX (ggp697).1 pp697e ((mFr_T ggp697).trans hT) ((mFr_n ggp697).trans hN)) (fun wp703 hp703 p703 => ?_)
            obtain ⟨⟨cp703, rfl, Tp703⟩, rfl⟩ := p703
            refine tw_push rfl ?_
            refine tw_ic_lt rfl (fun q704 => ?_) (fun q704 => ?_)
            · try dsimp only [tvI_i, tvJ_j, tvR_r] at q704
              refine tw_aload rfl rfl ?_
              refine tw_virt0 rfl (g_compares hG hX (ggp697).1 pp697e ((mFr_T ggp697).trans hT) ((mFr_n ggp697).trans hN)) (fun w9 hp705 p705 => ?_)
              obtain ⟨gp705, ⟨np705, rfl, e9⟩ | ⟨vp705, np705, ⟨mp705, ⟨xp705, rfl, yp705⟩, pp705e, sp705, tp705, dp705⟩ | ⟨mp705, xp705, rfl, x5p705, x9p705, Fp705, Zp705⟩⟩⟩ := p705
              · have ggp705 := mFr_t ggp697 gp705
                obtain rfl := e9.symm
                have pp705e := pp697e
                refine tw_istore rfl ?_
                refine tw_iload rfl rfl ?_
                refine tw_if_ne rfl (fun z => absurd z (by decide)) (fun _ => ?_)
                refine tw_aload rfl rfl ?_
                refine tw_push rfl ?_
                refine tw_aload rfl rfl ?_
                refine tw_getS rfl (hi_111_28 ggp705.1) ?_
                refine tw_virt2 rfl (g_fails hG hX (ggp705).1 pp705e ((mFr_T ggp705).trans hT) ((mFr_n ggp705).trans hN) (w := 0) (b := (rB T n (ms h).1)) rfl (by decide) ((mPl pp705e).trans (by rw [(show (ms hp697).1 = (rB T n (ms h).1) from by rw [ap697, sp687]; rfl)])) (by have := rB_le (T := T) hpn; omega)) (fun wp706 hp706 p706 => ?_)
                obtain ⟨rfl, gp706, Fp706, ip706, jp706⟩ := p706
                have ggp706 := mFr_t ggp705 gp706
                refine tw_aload rfl rfl ?_
                refine tw_push rfl ?_
                refine tw_iload rfl rfl ?_
                refine tw_iadd rfl ?_
                refine tw_virt1 rfl (z_opens hG hX (ggp706).1 Fp706 ((mFr_T ggp706).trans hT) ((mFr_n ggp706).trans hN)) (fun wp707 hp707 p707 => ?_)
                obtain ⟨rfl, gp707, Fp707, ip707, jp707⟩ := p707
                have ggp707 := mFr_t ggp706 gp707
                refine tw_aload rfl rfl ?_
                refine tw_push rfl ?_
                refine tw_put rfl (fun f708 => ?_)
                refine tG_setm f708 (hw_111_46 f708 (ggp707).1) (fun hf708 ef708 => ?_)
                try dsimp only [tvI_i] at ef708
                have gf708 := mFq_s (mFq_f ggp707) ef708 (Or.inr rfl)
                have zf708 := mFt_s Fp707 ef708 (by decide)
                refine tw_goto rfl ?_
                have hk42 : cp688 = 42 ↔ ((rB T n (ms h).1) < n ∧ T (rB T n (ms h).1) = 42) := by have y := sgm_k kp688 42 (by decide); rw [sp687] at y; exact y
                have hs42 : ¬ ((rB T n (ms h).1) < n ∧ T (rB T n (ms h).1) = 42) := fun z => q689 (hk42.mpr z)
                have hk43 : cp688 = 43 ↔ ((rB T n (ms h).1) < n ∧ T (rB T n (ms h).1) = 43) := by have y := sgm_k kp688 43 (by decide); rw [sp687] at y; exact y
                have hs43 : ¬ ((rB T n (ms h).1) < n ∧ T (rB T n (ms h).1) = 43) := fun z => q690 (hk43.mpr z)
                have hk45 : cp688 = 45 ↔ ((rB T n (ms h).1) < n ∧ T (rB T n (ms h).1) = 45) := by have y := sgm_k kp688 45 (by decide); rw [sp687] at y; exact y
                have hs45 : ¬ ((rB T n (ms h).1) < n ∧ T (rB T n (ms h).1) = 45) := fun z => q696 (hk45.mpr z)
                have ht50 := tpm_k Tp698 (k := 50) (K := 50) rfl (by decide)
                have hn50 : ¬ (mSk hp697).headD 0 = 50 := fun z => q699 (ht50.mpr z)
                have hin : ¬ tvI (tF h 111 47) = 0 := by have z := q700; rw [mFr_47 ggp697] at z; exact z
                have c2059 : (205 : Int32).toInt = 205 := rfl
                have c2099 : (209 : Int32).toInt = 209 := rfl
                have hcmp : ¬ (205 ≤ (mSk hp697).headD 0 ∧ (mSk hp697).headD 0 ≤ 209) := by have z := tpm_e Tp703; have z2 := q704; omega
                have hmb : (mSk hp697, (ms hp697).2.2) = mS (mSk h) (ms h).2.2 := by rw [mp697, tp687, sp687]; rfl
                have hr9 : rCm T n (rB T n (ms h).1) = none := by have z := np705; rw [ap697, sp687] at z; exact z
                have hZ : mZp hf708 := mZp_o (mZp_k (mZp_k (mZp_p pp705e) ip706 jp706) ip707 jp707) ef708 (by decide)
                exact tw_vret rfl ⟨rfl, gf708, mOut_l (by unfold mS2; rw [if_neg hs42, if_neg hs43, if_neg hs45, if_neg (show ¬ (mS (mSk h) (ms h).2.2).1.headD 0 = 50 from by rw [← mfst hmb]; exact hn50), if_pos (show tst = true from hts.mp hin), if_neg (show ¬ (205 ≤ (mS (mSk h) (ms h).2.2).1.headD 0 ∧ (mS (mSk h) (ms h).2.2).1.headD 0 ≤ 209) from by rw [← mfst hmb]; exact hcmp), hr9]) zf708 hZ⟩
              · have ggp705 := mFr_t ggp697 gp705
                refine tw_istore rfl ?_
                refine tw_iload rfl rfl ?_
                refine tw_if_ne rfl (fun q709 => ?_) (fun q709 => ?_)
                · try dsimp only [tvI_i, tvJ_j, tvR_r] at q709
                  have q709i := zneq (Y := 0) (by decide) q709
                  refine tw_aload rfl rfl ?_
                  refine tw_push rfl ?_
                  refine tw_iload rfl rfl ?_
                  refine tw_iadd rfl ?_
                  refine tw_virt1 rfl (g_opens hG hX (ggp705).1 pp705e ((mFr_T ggp705).trans hT) ((mFr_n ggp705).trans hN) (cm_0 (rCm_r np705).1 (rCm_r np705).2.1 yp705)) (fun wp710 hp710 p710 => ?_)
                  obtain ⟨rfl, gp710, pp710e, tp710, sp710, dp710⟩ := p710
                  have ggp710 := mFr_t ggp705 gp710
                  refine tw_aload rfl rfl ?_
                  refine tw_push rfl ?_
                  refine tw_put rfl (fun f711 => ?_)
                  refine tG_setm f711 (hw_111_46 f711 (ggp710).1) (fun hf711 ef711 => ?_)
                  try dsimp only [tvI_i] at ef711
                  have gf711 := mFq_s (mFq_f ggp710) ef711 (Or.inr rfl)
                  obtain ⟨pf711, sf711, tf711⟩ := mSte pp710e ef711
                  refine tw_goto rfl ?_
                  have hk42 : cp688 = 42 ↔ ((rB T n (ms h).1) < n ∧ T (rB T n (ms h).1) = 42) := by have y := sgm_k kp688 42 (by decide); rw [sp687] at y; exact y
                  have hs42 : ¬ ((rB T n (ms h).1) < n ∧ T (rB T n (ms h).1) = 42) := fun z => q689 (hk42.mpr z)
                  have hk43 : cp688 = 43 ↔ ((rB T n (ms h).1) < n ∧ T (rB T n (ms h).1) = 43) := by have y := sgm_k kp688 43 (by decide); rw [sp687] at y; exact y
                  have hs43 : ¬ ((rB T n (ms h).1) < n ∧ T (rB T n (ms h).1) = 43) := fun z => q690 (hk43.mpr z)
                  have hk45 : cp688 = 45 ↔ ((rB T n (ms h).1) < n ∧ T (rB T n (ms h).1) = 45) := by have y := sgm_k kp688 45 (by decide); rw [sp687] at y; exact y
                  have hs45 : ¬ ((rB T n (ms h).1) < n ∧ T (rB T n (ms h).1) = 45) := fun z => q696 (hk45.mpr z)
                  have ht50 := tpm_k Tp698 (k := 50) (K := 50) rfl (by decide)
                  have hn50 : ¬ (mSk hp697).headD 0 = 50 := fun z => q699 (ht50.mpr z)
                  have hin : ¬ tvI (tF h 111 47) = 0 := by have z := q700; rw [mFr_47 ggp697] at z; exact z
                  have c2059 : (205 : Int32).toInt = 205 := rfl
                  have c2099 : (209 : Int32).toInt = 209 := rfl
                  have hcmp : ¬ (205 ≤ (mSk hp697).headD 0 ∧ (mSk hp697).headD 0 ≤ 209) := by have z := tpm_e Tp703; have z2 := q704; omega
                  have hmb : (mSk hp697, (ms hp697).2.2) = mS (mSk h) (ms h).2.2 := by rw [mp697, tp687, sp687]; rfl
                  have hr9 : rCm T n (rB T n (ms h).1) = some vp705 := by have z := np705; rw [ap697, sp687] at z; exact z
                  have h80 : (ms h).2.1 ≠ 80 := by have z := mp705; rw [bp697, sp687] at z; exact z
                  have hv1 := (rCm_r hr9).1
                  have hv2 := (rCm_r hr9).2.1
                  have hx := cm_x hv1 hv2 yp705
                  have hsk : mSk hf711 = (vp705.1 - 99898) :: (mS (mSk h) (ms h).2.2).1 := by rw [tf711, tp710]; show (200 + xp705).toNatClampNeg :: mSk hp705 = _; rw [hx, tp705, mfst hmb]
                  have hms : ms hf711 = (vp705.2, (ms h).2.1 + 1, (mS (mSk h) (ms h).2.2).2) := by rw [sf711, sp710, sp705]; exact Prod.ext rfl (Prod.ext (by show (ms hp697).2.1 + 1 = _; rw [bp697, sp687]; rfl) (by have z := msnd hmb; exact z))
                  have hdd : mD hf711 := mD_m hD (by rw [hsk, mDp_e (by omega)]; exact mDp_S _ _) ((mI_o ef711 (by decide)).trans (dp710.trans (dp705.trans (dp697.trans dp687))))
                  exact tw_vret rfl ⟨rfl, gf711, mOut_r (by unfold mS2; rw [if_neg hs42, if_neg hs43, if_neg hs45, if_neg (show ¬ (mS (mSk h) (ms h).2.2).1.headD 0 = 50 from by rw [← mfst hmb]; exact hn50), if_pos (show tst = true from hts.mp hin), if_neg (show ¬ (205 ≤ (mS (mSk h) (ms h).2.2).1.headD 0 ∧ (mS (mSk h) (ms h).2.2).1.headD 0 ≤ 209) from by rw [← mfst hmb]; exact hcmp), hr9]; (try dsimp only); rw [if_neg h80]) pf711 hdd (by unfold mst; rw [mI_x ef711, hsk, hms]; rfl)⟩
                · try dsimp only [tvI_i, tvJ_j, tvR_r] at q709
                  have q709i := zeqi (Y := 0) (by decide) q709
                  exact (cm_z (rCm_r np705).1 yp705 q709).elim
              · have ggp705 := mFr_t ggp697 gp705
                refine tw_istore rfl ?_
                refine tw_iload rfl rfl ?_
                refine tw_if_ne rfl (fun q712 => ?_) (fun q712 => ?_)
                · try dsimp only [tvI_i, tvJ_j, tvR_r] at q712
                  have q712i := zneq (Y := 0) (by decide) q712
                  refine tw_aload rfl rfl ?_
                  refine tw_push rfl ?_
                  refine tw_iload rfl rfl ?_
                  refine tw_iadd rfl ?_
                  refine tw_virt1 rfl (z_opens hG hX (ggp705).1 Fp705 ((mFr_T ggp705).trans hT) ((mFr_n ggp705).trans hN)) (fun wp713 hp713 p713 => ?_)
                  obtain ⟨rfl, gp713, Fp713, ip713, jp713⟩ := p713
                  have ggp713 := mFr_t ggp705 gp713
                  refine tw_aload rfl rfl ?_
                  refine tw_push rfl ?_
                  refine tw_put rfl (fun f714 => ?_)
                  refine tG_setm f714 (hw_111_46 f714 (ggp713).1) (fun hf714 ef714 => ?_)
                  try dsimp only [tvI_i] at ef714
                  have gf714 := mFq_s (mFq_f ggp713) ef714 (Or.inr rfl)
                  have zf714 := mFt_s Fp713 ef714 (by decide)
                  refine tw_goto rfl ?_
                  have hk42 : cp688 = 42 ↔ ((rB T n (ms h).1) < n ∧ T (rB T n (ms h).1) = 42) := by have y := sgm_k kp688 42 (by decide); rw [sp687] at y; exact y
                  have hs42 : ¬ ((rB T n (ms h).1) < n ∧ T (rB T n (ms h).1) = 42) := fun z => q689 (hk42.mpr z)
                  have hk43 : cp688 = 43 ↔ ((rB T n (ms h).1) < n ∧ T (rB T n (ms h).1) = 43) := by have y := sgm_k kp688 43 (by decide); rw [sp687] at y; exact y
                  have hs43 : ¬ ((rB T n (ms h).1) < n ∧ T (rB T n (ms h).1) = 43) := fun z => q690 (hk43.mpr z)
                  have hk45 : cp688 = 45 ↔ ((rB T n (ms h).1) < n ∧ T (rB T n (ms h).1) = 45) := by have y := sgm_k kp688 45 (by decide); rw [sp687] at y; exact y
                  have hs45 : ¬ ((rB T n (ms h).1) < n ∧ T (rB T n (ms h).1) = 45) := fun z => q696 (hk45.mpr z)
                  have ht50 := tpm_k Tp698 (k := 50) (K := 50) rfl (by decide)
                  have hn50 : ¬ (mSk hp697).headD 0 = 50 := fun z => q699 (ht50.mpr z)
                  have hin : ¬ tvI (tF h 111 47) = 0 := by have z := q700; rw [mFr_47 ggp697] at z; exact z
                  have c2059 : (205 : Int32).toInt = 205 := rfl
                  have c2099 : (209 : Int32).toInt = 209 := rfl
                  have hcmp : ¬ (205 ≤ (mSk hp697).headD 0 ∧ (mSk hp697).headD 0 ≤ 209) := by have z := tpm_e Tp703; have z2 := q704; omega
                  have hmb : (mSk hp697, (ms hp697).2.2) = mS (mSk h) (ms h).2.2 := by rw [mp697, tp687, sp687]; rfl
                  have hr9 : rCm T n (rB T n (ms h).1) = some vp705 := by have z := np705; rw [ap697, sp687] at z; exact z
                  have h80 : (ms h).2.1 = 80 := by have z := mp705; rw [bp697, sp687] at z; exact z
                  have hF : mFt hf714 (1 + 8 * (rB T n (ms h).1) + 3) := by have z := zf714; rw [ap697, sp687] at z; exact z
                  have hZ : mZp hf714 := mZp_o (mZp_k Zp705 ip713 jp713) ef714 (by decide)
                  exact tw_vret rfl ⟨rfl, gf714, mOut_l (by unfold mS2; rw [if_neg hs42, if_neg hs43, if_neg hs45, if_neg (show ¬ (mS (mSk h) (ms h).2.2).1.headD 0 = 50 from by rw [← mfst hmb]; exact hn50), if_pos (show tst = true from hts.mp hin), if_neg (show ¬ (205 ≤ (mS (mSk h) (ms h).2.2).1.headD 0 ∧ (mS (mSk h) (ms h).2.2).1.headD 0 ≤ 209) from by rw [← mfst hmb]; exact hcmp), hr9]; (try dsimp only); rw [if_pos h80]) hF hZ⟩
                · try dsimp only [tvI_i, tvJ_j, tvR_r] at q712
                  have q712i := zeqi (Y := 0) (by decide) q712
                  have hv4 : xp705.toInt = 0 := congrArg Int32.toInt q712
                  exfalso
                  omega
            · try dsimp only [tvI_i, tvJ_j, tvR_r] at q704
              refine tw_aload rfl rfl ?_
              refine tw_virt0 rfl (g_top hG hX (ggp697).1 pp697e ((mFr_T ggp697).trans hT) ((mFr_n ggp697).trans hN)) (fun wp715 hp715 p715 => ?_)
              obtain ⟨⟨cp715, rfl, Tp715⟩, rfl⟩ := p715
              refine tw_push rfl ?_
              refine tw_ic_le rfl (fun q716 => ?_) (fun q716 => ?_)
              · try dsimp only [tvI_i, tvJ_j, tvR_r] at q716
                refine tw_aload rfl rfl ?_
                refine tw_getS rfl (hi_111_47 (ggp697).1) ?_
                refine tw_if_eq rfl (fun q717 => ?_) (fun q717 => ?_)
                · try dsimp only [tvI_i, tvJ_j, tvR_r] at q717
                  have q717i := zeqi (Y := 0) (by decide) q717
                  exact absurd q717 q700
                · try dsimp only [tvI_i, tvJ_j, tvR_r] at q717
                  have q717i := zneq (Y := 0) (by decide) q717
                  refine tw_aload rfl rfl ?_
                  refine tw_aload rfl rfl ?_
                  refine tw_virt0 rfl (g_top hG hX (ggp697).1 pp697e ((mFr_T ggp697).trans hT) ((mFr_n ggp697).trans hN)) (fun wp718 hp718 p718 => ?_)
                  obtain ⟨⟨cp718, rfl, Tp718⟩, rfl⟩ := p718
                  refine tw_push rfl ?_
                  refine tw_isub rfl ?_
                  refine tw_push rfl ?_
                  have hk42 : cp688 = 42 ↔ ((rB T n (ms h).1) < n ∧ T (rB T n (ms h).1) = 42) := by have y := sgm_k kp688 42 (by decide); rw [sp687] at y; exact y
                  have hs42 : ¬ ((rB T n (ms h).1) < n ∧ T (rB T n (ms h).1) = 42) := fun z => q689 (hk42.mpr z)
                  have hk43 : cp688 = 43 ↔ ((rB T n (ms h).1) < n ∧ T (rB T n (ms h).1) = 43) := by have y := sgm_k kp688 43 (by decide); rw [sp687] at y; exact y
                  have hs43 : ¬ ((rB T n (ms h).1) < n ∧ T (rB T n (ms h).1) = 43) := fun z => q690 (hk43.mpr z)
                  have hk45 : cp688 = 45 ↔ ((rB T n (ms h).1) < n ∧ T (rB T n (ms h).1) = 45) := by have y := sgm_k kp688 45 (by decide); rw [sp687] at y; exact y
                  have hs45 : ¬ ((rB T n (ms h).1) < n ∧ T (rB T n (ms h).1) = 45) := fun z => q696 (hk45.mpr z)
                  have ht50 := tpm_k Tp698 (k := 50) (K := 50) rfl (by decide)
                  have hn50 : ¬ (mSk hp697).headD 0 = 50 := fun z => q699 (ht50.mpr z)
                  have hin : ¬ tvI (tF h 111 47) = 0 := by have z := q700; rw [mFr_47 ggp697] at z; exact z
                  have c2059 : (205 : Int32).toInt = 205 := rfl
                  have c2099 : (209 : Int32).toInt = 209 := rfl
                  have hcmp : (205 ≤ (mSk hp697).headD 0 ∧ (mSk hp697).headD 0 ≤ 209) := by have z := tpm_e Tp703; have z1 := tpm_e Tp715; have z2 := q704; have z3 := q716; omega
                  have hc200 : (cp718 - 200).toInt = (((mSk hp697).headD 0 - 200 : Nat) : Int) := by have z := tpm_e Tp718; have z2 := hcmp; rw [zsb (x := cp718) (y := 200) (a := (mSk hp697).headD 0) (b := 200) (by omega) rfl (by omega) (by omega)]; omega
                  have hne : mSk hp697 ≠ [] := fun z => by rw [z] at hcmp; exact absurd hcmp.1 (by decide)
                  refine tw_virt2 rfl (g_entry hG hX (ggp697).1 pp697e ((mFr_T ggp697).trans hT) ((mFr_n ggp697).trans hN) ⟨by show 0 ≤ (cp718 - 200).toInt; rw [hc200]; omega, by decide⟩) (fun wp719 hp719 p719 => ?_)
                  obtain ⟨rfl, gp719, pp719e, sp719, tp719, dp719⟩ := p719
                  have ggp719 := mFr_t ggp697 gp719
                  refine tw_aload rfl rfl ?_
                  refine tw_dup rfl ?_
                  refine tw_getS rfl (hi_111_34 ggp719.1) ?_
                  refine tw_push rfl ?_
                  refine tw_isub rfl ?_
                  refine tw_put rfl (fun f720 => ?_)
                  refine tG_setm f720 (hw_111_34 f720 (ggp719).1) (fun hf720 ef720 => ?_)
                  try dsimp only [tvI_i] at ef720
                  have gf720 := mFr_s ggp719 ef720 (by unfold mFs; omega)
                  obtain ⟨pf720, tf720, sf720, df720⟩ := mSk_pop pp719e (by rw [tp719]; exact hne) ef720
                  refine tw_aload rfl rfl ?_
                  refine tw_push rfl ?_
                  refine tw_put rfl (fun f721 => ?_)
                  refine tG_setm f721 (hw_111_46 f721 (gf720).1) (fun hf721 ef721 => ?_)
                  try dsimp only [tvI_i] at ef721
                  have gf721 := mFq_s (mFq_f gf720) ef721 (Or.inr rfl)
                  obtain ⟨pf721, sf721, tf721⟩ := mSte pf720 ef721
                  refine tw_goto rfl ?_
                  have hmb : (mSk hp697, (ms hp697).2.2) = mS (mSk h) (ms h).2.2 := by rw [mp697, tp687, sp687]; rfl
                  have hx : mCode (cp718 - 200).toNatClampNeg 0 = (mS (mSk h) (ms h).2.2).1.headD 0 + 99898 := by rw [zof_cl hc200, ← mfst hmb]; have z := hcmp; unfold mCode; rw [if_neg (by omega), if_neg (by omega), if_neg (by omega), if_neg (by omega), if_neg (by omega), if_neg (by omega), if_neg (by omega), if_neg (by omega)]; omega
                  have hsk : mSk hf721 = (mS (mSk h) (ms h).2.2).1.tail := by rw [tf721, tf720, tp719, mfst hmb]
                  have hms : ms hf721 = ((rB T n (ms h).1), (ms h).2.1, (mS (mSk h) (ms h).2.2).2 ++ [(mS (mSk h) (ms h).2.2).1.headD 0 + 99898]) := by rw [sf721, sf720, sp719]; exact Prod.ext (mA1 sp687 ap697) (Prod.ext (mA2 sp687 bp697 rfl) (by show (ms hp697).2.2 ++ [mCode (cp718 - 200).toNatClampNeg 0] = _; rw [hx, msnd hmb]))
                  have hdd : mD hf721 := mD_m hD (by rw [hsk, ← mDp_S (mSk h) (ms h).2.2]; have z := hcmp; rw [mfst hmb] at z; exact mDp_tl z) ((mI_o ef721 (by decide)).trans (df720.trans (dp719.trans (dp697.trans dp687))))
                  exact tw_vret rfl ⟨rfl, gf721, mOut_r (by unfold mS2; rw [if_neg hs42, if_neg hs43, if_neg hs45, if_neg (show ¬ (mS (mSk h) (ms h).2.2).1.headD 0 = 50 from by rw [← mfst hmb]; exact hn50), if_pos (show tst = true from hts.mp hin), if_pos (show 205 ≤ (mS (mSk h) (ms h).2.2).1.headD 0 ∧ (mS (mSk h) (ms h).2.2).1.headD 0 ≤ 209 from by rw [← mfst hmb]; exact hcmp)]) pf721 hdd (by unfold mst; rw [mI_x ef721, hsk, hms]; rfl)⟩
              · try dsimp only [tvI_i, tvJ_j, tvR_r] at q716
                refine tw_aload rfl rfl ?_
                refine tw_virt0 rfl (g_compares hG hX (ggp697).1 pp697e ((mFr_T ggp697).trans hT) ((mFr_n ggp697).trans hN)) (fun w9 hp722 p722 => ?_)
                obtain ⟨gp722, ⟨np722, rfl, e9⟩ | ⟨vp722, np722, ⟨mp722, ⟨xp722, rfl, yp722⟩, pp722e, sp722, tp722, dp722⟩ | ⟨mp722, xp722, rfl, x5p722, x9p722, Fp722, Zp722⟩⟩⟩ := p722
                · have ggp722 := mFr_t ggp697 gp722
                  obtain rfl := e9.symm
                  have pp722e := pp697e
                  refine tw_istore rfl ?_
                  refine tw_iload rfl rfl ?_
                  refine tw_if_ne rfl (fun z => absurd z (by decide)) (fun _ => ?_)
                  refine tw_aload rfl rfl ?_
                  refine tw_push rfl ?_
                  refine tw_aload rfl rfl ?_
                  refine tw_getS rfl (hi_111_28 ggp722.1) ?_
                  refine tw_virt2 rfl (g_fails hG hX (ggp722).1 pp722e ((mFr_T ggp722).trans hT) ((mFr_n ggp722).trans hN) (w := 0) (b := (rB T n (ms h).1)) rfl (by decide) ((mPl pp722e).trans (by rw [(show (ms hp697).1 = (rB T n (ms h).1) from by rw [ap697, sp687]; rfl)])) (by have := rB_le (T := T) hpn; omega)) (fun wp723 hp723 p723 => ?_)
                  obtain ⟨rfl, gp723, Fp723, ip723, jp723⟩ := p723
                  have ggp723 := mFr_t ggp722 gp723
                  refine tw_aload rfl rfl ?_
                  refine tw_push rfl ?_
                  refine tw_iload rfl rfl ?_
                  refine tw_iadd rfl ?_
                  refine tw_virt1 rfl (z_opens hG hX (ggp723).1 Fp723 ((mFr_T ggp723).trans hT) ((mFr_n ggp723).trans hN)) (fun wp724 hp724 p724 => ?_)
                  obtain ⟨rfl, gp724, Fp724, ip724, jp724⟩ := p724
                  have ggp724 := mFr_t ggp723 gp724
                  refine tw_aload rfl rfl ?_
                  refine tw_push rfl ?_
                  refine tw_put rfl (fun f725 => ?_)
                  refine tG_setm f725 (hw_111_46 f725 (ggp724).1) (fun hf725 ef725 => ?_)
                  try dsimp only [tvI_i] at ef725
                  have gf725 := mFq_s (mFq_f ggp724) ef725 (Or.inr rfl)
                  have zf725 := mFt_s Fp724 ef725 (by decide)
                  refine tw_goto rfl ?_
                  have hk42 : cp688 = 42 ↔ ((rB T n (ms h).1) < n ∧ T (rB T n (ms h).1) = 42) := by have y := sgm_k kp688 42 (by decide); rw [sp687] at y; exact y
                  have hs42 : ¬ ((rB T n (ms h).1) < n ∧ T (rB T n (ms h).1) = 42) := fun z => q689 (hk42.mpr z)
                  have hk43 : cp688 = 43 ↔ ((rB T n (ms h).1) < n ∧ T (rB T n (ms h).1) = 43) := by have y := sgm_k kp688 43 (by decide); rw [sp687] at y; exact y
                  have hs43 : ¬ ((rB T n (ms h).1) < n ∧ T (rB T n (ms h).1) = 43) := fun z => q690 (hk43.mpr z)
                  have hk45 : cp688 = 45 ↔ ((rB T n (ms h).1) < n ∧ T (rB T n (ms h).1) = 45) := by have y := sgm_k kp688 45 (by decide); rw [sp687] at y; exact y
                  have hs45 : ¬ ((rB T n (ms h).1) < n ∧ T (rB T n (ms h).1) = 45) := fun z => q696 (hk45.mpr z)
                  have ht50 := tpm_k Tp698 (k := 50) (K := 50) rfl (by decide)
                  have hn50 : ¬ (mSk hp697).headD 0 = 50 := fun z => q699 (ht50.mpr z)
                  have hin : ¬ tvI (tF h 111 47) = 0 := by have z := q700; rw [mFr_47 ggp697] at z; exact z
                  have c2059 : (205 : Int32).toInt = 205 := rfl
                  have c2099 : (209 : Int32).toInt = 209 := rfl
                  have hcmp : ¬ (205 ≤ (mSk hp697).headD 0 ∧ (mSk hp697).headD 0 ≤ 209) := by have z := tpm_e Tp703; have z1 := tpm_e Tp715; have z2 := q704; have z3 := q716; omega
                  have hmb : (mSk hp697, (ms hp697).2.2) = mS (mSk h) (ms h).2.2 := by rw [mp697, tp687, sp687]; rfl
                  have hr9 : rCm T n (rB T n (ms h).1) = none := by have z := np722; rw [ap697, sp687] at z; exact z
                  have hZ : mZp hf725 := mZp_o (mZp_k (mZp_k (mZp_p pp722e) ip723 jp723) ip724 jp724) ef725 (by decide)
                  exact tw_vret rfl ⟨rfl, gf725, mOut_l (by unfold mS2; rw [if_neg hs42, if_neg hs43, if_neg hs45, if_neg (show ¬ (mS (mSk h) (ms h).2.2).1.headD 0 = 50 from by rw [← mfst hmb]; exact hn50), if_pos (show tst = true from hts.mp hin), if_neg (show ¬ (205 ≤ (mS (mSk h) (ms h).2.2).1.headD 0 ∧ (mS (mSk h) (ms h).2.2).1.headD 0 ≤ 209) from by rw [← mfst hmb]; exact hcmp), hr9]) zf725 hZ⟩
                · have ggp722 := mFr_t ggp697 gp722
                  refine tw_istore rfl ?_
                  refine tw_iload rfl rfl ?_
                  refine tw_if_ne rfl (fun q726 => ?_) (fun q726 => ?_)
                  · try dsimp only [tvI_i, tvJ_j, tvR_r] at q726
                    have q726i := zneq (Y := 0) (by decide) q726
                    refine tw_aload rfl rfl ?_
                    refine tw_push rfl ?_
                    refine tw_iload rfl rfl ?_
                    refine tw_iadd rfl ?_
                    refine tw_virt1 rfl (g_opens hG hX (ggp722).1 pp722e ((mFr_T ggp722).trans hT) ((mFr_n ggp722).trans hN) (cm_0 (rCm_r np722).1 (rCm_r np722).2.1 yp722)) (fun wp727 hp727 p727 => ?_)
                    obtain ⟨rfl, gp727, pp727e, tp727, sp727, dp727⟩ := p727
                    have ggp727 := mFr_t ggp722 gp727
                    refine tw_aload rfl rfl ?_
                    refine tw_push rfl ?_
                    refine tw_put rfl (fun f728 => ?_)
                    refine tG_setm f728 (hw_111_46 f728 (ggp727).1) (fun hf728 ef728 => ?_)
                    try dsimp only [tvI_i] at ef728
                    have gf728 := mFq_s (mFq_f ggp727) ef728 (Or.inr rfl)
                    obtain ⟨pf728, sf728, tf728⟩ := mSte pp727e ef728
                    refine tw_goto rfl ?_
                    have hk42 : cp688 = 42 ↔ ((rB T n (ms h).1) < n ∧ T (rB T n (ms h).1) = 42) := by have y := sgm_k kp688 42 (by decide); rw [sp687] at y; exact y
                    have hs42 : ¬ ((rB T n (ms h).1) < n ∧ T (rB T n (ms h).1) = 42) := fun z => q689 (hk42.mpr z)
                    have hk43 : cp688 = 43 ↔ ((rB T n (ms h).1) < n ∧ T (rB T n (ms h).1) = 43) := by have y := sgm_k kp688 43 (by decide); rw [sp687] at y; exact y
                    have hs43 : ¬ ((rB T n (ms h).1) < n ∧ T (rB T n (ms h).1) = 43) := fun z => q690 (hk43.mpr z)
                    have hk45 : cp688 = 45 ↔ ((rB T n (ms h).1) < n ∧ T (rB T n (ms h).1) = 45) := by have y := sgm_k kp688 45 (by decide); rw [sp687] at y; exact y
                    have hs45 : ¬ ((rB T n (ms h).1) < n ∧ T (rB T n (ms h).1) = 45) := fun z => q696 (hk45.mpr z)
                    have ht50 := tpm_k Tp698 (k := 50) (K := 50) rfl (by decide)
                    have hn50 : ¬ (mSk hp697).headD 0 = 50 := fun z => q699 (ht50.mpr z)
                    have hin : ¬ tvI (tF h 111 47) = 0 := by have z := q700; rw [mFr_47 ggp697] at z; exact z
                    have c2059 : (205 : Int32).toInt = 205 := rfl
                    have c2099 : (209 : Int32).toInt = 209 := rfl
                    have hcmp : ¬ (205 ≤ (mSk hp697).headD 0 ∧ (mSk hp697).headD 0 ≤ 209) := by have z := tpm_e Tp703; have z1 := tpm_e Tp715; have z2 := q704; have z3 := q716; omega
                    have hmb : (mSk hp697, (ms hp697).2.2) = mS (mSk h) (ms h).2.2 := by rw [mp697, tp687, sp687]; rfl
                    have hr9 : rCm T n (rB T n (ms h).1) = some vp722 := by have z := np722; rw [ap697, sp687] at z; exact z
                    have h80 : (ms h).2.1 ≠ 80 := by have z := mp722; rw [bp697, sp687] at z; exact z
                    have hv1 := (rCm_r hr9).1
                    have hv2 := (rCm_r hr9).2.1
                    have hx := cm_x hv1 hv2 yp722
                    have hsk : mSk hf728 = (vp722.1 - 99898) :: (mS (mSk h) (ms h).2.2).1 := by rw [tf728, tp727]; show (200 + xp722).toNatClampNeg :: mSk hp722 = _; rw [hx, tp722, mfst hmb]
                    have hms : ms hf728 = (vp722.2, (ms h).2.1 + 1, (mS (mSk h) (ms h).2.2).2) := by rw [sf728, sp727, sp722]; exact Prod.ext rfl (Prod.ext (by show (ms hp697).2.1 + 1 = _; rw [bp697, sp687]; rfl) (by have z := msnd hmb; exact z))
                    have hdd : mD hf728 := mD_m hD (by rw [hsk, mDp_e (by omega)]; exact mDp_S _ _) ((mI_o ef728 (by decide)).trans (dp727.trans (dp722.trans (dp697.trans dp687))))
                    exact tw_vret rfl ⟨rfl, gf728, mOut_r (by unfold mS2; rw [if_neg hs42, if_neg hs43, if_neg hs45, if_neg (show ¬ (mS (mSk h) (ms h).2.2).1.headD 0 = 50 from by rw [← mfst hmb]; exact hn50), if_pos (show tst = true from hts.mp hin), if_neg (show ¬ (205 ≤ (mS (mSk h) (ms h).2.2).1.headD 0 ∧ (mS (mSk h) (ms h).2.2).1.headD 0 ≤ 209) from by rw [← mfst hmb]; exact hcmp), hr9]; (try dsimp only); rw [if_neg h80]) pf728 hdd (by unfold mst; rw [mI_x ef728, hsk, hms]; rfl)⟩
                  · try dsimp only [tvI_i, tvJ_j, tvR_r] at q726
                    have q726i := zeqi (Y := 0) (by decide) q726
                    exact (cm_z (rCm_r np722).1 yp722 q726).elim
                · have ggp722 := mFr_t ggp697 gp722
                  refine tw_istore rfl ?_
                  refine tw_iload rfl rfl ?_
                  refine tw_if_ne rfl (fun q729 => ?_) (fun q729 => ?_)
                  · try dsimp only [tvI_i, tvJ_j, tvR_r] at q729
                    have q729i := zneq (Y := 0) (by decide) q729
                    refine tw_aload rfl rfl ?_
                    refine tw_push rfl ?_
                    refine tw_iload rfl rfl ?_
                    refine tw_iadd rfl ?_
                    refine tw_virt1 rfl (z_opens hG hX (ggp722).1 Fp722 ((mFr_T ggp722).trans hT) ((mFr_n ggp722).trans hN)) (fun wp730 hp730 p730 => ?_)
                    obtain ⟨rfl, gp730, Fp730, ip730, jp730⟩ := p730
                    have ggp730 := mFr_t ggp722 gp730
                    refine tw_aload rfl rfl ?_
                    refine tw_push rfl ?_
                    refine tw_put rfl (fun f731 => ?_)
                    refine tG_setm f731 (hw_111_46 f731 (ggp730).1) (fun hf731 ef731 => ?_)
                    try dsimp only [tvI_i] at ef731
                    have gf731 := mFq_s (mFq_f ggp730) ef731 (Or.inr rfl)
                    have zf731 := mFt_s Fp730 ef731 (by decide)
                    refine tw_goto rfl ?_
                    have hk42 : cp688 = 42 ↔ ((rB T n (ms h).1) < n ∧ T (rB T n (ms h).1) = 42) := by have y := sgm_k kp688 42 (by decide); rw [sp687] at y; exact y
                    have hs42 : ¬ ((rB T n (ms h).1) < n ∧ T (rB T n (ms h).1) = 42) := fun z => q689 (hk42.mpr z)
                    have hk43 : cp688 = 43 ↔ ((rB T n (ms h).1) < n ∧ T (rB T n (ms h).1) = 43) := by have y := sgm_k kp688 43 (by decide); rw [sp687] at y; exact y
                    have hs43 : ¬ ((rB T n (ms h).1) < n ∧ T (rB T n (ms h).1) = 43) := fun z => q690 (hk43.mpr z)
                    have hk45 : cp688 = 45 ↔ ((rB T n (ms h).1) < n ∧ T (rB T n (ms h).1) = 45) := by have y := sgm_k kp688 45 (by decide); rw [sp687] at y; exact y
                    have hs45 : ¬ ((rB T n (ms h).1) < n ∧ T (rB T n (ms h).1) = 45) := fun z => q696 (hk45.mpr z)
                    have ht50 := tpm_k Tp698 (k := 50) (K := 50) rfl (by decide)
                    have hn50 : ¬ (mSk hp697).headD 0 = 50 := fun z => q699 (ht50.mpr z)
                    have hin : ¬ tvI (tF h 111 47) = 0 := by have z := q700; rw [mFr_47 ggp697] at z; exact z
                    have c2059 : (205 : Int32).toInt = 205 := rfl
                    have c2099 : (209 : Int32).toInt = 209 := rfl
                    have hcmp : ¬ (205 ≤ (mSk hp697).headD 0 ∧ (mSk hp697).headD 0 ≤ 209) := by have z := tpm_e Tp703; have z1 := tpm_e Tp715; have z2 := q704; have z3 := q716; omega
                    have hmb : (mSk hp697, (ms hp697).2.2) = mS (mSk h) (ms h).2.2 := by rw [mp697, tp687, sp687]; rfl
                    have hr9 : rCm T n (rB T n (ms h).1) = some vp722 := by have z := np722; rw [ap697, sp687] at z; exact z
                    have h80 : (ms h).2.1 = 80 := by have z := mp722; rw [bp697, sp687] at z; exact z
                    have hF : mFt hf731 (1 + 8 * (rB T n (ms h).1) + 3) := by have z := zf731; rw [ap697, sp687] at z; exact z
                    have hZ : mZp hf731 := mZp_o (mZp_k Zp722 ip730 jp730) ef731 (by decide)
                    exact tw_vret rfl ⟨rfl, gf731, mOut_l (by unfold mS2; rw [if_neg hs42, if_neg hs43, if_neg hs45, if_neg (show ¬ (mS (mSk h) (ms h).2.2).1.headD 0 = 50 from by rw [← mfst hmb]; exact hn50), if_pos (show tst = true from hts.mp hin), if_neg (show ¬ (205 ≤ (mS (mSk h) (ms h).2.2).1.headD 0 ∧ (mS (mSk h) (ms h).2.2).1.headD 0 ≤ 209) from by rw [← mfst hmb]; exact hcmp), hr9]; (try dsimp only); rw [if_pos h80]) hF hZ⟩
                  · try dsimp only [tvI_i, tvJ_j, tvR_r] at q729
                    have q729i := zeqi (Y := 0) (by decide) q729
                    have hv4 : xp722.toInt = 0 := congrArg Int32.toInt q729
                    exfalso
                    omega
        · try dsimp only [tvI_i, tvJ_j, tvR_r] at q699
          have q699i := zeqi (Y := 50) (by decide) q699
          refine tw_aload rfl rfl ?_
          refine tw_iload rfl rfl ?_
          have hk42 : cp688 = 42 ↔ ((rB T n (ms h).1) < n ∧ T (rB T n (ms h).1) = 42) := by have y := sgm_k kp688 42 (by decide); rw [sp687] at y; exact y
          have hs42 : ¬ ((rB T n (ms h).1) < n ∧ T (rB T n (ms h).1) = 42) := fun z => q689 (hk42.mpr z)
          have hk43 : cp688 = 43 ↔ ((rB T n (ms h).1) < n ∧ T (rB T n (ms h).1) = 43) := by have y := sgm_k kp688 43 (by decide); rw [sp687] at y; exact y
          have hs43 : ¬ ((rB T n (ms h).1) < n ∧ T (rB T n (ms h).1) = 43) := fun z => q690 (hk43.mpr z)
          have hk45 : cp688 = 45 ↔ ((rB T n (ms h).1) < n ∧ T (rB T n (ms h).1) = 45) := by have y := sgm_k kp688 45 (by decide); rw [sp687] at y; exact y
          have hs45 : ¬ ((rB T n (ms h).1) < n ∧ T (rB T n (ms h).1) = 45) := fun z => q696 (hk45.mpr z)
          have ht50 := tpm_k Tp698 (k := 50) (K := 50) rfl (by decide)
          have hn50 : (mSk hp697).headD 0 = 50 := ht50.mp q699
          have hDm : mD hp697 := mD_m hD (by rw [mfst mp697, tp687, show (ms hp687).2.2 = (ms h).2.2 by rw [sp687]; rfl]; exact mDp_S _ _) (dp697.trans dp687)
          have hcl9 : sgm T n (ms hp697).1 cp688 := by rw [ap697]; exact kp688
          refine tw_virt1 rfl (g_closesRound hG hX (ggp697).1 pp697e ((mFr_T ggp697).trans hT) ((mFr_n ggp697).trans hN) hcl9 hn50 hDm) (fun w9 hp732 p732 => ?_)
          obtain ⟨rfl, gp732, ⟨wp732, pp732e, sp732, tp732, ddp732⟩ | ⟨wp732, Fp732, Zp732⟩⟩ := p732
          · have ggp732 := mFr_t ggp697 gp732
            refine tw_goto rfl ?_
            have hmb : (mSk hp697, (ms hp697).2.2) = mS (mSk h) (ms h).2.2 := by rw [mp697, tp687, sp687]; rfl
            have w9 : ((rB T n (ms h).1) < n ∧ T (rB T n (ms h).1) = 41) := by have z := wp732; rw [ap697, sp687] at z; exact z
            have hms : ms hp732 = ((rB T n (ms h).1) + 1, (ms h).2.1, (mS (mSk h) (ms h).2.2).2) := mA4 sp732 sp687 ap697 bp697 rfl (msnd hmb)
            have h46 : stN (tvI (tF hp732 111 46)) = 2 := by rw [mFr_46 ggp732, h46s]; rfl
            exact tw_vret rfl ⟨rfl, mFq_f ggp732, mOut_r (by unfold mS2; rw [if_neg hs42, if_neg hs43, if_neg hs45, if_pos (show (mS (mSk h) (ms h).2.2).1.headD 0 = 50 from by rw [← mfst hmb]; exact hn50), if_pos w9]) pp732e ddp732 (by unfold mst; rw [h46, hms, tp732, mfst hmb])⟩
          · have ggp732 := mFr_t ggp697 gp732
            refine tw_goto rfl ?_
            have hmb : (mSk hp697, (ms hp697).2.2) = mS (mSk h) (ms h).2.2 := by rw [mp697, tp687, sp687]; rfl
            have w9 : ¬ ((rB T n (ms h).1) < n ∧ T (rB T n (ms h).1) = 41) := by have z := wp732; rw [ap697, sp687] at z; exact z
            have hpl : (ms hp697).1 = (rB T n (ms h).1) := by rw [ap697, sp687]; rfl
            have hF := Fp732
            rw [hpl] at hF
            exact tw_vret rfl ⟨rfl, mFq_f ggp732, mOut_l (by unfold mS2; rw [if_neg hs42, if_neg hs43, if_neg hs45, if_pos (show (mS (mSk h) (ms h).2.2).1.headD 0 = 50 from by rw [← mfst hmb]; exact hn50), if_neg w9]) hF Zp732⟩
      · try dsimp only [tvI_i, tvJ_j, tvR_r] at q696
        have q696i := zeqi (Y := 45) (by decide) q696
        refine tw_aload rfl rfl ?_
        refine tw_virt0 rfl (g_makesSums hG hX (ggp687).1 pp687e ((mFr_T ggp687).trans hT) ((mFr_n ggp687).trans hN)) (fun wp733 hp733 p733 => ?_)
        obtain ⟨rfl, gp733, pp733e, ap733, bp733, mp733, dp733⟩ := p733
        have ggp733 := mFr_t ggp687 gp733
        refine tw_aload rfl rfl ?_
        refine tw_push rfl ?_
        refine tw_iload rfl rfl ?_
        refine tw_push rfl ?_
        refine tw_ic_ne rfl (fun q734 => ?_) (fun q734 => ?_)
        · try dsimp only [tvI_i, tvJ_j, tvR_r] at q734
          have q734i := zneq (Y := 43) (by decide) q734
          refine tw_push rfl ?_
          refine tw_iadd rfl ?_
          refine tw_virt1 rfl (g_opens hG hX (ggp733).1 pp733e ((mFr_T ggp733).trans hT) ((mFr_n ggp733).trans hN) (by decide)) (fun wp735 hp735 p735 => ?_)
          obtain ⟨rfl, gp735, pp735e, tp735, sp735, dp735⟩ := p735
          have ggp735 := mFr_t ggp733 gp735
          refine tw_aload rfl rfl ?_
          refine tw_dup rfl ?_
          refine tw_getS rfl (hi_111_28 ggp735.1) ?_
          refine tw_push rfl ?_
          refine tw_iadd rfl ?_
          refine tw_put rfl (fun f736 => ?_)
          refine tG_setm f736 (hw_111_28 f736 (ggp735).1) (fun hf736 ef736 => ?_)
          try dsimp only [tvI_i] at ef736
          have gf736 := mFr_s ggp735 ef736 (by unfold mFs; omega)
          have hk42 : cp688 = 42 ↔ ((rB T n (ms h).1) < n ∧ T (rB T n (ms h).1) = 42) := by have y := sgm_k kp688 42 (by decide); rw [sp687] at y; exact y
          have hs42 : ¬ ((rB T n (ms h).1) < n ∧ T (rB T n (ms h).1) = 42) := fun z => q689 (hk42.mpr z)
          have hk43 : cp688 = 43 ↔ ((rB T n (ms h).1) < n ∧ T (rB T n (ms h).1) = 43) := by have y := sgm_k kp688 43 (by decide); rw [sp687] at y; exact y
          have hs43 : ¬ ((rB T n (ms h).1) < n ∧ T (rB T n (ms h).1) = 43) := fun z => q690 (hk43.mpr z)
          have hk45 : cp688 = 45 ↔ ((rB T n (ms h).1) < n ∧ T (rB T n (ms h).1) = 45) := by have y := sgm_k kp688 45 (by decide); rw [sp687] at y; exact y
          have hs45 := hk45.mp q696
          have hmsf736 : ms hp735 = ((rB T n (ms h).1), (ms h).2.1, (ms hp733).2.2) := (sp735).trans (mA3 sp687 ap733 bp733 rfl rfl)
          obtain ⟨pf736, sf736, tf736⟩ := mTo pp735e ((mFr_n ggp735).trans hN) ef736 (v := (rB T n (ms h).1) + 1) (zp1 (by rw [mPl pp735e, hmsf736]) (by have := rB_le (T := T) hpn; omega)) hs45.1
          rw [hmsf736] at sf736
          refine tw_aload rfl rfl ?_
          refine tw_push rfl ?_
          refine tw_put rfl (fun f737 => ?_)
          refine tG_setm f737 (hw_111_46 f737 (gf736).1) (fun hf737 ef737 => ?_)
          try dsimp only [tvI_i] at ef737
          have gf737 := mFq_s (mFq_f gf736) ef737 (Or.inr rfl)
          obtain ⟨pf737, sf737, tf737⟩ := mSte pf736 ef737
          refine tw_goto rfl ?_
          have hmb : (mSk hp733, (ms hp733).2.2) = mS (mSk h) (ms h).2.2 := by rw [mp733, tp687, sp687]; rfl
          have hsk : mSk hf737 = 104 :: (mS (mSk h) (ms h).2.2).1 := by rw [tf737, tf736, tp735, ← mfst hmb]; rfl
          have hdd : mD hf737 := mD_m hD (by rw [hsk, mDp_e (by decide)]; exact mDp_S _ _) ((mI_o ef737 (by decide)).trans ((mI_o ef736 (by decide)).trans (dp735.trans (dp733.trans dp687))))
          exact tw_vret rfl ⟨rfl, gf737, mOut_r (by unfold mS2; rw [if_neg hs42, if_neg hs43, if_pos hs45]) pf737 hdd (by unfold mst; rw [mI_x ef737, hsk, sf737, sf736, msnd hmb]; rfl)⟩
        · try dsimp only [tvI_i, tvJ_j, tvR_r] at q734
          have q734i := zeqi (Y := 43) (by decide) q734
          exact absurd q734 q690
  · try dsimp only [tvI_i, tvJ_j, tvR_r] at q689
    have q689i := zeqi (Y := 42) (by decide) q689
    refine tw_aload rfl rfl ?_
    refine tw_virt0 rfl (g_makesProducts hG hX (ggp687).1 pp687e ((mFr_T ggp687).trans hT) ((mFr_n ggp687).trans hN)) (fun wp738 hp738 p738 => ?_)
    obtain ⟨rfl, gp738, pp738e, ap738, bp738, mp738, dp738⟩ := p738
    have ggp738 := mFr_t ggp687 gp738
    refine tw_aload rfl rfl ?_
    refine tw_push rfl ?_
    refine tw_virt1 rfl (g_opens hG hX (ggp738).1 pp738e ((mFr_T ggp738).trans hT) ((mFr_n ggp738).trans hN) (by decide)) (fun wp739 hp739 p739 => ?_)
    obtain ⟨rfl, gp739, pp739e, tp739, sp739, dp739⟩ := p739
    have ggp739 := mFr_t ggp738 gp739
    refine tw_aload rfl rfl ?_
    refine tw_dup rfl ?_
    refine tw_getS rfl (hi_111_28 ggp739.1) ?_
    refine tw_push rfl ?_
    refine tw_iadd rfl ?_
    refine tw_put rfl (fun f740 => ?_)
    refine tG_setm f740 (hw_111_28 f740 (ggp739).1) (fun hf740 ef740 => ?_)
    try dsimp only [tvI_i] at ef740
    have gf740 := mFr_s ggp739 ef740 (by unfold mFs; omega)
    have hk42 : cp688 = 42 ↔ ((rB T n (ms h).1) < n ∧ T (rB T n (ms h).1) = 42) := by have y := sgm_k kp688 42 (by decide); rw [sp687] at y; exact y
    have hs42 := hk42.mp q689
    have hmsf740 : ms hp739 = ((rB T n (ms h).1), (ms h).2.1, (ms hp738).2.2) := (sp739).trans (mA3 sp687 ap738 bp738 rfl rfl)
    obtain ⟨pf740, sf740, tf740⟩ := mTo pp739e ((mFr_n ggp739).trans hN) ef740 (v := (rB T n (ms h).1) + 1) (zp1 (by rw [mPl pp739e, hmsf740]) (by have := rB_le (T := T) hpn; omega)) hs42.1
    rw [hmsf740] at sf740
    refine tw_aload rfl rfl ?_
    refine tw_push rfl ?_
    refine tw_put rfl (fun f741 => ?_)
    refine tG_setm f741 (hw_111_46 f741 (gf740).1) (fun hf741 ef741 => ?_)
    try dsimp only [tvI_i] at ef741
    have gf741 := mFq_s (mFq_f gf740) ef741 (Or.inr rfl)
    obtain ⟨pf741, sf741, tf741⟩ := mSte pf740 ef741
    refine tw_goto rfl ?_
    have hmb : (mSk hp738, (ms hp738).2.2) = mT (mSk h) (ms h).2.2 := by rw [mp738, tp687, sp687]; rfl
    have hsk : mSk hf741 = 102 :: (mT (mSk h) (ms h).2.2).1 := by rw [tf741, tf740, tp739, ← mfst hmb]; rfl
    have hdd : mD hf741 := mD_m hD (by rw [hsk, mDp_e (by decide)]; exact mDp_T _ _) ((mI_o ef741 (by decide)).trans ((mI_o ef740 (by decide)).trans (dp739.trans (dp738.trans dp687))))
    exact tw_vret rfl ⟨rfl, gf741, mOut_r (by unfold mS2; rw [if_pos hs42]) pf741 hdd (by unfold mst; rw [mI_x ef741, hsk, sf741, sf740, msnd hmb]; rfl)⟩
theorem g_behindFact {G : zG} (hG : G.1 = zProg) (hX : G.2.1 = ztx) {h : zH} {T : Nat → Int32} {n : Nat} (hs : tSh h) (hp : mP h) (hT : tA h 132 = T) (hN : mn h = n) (hD : mD h) (hd : mDp (mSk h) ≤ 1000) (h46s : tvI (tF h 111 46) = 3) : tC zTt G 222 [.ref 111] h (fun w h2 => w = none ∧ mFq h h2 ∧ mOut (mS3 T n (mSk h) (ms h)) h2) := by
  refine tC_in (by rw [hG]; rfl) (fun dp => ?_)
  have g0 := mFr_r hs
  have hpn : (ms h).1 ≤ n := mPle hp hN
  have hn4 : n ≤ 400 := by have a := mNl hp hN; have b := hp.2.1; omega
  refine tw_aload rfl rfl ?_
  refine tw_virt0 rfl (g_makesNots hG hX (g0).1 hp ((mFr_T g0).trans hT) ((mFr_n g0).trans hN) hD) (fun wp742 hp742 p742 => ?_)
  obtain ⟨rfl, gp742, pp742e, ap742, bp742, mp742, dp742⟩ := p742
  have ggp742 := mFr_t g0 gp742
  refine tw_aload rfl rfl ?_
  refine tw_virt0 rfl (g_blanks hG hX (ggp742).1 pp742e ((mFr_T ggp742).trans hT) ((mFr_n ggp742).trans hN)) (fun wp743 hp743 p743 => ?_)
  obtain ⟨rfl, gp743, pp743e, sp743, tp743, dp743⟩ := p743
  have ggp743 := mFr_t ggp742 gp743
  rw [ap742] at sp743
  refine tw_aload rfl rfl ?_
  refine tw_push rfl ?_
  refine tw_virt1 rfl (g_stands hG hX (ggp743).1 ((mFr_T ggp743).trans hT) ((mFr_n ggp743).trans hN) (q := 19) (by decide +kernel) ⟨pp743e.2.1.1, by have := pp743e.2.1; omega⟩ ⟨by have := pp743e.2.1; omega, pp743e.2.1.2.2⟩) (fun w9 h9 p744 => ?_)
  obtain ⟨⟨p744, rfl⟩ | ⟨p744, rfl⟩, rfl⟩ := p744
  · try dsimp only [tvI_i, tvJ_j, tvR_r] at p744
    refine tw_if_eq rfl (fun z => absurd z (by decide)) (fun _ => ?_)
    refine tw_aload rfl rfl ?_
    refine tw_virt0 rfl (g_makesAnds hG hX (ggp743).1 pp743e ((mFr_T ggp743).trans hT) ((mFr_n ggp743).trans hN)) (fun wp745 hp745 p745 => ?_)
    obtain ⟨rfl, gp745, pp745e, ap745, bp745, mp745, dp745⟩ := p745
    have ggp745 := mFr_t ggp743 gp745
    refine tw_aload rfl rfl ?_
    refine tw_push rfl ?_
    refine tw_virt1 rfl (g_opens hG hX (ggp745).1 pp745e ((mFr_T ggp745).trans hT) ((mFr_n ggp745).trans hN) (by decide)) (fun wp746 hp746 p746 => ?_)
    obtain ⟨rfl, gp746, pp746e, tp746, sp746, dp746⟩ := p746
    have ggp746 := mFr_t ggp745 gp746
    refine tw_aload rfl rfl ?_
    refine tw_dup rfl ?_
    refine tw_getS rfl (hi_111_28 ggp746.1) ?_
    refine tw_push rfl ?_
    refine tw_iadd rfl ?_
    refine tw_put rfl (fun f747 => ?_)
    refine tG_setm f747 (hw_111_28 f747 (ggp746).1) (fun hf747 ef747 => ?_)
    try dsimp only [tvI_i] at ef747
    have gf747 := mFr_s ggp746 ef747 (by unfold mFs; omega)
    have hw18 : rW T n (rB T n (ms h).1) (rWd 18) = true := by have z := p744; rw [sp743] at z; rw [txt_k.2.1]; exact z
    have h9w : rE T n (rB T n (ms h).1) = (rB T n (ms h).1) + 3 := by rw [rW_e hw18, wlen_k.1]
    have hr9 := rE_le (T := T) (rB_le (T := T) hpn)
    rw [h9w] at hr9
    have hmsf747 : ms hp746 = ((rB T n (ms h).1), (ms h).2.1, (ms hp745).2.2) := (sp746).trans (mA3 sp743 ap745 bp745 bp742 rfl)
    obtain ⟨pf747, sf747, tf747⟩ := mTo pp746e ((mFr_n ggp746).trans hN) ef747 (v := (rB T n (ms h).1) + 3) (zp3 (k := (rB T n (ms h).1)) (j := 3) (by rw [mPl pp746e, hmsf747]) rfl (by have := rB_le (T := T) hpn; omega) (by decide)) hr9
    rw [hmsf747] at sf747
    refine tw_aload rfl rfl ?_
    refine tw_push rfl ?_
    refine tw_put rfl (fun f748 => ?_)
    refine tG_setm f748 (hw_111_46 f748 (gf747).1) (fun hf748 ef748 => ?_)
    try dsimp only [tvI_i] at ef748
    have gf748 := mFq_s (mFq_f gf747) ef748 (Or.inr rfl)
    obtain ⟨pf748, sf748, tf748⟩ := mSte pf747 ef748
    refine tw_goto rfl ?_
    have hmn : (mSk hp743, (ms hp743).2.2) = (mN (mSk h) (ms h).2.2) := by rw [tp743, sp743]; exact mp742
    have hmb : (mSk hp745, (ms hp745).2.2) = mA (mN (mSk h) (ms h).2.2).1 (mN (mSk h) (ms h).2.2).2 := by rw [mp745, mfst hmn, msnd hmn]
    have hsk : mSk hf748 = 11 :: (mA (mN (mSk h) (ms h).2.2).1 (mN (mSk h) (ms h).2.2).2).1 := by rw [tf748, tf747, tp746, ← mfst hmb]; rfl
    have hdd : mD hf748 := mD_m (mD_k dp742 tp743 dp743) (by rw [hsk, mDp_e (by decide), mDp_A, mfst hmn]) ((mI_o ef748 (by decide)).trans ((mI_o ef747 (by decide)).trans (dp746.trans dp745)))
    exact tw_vret rfl ⟨rfl, gf748, mOut_r (by unfold mS3; rw [if_pos hw18]) pf748 hdd (by unfold mst; rw [mI_x ef748, hsk, sf748, sf747, msnd hmb]; rfl)⟩
  · try dsimp only [tvI_i, tvJ_j, tvR_r] at p744
    refine tw_if_eq rfl (fun _ => ?_) (fun z => absurd z (by decide))
    refine tw_aload rfl rfl ?_
    refine tw_push rfl ?_
    refine tw_virt1 rfl (g_stands hG hX (ggp743).1 ((mFr_T ggp743).trans hT) ((mFr_n ggp743).trans hN) (q := 20) (by decide +kernel) ⟨pp743e.2.1.1, by have := pp743e.2.1; omega⟩ ⟨by have := pp743e.2.1; omega, pp743e.2.1.2.2⟩) (fun w9 h9 p749 => ?_)
    obtain ⟨⟨p749, rfl⟩ | ⟨p749, rfl⟩, rfl⟩ := p749
    · try dsimp only [tvI_i, tvJ_j, tvR_r] at p749
      refine tw_if_eq rfl (fun z => absurd z (by decide)) (fun _ => ?_)
      refine tw_aload rfl rfl ?_
      refine tw_virt0 rfl (g_makesOrs hG hX (ggp743).1 pp743e ((mFr_T ggp743).trans hT) ((mFr_n ggp743).trans hN)) (fun wp750 hp750 p750 => ?_)
      obtain ⟨rfl, gp750, pp750e, ap750, bp750, mp750, dp750⟩ := p750
      have ggp750 := mFr_t ggp743 gp750
      refine tw_aload rfl rfl ?_
      refine tw_push rfl ?_
      refine tw_virt1 rfl (g_opens hG hX (ggp750).1 pp750e ((mFr_T ggp750).trans hT) ((mFr_n ggp750).trans hN) (by decide)) (fun wp751 hp751 p751 => ?_)
      obtain ⟨rfl, gp751, pp751e, tp751, sp751, dp751⟩ := p751
      have ggp751 := mFr_t ggp750 gp751
      refine tw_aload rfl rfl ?_
      refine tw_dup rfl ?_
      refine tw_getS rfl (hi_111_28 ggp751.1) ?_
      refine tw_push rfl ?_
      refine tw_iadd rfl ?_
      refine tw_put rfl (fun f752 => ?_)
      refine tG_setm f752 (hw_111_28 f752 (ggp751).1) (fun hf752 ef752 => ?_)
      try dsimp only [tvI_i] at ef752
      have gf752 := mFr_s ggp751 ef752 (by unfold mFs; omega)
      have hw18 : ¬ rW T n (rB T n (ms h).1) (rWd 18) = true := by have z := p744; rw [sp743] at z; rw [txt_k.2.1]; exact z
      have hw17 : rW T n (rB T n (ms h).1) (rWd 17) = true := by have z := p749; rw [sp743] at z; rw [txt_k.2.2.1]; exact z
      have h9w : rE T n (rB T n (ms h).1) = (rB T n (ms h).1) + 2 := by rw [rW_e hw17, wlen_k.2.1]
      have hr9 := rE_le (T := T) (rB_le (T := T) hpn)
      rw [h9w] at hr9
      have hmsf752 : ms hp751 = ((rB T n (ms h).1), (ms h).2.1, (ms hp750).2.2) := (sp751).trans (mA3 sp743 ap750 bp750 bp742 rfl)
      obtain ⟨pf752, sf752, tf752⟩ := mTo pp751e ((mFr_n ggp751).trans hN) ef752 (v := (rB T n (ms h).1) + 2) (zp3 (k := (rB T n (ms h).1)) (j := 2) (by rw [mPl pp751e, hmsf752]) rfl (by have := rB_le (T := T) hpn; omega) (by decide)) hr9
      rw [hmsf752] at sf752
      refine tw_aload rfl rfl ?_
      refine tw_push rfl ?_
      refine tw_put rfl (fun f753 => ?_)
      refine tG_setm f753 (hw_111_46 f753 (gf752).1) (fun hf753 ef753 => ?_)
      try dsimp only [tvI_i] at ef753
      have gf753 := mFq_s (mFq_f gf752) ef753 (Or.inr rfl)
      obtain ⟨pf753, sf753, tf753⟩ := mSte pf752 ef753
      refine tw_goto rfl ?_
      have hmn : (mSk hp743, (ms hp743).2.2) = (mN (mSk h) (ms h).2.2) := by rw [tp743, sp743]; exact mp742
      have hmb : (mSk hp750, (ms hp750).2.2) = mO (mN (mSk h) (ms h).2.2).1 (mN (mSk h) (ms h).2.2).2 := by rw [mp750, mfst hmn, msnd hmn]
      have hsk : mSk hf753 = 12 :: (mO (mN (mSk h) (ms h).2.2).1 (mN (mSk h) (ms h).2.2).2).1 := by rw [tf753, tf752, tp751, ← mfst hmb]; rfl
      have hdd : mD hf753 := mD_m (mD_k dp742 tp743 dp743) (by rw [hsk, mDp_e (by decide), mDp_O, mfst hmn]) ((mI_o ef753 (by decide)).trans ((mI_o ef752 (by decide)).trans (dp751.trans dp750)))
      exact tw_vret rfl ⟨rfl, gf753, mOut_r (by unfold mS3; rw [if_neg hw18, if_pos hw17]) pf753 hdd (by unfold mst; rw [mI_x ef753, hsk, sf753, sf752, msnd hmb]; rfl)⟩
    · try dsimp only [tvI_i, tvJ_j, tvR_r] at p749
      refine tw_if_eq rfl (fun _ => ?_) (fun z => absurd z (by decide))
      refine tw_aload rfl rfl ?_
      refine tw_virt0 rfl (g_makesOrs hG hX (ggp743).1 pp743e ((mFr_T ggp743).trans hT) ((mFr_n ggp743).trans hN)) (fun wp754 hp754 p754 => ?_)
      obtain ⟨rfl, gp754, pp754e, ap754, bp754, mp754, dp754⟩ := p754
      have ggp754 := mFr_t ggp743 gp754
      refine tw_aload rfl rfl ?_
      refine tw_virt0 rfl (g_top hG hX (ggp754).1 pp754e ((mFr_T ggp754).trans hT) ((mFr_n ggp754).trans hN)) (fun wp755 hp755 p755 => ?_)
      obtain ⟨⟨cp755, rfl, Tp755⟩, rfl⟩ := p755
      refine tw_push rfl ?_
      refine tw_ic_ne rfl (fun q756 => ?_) (fun q756 => ?_)
      · try dsimp only [tvI_i, tvJ_j, tvR_r] at q756
        have q756i := zneq (Y := 13) (by decide) q756
        refine tw_aload rfl rfl ?_
        refine tw_push rfl ?_
        refine tw_put rfl (fun f757 => ?_)
        refine tG_setm f757 (hw_111_46 f757 (ggp754).1) (fun hf757 ef757 => ?_)
        try dsimp only [tvI_i] at ef757
        have gf757 := mFq_s (mFq_f ggp754) ef757 (Or.inr rfl)
        obtain ⟨pf757, sf757, tf757⟩ := mSte pp754e ef757
        have hw18 : ¬ rW T n (rB T n (ms h).1) (rWd 18) = true := by have z := p744; rw [sp743] at z; rw [txt_k.2.1]; exact z
        have hw17 : ¬ rW T n (rB T n (ms h).1) (rWd 17) = true := by have z := p749; rw [sp743] at z; rw [txt_k.2.2.1]; exact z
        have ht13 := tpm_k Tp755 (k := 13) (K := 13) rfl (by decide)
        have hn13 : ¬ (mSk hp754).headD 0 = 13 := fun z => q756 (ht13.mpr z)
        have hmn : (mSk hp743, (ms hp743).2.2) = (mN (mSk h) (ms h).2.2) := by rw [tp743, sp743]; exact mp742
        have hmb : (mSk hp754, (ms hp754).2.2) = mO (mN (mSk h) (ms h).2.2).1 (mN (mSk h) (ms h).2.2).2 := by rw [mp754, mfst hmn, msnd hmn]
        have hms : ms hf757 = ((rB T n (ms h).1), (ms h).2.1, (mO (mN (mSk h) (ms h).2.2).1 (mN (mSk h) (ms h).2.2).2).2) := (sf757).trans (mA3 sp743 ap754 bp754 bp742 (msnd hmb))
        have hsk : mSk hf757 = (mO (mN (mSk h) (ms h).2.2).1 (mN (mSk h) (ms h).2.2).2).1 := by rw [tf757, mfst hmb]
        have hdd : mD hf757 := mD_m (mD_k dp742 tp743 dp743) (by rw [hsk, mDp_O, mfst hmn]) ((mI_o ef757 (by decide)).trans dp754)
        exact tw_vret rfl ⟨rfl, gf757, mOut_r (by unfold mS3; rw [if_neg hw18, if_neg hw17, if_neg (show ¬ (mO (mN (mSk h) (ms h).2.2).1 (mN (mSk h) (ms h).2.2).2).1.headD 0 = 13 from by rw [← mfst hmb]; exact hn13)]) pf757 hdd (by unfold mst; rw [mI_x ef757, hsk, hms]; rfl)⟩
      · try dsimp only [tvI_i, tvJ_j, tvR_r] at q756
        have q756i := zeqi (Y := 13) (by decide) q756
        refine tw_aload rfl rfl ?_
        refine tw_virt0 rfl (g_sign hG hX (ggp754).1 ((mFr_T ggp754).trans hT) ((mFr_n ggp754).trans hN) ⟨pp754e.2.1.1, by have := pp754e.2.1; omega⟩) (fun wp758 hp758 p758 => ?_)
        obtain ⟨⟨cp758, rfl, kp758⟩, rfl⟩ := p758
        refine tw_push rfl ?_
        refine tw_ic_eq rfl (fun q759 => ?_) (fun q759 => ?_)
        · try dsimp only [tvI_i, tvJ_j, tvR_r] at q759
          have q759i := zeqi (Y := 93) (by decide) q759
          refine tw_aload rfl rfl ?_
          refine tw_dup rfl ?_
          refine tw_getS rfl (hi_111_28 (ggp754).1) ?_
          refine tw_push rfl ?_
          refine tw_iadd rfl ?_
          refine tw_put rfl (fun f760 => ?_)
          refine tG_setm f760 (hw_111_28 f760 (ggp754).1) (fun hf760 ef760 => ?_)
          try dsimp only [tvI_i] at ef760
          have gf760 := mFr_s ggp754 ef760 (by unfold mFs; omega)
          have hw18 : ¬ rW T n (rB T n (ms h).1) (rWd 18) = true := by have z := p744; rw [sp743] at z; rw [txt_k.2.1]; exact z
          have hw17 : ¬ rW T n (rB T n (ms h).1) (rWd 17) = true := by have z := p749; rw [sp743] at z; rw [txt_k.2.2.1]; exact z
          have ht13 := tpm_k Tp755 (k := 13) (K := 13) rfl (by decide)
          have hn13 : (mSk hp754).headD 0 = 13 := ht13.mp q756
          have hk93 : cp758 = 93 ↔ ((rB T n (ms h).1) < n ∧ T (rB T n (ms h).1) = 93) := by have y := sgm_k kp758 93 (by decide); rw [ap754, sp743] at y; exact y
          have hs93 : ((rB T n (ms h).1) < n ∧ T (rB T n (ms h).1) = 93) := hk93.mp q759
          have hDm : mD hp754 := mD_m (mD_k dp742 tp743 dp743) (by rw [mfst mp754]; exact mDp_O _ _) dp754
          obtain ⟨pf760, sf760, tf760⟩ := mTo pp754e ((mFr_n ggp754).trans hN) ef760 (v := (rB T n (ms h).1) + 1) (zp1 (by rw [mPl pp754e, show (ms hp754).1 = (rB T n (ms h).1) from by rw [ap754, sp743]; rfl]) (by have := rB_le (T := T) hpn; omega)) hs93.1
          refine tw_aload rfl rfl ?_
          refine tw_dup rfl ?_
          refine tw_getS rfl (hi_111_34 (gf760).1) ?_
          refine tw_push rfl ?_
          refine tw_isub rfl ?_
          refine tw_put rfl (fun f761 => ?_)
          refine tG_setm f761 (hw_111_34 f761 (gf760).1) (fun hf761 ef761 => ?_)
          try dsimp only [tvI_i] at ef761
          have gf761 := mFr_s gf760 ef761 (by unfold mFs; omega)
          have hst : mSk hf760 = 13 :: (mSk hp754).tail := tf760.trans (mhead (k := 12) hn13)
          obtain ⟨pf761, tf761, sf761, df761⟩ := mSk_pop pf760 (by rw [hst]; exact List.cons_ne_nil _ _) ef761
          rw [hst] at tf761
          have tf761 : mSk hf761 = (mSk hp754).tail := tf761
          refine tw_aload rfl rfl ?_
          refine tw_dup rfl ?_
          refine tw_getS rfl (hi_111_32 (gf761).1) ?_
          refine tw_push rfl ?_
          refine tw_isub rfl ?_
          refine tw_put rfl (fun f762 => ?_)
          refine tG_setm f762 (hw_111_32 f762 (gf761).1) (fun hf762 ef762 => ?_)
          try dsimp only [tvI_i] at ef762
          have gf762 := mFr_s gf761 ef762 (by unfold mFs; omega)
          have hdf762 : (tvI (tF hf761 111 32)).toInt = ((mDp (mSk hf761) + 1 : Nat) : Int) := by
            rw [df761, mI_o ef760 (by decide)]
            refine (show (tvI (tF hp754 111 32)).toInt = (mDp (mSk hp754) : Int) from hDm).trans ?_
            rw [tf761]
            exact congrArg (fun z : Nat => (z : Int)) ((congrArg mDp (mhead (k := 12) hn13)).trans (mDp_c (by decide)))
          obtain ⟨pf762, tf762, sf762, ddf762⟩ := mDn pf761 ef762 hdf762 rfl
          refine tw_goto rfl ?_
          have hmn : (mSk hp743, (ms hp743).2.2) = (mN (mSk h) (ms h).2.2) := by rw [tp743, sp743]; exact mp742
          have hmb : (mSk hp754, (ms hp754).2.2) = mO (mN (mSk h) (ms h).2.2).1 (mN (mSk h) (ms h).2.2).2 := by rw [mp754, mfst hmn, msnd hmn]
          have hms : ms hf762 = ((rB T n (ms h).1) + 1, (ms h).2.1, (mO (mN (mSk h) (ms h).2.2).1 (mN (mSk h) (ms h).2.2).2).2) := by rw [sf762, sf761, sf760]; exact mA6 (mA2 sp743 bp754 bp742) (msnd hmb)
          have hsk : mSk hf762 = (mO (mN (mSk h) (ms h).2.2).1 (mN (mSk h) (ms h).2.2).2).1.tail := by rw [tf762, tf761, mfst hmb]
          have h46 : stN (tvI (tF hf762 111 46)) = 3 := by rw [mFr_46 gf762, h46s]; rfl
          exact tw_vret rfl ⟨rfl, mFq_f gf762, mOut_r (by unfold mS3; rw [if_neg hw18, if_neg hw17, if_pos (show (mO (mN (mSk h) (ms h).2.2).1 (mN (mSk h) (ms h).2.2).2).1.headD 0 = 13 from by rw [← mfst hmb]; exact hn13), if_pos hs93]) pf762 ddf762 (by unfold mst; rw [h46, hsk, hms])⟩
        · try dsimp only [tvI_i, tvJ_j, tvR_r] at q759
          have q759i := zneq (Y := 93) (by decide) q759
          refine tw_aload rfl rfl ?_
          refine tw_push rfl ?_
          refine tw_aload rfl rfl ?_
          refine tw_getS rfl (hi_111_28 (ggp754).1) ?_
          refine tw_virt2 rfl (g_fails hG hX (ggp754).1 pp754e ((mFr_T ggp754).trans hT) ((mFr_n ggp754).trans hN) (w := 0) (b := (rB T n (ms h).1)) rfl (by decide) ((mPl pp754e).trans (by rw [show (ms hp754).1 = (rB T n (ms h).1) from by rw [ap754, sp743]; rfl])) (by have := rB_le (T := T) hpn; omega)) (fun wp763 hp763 p763 => ?_)
          obtain ⟨rfl, gp763, Fp763, ip763, jp763⟩ := p763
          have ggp763 := mFr_t ggp754 gp763
          refine tw_aload rfl rfl ?_
          refine tw_dup rfl ?_
          refine tw_getS rfl (hi_111_28 ggp763.1) ?_
          refine tw_push rfl ?_
          refine tw_iadd rfl ?_
          refine tw_put rfl (fun f764 => ?_)
          refine tG_setm f764 (hw_111_28 f764 (ggp763).1) (fun hf764 ef764 => ?_)
          try dsimp only [tvI_i] at ef764
          have gf764 := mFr_s ggp763 ef764 (by unfold mFs; omega)
          have zf764 := mFt_s Fp763 ef764 (by decide)
          have yf764 : (tvI (tF hp763 111 28)).toInt = (((rB T n (ms h).1) : Nat) : Int) := by rw [ip763, mPl pp754e, show (ms hp754).1 = (rB T n (ms h).1) from by rw [ap754, sp743]; rfl]
          have Zf764 : mZp hf764 := mZ_of ggp763 hp ef764 (zp1 yf764 (by have := rB_le (T := T) hpn; omega)) (by have := rB_le (T := T) hpn; omega)
          refine tw_aload rfl rfl ?_
          refine tw_dup rfl ?_
          refine tw_getS rfl (hi_111_34 (gf764).1) ?_
          refine tw_push rfl ?_
          refine tw_isub rfl ?_
          refine tw_put rfl (fun f765 => ?_)
          refine tG_setm f765 (hw_111_34 f765 (gf764).1) (fun hf765 ef765 => ?_)
          try dsimp only [tvI_i] at ef765
          have gf765 := mFr_s gf764 ef765 (by unfold mFs; omega)
          have zf765 := mFt_s zf764 ef765 (by decide)
          have Zf765 : mZp hf765 := mZp_o Zf764 ef765 (by decide)
          refine tw_aload rfl rfl ?_
          refine tw_dup rfl ?_
          refine tw_getS rfl (hi_111_32 (gf765).1) ?_
          refine tw_push rfl ?_
          refine tw_isub rfl ?_
          refine tw_put rfl (fun f766 => ?_)
          refine tG_setm f766 (hw_111_32 f766 (gf765).1) (fun hf766 ef766 => ?_)
          try dsimp only [tvI_i] at ef766
          have gf766 := mFr_s gf765 ef766 (by unfold mFs; omega)
          have zf766 := mFt_s zf765 ef766 (by decide)
          have Zf766 : mZp hf766 := mZp_o Zf765 ef766 (by decide)
          refine tw_goto rfl ?_
          have hw18 : ¬ rW T n (rB T n (ms h).1) (rWd 18) = true := by have z := p744; rw [sp743] at z; rw [txt_k.2.1]; exact z
          have hw17 : ¬ rW T n (rB T n (ms h).1) (rWd 17) = true := by have z := p749; rw [sp743] at z; rw [txt_k.2.2.1]; exact z
          have ht13 := tpm_k Tp755 (k := 13) (K := 13) rfl (by decide)
          have hn13 : (mSk hp754).headD 0 = 13 := ht13.mp q756
          have hk93 : cp758 = 93 ↔ ((rB T n (ms h).1) < n ∧ T (rB T n (ms h).1) = 93) := by have y := sgm_k kp758 93 (by decide); rw [ap754, sp743] at y; exact y
          have hs93 : ¬ ((rB T n (ms h).1) < n ∧ T (rB T n (ms h).1) = 93) := fun z => q759 (hk93.mpr z)
          have hDm : mD hp754 := mD_m (mD_k dp742 tp743 dp743) (by rw [mfst mp754]; exact mDp_O _ _) dp754
          have hmn : (mSk hp743, (ms hp743).2.2) = (mN (mSk h) (ms h).2.2) := by rw [tp743, sp743]; exact mp742
          have hmb : (mSk hp754, (ms hp754).2.2) = mO (mN (mSk h) (ms h).2.2).1 (mN (mSk h) (ms h).2.2).2 := by rw [mp754, mfst hmn, msnd hmn]
          exact tw_vret rfl ⟨rfl, mFq_f gf766, mOut_l (by unfold mS3; rw [if_neg hw18, if_neg hw17, if_pos (show (mO (mN (mSk h) (ms h).2.2).1 (mN (mSk h) (ms h).2.2).2).1.headD 0 = 13 from by rw [← mfst hmb]; exact hn13), if_neg hs93]) zf766 Zf766⟩
theorem mDp_N : ∀ (S o : List Nat), mDp (mN S o).1 ≤ mDp S
  | [], _ => Nat.le_refl _
  | x :: r, o => by
    unfold mN
    by_cases z : x = 10
    · rw [if_pos z, z, mDp_c (by decide)]
      exact Nat.le_succ_of_le (mDp_N r _)
    · rw [if_neg z]
      exact Nat.le_refl _
theorem mDp_t : ∀ (S : List Nat), mDp S.tail ≤ mDp S
  | [] => Nat.le_refl _
  | x :: r => by
    show mDp r ≤ (if _ then mDp r + 1 else mDp r)
    split
    · exact Nat.le_succ _
    · exact Nat.le_refl _
theorem mSt_dp {T : Nat → Int32} {n : Nat} {tst : Bool} {a : Nat} {S : List Nat} {s : rS} {x2 : rMs} (h : mDp S ≤ 10) (ha : a ≤ 3) (e : mSt T n tst (a, S, s) = .inr x2) : mDp x2.2.1 ≤ 10 ∧ x2.1 ≤ 4 := by
  match a, ha, e with
  | 0, _, e =>
    have e : mS0 T n S s = .inr x2 := e
    unfold mS0 at e
    split at e
    · split at e
      · cases e
      · rename_i z
        cases e
        exact ⟨by show mDp (10 :: S) ≤ 10; rw [mDp_c (by decide)]; omega, Nat.le_of_ble_eq_true rfl⟩
    · split at e
      · split at e
        · cases e
        · rename_i z
          cases e
          exact ⟨by show mDp (13 :: S) ≤ 10; rw [mDp_c (by decide)]; omega, Nat.le_of_ble_eq_true rfl⟩
      · cases e
        exact ⟨h, Nat.le_of_ble_eq_true rfl⟩
  | 1, _, e =>
    have e : mS1 T n S s = .inr x2 := e
    unfold mS1 at e
    split at e
    · split at e
      · cases e
      · split at e
        · cases e
        · rename_i z _
          cases e
          exact ⟨by show mDp (50 :: S) ≤ 10; rw [mDp_c (by decide)]; omega, Nat.le_of_ble_eq_true rfl⟩
    · split at e
      · split at e
        · cases e
        · cases e; exact ⟨h, Nat.le_of_ble_eq_true rfl⟩
      · split at e
        · cases e
        · split at e
          · cases e
          · cases e; exact ⟨h, Nat.le_of_ble_eq_true rfl⟩
  | 2, _, e =>
    have e : mS2 T n tst S s = .inr x2 := e
    have hT := mDp_T S s.2.2
    have hS := mDp_S S s.2.2
    have ht := mDp_t (mS S s.2.2).1
    unfold mS2 at e
    split at e
    · cases e
      exact ⟨by show mDp (102 :: _) ≤ 10; rw [mDp_e (by decide)]; omega, Nat.le_of_ble_eq_true rfl⟩
    · split at e
      · cases e
        exact ⟨by show mDp (103 :: _) ≤ 10; rw [mDp_e (by decide)]; omega, Nat.le_of_ble_eq_true rfl⟩
      · split at e
        · cases e
          exact ⟨by show mDp (104 :: _) ≤ 10; rw [mDp_e (by decide)]; omega, Nat.le_of_ble_eq_true rfl⟩
        · split at e
          · split at e
            · cases e
              exact ⟨by show mDp (mS S s.2.2).1.tail ≤ 10; omega, Nat.le_of_ble_eq_true rfl⟩
            · cases e
          · split at e
            · split at e
              · cases e
                exact ⟨by show mDp (mS S s.2.2).1.tail ≤ 10; omega, Nat.le_of_ble_eq_true rfl⟩
              · split at e
                · cases e
                · rename_i q hq
                  split at e
                  · cases e
                  · cases e
                    have r1 := (rCm_r hq).1
                    have r2 := (rCm_r hq).2.1
                    exact ⟨by show mDp ((q.1 - 99898) :: _) ≤ 10; rw [mDp_e (by omega)]; omega, Nat.le_of_ble_eq_true rfl⟩
            · cases e
              exact ⟨by show mDp (mS S s.2.2).1 ≤ 10; omega, Nat.le_of_ble_eq_true rfl⟩
  | 3, _, e =>
    have e : mS3 T n S s = .inr x2 := e
    have hN := mDp_N S s.2.2
    have hA := mDp_A (mN S s.2.2).1 (mN S s.2.2).2
    have hO := mDp_O (mN S s.2.2).1 (mN S s.2.2).2
    have ht := mDp_t (mO (mN S s.2.2).1 (mN S s.2.2).2).1
    unfold mS3 at e
    split at e
    · cases e
      exact ⟨by show mDp (11 :: _) ≤ 10; rw [mDp_e (by decide)]; omega, Nat.le_of_ble_eq_true rfl⟩
    · split at e
      · cases e
        exact ⟨by show mDp (12 :: _) ≤ 10; rw [mDp_e (by decide)]; omega, Nat.le_of_ble_eq_true rfl⟩
      · split at e
        · split at e
          · cases e
            exact ⟨by show mDp (mO (mN S s.2.2).1 (mN S s.2.2).2).1.tail ≤ 10; omega, Nat.le_of_ble_eq_true rfl⟩
          · cases e
        · cases e
          exact ⟨by show mDp (mO (mN S s.2.2).1 (mN S s.2.2).2).1 ≤ 10; omega, Nat.le_of_ble_eq_true rfl⟩
theorem mRst {h a b c : zH} {x y : Int32} (hx : 0 ≤ x.toInt) (p : mP h) (d0 : tvI (tF h 111 32) = 0) (e46 : mSet 46 x h a) (e34 : mSet 34 0 a b) (e47 : mSet 47 y b c) : mFw h c ∧ mP c ∧ mD c ∧ mst c = (stN x, [], ms h) ∧ tvI (tF c 111 47) = y := by
  have F : ∀ q, q ≠ 46 → q ≠ 34 → q ≠ 47 → tF c 111 q = tF h 111 q := fun q h1 h2 h3 => (mI_o e47 h3).trans ((mI_o e34 h2).trans (mI_o e46 h1))
  have A : tA c = tA h := e47.2.2.2.1.trans (e34.2.2.2.1.trans e46.2.2.2.1)
  have NN : tN c = tN h := e47.2.2.2.2.trans (e34.2.2.2.2.trans e46.2.2.2.2)
  have f34 : tvI (tF c 111 34) = 0 := by rw [mI_o e47 (by decide)]; exact mI_x e34
  have f46 : tvI (tF c 111 46) = x := by rw [mI_o e47 (by decide), mI_o e34 (by decide)]; exact mI_x e46
  have hk : mSk c = [] := mSk_nil (by rw [f34]; rfl)
  obtain ⟨p1, p2, p3, p4, p5, p6, p7, p8, t1, t2⟩ := p
  refine ⟨⟨e47.1, fun p q z => ?_, fun p _ _ _ => congrFun A p, NN, mLo_A A mLo_r⟩, ⟨?_, ?_, ?_, ?_, ?_, ?_, ?_, ?_, by rw [NN]; exact t1, by rw [NN]; exact t2⟩, ?_, ?_, mI_x e47⟩
  · refine (e47.2.2.1 p q (fun w => z ⟨w.1, Or.inr (Or.inr w.2)⟩)).trans ((e34.2.2.1 p q (fun w => z ⟨w.1, Or.inl (by unfold mFs; omega)⟩)).trans (e46.2.2.1 p q (fun w => z ⟨w.1, Or.inr (Or.inl w.2)⟩)))
  · rw [F 29 (by decide) (by decide) (by decide)]; exact p1
  · rw [F 28 (by decide) (by decide) (by decide), F 27 (by decide) (by decide) (by decide)]; exact p2
  · rw [F 33 (by decide) (by decide) (by decide)]; exact p3
  · rw [F 31 (by decide) (by decide) (by decide)]; exact p4
  · rw [f34]; decide
  · rw [F 30 (by decide) (by decide) (by decide)]; exact p6
  · rw [A, NN]; exact p7
  · exact p8
  · unfold mD
    rw [F 32 (by decide) (by decide) (by decide), d0, hk]
    rfl
  · unfold mst ms mEn
    rw [f46, hk, F 28 (by decide) (by decide) (by decide), F 33 (by decide) (by decide) (by decide), F 31 (by decide) (by decide) (by decide), F 30 (by decide) (by decide) (by decide), A]
theorem g_readsR {G : zG} (hG : G.1 = zProg) (hX : G.2.1 = ztx) {h : zH} {T : Nat → Int32} {n : Nat} (hs : tSh h) (hp : mP h) (hT : tA h 132 = T) (hN : mn h = n) {x : Int32} {tst : Bool} (hx0 : 0 ≤ x.toInt) (hx4 : stN x ≤ 4) (hts : x = 0 ↔ tst = true) (hd0 : tvI (tF h 111 32) = 0) : tC zTt G 223 [.ref 111, .int x] h (fun w h2 => w = none ∧ mFw h h2 ∧ ((mP h2 ∧ mD h2 ∧ mRe T n tst (stN x, [], ms h) (.inr (4, mSk h2, ms h2))) ∨ ∃ e, mFt h2 e ∧ mZp h2 ∧ mRe T n tst (stN x, [], ms h) (.inl e))) := by
  refine tC_in (by rw [hG]; rfl) (fun dp => ?_)
  refine tw_aload rfl rfl ?_
  refine tw_iload rfl rfl ?_
  refine tw_put rfl (fun f767 => ?_)
  refine tG_setm f767 (hw_111_46 f767 hs) (fun hf767 ef767 => ?_)
  try dsimp only [tvI_i] at ef767
  refine tw_aload rfl rfl ?_
  refine tw_push rfl ?_
  refine tw_put rfl (fun f768 => ?_)
  refine tG_setm f768 (hw_111_34 f768 ef767.1) (fun hf768 ef768 => ?_)
  try dsimp only [tvI_i] at ef768
  refine tw_aload rfl rfl ?_
  refine tw_iload rfl rfl ?_
  refine tw_if_ne rfl (fun q769 => ?_) (fun q769 => ?_)
  · try dsimp only [tvI_i, tvJ_j, tvR_r] at q769
    have q769i := zneq (Y := 0) (by decide) q769
    refine tw_push rfl ?_
    refine tw_put rfl (fun f770 => ?_)
    refine tG_setm f770 (hw_111_47 f770 ef768.1) (fun hf770 ef770 => ?_)
    try dsimp only [tvI_i] at ef770
    refine tG_loop (zW_mono zTt G dp) (zW_conj zTt G dp) (V := fun pc L st h9 _ _ => pc = 23 ∧ st = [] ∧ ∃ h1, h1 = h9 ∧ mFw h h1 ∧ (¬ tvI (tF h1 111 47) = 0 ↔ tst = true) ∧ ((mP h1 ∧ mD h1 ∧ mDp (mSk h1) ≤ 10 ∧ (mst h1).1 ≤ 4 ∧ mRe T n tst (stN x, [], ms h) (.inr (mst h1))) ∨ ∃ e, mFt h1 e ∧ mZp h1 ∧ mRe T n tst (stN x, [], ms h) (.inl e)) ∧ L = [some (.ref 111), some (.int x)]) ?_ (⟨rfl, rfl, _, rfl, (mRst hx0 hp hd0 ef767 ef768 ef770).1, (by rw [(mRst hx0 hp hd0 ef767 ef768 ef770).2.2.2.2]; exact ⟨fun z => absurd rfl z, fun z => absurd (hts.mpr z) q769⟩), Or.inl ⟨(mRst hx0 hp hd0 ef767 ef768 ef770).2.1, (mRst hx0 hp hd0 ef767 ef768 ef770).2.2.1, (by have z := congrArg (fun q : rMs => q.2.1) (mRst hx0 hp hd0 ef767 ef768 ef770).2.2.2.1; have z : mSk _ = [] := z; rw [z]; exact Nat.zero_le _), (by rw [(mRst hx0 hp hd0 ef767 ef768 ef770).2.2.2.1]; exact hx4), by rw [(mRst hx0 hp hd0 ef767 ef768 ef770).2.2.2.1]; exact mRe_0⟩, rfl⟩)
    rintro _ _ _ _ _ _ ⟨rfl, rfl, h1, rfl, gw, hT1, hv, rfl⟩
    refine tw_aload rfl rfl ?_
    refine tw_getS rfl (hi_111_46 gw.1) ?_
    refine tw_push rfl ?_
    refine tw_ic_eq rfl (fun q771 => ?_) (fun q771 => ?_)
    · try dsimp only [tvI_i, tvJ_j, tvR_r] at q771
      have q771i := zeqi (Y := 4) (by decide) q771
      rcases hv with ⟨hv1, hv2, hv3, hv4, hv6⟩ | ⟨e, hv1, hv2, hv3⟩
      · have hm1 : mst h1 = (4, mSk h1, ms h1) := by unfold mst; rw [q771]; rfl
        rw [hm1] at hv6
        exact tw_vret rfl ⟨rfl, gw, Or.inl ⟨hv1, hv2, hv6⟩⟩
      · exact tw_vret rfl ⟨rfl, gw, Or.inr ⟨e, hv1, hv2, hv3⟩⟩
    · try dsimp only [tvI_i, tvJ_j, tvR_r] at q771
      have q771i := zneq (Y := 4) (by decide) q771
      refine tw_aload rfl rfl ?_
      refine tw_getS rfl (hi_111_29 gw.1) ?_
      refine tw_if_ne rfl (fun q772 => ?_) (fun q772 => ?_)
      · try dsimp only [tvI_i, tvJ_j, tvR_r] at q772
        have q772i := zneq (Y := 0) (by decide) q772
        rcases hv with ⟨hv1, -⟩ | ⟨e, hv1, hv2, hv3⟩
        · exact absurd (mP_0 hv1) q772
        · exact tw_vret rfl ⟨rfl, gw, Or.inr ⟨e, hv1, hv2, hv3⟩⟩
      · try dsimp only [tvI_i, tvJ_j, tvR_r] at q772
        have q772i := zeqi (Y := 0) (by decide) q772
        refine tw_aload rfl rfl ?_
        refine tw_getS rfl (hi_111_46 gw.1) ?_
        refine tw_table rfl (fun q773 => ?_) (fun t9 q773a q773b q773c => ?_)
        · try dsimp only [tvI_i, tvJ_j, tvR_r] at q773
          refine tw_aload rfl rfl ?_
          obtain ⟨hv1, hv2, hv3, hv4, hv6⟩ := hv.resolve_right (fun z => by obtain ⟨e, z, -⟩ := z; exact mFt_n z q772)
          have hst : tvI (tF h1 111 46) = 3 := by
            refine Int32.toInt_inj.mp ?_
            show (tvI (tF h1 111 46)).toInt = 3
            have a4 : stN (tvI (tF h1 111 46)) ≤ 4 := hv4
            unfold stN at a4
            have a6 : ¬ (tvI (tF h1 111 46)).toInt < 0 := fun z => by rw [if_pos z] at a4; omega
            rw [if_neg a6] at a4
            have c29 : (2 : Int32).toInt = 2 := rfl
            have a5 : (tvI (tF h1 111 46)).toInt ≠ 4 := fun z => q771 (Int32.toInt_inj.mp z)
            have z0 := q773
            try dsimp only [tvI_i] at z0
            omega
          refine tw_virt0 rfl (g_behindFact hG hX gw.1 hv1 ((mFw_T gw).trans hT) ((mFw_n gw).trans hN) hv2 (Nat.le_trans hv3 (by decide)) hst) (fun wp774 hp774 p774 => ?_)
          obtain ⟨rfl, gp774, op774⟩ := p774
          refine tw_goto rfl ?_
          have hm1 : mst h1 = (3, mSk h1, ms h1) := by unfold mst; rw [hst]; rfl
          rw [hm1] at hv6
          refine tG_cut (zW_mono zTt G dp) (Or.inr ⟨rfl, rfl, _, rfl, mFw_t gw (mFw_q gp774), (by rw [mFq_47 gp774]; exact hT1), ?_, rfl⟩)
          cases hy : mSt T n tst (3, mSk h1, ms h1) with
          | inl e =>
            have op774 : mOut (mSt T n tst (3, mSk h1, ms h1)) hp774 := op774
            rw [hy] at op774
            exact Or.inr ⟨e, op774.1, op774.2, mRe_t hv6 (mRe_f hy)⟩
          | inr x2 =>
            have op774 : mOut (mSt T n tst (3, mSk h1, ms h1)) hp774 := op774
            rw [hy] at op774
            obtain ⟨o1, o2, o3⟩ := op774
            have hdp := mSt_dp hv3 (by decide) hy
            have o4 := mRe_t hv6 (mRe_s hy mRe_0)
            rw [← o3] at hdp o4
            exact Or.inl ⟨o1, o2, hdp.1, hdp.2, o4⟩
        · have q773d : (tvI (.int (tvI (tF h1 111 46)))).toInt = 0 ∨ (tvI (.int (tvI (tF h1 111 46)))).toInt = 1 ∨ (tvI (.int (tvI (tF h1 111 46)))).toInt = 2 := by omega
          rcases q773d with q773 | q773 | q773
          · obtain rfl : t9 = 68 := by rw [q773] at q773c; exact Option.some.inj (q773c.symm.trans rfl)
            try dsimp only [tvI_i, tvJ_j, tvR_r] at q773
            refine tw_aload rfl rfl ?_
            obtain ⟨hv1, hv2, hv3, hv4, hv6⟩ := hv.resolve_right (fun z => by obtain ⟨e, z, -⟩ := z; exact mFt_n z q772)
            have hst : tvI (tF h1 111 46) = 0 := by
              refine Int32.toInt_inj.mp ?_
              show (tvI (tF h1 111 46)).toInt = 0
              have a4 : stN (tvI (tF h1 111 46)) ≤ 4 := hv4
              unfold stN at a4
              have a6 : ¬ (tvI (tF h1 111 46)).toInt < 0 := fun z => by rw [if_pos z] at a4; omega
              rw [if_neg a6] at a4
              have c29 : (2 : Int32).toInt = 2 := rfl
              have a5 : (tvI (tF h1 111 46)).toInt ≠ 4 := fun z => q771 (Int32.toInt_inj.mp z)
              have z0 := q773
              try dsimp only [tvI_i] at z0
              omega
            refine tw_virt0 rfl (g_beginsFact hG hX gw.1 hv1 ((mFw_T gw).trans hT) ((mFw_n gw).trans hN) hv2 (Nat.le_trans hv3 (by decide)) hst) (fun wp775 hp775 p775 => ?_)
            obtain ⟨rfl, gp775, op775⟩ := p775
            refine tw_goto rfl ?_
            have hm1 : mst h1 = (0, mSk h1, ms h1) := by unfold mst; rw [hst]; rfl
            rw [hm1] at hv6
            refine tG_cut (zW_mono zTt G dp) (Or.inr ⟨rfl, rfl, _, rfl, mFw_t gw (mFw_q gp775), (by rw [mFq_47 gp775]; exact hT1), ?_, rfl⟩)
            cases hy : mSt T n tst (0, mSk h1, ms h1) with
            | inl e =>
              have op775 : mOut (mSt T n tst (0, mSk h1, ms h1)) hp775 := op775
              rw [hy] at op775
              exact Or.inr ⟨e, op775.1, op775.2, mRe_t hv6 (mRe_f hy)⟩
            | inr x2 =>
              have op775 : mOut (mSt T n tst (0, mSk h1, ms h1)) hp775 := op775
              rw [hy] at op775
              obtain ⟨o1, o2, o3⟩ := op775
              have hdp := mSt_dp hv3 (by decide) hy
              have o4 := mRe_t hv6 (mRe_s hy mRe_0)
              rw [← o3] at hdp o4
              exact Or.inl ⟨o1, o2, hdp.1, hdp.2, o4⟩
          · obtain rfl : t9 = 75 := by rw [q773] at q773c; exact Option.some.inj (q773c.symm.trans rfl)
            try dsimp only [tvI_i, tvJ_j, tvR_r] at q773
            refine tw_aload rfl rfl ?_
            obtain ⟨hv1, hv2, hv3, hv4, hv6⟩ := hv.resolve_right (fun z => by obtain ⟨e, z, -⟩ := z; exact mFt_n z q772)
            have hst : tvI (tF h1 111 46) = 1 := by
              refine Int32.toInt_inj.mp ?_
              show (tvI (tF h1 111 46)).toInt = 1
              have a4 : stN (tvI (tF h1 111 46)) ≤ 4 := hv4
              unfold stN at a4
              have a6 : ¬ (tvI (tF h1 111 46)).toInt < 0 := fun z => by rw [if_pos z] at a4; omega
              rw [if_neg a6] at a4
              have c29 : (2 : Int32).toInt = 2 := rfl
              have a5 : (tvI (tF h1 111 46)).toInt ≠ 4 := fun z => q771 (Int32.toInt_inj.mp z)
              have z0 := q773
              try dsimp only [tvI_i] at z0
              omega
            refine tw_virt0 rfl (g_value hG hX gw.1 hv1 ((mFw_T gw).trans hT) ((mFw_n gw).trans hN) hv2 (Nat.le_trans hv3 (by decide)) hst) (fun wp776 hp776 p776 => ?_)
            obtain ⟨rfl, gp776, op776⟩ := p776
            refine tw_goto rfl ?_
            have hm1 : mst h1 = (1, mSk h1, ms h1) := by unfold mst; rw [hst]; rfl
            rw [hm1] at hv6
            refine tG_cut (zW_mono zTt G dp) (Or.inr ⟨rfl, rfl, _, rfl, mFw_t gw (mFw_q gp776), (by rw [mFq_47 gp776]; exact hT1), ?_, rfl⟩)
            cases hy : mSt T n tst (1, mSk h1, ms h1) with
            | inl e =>
              have op776 : mOut (mSt T n tst (1, mSk h1, ms h1)) hp776 := op776
              rw [hy] at op776
              exact Or.inr ⟨e, op776.1, op776.2, mRe_t hv6 (mRe_f hy)⟩
            | inr x2 =>
              have op776 : mOut (mSt T n tst (1, mSk h1, ms h1)) hp776 := op776
              rw [hy] at op776
              obtain ⟨o1, o2, o3⟩ := op776
              have hdp := mSt_dp hv3 (by decide) hy
              have o4 := mRe_t hv6 (mRe_s hy mRe_0)
              rw [← o3] at hdp o4
              exact Or.inl ⟨o1, o2, hdp.1, hdp.2, o4⟩
          · obtain rfl : t9 = 82 := by rw [q773] at q773c; exact Option.some.inj (q773c.symm.trans rfl)
            try dsimp only [tvI_i, tvJ_j, tvR_r] at q773
            refine tw_aload rfl rfl ?_
            obtain ⟨hv1, hv2, hv3, hv4, hv6⟩ := hv.resolve_right (fun z => by obtain ⟨e, z, -⟩ := z; exact mFt_n z q772)
            have hst : tvI (tF h1 111 46) = 2 := by
              refine Int32.toInt_inj.mp ?_
              show (tvI (tF h1 111 46)).toInt = 2
              have a4 : stN (tvI (tF h1 111 46)) ≤ 4 := hv4
              unfold stN at a4
              have a6 : ¬ (tvI (tF h1 111 46)).toInt < 0 := fun z => by rw [if_pos z] at a4; omega
              rw [if_neg a6] at a4
              have c29 : (2 : Int32).toInt = 2 := rfl
              have a5 : (tvI (tF h1 111 46)).toInt ≠ 4 := fun z => q771 (Int32.toInt_inj.mp z)
              have z0 := q773
              try dsimp only [tvI_i] at z0
              omega
            refine tw_virt0 rfl (g_behindValue hG hX gw.1 hv1 ((mFw_T gw).trans hT) ((mFw_n gw).trans hN) hv2 (Nat.le_trans hv3 (by decide)) (tst := tst) hT1 hst) (fun wp777 hp777 p777 => ?_)
            obtain ⟨rfl, gp777, op777⟩ := p777
            refine tw_goto rfl ?_
            have hm1 : mst h1 = (2, mSk h1, ms h1) := by unfold mst; rw [hst]; rfl
            rw [hm1] at hv6
            refine tG_cut (zW_mono zTt G dp) (Or.inr ⟨rfl, rfl, _, rfl, mFw_t gw (mFw_q gp777), (by rw [mFq_47 gp777]; exact hT1), ?_, rfl⟩)
            cases hy : mSt T n tst (2, mSk h1, ms h1) with
            | inl e =>
              have op777 : mOut (mSt T n tst (2, mSk h1, ms h1)) hp777 := op777
              rw [hy] at op777
              exact Or.inr ⟨e, op777.1, op777.2, mRe_t hv6 (mRe_f hy)⟩
            | inr x2 =>
              have op777 : mOut (mSt T n tst (2, mSk h1, ms h1)) hp777 := op777
              rw [hy] at op777
              obtain ⟨o1, o2, o3⟩ := op777
              have hdp := mSt_dp hv3 (by decide) hy
              have o4 := mRe_t hv6 (mRe_s hy mRe_0)
              rw [← o3] at hdp o4
              exact Or.inl ⟨o1, o2, hdp.1, hdp.2, o4⟩
  · try dsimp only [tvI_i, tvJ_j, tvR_r] at q769
    have q769i := zeqi (Y := 0) (by decide) q769
    refine tw_push rfl ?_
    refine tw_goto rfl ?_
    refine tw_put rfl (fun f778 => ?_)
    refine tG_setm f778 (hw_111_47 f778 ef768.1) (fun hf778 ef778 => ?_)
    try dsimp only [tvI_i] at ef778
    refine tG_loop (zW_mono zTt G dp) (zW_conj zTt G dp) (V := fun pc L st h9 _ _ => pc = 23 ∧ st = [] ∧ ∃ h1, h1 = h9 ∧ mFw h h1 ∧ (¬ tvI (tF h1 111 47) = 0 ↔ tst = true) ∧ ((mP h1 ∧ mD h1 ∧ mDp (mSk h1) ≤ 10 ∧ (mst h1).1 ≤ 4 ∧ mRe T n tst (stN x, [], ms h) (.inr (mst h1))) ∨ ∃ e, mFt h1 e ∧ mZp h1 ∧ mRe T n tst (stN x, [], ms h) (.inl e)) ∧ L = [some (.ref 111), some (.int x)]) ?_ (⟨rfl, rfl, _, rfl, (mRst hx0 hp hd0 ef767 ef768 ef778).1, (by rw [(mRst hx0 hp hd0 ef767 ef768 ef778).2.2.2.2]; exact ⟨fun _ => hts.mp q769, fun _ => by decide⟩), Or.inl ⟨(mRst hx0 hp hd0 ef767 ef768 ef778).2.1, (mRst hx0 hp hd0 ef767 ef768 ef778).2.2.1, (by have z := congrArg (fun q : rMs => q.2.1) (mRst hx0 hp hd0 ef767 ef768 ef778).2.2.2.1; have z : mSk _ = [] := z; rw [z]; exact Nat.zero_le _), (by rw [(mRst hx0 hp hd0 ef767 ef768 ef778).2.2.2.1]; exact hx4), by rw [(mRst hx0 hp hd0 ef767 ef768 ef778).2.2.2.1]; exact mRe_0⟩, rfl⟩)
    rintro _ _ _ _ _ _ ⟨rfl, rfl, h1, rfl, gw, hT1, hv, rfl⟩
    refine tw_aload rfl rfl ?_
    refine tw_getS rfl (hi_111_46 gw.1) ?_
    refine tw_push rfl ?_
    refine tw_ic_eq rfl (fun q779 => ?_) (fun q779 => ?_)
    · try dsimp only [tvI_i, tvJ_j, tvR_r] at q779
      have q779i := zeqi (Y := 4) (by decide) q779
      rcases hv with ⟨hv1, hv2, hv3, hv4, hv6⟩ | ⟨e, hv1, hv2, hv3⟩
      · have hm1 : mst h1 = (4, mSk h1, ms h1) := by unfold mst; rw [q779]; rfl
        rw [hm1] at hv6
        exact tw_vret rfl ⟨rfl, gw, Or.inl ⟨hv1, hv2, hv6⟩⟩
      · exact tw_vret rfl ⟨rfl, gw, Or.inr ⟨e, hv1, hv2, hv3⟩⟩
    · try dsimp only [tvI_i, tvJ_j, tvR_r] at q779
      have q779i := zneq (Y := 4) (by decide) q779
      refine tw_aload rfl rfl ?_
      refine tw_getS rfl (hi_111_29 gw.1) ?_
      refine tw_if_ne rfl (fun q780 => ?_) (fun q780 => ?_)
      · try dsimp only [tvI_i, tvJ_j, tvR_r] at q780
        have q780i := zneq (Y := 0) (by decide) q780
        rcases hv with ⟨hv1, -⟩ | ⟨e, hv1, hv2, hv3⟩
        · exact absurd (mP_0 hv1) q780
        · exact tw_vret rfl ⟨rfl, gw, Or.inr ⟨e, hv1, hv2, hv3⟩⟩
      · try dsimp only [tvI_i, tvJ_j, tvR_r] at q780
        have q780i := zeqi (Y := 0) (by decide) q780
        refine tw_aload rfl rfl ?_
        refine tw_getS rfl (hi_111_46 gw.1) ?_
        refine tw_table rfl (fun q781 => ?_) (fun t9 q781a q781b q781c => ?_)
        · try dsimp only [tvI_i, tvJ_j, tvR_r] at q781
          refine tw_aload rfl rfl ?_
          obtain ⟨hv1, hv2, hv3, hv4, hv6⟩ := hv.resolve_right (fun z => by obtain ⟨e, z, -⟩ := z; exact mFt_n z q780)
          have hst : tvI (tF h1 111 46) = 3 := by
            refine Int32.toInt_inj.mp ?_
            show (tvI (tF h1 111 46)).toInt = 3
            have a4 : stN (tvI (tF h1 111 46)) ≤ 4 := hv4
            unfold stN at a4
            have a6 : ¬ (tvI (tF h1 111 46)).toInt < 0 := fun z => by rw [if_pos z] at a4; omega
            rw [if_neg a6] at a4
            have c29 : (2 : Int32).toInt = 2 := rfl
            have a5 : (tvI (tF h1 111 46)).toInt ≠ 4 := fun z => q779 (Int32.toInt_inj.mp z)
            have z0 := q781
            try dsimp only [tvI_i] at z0
            omega
          refine tw_virt0 rfl (g_behindFact hG hX gw.1 hv1 ((mFw_T gw).trans hT) ((mFw_n gw).trans hN) hv2 (Nat.le_trans hv3 (by decide)) hst) (fun wp782 hp782 p782 => ?_)
          obtain ⟨rfl, gp782, op782⟩ := p782
          refine tw_goto rfl ?_
          have hm1 : mst h1 = (3, mSk h1, ms h1) := by unfold mst; rw [hst]; rfl
          rw [hm1] at hv6
          refine tG_cut (zW_mono zTt G dp) (Or.inr ⟨rfl, rfl, _, rfl, mFw_t gw (mFw_q gp782), (by rw [mFq_47 gp782]; exact hT1), ?_, rfl⟩)
          cases hy : mSt T n tst (3, mSk h1, ms h1) with
          | inl e =>
            have op782 : mOut (mSt T n tst (3, mSk h1, ms h1)) hp782 := op782
            rw [hy] at op782
            exact Or.inr ⟨e, op782.1, op782.2, mRe_t hv6 (mRe_f hy)⟩
          | inr x2 =>
            have op782 : mOut (mSt T n tst (3, mSk h1, ms h1)) hp782 := op782
            rw [hy] at op782
            obtain ⟨o1, o2, o3⟩ := op782
            have hdp := mSt_dp hv3 (by decide) hy
            have o4 := mRe_t hv6 (mRe_s hy mRe_0)
            rw [← o3] at hdp o4
            exact Or.inl ⟨o1, o2, hdp.1, hdp.2, o4⟩
        · have q781d : (tvI (.int (tvI (tF h1 111 46)))).toInt = 0 ∨ (tvI (.int (tvI (tF h1 111 46)))).toInt = 1 ∨ (tvI (.int (tvI (tF h1 111 46)))).toInt = 2 := by omega
          rcases q781d with q781 | q781 | q781
          · obtain rfl : t9 = 68 := by rw [q781] at q781c; exact Option.some.inj (q781c.symm.trans rfl)
            try dsimp only [tvI_i, tvJ_j, tvR_r] at q781
            refine tw_aload rfl rfl ?_
            obtain ⟨hv1, hv2, hv3, hv4, hv6⟩ := hv.resolve_right (fun z => by obtain ⟨e, z, -⟩ := z; exact mFt_n z q780)
            have hst : tvI (tF h1 111 46) = 0 := by
              refine Int32.toInt_inj.mp ?_
              show (tvI (tF h1 111 46)).toInt = 0
              have a4 : stN (tvI (tF h1 111 46)) ≤ 4 := hv4
              unfold stN at a4
              have a6 : ¬ (tvI (tF h1 111 46)).toInt < 0 := fun z => by rw [if_pos z] at a4; omega
              rw [if_neg a6] at a4
              have c29 : (2 : Int32).toInt = 2 := rfl
              have a5 : (tvI (tF h1 111 46)).toInt ≠ 4 := fun z => q779 (Int32.toInt_inj.mp z)
              have z0 := q781
              try dsimp only [tvI_i] at z0
              omega
            refine tw_virt0 rfl (g_beginsFact hG hX gw.1 hv1 ((mFw_T gw).trans hT) ((mFw_n gw).trans hN) hv2 (Nat.le_trans hv3 (by decide)) hst) (fun wp783 hp783 p783 => ?_)
            obtain ⟨rfl, gp783, op783⟩ := p783
            refine tw_goto rfl ?_
            have hm1 : mst h1 = (0, mSk h1, ms h1) := by unfold mst; rw [hst]; rfl
            rw [hm1] at hv6
            refine tG_cut (zW_mono zTt G dp) (Or.inr ⟨rfl, rfl, _, rfl, mFw_t gw (mFw_q gp783), (by rw [mFq_47 gp783]; exact hT1), ?_, rfl⟩)
            cases hy : mSt T n tst (0, mSk h1, ms h1) with
            | inl e =>
              have op783 : mOut (mSt T n tst (0, mSk h1, ms h1)) hp783 := op783
              rw [hy] at op783
              exact Or.inr ⟨e, op783.1, op783.2, mRe_t hv6 (mRe_f hy)⟩
            | inr x2 =>
              have op783 : mOut (mSt T n tst (0, mSk h1, ms h1)) hp783 := op783
              rw [hy] at op783
              obtain ⟨o1, o2, o3⟩ := op783
              have hdp := mSt_dp hv3 (by decide) hy
              have o4 := mRe_t hv6 (mRe_s hy mRe_0)
              rw [← o3] at hdp o4
              exact Or.inl ⟨o1, o2, hdp.1, hdp.2, o4⟩
          · obtain rfl : t9 = 75 := by rw [q781] at q781c; exact Option.some.inj (q781c.symm.trans rfl)
            try dsimp only [tvI_i, tvJ_j, tvR_r] at q781
            refine tw_aload rfl rfl ?_
            obtain ⟨hv1, hv2, hv3, hv4, hv6⟩ := hv.resolve_right (fun z => by obtain ⟨e, z, -⟩ := z; exact mFt_n z q780)
            have hst : tvI (tF h1 111 46) = 1 := by
              refine Int32.toInt_inj.mp ?_
              show (tvI (tF h1 111 46)).toInt = 1
              have a4 : stN (tvI (tF h1 111 46)) ≤ 4 := hv4
              unfold stN at a4
              have a6 : ¬ (tvI (tF h1 111 46)).toInt < 0 := fun z => by rw [if_pos z] at a4; omega
              rw [if_neg a6] at a4
              have c29 : (2 : Int32).toInt = 2 := rfl
              have a5 : (tvI (tF h1 111 46)).toInt ≠ 4 := fun z => q779 (Int32.toInt_inj.mp z)
              have z0 := q781
              try dsimp only [tvI_i] at z0
              omega
            refine tw_virt0 rfl (g_value hG hX gw.1 hv1 ((mFw_T gw).trans hT) ((mFw_n gw).trans hN) hv2 (Nat.le_trans hv3 (by decide)) hst) (fun wp784 hp784 p784 => ?_)
            obtain ⟨rfl, gp784, op784⟩ := p784
            refine tw_goto rfl ?_
            have hm1 : mst h1 = (1, mSk h1, ms h1) := by unfold mst; rw [hst]; rfl
            rw [hm1] at hv6
            refine tG_cut (zW_mono zTt G dp) (Or.inr ⟨rfl, rfl, _, rfl, mFw_t gw (mFw_q gp784), (by rw [mFq_47 gp784]; exact hT1), ?_, rfl⟩)
            cases hy : mSt T n tst (1, mSk h1, ms h1) with
            | inl e =>
              have op784 : mOut (mSt T n tst (1, mSk h1, ms h1)) hp784 := op784
              rw [hy] at op784
              exact Or.inr ⟨e, op784.1, op784.2, mRe_t hv6 (mRe_f hy)⟩
            | inr x2 =>
              have op784 : mOut (mSt T n tst (1, mSk h1, ms h1)) hp784 := op784
              rw [hy] at op784
              obtain ⟨o1, o2, o3⟩ := op784
              have hdp := mSt_dp hv3 (by decide) hy
              have o4 := mRe_t hv6 (mRe_s hy mRe_0)
              rw [← o3] at hdp o4
              exact Or.inl ⟨o1, o2, hdp.1, hdp.2, o4⟩
          · obtain rfl : t9 = 82 := by rw [q781] at q781c; exact Option.some.inj (q781c.symm.trans rfl)
            try dsimp only [tvI_i, tvJ_j, tvR_r] at q781
            refine tw_aload rfl rfl ?_
            obtain ⟨hv1, hv2, hv3, hv4, hv6⟩ := hv.resolve_right (fun z => by obtain ⟨e, z, -⟩ := z; exact mFt_n z q780)
            have hst : tvI (tF h1 111 46) = 2 := by
              refine Int32.toInt_inj.mp ?_
              show (tvI (tF h1 111 46)).toInt = 2
              have a4 : stN (tvI (tF h1 111 46)) ≤ 4 := hv4
              unfold stN at a4
              have a6 : ¬ (tvI (tF h1 111 46)).toInt < 0 := fun z => by rw [if_pos z] at a4; omega
              rw [if_neg a6] at a4
              have c29 : (2 : Int32).toInt = 2 := rfl
              have a5 : (tvI (tF h1 111 46)).toInt ≠ 4 := fun z => q779 (Int32.toInt_inj.mp z)
              have z0 := q781
              try dsimp only [tvI_i] at z0
              omega
            refine tw_virt0 rfl (g_behindValue hG hX gw.1 hv1 ((mFw_T gw).trans hT) ((mFw_n gw).trans hN) hv2 (Nat.le_trans hv3 (by decide)) (tst := tst) hT1 hst) (fun wp785 hp785 p785 => ?_)
            obtain ⟨rfl, gp785, op785⟩ := p785
            refine tw_goto rfl ?_
            have hm1 : mst h1 = (2, mSk h1, ms h1) := by unfold mst; rw [hst]; rfl
            rw [hm1] at hv6
            refine tG_cut (zW_mono zTt G dp) (Or.inr ⟨rfl, rfl, _, rfl, mFw_t gw (mFw_q gp785), (by rw [mFq_47 gp785]; exact hT1), ?_, rfl⟩)
            cases hy : mSt T n tst (2, mSk h1, ms h1) with
            | inl e =>
              have op785 : mOut (mSt T n tst (2, mSk h1, ms h1)) hp785 := op785
              rw [hy] at op785
              exact Or.inr ⟨e, op785.1, op785.2, mRe_t hv6 (mRe_f hy)⟩
            | inr x2 =>
              have op785 : mOut (mSt T n tst (2, mSk h1, ms h1)) hp785 := op785
              rw [hy] at op785
              obtain ⟨o1, o2, o3⟩ := op785
              have hdp := mSt_dp hv3 (by decide) hy
              have o4 := mRe_t hv6 (mRe_s hy mRe_0)
              rw [← o3] at hdp o4
              exact Or.inl ⟨o1, o2, hdp.1, hdp.2, o4⟩
/-! the model's clause, held against what the class found -/
section R8
variable {T : Nat → Int32} {n c k : Nat} {s s0 s1 s2 s9 : rS} {r : Nat ⊕ (rS × rCt)} {e th f0 : Nat}
theorem rM_bb {M p : Nat} : rM T n M (rB T n p) = rM T n M p := by
  unfold rM
  rw [rB_2]
theorem rCl_0 (h : rCl T n c s r) (hk : ∀ k, 12 ≤ k → k ≤ 15 → ¬ rW T n (rB T n s.1) (rWd k) = true) : r = .inl (1 + 8 * rB T n s.1 + 0) := by
  rcases h with ⟨_, h⟩ | ⟨j, h1, h2, h3, _⟩
  · exact h
  · exact absurd h3 (hk j h1 h2)
theorem rCl_w (h : rCl T n c s r) (h1 : 12 ≤ k) (h2 : k ≤ 15) (hw : rW T n (rB T n s.1) (rWd k) = true) : (c = 12 ∧ r = .inl (1 + 8 * rB T n s.1 + 4)) ∨ (c ≠ 12 ∧ rCl1 T n k (rA (rE T n (rB T n s.1)) s) r) := by
  rcases h with ⟨h, _⟩ | ⟨j, j1, j2, j3, h⟩
  · exact absurd hw (h k h1 h2)
  · obtain rfl := rW_ij (by omega) (by omega) j3 hw
    exact h
theorem rCl_cc (h : rCl T n c s r) (h1 : 12 ≤ k) (h2 : k ≤ 15) (hw : rW T n (rB T n s.1) (rWd k) = true) (hc : c = 12) : r = .inl (1 + 8 * rB T n s.1 + 4) := by
  rcases rCl_w h h1 h2 hw with ⟨_, z⟩ | ⟨z, _⟩
  · exact z
  · exact absurd hc z
theorem rCl_g (h : rCl T n c s r) (h1 : 12 ≤ k) (h2 : k ≤ 15) (hw : rW T n (rB T n s.1) (rWd k) = true) (hc : c ≠ 12) : rCl1 T n k (rA (rE T n (rB T n s.1)) s) r := by
  rcases rCl_w h h1 h2 hw with ⟨z, _⟩ | ⟨_, z⟩
  · exact absurd z hc
  · exact z
theorem rCl1_e (h : rCl1 T n k s0 r) (hk : k = 12) (hm : rM T n 2 s0.1 = .inl e) : r = .inl e := by
  rcases h with ⟨_, ⟨e2, h2, h3⟩ | ⟨q, h2, _⟩⟩ | ⟨z, _⟩
  · rw [hm] at h2; cases h2; exact h3
  · rw [hm] at h2; cases h2
  · exact absurd hk z
theorem rCl1_q {q : Nat × Nat} (h : rCl1 T n k s0 r) (hk : k = 12) (hm : rM T n 2 s0.1 = .inr q) : rCl2 T n k q.2 (rA q.1 s0) r := by
  rcases h with ⟨_, ⟨e2, h2, h3⟩ | ⟨q2, h2, h3⟩⟩ | ⟨z, _⟩
  · rw [hm] at h2; cases h2
  · rw [hm] at h2; cases h2; exact h3
  · exact absurd hk z
theorem rCl1_n (h : rCl1 T n k s0 r) (hk : k ≠ 12) : rCl2 T n k k s0 r := by
  rcases h with ⟨z, _⟩ | ⟨_, h⟩
  · exact absurd z hk
  · exact h
theorem rCl2_15 (h : rCl2 T n k th s1 r) (hk : k = 15) : rCl3 T n k th s1.2.2.length s1 r := by
  rcases h with ⟨_, h⟩ | ⟨z, _⟩
  · exact h
  · exact absurd hk z
theorem pE_mS {r : Nat ⊕ rS} {y : rMo} (h : pE T n 3 0 s r) (m : mRe T n false (1, [], s) y) (hy : mHt y) : y = mEnd (r.map id (fun z => rA (rB T n z.1) z)) := by
  obtain ⟨N, hN⟩ := h
  refine mRe_u m (mSum (hN N (Nat.le_refl _))) hy ?_
  cases r with
  | inl e => exact trivial
  | inr s2 => exact Nat.le_refl 4
theorem pE_mT {r : Nat ⊕ rS} {y : rMo} (h : pE T n 9 0 s r) (m : mRe T n true (0, [], s) y) (hy : mHt y) : y = mEnd (r.map id (fun z => rA (rB T n z.1) z)) := by
  obtain ⟨N, hN⟩ := h
  refine mRe_u m (mTst (hN N (Nat.le_refl _))) hy ?_
  cases r with
  | inl e => exact trivial
  | inr s2 => exact Nat.le_refl 4
theorem rCl2_e (h : rCl2 T n k th s1 r) (hk : k ≠ 15) (hm : mRe T n false (1, [], s1) (.inl e)) : r = .inl e := by
  rcases h with ⟨z, _⟩ | ⟨_, ⟨e2, h2, h3⟩ | ⟨s2, h2, _⟩⟩
  · exact absurd z hk
  · have z := pE_mS h2 hm trivial
    cases z
    exact h3
  · have z := pE_mS h2 hm trivial
    cases z
theorem rCl2_s {S : List Nat} (h : rCl2 T n k th s1 r) (hk : k ≠ 15) (hm : mRe T n false (1, [], s1) (.inr (4, S, s9))) : S = [] ∧ ∃ s2, s9 = rA (rB T n s2.1) s2 ∧ rCl3 T n k th s1.2.2.length s2 r := by
  rcases h with ⟨z, _⟩ | ⟨_, ⟨e2, h2, _⟩ | ⟨s2, h2, h3⟩⟩
  · exact absurd z hk
  · have z := pE_mS h2 hm (Nat.le_refl 4)
    cases z
  · have z := pE_mS h2 hm (Nat.le_refl 4)
    have z : (Sum.inr (4, S, s9) : rMo) = .inr (4, [], rA (rB T n s2.1) s2) := z
    cases z
    exact ⟨rfl, s2, rfl, h3⟩
theorem rCl3_e (h : rCl3 T n k th f0 s2 r) (hw : rW T n (rB T n s2.1) (rWd 16) = true) (hm : mRe T n true (0, [], rA (rB T n s2.1 + 2) s2) (.inl e)) : r = .inl e := by
  rcases h with ⟨_, ⟨e2, h2, h3⟩ | ⟨s3, h2, _⟩⟩ | ⟨z, _⟩ | ⟨z, _⟩
  · have z := pE_mT h2 hm trivial
    cases z
    exact h3
  · have z := pE_mT h2 hm trivial
    cases z
  · exact absurd hw z
  · exact absurd hw z
theorem rCl3_s {S : List Nat} (h : rCl3 T n k th f0 s2 r) (hw : rW T n (rB T n s2.1) (rWd 16) = true) (hm : mRe T n true (0, [], rA (rB T n s2.1 + 2) s2) (.inr (4, S, s9))) : S = [] ∧ ∃ s3, s9 = rA (rB T n s3.1) s3 ∧ r = .inr (s3, th, f0, s2.2.2.length, s3.2.2.length) := by
  rcases h with ⟨_, ⟨e2, h2, _⟩ | ⟨s3, h2, h3⟩⟩ | ⟨z, _⟩ | ⟨z, _⟩
  · have z := pE_mT h2 hm (Nat.le_refl 4)
    cases z
  · have z := pE_mT h2 hm (Nat.le_refl 4)
    have z : (Sum.inr (4, S, s9) : rMo) = .inr (4, [], rA (rB T n s3.1) s3) := z
    cases z
    exact ⟨rfl, s3, rfl, h3⟩
  · exact absurd hw z
  · exact absurd hw z
theorem rCl3_1 (h : rCl3 T n k th f0 s2 r) (hw : ¬ rW T n (rB T n s2.1) (rWd 16) = true) (hk : k = 15) : r = .inl (1 + 8 * rB T n s2.1 + 0) := by
  rcases h with ⟨z, _⟩ | ⟨_, _, h⟩ | ⟨_, z, _⟩
  · exact absurd z hw
  · exact h
  · exact absurd hk z
theorem rCl3_2 (h : rCl3 T n k th f0 s2 r) (hw : ¬ rW T n (rB T n s2.1) (rWd 16) = true) (hk : k ≠ 15) : r = .inr (rA (rB T n s2.1) s2, th, f0, s2.2.2.length, s2.2.2.length) := by
  rcases h with ⟨z, _⟩ | ⟨_, z, _⟩ | ⟨_, _, h⟩
  · exact absurd z hw
  · exact absurd z hk
  · exact h
end R8
/-! a whole clause's frame: what lies below lo stays -/
noncomputable def mFz (lo : Nat) (h h2 : zH) : Prop := tSh h2 ∧ (∀ p b, ¬ (p = 111 ∧ (mFs b ∨ b = 46 ∨ b = 47)) → tF h2 p b = tF h p b) ∧ (∀ p, p ≠ 133 → p ≠ 134 → p ≠ 142 → (p < 135 ∨ 139 < p) → tA h2 p = tA h p) ∧ tN h2 = tN h ∧ mLo h h2 ∧ ∀ p q, 135 ≤ p → p ≤ 139 → q < lo → tA h2 p q = tA h p q
noncomputable def mAs (p i : Nat) (x : Int32) (h h3 : zH) : Prop := tSh h3 ∧ tF h3 = tF h ∧ tN h3 = tN h ∧ tA h3 = fun q j => if q = p ∧ j = i then x else tA h q j
section MZ
variable {h h1 h2 h3 : zH} {b e lo p i : Nat} {X x : Int32}
theorem mFz_r (hs : tSh h) : mFz lo h h := ⟨hs, fun _ _ _ => rfl, fun _ _ _ _ _ => rfl, rfl, mLo_r, fun _ _ _ _ _ => rfl⟩
theorem mFz_w (k : mFw h h2) : mFz lo h h2 := ⟨k.1, k.2.1, fun p a b c _ => k.2.2.1 p a b c, k.2.2.2.1, k.2.2.2.2, fun p q h1 h2 _ => congrFun (k.2.2.1 p (by omega) (by omega) (by omega)) q⟩
theorem mFw_f (k : mFr h h2) : mFw h h2 := mFw_q (mFq_f k)
theorem mFz_t (a : mFz lo h h1) (k : mFz lo h1 h2) : mFz lo h h2 := ⟨k.1, fun p q z => (k.2.1 p q z).trans (a.2.1 p q z), fun p z w y v => (k.2.2.1 p z w y v).trans (a.2.2.1 p z w y v), k.2.2.2.1.trans a.2.2.2.1, mLo_t (a.2.1 111 30 (fun z => by have z := z.2; unfold mFs at z; omega)) a.2.2.2.2.1 k.2.2.2.2.1, fun p q z w v => (k.2.2.2.2.2 p q z w v).trans (a.2.2.2.2.2 p q z w v)⟩
theorem mFz_l {l2 : Nat} (hl : l2 ≤ lo) (a : mFz lo h h1) : mFz l2 h h1 := ⟨a.1, a.2.1, a.2.2.1, a.2.2.2.1, a.2.2.2.2.1, fun p q z w v => a.2.2.2.2.2 p q z w (by omega)⟩
theorem mFz_s (a : mFz lo h h1) (k : mSet b X h1 h2) (hb : mFs b ∨ b = 46 ∨ b = 47) : mFz lo h h2 := mFz_t a (mFz_w (mFw_s ⟨a.1, fun _ _ _ => rfl, fun _ _ _ _ => rfl, rfl, mLo_r⟩ k hb))
theorem mFz_a (a : mFz lo h h1) (k : mAs p i x h1 h2) (hp : 135 ≤ p ∧ p ≤ 139) (hi : lo ≤ i) : mFz lo h h2 := mFz_t a ⟨k.1, fun p q _ => by rw [k.2.1], fun q h1 h2 h3 h4 => by rw [k.2.2.2]; funext j; exact if_neg (fun z => by omega), k.2.2.1, fun q _ => ⟨by rw [k.2.2.2]; exact if_neg (fun z => by omega), by rw [k.2.2.2]; exact if_neg (fun z => by omega)⟩, fun q j h1 h2 h3 => by rw [k.2.2.2]; exact if_neg (fun z => by omega)⟩
theorem mFz_T (a : mFz lo h h1) : tA h1 132 = tA h 132 := a.2.2.1 132 (by decide) (by decide) (by decide) (by decide)
theorem mFz_i {q : Nat} (a : mFz lo h h1) (hq : ¬ (mFs q ∨ q = 46 ∨ q = 47)) : tF h1 111 q = tF h 111 q := a.2.1 111 q (fun z => hq z.2)
theorem mFz_27 (a : mFz lo h h1) : tF h1 111 27 = tF h 111 27 := mFz_i a (fun z => by unfold mFs at z; omega)
theorem mFz_30 (a : mFz lo h h1) : tF h1 111 30 = tF h 111 30 := mFz_i a (fun z => by unfold mFs at z; omega)
theorem mFz_n (a : mFz lo h h1) : mn h1 = mn h := by
  unfold mn
  rw [mFz_27 a]
theorem tG_ast {tt : zT} {G : zG} {cd : zK} {bc bs : Nat} {rt : Option FieldType} {M : zM} {Q : zQ} {Z : zX} {f : Bool} {pc : Nat} {L : zL} {st : List Value} {c n kd : Nat} {i : Int32} (hf : tIn h p kd i) (hs : tSh h) (k : ∀ h3, mAs p i.toNatClampNeg x h h3 → tG tt G cd bc bs rt M Q Z f pc L st h3 c n) : tG tt G cd bc bs rt M Q Z f pc L st (tSA h p i.toNatClampNeg x) c n := k _ ⟨tSh_SA hs, tF_tSA _ _ _ _, tN_tSA _ _ _ _, tA_tSA hf.cell _ _⟩
theorem mAs_x (k : mAs p i x h h3) : tA h3 p i = x := by rw [k.2.2.2]; exact if_pos ⟨rfl, rfl⟩
theorem mAs_o {q j : Nat} (k : mAs p i x h h3) (hq : q ≠ p) : tA h3 q j = tA h q j := by rw [k.2.2.2]; exact if_neg (fun z => hq z.1)
theorem mAs_A {q : Nat} (k : mAs p i x h h3) (hq : q ≠ p) : tA h3 q = tA h q := by funext j; exact mAs_o k hq
theorem mAs_P (k : mAs p i x h h3) (hp : 135 ≤ p ∧ p ≤ 139) (P : mP h) : mP h3 := by
  unfold mP
  rw [k.2.1, k.2.2.1, mAs_A k (q := 142) (by omega)]
  exact P
theorem mAs_m (k : mAs p i x h h3) (hp : 135 ≤ p ∧ p ≤ 139) : ms h3 = ms h ∧ mSk h3 = mSk h := by
  unfold ms mEn mSk
  rw [k.2.1, mAs_A k (q := 142) (by omega), mAs_A k (q := 133) (by omega), mAs_A k (q := 134) (by omega)]
  exact ⟨rfl, rfl⟩
theorem mAs_F {w : Nat} (k : mAs p i x h h3) (F : mFt h w) : mFt h3 w := by
  unfold mFt
  rw [k.2.1]
  exact F
theorem mAs_Z (k : mAs p i x h h3) (z : mZp h) : mZp h3 := mZp_k z (by rw [k.2.1]) (by rw [k.2.1])
/-- a clause as it stands in its row -/
noncomputable def mRow (h : zH) (i : Nat) : rCt := (if (tA h 135 i).toNatClampNeg = 0 ∧ (tA h 136 i).toNatClampNeg < 12 then (tA h 136 i).toNatClampNeg else 12 + (tA h 135 i).toNatClampNeg + 100 * (tA h 136 i).toNatClampNeg, (tA h 137 i).toNatClampNeg, (tA h 138 i).toNatClampNeg, (tA h 139 i).toNatClampNeg)
theorem mEn_len : (mEn h).length = (tvI (tF h 111 31)).toNatClampNeg := by unfold mEn; rw [List.length_map, List.length_range]
theorem rB_A {T : Nat → Int32} {n : Nat} {s : rS} : rA (rB T n (rA (rB T n s.1) s).1) (rA (rB T n s.1) s) = rA (rB T n s.1) s := by
  show rA (rB T n (rB T n s.1)) _ = _
  rw [rB_2]
  rfl
end MZ
theorem zl_14 {k : Nat} (hk : k < 4) : (ztx (k + 14)).length ≤ 200 ∧ 0 < (ztx (k + 14)).length := zl_lo (k + 12) (by omega)
theorem rWd_14 {k : Nat} (hk : k < 4) : rWd (k + 12) = ztx (k + 14) := rWd_lo (k + 12) (by omega)
theorem mFw_A {h h2 : zH} {p : Nat} (k : mFw h h2) (hp : 135 ≤ p ∧ p ≤ 139) : tA h2 p = tA h p := k.2.2.1 p (by omega) (by omega) (by omega)
theorem mFt_pos {h : zH} {e : Nat} (k : mFt h e) : 0 < e ∧ e < 100000 := k.2
theorem mSk_0 {h : zH} (d : mD h) (e : mSk h = []) : tvI (tF h 111 32) = 0 := by
  refine Int32.toInt_inj.mp (d.trans ?_)
  rw [e]
  rfl
theorem rA_1 {b : Nat} {s : rS} : (rA b s).1 = b := rfl
theorem rA_A {b v : Nat} {s : rS} : rA v (rA b s) = rA v s := rfl
theorem mIx {a y : Int32} {c : Nat} (ha : 0 ≤ a.toInt ∧ a.toInt ≤ 10) (hy : y.toInt = c) (hc : c ≤ 12) : (12 * a + y).toNatClampNeg = 12 * a.toNatClampNeg + c := by
  have n1 : (12 * a).toInt = 12 * a.toInt := by
    rw [Int32.toInt_mul, show (12 : Int32).toInt = 12 from rfl]
    exact Int.bmod_eq_of_le (by show (-2147483648 : Int) ≤ 12 * a.toInt; omega) (by show 12 * a.toInt < (2147483648 : Int); omega)
  have n2 : (12 * a + y).toInt = 12 * a.toInt + c := by
    rw [Int32.toInt_add, n1, hy]
    exact Int.bmod_eq_of_le (by show (-2147483648 : Int) ≤ 12 * a.toInt + c; omega) (by show 12 * a.toInt + c < (2147483648 : Int); omega)
  rw [zclE, zclE, n2]
  omega
noncomputable def mCo (T : Nat → Int32) (n I : Nat) (r : Nat ⊕ (rS × rCt)) (h2 : zH) : Prop := match r with
  | .inl e => mFt h2 e ∧ mZp h2
  | .inr x => mP h2 ∧ ms h2 = rA (rB T n x.1.1) x.1 ∧ tvI (tF h2 111 32) = 0 ∧ mRow h2 I = x.2
theorem mCo_l {T : Nat → Int32} {n I e : Nat} {r : Nat ⊕ (rS × rCt)} {h2 : zH} (hr : r = .inl e) (F : mFt h2 e) (Z : mZp h2) : mCo T n I r h2 := by
  rw [hr]
  exact ⟨F, Z⟩
theorem mCo_r {T : Nat → Int32} {n I : Nat} {r : Nat ⊕ (rS × rCt)} {h2 : zH} {s : rS} {t : rCt} (hr : r = .inr (s, t)) (p : mP h2) (e : ms h2 = rA (rB T n s.1) s) (d : tvI (tF h2 111 32) = 0) (w : mRow h2 I = t) : mCo T n I r h2 := by
  rw [hr]
  exact ⟨p, e, d, w⟩
theorem y_blanks {G : zG} (hG : G.1 = zProg) (hX : G.2.1 = ztx) {h : zH} {T : Nat → Int32} {n : Nat} (hs : tSh h) {ef : Nat} (hp : mFt h ef) (hT : tA h 132 = T) (hN : mn h = n) (h0 : mZp h) : tC zTt G 203 [.ref 111] h (fun w h2 => w = none ∧ mFr h h2 ∧ mFt h2 ef ∧ mZp h2) := by
  refine tC_in (by rw [hG]; rfl) (fun dp => ?_)
  have g0 := mFr_r hs
  refine tG_loop (zW_mono zTt G dp) (zW_conj zTt G dp) (V := fun pc L st h9 _ _ => pc = 0 ∧ st = [] ∧ ∃ h1, h1 = h9 ∧ mFr h h1 ∧ mFt h1 ef ∧ mZp h1 ∧ L = [some (.ref 111)]) ?_ (⟨rfl, rfl, _, rfl, g0, hp, h0, rfl⟩)
  rintro _ _ _ _ _ _ ⟨rfl, rfl, h1, rfl, g1, z1, h0, rfl⟩
  refine tw_aload rfl rfl ?_
  refine tw_virt0 rfl (g_sign hG hX (g1).1 ((mFr_T g1).trans hT) ((mFr_n g1).trans hN) h0.1) (fun wp786 hp786 p786 => ?_)
  obtain ⟨⟨cp786, rfl, kp786⟩, rfl⟩ := p786
  refine tw_push rfl ?_
  refine tw_ic_ne rfl (fun q787 => ?_) (fun q787 => ?_)
  · try dsimp only [tvI_i, tvJ_j, tvR_r] at q787
    have q787i := zneq (Y := 32) (by decide) q787
    exact tw_vret rfl ⟨rfl, g1, z1, h0⟩
  · try dsimp only [tvI_i, tvJ_j, tvR_r] at q787
    have q787i := zeqi (Y := 32) (by decide) q787
    refine tw_aload rfl rfl ?_
    refine tw_dup rfl ?_
    refine tw_getS rfl (hi_111_28 (g1).1) ?_
    refine tw_push rfl ?_
    refine tw_iadd rfl ?_
    refine tw_put rfl (fun f788 => ?_)
    refine tG_setm f788 (hw_111_28 f788 (g1).1) (fun hf788 ef788 => ?_)
    try dsimp only [tvI_i] at ef788
    have gf788 := mFr_s g1 ef788 (by unfold mFs; omega)
    have zf788 := mFt_s z1 ef788 (by decide)
    have wf788 := (sgm_k kp786 32 (by decide)).mp q787
    have if788 : mZp hf788 := by
      have y := (mpos h0.1).mpr (by rw [((mFr_n g1).trans hN)]; exact wf788.1)
      have a := zj1 h0.1.1 y
      have b := h0
      unfold mZp at b ⊢
      rw [mI_x ef788, mI_o ef788 (by decide), a]
      exact ⟨⟨by omega, by omega⟩, by omega, by omega⟩
    refine tw_goto rfl ?_
    exact tG_cut (zW_mono zTt G dp) (Or.inr ⟨rfl, rfl, _, rfl, gf788, zf788, if788, rfl⟩)
theorem g_clause {G : zG} (hG : G.1 = zProg) (hX : G.2.1 = ztx) {h : zH} {T : Nat → Int32} {n : Nat} (hs : tSh h) (hp : mP h) (hT : tA h 132 = T) (hN : mn h = n) {y : Int32} {c I : Nat} (hy : y.toInt = c) (hc : c ≤ 12) (hI : I = 12 * (tvI (tF h 111 30)).toNatClampNeg + c) (hd9 : tvI (tF h 111 32) = 0) {r : Nat ⊕ (rS × rCt)} (hr0 : rCl T n c (ms h) r) : tC zTt G 224 [.ref 111, .int y] h (fun w h2 => w = none ∧ mFz I h h2 ∧ mCo T n I r h2) := by
  refine tC_in (by rw [hG]; rfl) (fun dp => ?_)
  have g0 : mFz I h h := mFz_r hs
  have hpn : (ms h).1 ≤ n := mPle hp hN
  have hn4 : n ≤ 400 := by have a := mNl hp hN; have b := hp.2.1; omega
  have c09 : (0 : Int32).toInt = 0 := rfl
  have c39 : (3 : Int32).toInt = 3 := rfl
  have c49 : (4 : Int32).toInt = 4 := rfl
  have c129 : (12 : Int32).toInt = 12 := rfl
  refine tw_aload rfl rfl ?_
  refine tw_virt0 rfl (g_blanks hG hX (g0).1 hp ((mFz_T g0).trans hT) ((mFz_n g0).trans hN)) (fun wp789 hp789 p789 => ?_)
  obtain ⟨rfl, gp789, pp789e, sp789, tp789, dp789⟩ := p789
  have gwp789 := mFw_f gp789
  have gzp789 : mFz I h hp789 := mFz_t g0 (mFz_w gwp789)
  have Dp789 : tvI (tF hp789 111 32) = 0 := by rw [dp789]; exact hd9
  have Sp789 : ms hp789 = (rA (rB T n (ms h).1) (ms h)) := sp789
  refine tw_aload rfl rfl ?_
  refine tw_getS rfl (hi_111_28 gzp789.1) ?_
  refine tw_istore rfl ?_
  refine tw_push rfl ?_
  refine tw_istore rfl ?_
  refine tG_loop (zW_mono zTt G dp) (zW_conj zTt G dp) (V := fun pc L st h9 _ _ => pc = 11 ∧ st = [] ∧ hp789 = h9 ∧ ∃ (k : Nat) (x : Int32), x.toInt = k ∧ k ≤ 4 ∧ (∀ i, i < k → ¬ rW T n (rB T n (ms h).1) (rWd (i + 12)) = true) ∧ L = [some (.ref 111), some (.int y), some (.int (tvI (tF hp789 111 28))), some (.int x), none, none]) ?_ (⟨rfl, rfl, rfl, 0, 0, rfl, by decide, fun i hi => absurd hi (Nat.not_lt_zero _), rfl⟩)
  rintro _ _ _ _ _ _ ⟨rfl, rfl, rfl, k, x, hx, hk5, hall, rfl⟩
  refine tw_iload rfl rfl ?_
  refine tw_push rfl ?_
  refine tw_ic_ge rfl (fun q790 => ?_) (fun q790 => ?_)
  · try dsimp only [tvI_i, tvJ_j, tvR_r] at q790
    refine tw_iload rfl rfl ?_
    refine tw_push rfl ?_
    refine tw_ic_ne rfl (fun q791 => ?_) (fun q791 => ?_)
    · try dsimp only [tvI_i, tvJ_j, tvR_r] at q791
      have q791i := zneq (Y := 4) (by decide) q791
      exfalso
      have z1 := q790
      have z2 := q791i
      omega
    · try dsimp only [tvI_i, tvJ_j, tvR_r] at q791
      have q791i := zeqi (Y := 4) (by decide) q791
      refine tw_aload rfl rfl ?_
      refine tw_push rfl ?_
      refine tw_iload rfl rfl ?_
      refine tw_virt2 rfl (g_fails hG hX (gzp789).1 pp789e ((mFz_T gzp789).trans hT) ((mFz_n gzp789).trans hN) (w := 0) rfl (by decide) (mPl pp789e) (by have := mPle pp789e ((mFz_n gzp789).trans hN); have := mNl pp789e ((mFz_n gzp789).trans hN); have := pp789e.2.1; omega)) (fun wp792 hp792 p792 => ?_)
      obtain ⟨rfl, gp792, Fp792, ip792, jp792⟩ := p792
      have gwp792 := mFw_f gp792
      have gzp792 : mFz I h hp792 := mFz_t gzp789 (mFz_w gwp792)
      have Zp792 : mZp hp792 := mZp_k (mZp_p pp789e) ip792 jp792
      rw [Sp789, rA_1] at Fp792
      have hk : k = 4 := by have z := q791i; omega
      have hr := rCl_0 hr0 (fun j h1 h2 => by have z := hall (j - 12) (by omega); rw [show j - 12 + 12 = j by omega] at z; exact z)
      exact tw_vret rfl ⟨rfl, gzp792, mCo_l hr Fp792 Zp792⟩
  · try dsimp only [tvI_i, tvJ_j, tvR_r] at q790
    refine tw_aload rfl rfl ?_
    refine tw_iload rfl rfl ?_
    refine tw_stat1 rfl (g_thingName hG (k := k) hx (by have z := q790; omega)) (fun wp793 hp793 p793 => ?_)
    obtain ⟨rfl, rfl⟩ := p793
    refine tw_virt1 rfl (g_stands hG hX (gzp789).1 ((mFz_T gzp789).trans hT) ((mFz_n gzp789).trans hN) (q := (k + 14)) (zl_14 (by have z := q790; omega)).1 ⟨pp789e.2.1.1, by have := pp789e.2.1; omega⟩ ⟨by have := pp789e.2.1; omega, pp789e.2.1.2.2⟩) (fun w9 h9 p794 => ?_)
    obtain ⟨⟨p794, rfl⟩ | ⟨p794, rfl⟩, rfl⟩ := p794
    · try dsimp only [tvI_i, tvJ_j, tvR_r] at p794
      refine tw_if_ne rfl (fun _ => ?_) (fun z => absurd z (by decide))
      refine tw_iload rfl rfl ?_
      refine tw_push rfl ?_
      refine tw_ic_ne rfl (fun q795 => ?_) (fun q795 => ?_)
      · try dsimp only [tvI_i, tvJ_j, tvR_r] at q795
        have q795i := zneq (Y := 4) (by decide) q795
        refine tw_iload rfl rfl ?_
        refine tw_push rfl ?_
        refine tw_ic_ne rfl (fun q796 => ?_) (fun q796 => ?_)
        · try dsimp only [tvI_i, tvJ_j, tvR_r] at q796
          have q796i := zneq (Y := 12) (by decide) q796
          refine tw_aload rfl rfl ?_
          refine tw_dup rfl ?_
          refine tw_getS rfl (hi_111_28 (gzp789).1) ?_
          refine tw_iload rfl rfl ?_
          have hk4 : k < 4 := by have z := q790; omega
          refine tw_stat1 rfl (g_thingName hG (k := k) hx hk4) (fun wp797 hp797 p797 => ?_)
          obtain ⟨rfl, rfl⟩ := p797
          refine tw_tlen rfl ?_
          refine tw_iadd rfl ?_
          refine tw_put rfl (fun f798 => ?_)
          refine tG_setm f798 (hw_111_28 f798 (gzp789).1) (fun hf798 ef798 => ?_)
          try dsimp only [tvI_i] at ef798
          have gf798 : mFz I h hf798 := mFz_s gzp789 ef798 (Or.inl (by unfold mFs; omega))
          have hk4 : k < 4 := by have z := q790; omega
          have hw : rW T n (rB T n (ms h).1) (rWd (k + 12)) = true := by have z := p794; rw [Sp789, rA_1] at z; rw [rWd_14 hk4]; exact z
          have hcn : c ≠ 12 := by have z := q796i; omega
          have K1 := rCl_g hr0 (k := k + 12) (by omega) (by omega) hw hcn
          have hre : rE T n (rB T n (ms h).1) = (rB T n (ms h).1) + (ztx (k + 14)).length := by rw [rW_e hw, rWd_14 hk4]
          have hre2 := rE_le (T := T) (rB_le (T := T) hpn)
          have hln : (Int32.ofNat (G.2.1 (k + 14)).length).toInt = ((ztx (k + 14)).length : Int) := by rw [hX]; exact zofI (by have := (zl_14 hk4).1; omega)
          obtain ⟨pf798, sf798, tf798⟩ := mTo pp789e ((mFz_n gzp789).trans hN) ef798 (v := (rB T n (ms h).1) + (ztx (k + 14)).length) (zadN (a := (rB T n (ms h).1)) (by rw [mPl pp789e, Sp789, rA_1]) hln (by omega) (by have := (zl_14 hk4).1; omega)) (by omega)
          have Sf798 : ms hf798 = (rA (rE T n (rB T n (ms h).1)) (ms h)) := by rw [sf798, Sp789, ← hre, rA_A]
          have Df798 : tvI (tF hf798 111 32) = 0 := by rw [mI_o ef798 (by decide)]; exact Dp789
          have gwf798 : tA hf798 = tA hp789 := ef798.2.2.2.1
          refine tw_push rfl ?_
          refine tw_aload rfl rfl ?_
          refine tw_getS rfl (hi_111_30 (gf798).1) ?_
          refine tw_imul rfl ?_
          refine tw_iload rfl rfl ?_
          refine tw_iadd rfl ?_
          refine tw_istore rfl ?_
          refine tw_aload rfl rfl ?_
          refine tw_getS rfl (hs_111_38 (gf798).1) ?_
          refine tw_iload rfl rfl ?_
          refine tw_iload rfl rfl ?_
          refine tw_iast rfl (fun f799 => ?_)
          have hI9 : (12 * tvI (tF hf798 111 30) + y).toNatClampNeg = I := by rw [mIx (pf798.2.2.2.2.2.1) hy hc, show tF hf798 111 30 = tF h 111 30 from mFz_30 gf798, ← hI]
          refine tG_ast f799 (gf798).1 (fun hf799 af799 => ?_)
          try dsimp only [tvI_i, tvR_r] at af799
          rw [hI9] at af799
          have gf799 : mFz I h hf799 := mFz_a gf798 af799 (by decide) (Nat.le_refl _)
          have pf799 := mAs_P af799 (by decide) pf798
          have Sf799 : ms hf799 = (rA (rE T n (rB T n (ms h).1)) (ms h)) := (mAs_m af799 (by decide)).1.trans Sf798
          have Df799 : tvI (tF hf799 111 32) = 0 := by rw [af799.2.1]; exact Df798
          refine tw_aload rfl rfl ?_
          refine tw_getS rfl (hs_111_39 (gf799).1) ?_
          refine tw_iload rfl rfl ?_
          refine tw_push rfl ?_
          refine tw_iast rfl (fun f800 => ?_)
          refine tG_ast f800 (gf799).1 (fun hf800 af800 => ?_)
          try dsimp only [tvI_i, tvR_r] at af800
          rw [hI9] at af800
          have gf800 : mFz I h hf800 := mFz_a gf799 af800 (by decide) (Nat.le_refl _)
          have pf800 := mAs_P af800 (by decide) pf799
          have Sf800 : ms hf800 = (rA (rE T n (rB T n (ms h).1)) (ms h)) := (mAs_m af800 (by decide)).1.trans Sf799
          have Df800 : tvI (tF hf800 111 32) = 0 := by rw [af800.2.1]; exact Df799
          refine tw_iload rfl rfl ?_
          refine tw_if_ne rfl (fun q801 => ?_) (fun q801 => ?_)
          · try dsimp only [tvI_i, tvJ_j, tvR_r] at q801
            have q801i := zneq (Y := 0) (by decide) q801
            refine tw_aload rfl rfl ?_
            refine tw_getS rfl (hs_111_40 (gf800).1) ?_
            refine tw_iload rfl rfl ?_
            refine tw_aload rfl rfl ?_
            refine tw_getS rfl (hi_111_31 (gf800).1) ?_
            refine tw_iast rfl (fun f802 => ?_)
            have Lf802 : (tvI (tF hf800 111 31)).toNatClampNeg = (rA (rE T n (rB T n (ms h).1)) (ms h)).2.2.length := by rw [← mEn_len]; exact congrArg (fun z : rS => z.2.2.length) Sf800
            have K2 : rCl2 T n (k + 12) (k + 12) (rA (rE T n (rB T n (ms h).1)) (ms h)) r := rCl1_n K1 (by have z := q801i; omega)
            refine tG_ast f802 (gf800).1 (fun hf802 af802 => ?_)
            try dsimp only [tvI_i, tvR_r] at af802
            rw [hI9] at af802
            have gf802 : mFz I h hf802 := mFz_a gf800 af802 (by decide) (Nat.le_refl _)
            have pf802 := mAs_P af802 (by decide) pf800
            have Sf802 : ms hf802 = (rA (rE T n (rB T n (ms h).1)) (ms h)) := (mAs_m af802 (by decide)).1.trans Sf800
            have Df802 : tvI (tF hf802 111 32) = 0 := by rw [af802.2.1]; exact Df800
            refine tw_iload rfl rfl ?_
            refine tw_push rfl ?_
            refine tw_ic_eq rfl (fun q803 => ?_) (fun q803 => ?_)
            · try dsimp only [tvI_i, tvJ_j, tvR_r] at q803
              have q803i := zeqi (Y := 3) (by decide) q803
              refine tw_aload rfl rfl ?_
              refine tw_getS rfl (hs_111_41 (gf802).1) ?_
              refine tw_iload rfl rfl ?_
              refine tw_aload rfl rfl ?_
              refine tw_getS rfl (hi_111_31 (gf802).1) ?_
              refine tw_iast rfl (fun f804 => ?_)
              have Lf804 : (tvI (tF hf802 111 31)).toNatClampNeg = (rA (rE T n (rB T n (ms h).1)) (ms h)).2.2.length := by rw [← mEn_len]; exact congrArg (fun z : rS => z.2.2.length) Sf802
              refine tG_ast f804 (gf802).1 (fun hf804 af804 => ?_)
              try dsimp only [tvI_i, tvR_r] at af804
              rw [hI9] at af804
              have gf804 : mFz I h hf804 := mFz_a gf802 af804 (by decide) (Nat.le_refl _)
              have pf804 := mAs_P af804 (by decide) pf802
              have Sf804 : ms hf804 = (rA (rE T n (rB T n (ms h).1)) (ms h)) := (mAs_m af804 (by decide)).1.trans Sf802
              have Df804 : tvI (tF hf804 111 32) = 0 := by rw [af804.2.1]; exact Df802
              refine tw_aload rfl rfl ?_
              obtain ⟨s2, hs2⟩ : ∃ s2, (rA (rE T n (rB T n (ms h).1)) (ms h)) = s2 := ⟨_, rfl⟩
              have K3 := rCl2_15 K2 (by have z := q803i; omega)
              rw [hs2] at K3
              have sm2 := Sf804.trans hs2
              refine tw_virt0 rfl (g_blanks hG hX (gf804).1 pf804 ((mFz_T gf804).trans hT) ((mFz_n gf804).trans hN)) (fun wp805 hp805 p805 => ?_)
              obtain ⟨rfl, gp805, pp805e, sp805, tp805, dp805⟩ := p805
              have gwp805 := mFw_f gp805
              have gzp805 : mFz I h hp805 := mFz_t gf804 (mFz_w gwp805)
              have Dp805 : tvI (tF hp805 111 32) = 0 := by rw [dp805]; exact Df804
              have Sp805 : ms hp805 = (rA (rB T n s2.1) s2) := (by rw [sp805, sm2])
              refine tw_aload rfl rfl ?_
              refine tw_push rfl ?_
              refine tw_virt1 rfl (g_stands hG hX (gzp805).1 ((mFz_T gzp805).trans hT) ((mFz_n gzp805).trans hN) (q := 21) (by decide +kernel) ⟨pp805e.2.1.1, by have := pp805e.2.1; omega⟩ ⟨by have := pp805e.2.1; omega, pp805e.2.1.2.2⟩) (fun w9 h9 p806 => ?_)
              obtain ⟨⟨p806, rfl⟩ | ⟨p806, rfl⟩, rfl⟩ := p806
              · try dsimp only [tvI_i, tvJ_j, tvR_r] at p806
                refine tw_istore rfl ?_
                refine tw_iload rfl rfl ?_
                refine tw_push rfl ?_
                refine tw_ic_ne rfl (fun q807 => ?_) (fun q807 => ?_)
                · try dsimp only [tvI_i, tvJ_j, tvR_r] at q807
                  have q807i := zneq (Y := 3) (by decide) q807
                  exact absurd q803 q807
                · try dsimp only [tvI_i, tvJ_j, tvR_r] at q807
                  have q807i := zeqi (Y := 3) (by decide) q807
                  refine tw_iload rfl rfl ?_
                  refine tw_if_ne rfl (fun _ => ?_) (fun z => absurd z (by decide))
                  refine tw_iload rfl rfl ?_
                  refine tw_if_eq rfl (fun z => absurd z (by decide)) (fun _ => ?_)
                  refine tw_aload rfl rfl ?_
                  refine tw_getS rfl (hi_111_29 gzp805.1) ?_
                  refine tw_if_ne rfl (fun q808 => ?_) (fun q808 => ?_)
                  · try dsimp only [tvI_i, tvJ_j, tvR_r] at q808
                    have q808i := zneq (Y := 0) (by decide) q808
                    exact absurd (mP_0 pp805e) q808
                  · try dsimp only [tvI_i, tvJ_j, tvR_r] at q808
                    have q808i := zeqi (Y := 0) (by decide) q808
                    refine tw_aload rfl rfl ?_
                    refine tw_dup rfl ?_
                    refine tw_getS rfl (hi_111_28 gzp805.1) ?_
                    refine tw_push rfl ?_
                    refine tw_iadd rfl ?_
                    refine tw_put rfl (fun f809 => ?_)
                    have hw16 : rW T n (rB T n s2.1) (rWd 16) = true := by have z := p806; rw [Sp805, rA_1] at z; exact z
                    refine tG_setm f809 (hw_111_28 f809 (gzp805).1) (fun hf809 ef809 => ?_)
                    try dsimp only [tvI_i] at ef809
                    have gf809 : mFz I h hf809 := mFz_s gzp805 ef809 (Or.inl (by unfold mFs; omega))
                    have h9w : rE T n (rB T n s2.1) = rB T n s2.1 + 2 := by rw [rW_e hw16, wlen_k.2.2.2]
                    have hpB : rB T n s2.1 ≤ n := by have z := mPle pp805e ((mFz_n gzp805).trans hN); rw [Sp805, rA_1] at z; exact z
                    have hr9 := rE_le (T := T) hpB
                    rw [h9w] at hr9
                    obtain ⟨pf809, sf809, tf809⟩ := mTo pp805e ((mFz_n gzp805).trans hN) ef809 (v := rB T n s2.1 + 2) (zadN (a := rB T n s2.1) (b := 2) (by rw [mPl pp805e, Sp805, rA_1]) rfl (by omega) (by decide)) (by omega)
                    have Sf809 : ms hf809 = (rA (rB T n s2.1 + 2) s2) := by rw [sf809, Sp805, rA_A]
                    have Df809 : tvI (tF hf809 111 32) = 0 := by rw [mI_o ef809 (by decide)]; exact Dp805
                    have gwf809 : tA hf809 = tA hp805 := ef809.2.2.2.1
                    refine tw_aload rfl rfl ?_
                    refine tw_push rfl ?_
                    refine tw_virt1 rfl (g_readsR hG hX (gf809).1 pf809 ((mFz_T gf809).trans hT) ((mFz_n gf809).trans hN) (x := 0) (tst := true) (by decide) (by decide) ⟨fun _ => rfl, fun _ => rfl⟩ Df809) (fun w9 hp810 p810 => ?_)
                    obtain ⟨rfl, gp810, ⟨pp810e, dp810, mp810⟩ | ⟨ep810, Fp810, Zp810, mp810⟩⟩ := p810
                    · have gwp810 := id gp810
                      have gzp810 : mFz I h hp810 := mFz_t gf809 (mFz_w gwp810)
                      have m9 := mp810
                      rw [Sf809, show stN 0 = 0 from rfl] at m9
                      obtain ⟨hS3, s3, hs3, hr⟩ := rCl3_s K3 hw16 m9
                      have Dp810 := mSk_0 dp810 hS3
                      refine tw_aload rfl rfl ?_
                      refine tw_getS rfl (hs_111_42 gzp810.1) ?_
                      refine tw_iload rfl rfl ?_
                      refine tw_aload rfl rfl ?_
                      refine tw_getS rfl (hi_111_31 gzp810.1) ?_
                      refine tw_iast rfl (fun f811 => ?_)
                      have Lf811 : (tvI (tF hp810 111 31)).toNatClampNeg = (rA (rB T n s3.1) s3).2.2.length := by rw [← mEn_len]; exact congrArg (fun z : rS => z.2.2.length) hs3
                      refine tG_ast f811 (gzp810).1 (fun hf811 af811 => ?_)
                      try dsimp only [tvI_i, tvR_r] at af811
                      rw [hI9] at af811
                      have gf811 : mFz I h hf811 := mFz_a gzp810 af811 (by decide) (Nat.le_refl _)
                      have pf811 := mAs_P af811 (by decide) pp810e
                      have Sf811 : ms hf811 = (rA (rB T n s3.1) s3) := (mAs_m af811 (by decide)).1.trans hs3
                      have Df811 : tvI (tF hf811 111 32) = 0 := by rw [af811.2.1]; exact Dp810
                      have c135 : tA hf811 135 I = x := ((congrFun ((mAs_A af811 (q := 135) (by decide)).trans ((mFw_A gwp810 (p := 135) (by decide)).trans ((congrFun gwf809 135).trans ((mFw_A gwp805 (p := 135) (by decide)).trans ((mAs_A af804 (q := 135) (by decide)).trans ((mAs_A af802 (q := 135) (by decide)).trans (mAs_A af800 (q := 135) (by decide)))))))) I).trans (mAs_x af799))
                      have c137 : (tA hf811 137 I).toNatClampNeg = (rA (rE T n (rB T n (ms h).1)) (ms h)).2.2.length := by rw [((congrFun ((mAs_A af811 (q := 137) (by decide)).trans ((mFw_A gwp810 (p := 137) (by decide)).trans ((congrFun gwf809 137).trans ((mFw_A gwp805 (p := 137) (by decide)).trans (mAs_A af804 (q := 137) (by decide)))))) I).trans (mAs_x af802))]; exact Lf802
                      have c138 : (tA hf811 138 I).toNatClampNeg = (rA (rE T n (rB T n (ms h).1)) (ms h)).2.2.length := by rw [((congrFun ((mAs_A af811 (q := 138) (by decide)).trans ((mFw_A gwp810 (p := 138) (by decide)).trans ((congrFun gwf809 138).trans (mFw_A gwp805 (p := 138) (by decide))))) I).trans (mAs_x af804))]; exact Lf804
                      have c139 : (tA hf811 139 I).toNatClampNeg = (rA (rB T n s3.1) s3).2.2.length := by rw [(mAs_x af811)]; exact Lf811
                      have c136 : (tA hf811 136 I).toNatClampNeg = 0 := by rw [((congrFun ((mAs_A af811 (q := 136) (by decide)).trans ((mFw_A gwp810 (p := 136) (by decide)).trans ((congrFun gwf809 136).trans ((mFw_A gwp805 (p := 136) (by decide)).trans ((mAs_A af804 (q := 136) (by decide)).trans (mAs_A af802 (q := 136) (by decide))))))) I).trans (mAs_x af800))]; rfl
                      have hrow : mRow hf811 I = ((k + 12), (rA (rE T n (rB T n (ms h).1)) (ms h)).2.2.length, (rA (rE T n (rB T n (ms h).1)) (ms h)).2.2.length, (rA (rB T n s3.1) s3).2.2.length) := by
                        unfold mRow
                        rw [c135, c137, c138, c139, zof_cl hx, c136, if_neg (fun y => by have z := q801i; have y := y.1; omega), Nat.mul_zero, Nat.add_zero, Nat.add_comm]
                      rw [hs2] at hrow
                      exact tw_vret rfl ⟨rfl, gf811, mCo_r hr pf811 Sf811 Df811 hrow⟩
                    · have gwp810 := id gp810
                      have gzp810 : mFz I h hp810 := mFz_t gf809 (mFz_w gwp810)
                      have m9 := mp810
                      rw [Sf809, show stN 0 = 0 from rfl] at m9
                      have hr := rCl3_e K3 hw16 m9
                      refine tw_aload rfl rfl ?_
                      refine tw_getS rfl (hs_111_42 gzp810.1) ?_
                      refine tw_iload rfl rfl ?_
                      refine tw_aload rfl rfl ?_
                      refine tw_getS rfl (hi_111_31 gzp810.1) ?_
                      refine tw_iast rfl (fun f812 => ?_)
                      refine tG_ast f812 (gzp810).1 (fun hf812 af812 => ?_)
                      try dsimp only [tvI_i, tvR_r] at af812
                      rw [hI9] at af812
                      have gf812 : mFz I h hf812 := mFz_a gzp810 af812 (by decide) (Nat.le_refl _)
                      have Ff812 := mAs_F af812 Fp810
                      have Zf812 := mAs_Z af812 Zp810
                      exact tw_vret rfl ⟨rfl, gf812, mCo_l hr Ff812 Zf812⟩
              · try dsimp only [tvI_i, tvJ_j, tvR_r] at p806
                refine tw_istore rfl ?_
                refine tw_iload rfl rfl ?_
                refine tw_push rfl ?_
                refine tw_ic_ne rfl (fun q813 => ?_) (fun q813 => ?_)
                · try dsimp only [tvI_i, tvJ_j, tvR_r] at q813
                  have q813i := zneq (Y := 3) (by decide) q813
                  exact absurd q803 q813
                · try dsimp only [tvI_i, tvJ_j, tvR_r] at q813
                  have q813i := zeqi (Y := 3) (by decide) q813
                  refine tw_iload rfl rfl ?_
                  refine tw_if_ne rfl (fun z => absurd z (by decide)) (fun _ => ?_)
                  refine tw_aload rfl rfl ?_
                  refine tw_push rfl ?_
                  refine tw_aload rfl rfl ?_
                  refine tw_getS rfl (hi_111_28 gzp805.1) ?_
                  refine tw_virt2 rfl (g_fails hG hX (gzp805).1 pp805e ((mFz_T gzp805).trans hT) ((mFz_n gzp805).trans hN) (w := 0) rfl (by decide) (mPl pp805e) (by have := mPle pp805e ((mFz_n gzp805).trans hN); have := mNl pp805e ((mFz_n gzp805).trans hN); have := pp805e.2.1; omega)) (fun wp814 hp814 p814 => ?_)
                  obtain ⟨rfl, gp814, Fp814, ip814, jp814⟩ := p814
                  have gwp814 := mFw_f gp814
                  have gzp814 : mFz I h hp814 := mFz_t gzp805 (mFz_w gwp814)
                  have Zp814 : mZp hp814 := mZp_k (mZp_p pp805e) ip814 jp814
                  rw [Sp805, rA_1] at Fp814
                  refine tw_iload rfl rfl ?_
                  refine tw_if_eq rfl (fun _ => ?_) (fun z => absurd z (by decide))
                  refine tw_aload rfl rfl ?_
                  refine tw_getS rfl (hs_111_42 gzp814.1) ?_
                  refine tw_iload rfl rfl ?_
                  refine tw_aload rfl rfl ?_
                  refine tw_getS rfl (hi_111_31 gzp814.1) ?_
                  refine tw_iast rfl (fun f815 => ?_)
                  refine tG_ast f815 (gzp814).1 (fun hf815 af815 => ?_)
                  try dsimp only [tvI_i, tvR_r] at af815
                  rw [hI9] at af815
                  have gf815 : mFz I h hf815 := mFz_a gzp814 af815 (by decide) (Nat.le_refl _)
                  have Ff815 := mAs_F af815 Fp814
                  have Zf815 := mAs_Z af815 Zp814
                  have hw16 : ¬ rW T n (rB T n s2.1) (rWd 16) = true := by have z := p806; rw [Sp805, rA_1] at z; exact z
                  have hr := rCl3_1 K3 hw16 (by have z := q813i; omega)
                  exact tw_vret rfl ⟨rfl, gf815, mCo_l hr Ff815 Zf815⟩
            · try dsimp only [tvI_i, tvJ_j, tvR_r] at q803
              have q803i := zneq (Y := 3) (by decide) q803
              refine tw_aload rfl rfl ?_
              refine tw_getS rfl (hi_111_29 (gf802).1) ?_
              refine tw_if_ne rfl (fun q816 => ?_) (fun q816 => ?_)
              · try dsimp only [tvI_i, tvJ_j, tvR_r] at q816
                have q816i := zneq (Y := 0) (by decide) q816
                exact absurd (mP_0 pf802) q816
              · try dsimp only [tvI_i, tvJ_j, tvR_r] at q816
                have q816i := zeqi (Y := 0) (by decide) q816
                refine tw_aload rfl rfl ?_
                refine tw_push rfl ?_
                refine tw_virt1 rfl (g_readsR hG hX (gf802).1 pf802 ((mFz_T gf802).trans hT) ((mFz_n gf802).trans hN) (x := 1) (tst := false) (by decide) (by decide) ⟨fun z => absurd z (by decide), fun z => absurd z (by decide)⟩ Df802) (fun w9 hp817 p817 => ?_)
                obtain ⟨rfl, gp817, ⟨pp817e, dp817, mp817⟩ | ⟨ep817, Fp817, Zp817, mp817⟩⟩ := p817
                · have gwp817 := id gp817
                  have gzp817 : mFz I h hp817 := mFz_t gf802 (mFz_w gwp817)
                  have m9 := mp817
                  rw [Sf802, show stN 1 = 1 from rfl] at m9
                  obtain ⟨hS, s2, hs2, K3⟩ := rCl2_s K2 (by have z := q803i; omega) m9
                  have Dp817 := mSk_0 dp817 hS
                  refine tw_aload rfl rfl ?_
                  refine tw_getS rfl (hs_111_41 gzp817.1) ?_
                  refine tw_iload rfl rfl ?_
                  refine tw_aload rfl rfl ?_
                  refine tw_getS rfl (hi_111_31 gzp817.1) ?_
                  refine tw_iast rfl (fun f818 => ?_)
                  have Lf818 : (tvI (tF hp817 111 31)).toNatClampNeg = (rA (rB T n s2.1) s2).2.2.length := by rw [← mEn_len]; exact congrArg (fun z : rS => z.2.2.length) hs2
                  refine tG_ast f818 (gzp817).1 (fun hf818 af818 => ?_)
                  try dsimp only [tvI_i, tvR_r] at af818
                  rw [hI9] at af818
                  have gf818 : mFz I h hf818 := mFz_a gzp817 af818 (by decide) (Nat.le_refl _)
                  have pf818 := mAs_P af818 (by decide) pp817e
                  have Sf818 : ms hf818 = (rA (rB T n s2.1) s2) := (mAs_m af818 (by decide)).1.trans hs2
                  have Df818 : tvI (tF hf818 111 32) = 0 := by rw [af818.2.1]; exact Dp817
                  refine tw_aload rfl rfl ?_
                  refine tw_virt0 rfl (g_blanks hG hX (gf818).1 pf818 ((mFz_T gf818).trans hT) ((mFz_n gf818).trans hN)) (fun wp819 hp819 p819 => ?_)
                  obtain ⟨rfl, gp819, pp819e, sp819, tp819, dp819⟩ := p819
                  have gwp819 := mFw_f gp819
                  have gzp819 : mFz I h hp819 := mFz_t gf818 (mFz_w gwp819)
                  have Dp819 : tvI (tF hp819 111 32) = 0 := by rw [dp819]; exact Df818
                  have Sp819 : ms hp819 = (rA (rB T n s2.1) s2) := (by rw [sp819, Sf818]; exact rB_A)
                  refine tw_aload rfl rfl ?_
                  refine tw_push rfl ?_
                  refine tw_virt1 rfl (g_stands hG hX (gzp819).1 ((mFz_T gzp819).trans hT) ((mFz_n gzp819).trans hN) (q := 21) (by decide +kernel) ⟨pp819e.2.1.1, by have := pp819e.2.1; omega⟩ ⟨by have := pp819e.2.1; omega, pp819e.2.1.2.2⟩) (fun w9 h9 p820 => ?_)
                  obtain ⟨⟨p820, rfl⟩ | ⟨p820, rfl⟩, rfl⟩ := p820
                  · try dsimp only [tvI_i, tvJ_j, tvR_r] at p820
                    refine tw_istore rfl ?_
                    refine tw_iload rfl rfl ?_
                    refine tw_push rfl ?_
                    refine tw_ic_ne rfl (fun q821 => ?_) (fun q821 => ?_)
                    · try dsimp only [tvI_i, tvJ_j, tvR_r] at q821
                      have q821i := zneq (Y := 3) (by decide) q821
                      refine tw_iload rfl rfl ?_
                      refine tw_if_eq rfl (fun z => absurd z (by decide)) (fun _ => ?_)
                      refine tw_aload rfl rfl ?_
                      refine tw_getS rfl (hi_111_29 gzp819.1) ?_
                      refine tw_if_ne rfl (fun q822 => ?_) (fun q822 => ?_)
                      · try dsimp only [tvI_i, tvJ_j, tvR_r] at q822
                        have q822i := zneq (Y := 0) (by decide) q822
                        exact absurd (mP_0 pp819e) q822
                      · try dsimp only [tvI_i, tvJ_j, tvR_r] at q822
                        have q822i := zeqi (Y := 0) (by decide) q822
                        refine tw_aload rfl rfl ?_
                        refine tw_dup rfl ?_
                        refine tw_getS rfl (hi_111_28 gzp819.1) ?_
                        refine tw_push rfl ?_
                        refine tw_iadd rfl ?_
                        refine tw_put rfl (fun f823 => ?_)
                        have hw16 : rW T n (rB T n s2.1) (rWd 16) = true := by have z := p820; rw [Sp819, rA_1] at z; exact z
                        refine tG_setm f823 (hw_111_28 f823 (gzp819).1) (fun hf823 ef823 => ?_)
                        try dsimp only [tvI_i] at ef823
                        have gf823 : mFz I h hf823 := mFz_s gzp819 ef823 (Or.inl (by unfold mFs; omega))
                        have h9w : rE T n (rB T n s2.1) = rB T n s2.1 + 2 := by rw [rW_e hw16, wlen_k.2.2.2]
                        have hpB : rB T n s2.1 ≤ n := by have z := mPle pp819e ((mFz_n gzp819).trans hN); rw [Sp819, rA_1] at z; exact z
                        have hr9 := rE_le (T := T) hpB
                        rw [h9w] at hr9
                        obtain ⟨pf823, sf823, tf823⟩ := mTo pp819e ((mFz_n gzp819).trans hN) ef823 (v := rB T n s2.1 + 2) (zadN (a := rB T n s2.1) (b := 2) (by rw [mPl pp819e, Sp819, rA_1]) rfl (by omega) (by decide)) (by omega)
                        have Sf823 : ms hf823 = (rA (rB T n s2.1 + 2) s2) := by rw [sf823, Sp819, rA_A]
                        have Df823 : tvI (tF hf823 111 32) = 0 := by rw [mI_o ef823 (by decide)]; exact Dp819
                        have gwf823 : tA hf823 = tA hp819 := ef823.2.2.2.1
                        refine tw_aload rfl rfl ?_
                        refine tw_push rfl ?_
                        refine tw_virt1 rfl (g_readsR hG hX (gf823).1 pf823 ((mFz_T gf823).trans hT) ((mFz_n gf823).trans hN) (x := 0) (tst := true) (by decide) (by decide) ⟨fun _ => rfl, fun _ => rfl⟩ Df823) (fun w9 hp824 p824 => ?_)
                        obtain ⟨rfl, gp824, ⟨pp824e, dp824, mp824⟩ | ⟨ep824, Fp824, Zp824, mp824⟩⟩ := p824
                        · have gwp824 := id gp824
                          have gzp824 : mFz I h hp824 := mFz_t gf823 (mFz_w gwp824)
                          have m9 := mp824
                          rw [Sf823, show stN 0 = 0 from rfl] at m9
                          obtain ⟨hS3, s3, hs3, hr⟩ := rCl3_s K3 hw16 m9
                          have Dp824 := mSk_0 dp824 hS3
                          refine tw_aload rfl rfl ?_
                          refine tw_getS rfl (hs_111_42 gzp824.1) ?_
                          refine tw_iload rfl rfl ?_
                          refine tw_aload rfl rfl ?_
                          refine tw_getS rfl (hi_111_31 gzp824.1) ?_
                          refine tw_iast rfl (fun f825 => ?_)
                          have Lf825 : (tvI (tF hp824 111 31)).toNatClampNeg = (rA (rB T n s3.1) s3).2.2.length := by rw [← mEn_len]; exact congrArg (fun z : rS => z.2.2.length) hs3
                          refine tG_ast f825 (gzp824).1 (fun hf825 af825 => ?_)
                          try dsimp only [tvI_i, tvR_r] at af825
                          rw [hI9] at af825
                          have gf825 : mFz I h hf825 := mFz_a gzp824 af825 (by decide) (Nat.le_refl _)
                          have pf825 := mAs_P af825 (by decide) pp824e
                          have Sf825 : ms hf825 = (rA (rB T n s3.1) s3) := (mAs_m af825 (by decide)).1.trans hs3
                          have Df825 : tvI (tF hf825 111 32) = 0 := by rw [af825.2.1]; exact Dp824
                          have c135 : tA hf825 135 I = x := ((congrFun ((mAs_A af825 (q := 135) (by decide)).trans ((mFw_A gwp824 (p := 135) (by decide)).trans ((congrFun gwf823 135).trans ((mFw_A gwp819 (p := 135) (by decide)).trans ((mAs_A af818 (q := 135) (by decide)).trans ((mFw_A gwp817 (p := 135) (by decide)).trans ((mAs_A af802 (q := 135) (by decide)).trans (mAs_A af800 (q := 135) (by decide))))))))) I).trans (mAs_x af799))
                          have c137 : (tA hf825 137 I).toNatClampNeg = (rA (rE T n (rB T n (ms h).1)) (ms h)).2.2.length := by rw [((congrFun ((mAs_A af825 (q := 137) (by decide)).trans ((mFw_A gwp824 (p := 137) (by decide)).trans ((congrFun gwf823 137).trans ((mFw_A gwp819 (p := 137) (by decide)).trans ((mAs_A af818 (q := 137) (by decide)).trans (mFw_A gwp817 (p := 137) (by decide))))))) I).trans (mAs_x af802))]; exact Lf802
                          have c138 : (tA hf825 138 I).toNatClampNeg = (rA (rB T n s2.1) s2).2.2.length := by rw [((congrFun ((mAs_A af825 (q := 138) (by decide)).trans ((mFw_A gwp824 (p := 138) (by decide)).trans ((congrFun gwf823 138).trans (mFw_A gwp819 (p := 138) (by decide))))) I).trans (mAs_x af818))]; exact Lf818
                          have c139 : (tA hf825 139 I).toNatClampNeg = (rA (rB T n s3.1) s3).2.2.length := by rw [(mAs_x af825)]; exact Lf825
                          have c136 : (tA hf825 136 I).toNatClampNeg = 0 := by rw [((congrFun ((mAs_A af825 (q := 136) (by decide)).trans ((mFw_A gwp824 (p := 136) (by decide)).trans ((congrFun gwf823 136).trans ((mFw_A gwp819 (p := 136) (by decide)).trans ((mAs_A af818 (q := 136) (by decide)).trans ((mFw_A gwp817 (p := 136) (by decide)).trans (mAs_A af802 (q := 136) (by decide)))))))) I).trans (mAs_x af800))]; rfl
                          have hrow : mRow hf825 I = ((k + 12), (rA (rE T n (rB T n (ms h).1)) (ms h)).2.2.length, (rA (rB T n s2.1) s2).2.2.length, (rA (rB T n s3.1) s3).2.2.length) := by
                            unfold mRow
                            rw [c135, c137, c138, c139, zof_cl hx, c136, if_neg (fun y => by have z := q801i; have y := y.1; omega), Nat.mul_zero, Nat.add_zero, Nat.add_comm]
                          exact tw_vret rfl ⟨rfl, gf825, mCo_r hr pf825 Sf825 Df825 hrow⟩
                        · have gwp824 := id gp824
                          have gzp824 : mFz I h hp824 := mFz_t gf823 (mFz_w gwp824)
                          have m9 := mp824
                          rw [Sf823, show stN 0 = 0 from rfl] at m9
                          have hr := rCl3_e K3 hw16 m9
                          refine tw_aload rfl rfl ?_
                          refine tw_getS rfl (hs_111_42 gzp824.1) ?_
                          refine tw_iload rfl rfl ?_
                          refine tw_aload rfl rfl ?_
                          refine tw_getS rfl (hi_111_31 gzp824.1) ?_
                          refine tw_iast rfl (fun f826 => ?_)
                          refine tG_ast f826 (gzp824).1 (fun hf826 af826 => ?_)
                          try dsimp only [tvI_i, tvR_r] at af826
                          rw [hI9] at af826
                          have gf826 : mFz I h hf826 := mFz_a gzp824 af826 (by decide) (Nat.le_refl _)
                          have Ff826 := mAs_F af826 Fp824
                          have Zf826 := mAs_Z af826 Zp824
                          exact tw_vret rfl ⟨rfl, gf826, mCo_l hr Ff826 Zf826⟩
                    · try dsimp only [tvI_i, tvJ_j, tvR_r] at q821
                      have q821i := zeqi (Y := 3) (by decide) q821
                      exact absurd q821 q803
                  · try dsimp only [tvI_i, tvJ_j, tvR_r] at p820
                    refine tw_istore rfl ?_
                    refine tw_iload rfl rfl ?_
                    refine tw_push rfl ?_
                    refine tw_ic_ne rfl (fun q827 => ?_) (fun q827 => ?_)
                    · try dsimp only [tvI_i, tvJ_j, tvR_r] at q827
                      have q827i := zneq (Y := 3) (by decide) q827
                      refine tw_iload rfl rfl ?_
                      refine tw_if_eq rfl (fun _ => ?_) (fun z => absurd z (by decide))
                      refine tw_aload rfl rfl ?_
                      refine tw_getS rfl (hs_111_42 gzp819.1) ?_
                      refine tw_iload rfl rfl ?_
                      refine tw_aload rfl rfl ?_
                      refine tw_getS rfl (hi_111_31 gzp819.1) ?_
                      refine tw_iast rfl (fun f828 => ?_)
                      have Lf828 : (tvI (tF hp819 111 31)).toNatClampNeg = (rA (rB T n s2.1) s2).2.2.length := by rw [← mEn_len]; exact congrArg (fun z : rS => z.2.2.length) Sp819
                      refine tG_ast f828 (gzp819).1 (fun hf828 af828 => ?_)
                      try dsimp only [tvI_i, tvR_r] at af828
                      rw [hI9] at af828
                      have gf828 : mFz I h hf828 := mFz_a gzp819 af828 (by decide) (Nat.le_refl _)
                      have pf828 := mAs_P af828 (by decide) pp819e
                      have Sf828 : ms hf828 = (rA (rB T n s2.1) s2) := (mAs_m af828 (by decide)).1.trans Sp819
                      have Df828 : tvI (tF hf828 111 32) = 0 := by rw [af828.2.1]; exact Dp819
                      have hw16 : ¬ rW T n (rB T n s2.1) (rWd 16) = true := by have z := p820; rw [Sp819, rA_1] at z; exact z
                      have hr := rCl3_2 K3 hw16 (by have z := q827i; omega)
                      have c135 : tA hf828 135 I = x := ((congrFun ((mAs_A af828 (q := 135) (by decide)).trans ((mFw_A gwp819 (p := 135) (by decide)).trans ((mAs_A af818 (q := 135) (by decide)).trans ((mFw_A gwp817 (p := 135) (by decide)).trans ((mAs_A af802 (q := 135) (by decide)).trans (mAs_A af800 (q := 135) (by decide))))))) I).trans (mAs_x af799))
                      have c137 : (tA hf828 137 I).toNatClampNeg = (rA (rE T n (rB T n (ms h).1)) (ms h)).2.2.length := by rw [((congrFun ((mAs_A af828 (q := 137) (by decide)).trans ((mFw_A gwp819 (p := 137) (by decide)).trans ((mAs_A af818 (q := 137) (by decide)).trans (mFw_A gwp817 (p := 137) (by decide))))) I).trans (mAs_x af802))]; exact Lf802
                      have c138 : (tA hf828 138 I).toNatClampNeg = (rA (rB T n s2.1) s2).2.2.length := by rw [((congrFun ((mAs_A af828 (q := 138) (by decide)).trans (mFw_A gwp819 (p := 138) (by decide))) I).trans (mAs_x af818))]; exact Lf818
                      have c139 : (tA hf828 139 I).toNatClampNeg = (rA (rB T n s2.1) s2).2.2.length := by rw [(mAs_x af828)]; exact Lf828
                      have c136 : (tA hf828 136 I).toNatClampNeg = 0 := by rw [((congrFun ((mAs_A af828 (q := 136) (by decide)).trans ((mFw_A gwp819 (p := 136) (by decide)).trans ((mAs_A af818 (q := 136) (by decide)).trans ((mFw_A gwp817 (p := 136) (by decide)).trans (mAs_A af802 (q := 136) (by decide)))))) I).trans (mAs_x af800))]; rfl
                      have hrow : mRow hf828 I = ((k + 12), (rA (rE T n (rB T n (ms h).1)) (ms h)).2.2.length, (rA (rB T n s2.1) s2).2.2.length, (rA (rB T n s2.1) s2).2.2.length) := by
                        unfold mRow
                        rw [c135, c137, c138, c139, zof_cl hx, c136, if_neg (fun y => by have z := q801i; have y := y.1; omega), Nat.mul_zero, Nat.add_zero, Nat.add_comm]
                      exact tw_vret rfl ⟨rfl, gf828, mCo_r hr pf828 (Sf828.trans rB_A.symm) Df828 hrow⟩
                    · try dsimp only [tvI_i, tvJ_j, tvR_r] at q827
                      have q827i := zeqi (Y := 3) (by decide) q827
                      exact absurd q827 q803
                · have gwp817 := id gp817
                  have gzp817 : mFz I h hp817 := mFz_t gf802 (mFz_w gwp817)
                  have m9 := mp817
                  rw [Sf802, show stN 1 = 1 from rfl] at m9
                  have hr := rCl2_e K2 (by have z := q803i; omega) m9
                  refine tw_aload rfl rfl ?_
                  refine tw_getS rfl (hs_111_41 gzp817.1) ?_
                  refine tw_iload rfl rfl ?_
                  refine tw_aload rfl rfl ?_
                  refine tw_getS rfl (hi_111_31 gzp817.1) ?_
                  refine tw_iast rfl (fun f829 => ?_)
                  refine tG_ast f829 (gzp817).1 (fun hf829 af829 => ?_)
                  try dsimp only [tvI_i, tvR_r] at af829
                  rw [hI9] at af829
                  have gf829 : mFz I h hf829 := mFz_a gzp817 af829 (by decide) (Nat.le_refl _)
                  have Ff829 := mAs_F af829 Fp817
                  have Zf829 := mAs_Z af829 Zp817
                  refine tw_aload rfl rfl ?_
                  refine tw_virt0 rfl (y_blanks hG hX (gf829).1 Ff829 ((mFz_T gf829).trans hT) ((mFz_n gf829).trans hN) Zf829) (fun wp830 hp830 p830 => ?_)
                  obtain ⟨rfl, gp830, Fp830, Zp830⟩ := p830
                  have gwp830 := mFw_f gp830
                  have gzp830 : mFz I h hp830 := mFz_t gf829 (mFz_w gwp830)
                  refine tw_aload rfl rfl ?_
                  refine tw_push rfl ?_
                  refine tw_virt1 rfl (g_stands hG hX (gzp830).1 ((mFz_T gzp830).trans hT) ((mFz_n gzp830).trans hN) (q := 21) (by decide +kernel) Zp830.1 ⟨by have := Zp830.2; omega, Zp830.2.2⟩) (fun w9 h9 p831 => ?_)
                  obtain ⟨⟨p831, rfl⟩ | ⟨p831, rfl⟩, rfl⟩ := p831
                  · try dsimp only [tvI_i, tvJ_j, tvR_r] at p831
                    refine tw_istore rfl ?_
                    refine tw_iload rfl rfl ?_
                    refine tw_push rfl ?_
                    refine tw_ic_ne rfl (fun q832 => ?_) (fun q832 => ?_)
                    · try dsimp only [tvI_i, tvJ_j, tvR_r] at q832
                      have q832i := zneq (Y := 3) (by decide) q832
                      refine tw_iload rfl rfl ?_
                      refine tw_if_eq rfl (fun z => absurd z (by decide)) (fun _ => ?_)
                      refine tw_aload rfl rfl ?_
                      refine tw_getS rfl (hi_111_29 gzp830.1) ?_
                      refine tw_if_ne rfl (fun q833 => ?_) (fun q833 => ?_)
                      · try dsimp only [tvI_i, tvJ_j, tvR_r] at q833
                        have q833i := zneq (Y := 0) (by decide) q833
                        refine tw_aload rfl rfl ?_
                        refine tw_getS rfl (hs_111_42 gzp830.1) ?_
                        refine tw_iload rfl rfl ?_
                        refine tw_aload rfl rfl ?_
                        refine tw_getS rfl (hi_111_31 gzp830.1) ?_
                        refine tw_iast rfl (fun f834 => ?_)
                        refine tG_ast f834 (gzp830).1 (fun hf834 af834 => ?_)
                        try dsimp only [tvI_i, tvR_r] at af834
                        rw [hI9] at af834
                        have gf834 : mFz I h hf834 := mFz_a gzp830 af834 (by decide) (Nat.le_refl _)
                        have Ff834 := mAs_F af834 Fp830
                        have Zf834 := mAs_Z af834 Zp830
                        exact tw_vret rfl ⟨rfl, gf834, mCo_l hr Ff834 Zf834⟩
                      · try dsimp only [tvI_i, tvJ_j, tvR_r] at q833
                        have q833i := zeqi (Y := 0) (by decide) q833
                        exact absurd q833 (mFt_n Fp830)
                    · try dsimp only [tvI_i, tvJ_j, tvR_r] at q832
                      have q832i := zeqi (Y := 3) (by decide) q832
                      exact absurd q832 q803
                  · try dsimp only [tvI_i, tvJ_j, tvR_r] at p831
                    refine tw_istore rfl ?_
                    refine tw_iload rfl rfl ?_
                    refine tw_push rfl ?_
                    refine tw_ic_ne rfl (fun q835 => ?_) (fun q835 => ?_)
                    · try dsimp only [tvI_i, tvJ_j, tvR_r] at q835
                      have q835i := zneq (Y := 3) (by decide) q835
                      refine tw_iload rfl rfl ?_
                      refine tw_if_eq rfl (fun _ => ?_) (fun z => absurd z (by decide))
                      refine tw_aload rfl rfl ?_
                      refine tw_getS rfl (hs_111_42 gzp830.1) ?_
                      refine tw_iload rfl rfl ?_
                      refine tw_aload rfl rfl ?_
                      refine tw_getS rfl (hi_111_31 gzp830.1) ?_
                      refine tw_iast rfl (fun f836 => ?_)
                      refine tG_ast f836 (gzp830).1 (fun hf836 af836 => ?_)
                      try dsimp only [tvI_i, tvR_r] at af836
                      rw [hI9] at af836
                      have gf836 : mFz I h hf836 := mFz_a gzp830 af836 (by decide) (Nat.le_refl _)
                      have Ff836 := mAs_F af836 Fp830
                      have Zf836 := mAs_Z af836 Zp830
                      exact tw_vret rfl ⟨rfl, gf836, mCo_l hr Ff836 Zf836⟩
                    · try dsimp only [tvI_i, tvJ_j, tvR_r] at q835
                      have q835i := zeqi (Y := 3) (by decide) q835
                      exact absurd q835 q803
          · try dsimp only [tvI_i, tvJ_j, tvR_r] at q801
            have q801i := zeqi (Y := 0) (by decide) q801
            refine tw_aload rfl rfl ?_
            refine tw_virt0 rfl (g_blanks hG hX (gf800).1 pf800 ((mFz_T gf800).trans hT) ((mFz_n gf800).trans hN)) (fun wp837 hp837 p837 => ?_)
            obtain ⟨rfl, gp837, pp837e, sp837, tp837, dp837⟩ := p837
            have gwp837 := mFw_f gp837
            have gzp837 : mFz I h hp837 := mFz_t gf800 (mFz_w gwp837)
            have Dp837 : tvI (tF hp837 111 32) = 0 := by rw [dp837]; exact Df800
            have Sp837 : ms hp837 = (rA (rB T n (rA (rE T n (rB T n (ms h).1)) (ms h)).1) (rA (rE T n (rB T n (ms h).1)) (ms h))) := (by rw [sp837, Sf800])
            refine tw_aload rfl rfl ?_
            refine tw_getS rfl (hs_111_39 gzp837.1) ?_
            refine tw_iload rfl rfl ?_
            refine tw_aload rfl rfl ?_
            refine tw_push rfl ?_
            refine tw_virt1 rfl (g_digits hG hX (gzp837).1 pp837e ((mFz_T gzp837).trans hT) ((mFz_n gzp837).trans hN) (m := 2) (M := 2) rfl (by decide) (by rw [Sp837, rA_1]; exact rB_2)) (fun w9 hp838 p838 => ?_)
            obtain ⟨gp838, ⟨vp838, Np838, rfl, pp838e, sp838, tp838, dp838⟩ | ⟨ep838, xp838, Np838, rfl, x0p838, Fp838, Zp838⟩⟩ := p838
            · have gwp838 := mFw_f gp838
              have gzp838 : mFz I h hp838 := mFz_t gzp837 (mFz_w gwp838)
              have Dp838 : tvI (tF hp838 111 32) = 0 := by rw [dp838]; exact Dp837
              have Sp838 : ms hp838 = (rA vp838.1 (rA (rE T n (rB T n (ms h).1)) (ms h))) := by rw [sp838, Sp837, rA_A, rA_A]
              have K2 : rCl2 T n (k + 12) vp838.2 (rA vp838.1 (rA (rE T n (rB T n (ms h).1)) (ms h))) r := by
                have y := rCl1_q K1 (by have z := q801i; omega) (q := vp838) (by rw [← rM_bb]; have z := Np838; rw [Sp837, rA_1] at z; exact z)
                exact y
              have hv2 : vp838.2 ≤ 2 := (rM_r (rE_le (rB_le hpn)) (by rw [← rM_bb]; have z := Np838; rw [Sp837, rA_1] at z; exact z)).2.2
              refine tw_iast rfl (fun f839 => ?_)
              refine tG_ast f839 (gzp838).1 (fun hf839 af839 => ?_)
              try dsimp only [tvI_i, tvR_r] at af839
              rw [hI9] at af839
              have gf839 : mFz I h hf839 := mFz_a gzp838 af839 (by decide) (Nat.le_refl _)
              have pf839 := mAs_P af839 (by decide) pp838e
              have Sf839 : ms hf839 = (rA vp838.1 (rA (rE T n (rB T n (ms h).1)) (ms h))) := (mAs_m af839 (by decide)).1.trans Sp838
              have Df839 : tvI (tF hf839 111 32) = 0 := by rw [af839.2.1]; exact Dp838
              refine tw_aload rfl rfl ?_
              refine tw_getS rfl (hs_111_40 (gf839).1) ?_
              refine tw_iload rfl rfl ?_
              refine tw_aload rfl rfl ?_
              refine tw_getS rfl (hi_111_31 (gf839).1) ?_
              refine tw_iast rfl (fun f840 => ?_)
              have Lf840 : (tvI (tF hf839 111 31)).toNatClampNeg = (rA vp838.1 (rA (rE T n (rB T n (ms h).1)) (ms h))).2.2.length := by rw [← mEn_len]; exact congrArg (fun z : rS => z.2.2.length) Sf839
              refine tG_ast f840 (gf839).1 (fun hf840 af840 => ?_)
              try dsimp only [tvI_i, tvR_r] at af840
              rw [hI9] at af840
              have gf840 : mFz I h hf840 := mFz_a gf839 af840 (by decide) (Nat.le_refl _)
              have pf840 := mAs_P af840 (by decide) pf839
              have Sf840 : ms hf840 = (rA vp838.1 (rA (rE T n (rB T n (ms h).1)) (ms h))) := (mAs_m af840 (by decide)).1.trans Sf839
              have Df840 : tvI (tF hf840 111 32) = 0 := by rw [af840.2.1]; exact Df839
              refine tw_iload rfl rfl ?_
              refine tw_push rfl ?_
              refine tw_ic_eq rfl (fun q841 => ?_) (fun q841 => ?_)
              · try dsimp only [tvI_i, tvJ_j, tvR_r] at q841
                have q841i := zeqi (Y := 3) (by decide) q841
                exfalso
                have z1 := q801i
                have z2 := q841i
                omega
              · try dsimp only [tvI_i, tvJ_j, tvR_r] at q841
                have q841i := zneq (Y := 3) (by decide) q841
                refine tw_aload rfl rfl ?_
                refine tw_getS rfl (hi_111_29 (gf840).1) ?_
                refine tw_if_ne rfl (fun q842 => ?_) (fun q842 => ?_)
                · try dsimp only [tvI_i, tvJ_j, tvR_r] at q842
                  have q842i := zneq (Y := 0) (by decide) q842
                  exact absurd (mP_0 pf840) q842
                · try dsimp only [tvI_i, tvJ_j, tvR_r] at q842
                  have q842i := zeqi (Y := 0) (by decide) q842
                  refine tw_aload rfl rfl ?_
                  refine tw_push rfl ?_
                  refine tw_virt1 rfl (g_readsR hG hX (gf840).1 pf840 ((mFz_T gf840).trans hT) ((mFz_n gf840).trans hN) (x := 1) (tst := false) (by decide) (by decide) ⟨fun z => absurd z (by decide), fun z => absurd z (by decide)⟩ Df840) (fun w9 hp843 p843 => ?_)
                  obtain ⟨rfl, gp843, ⟨pp843e, dp843, mp843⟩ | ⟨ep843, Fp843, Zp843, mp843⟩⟩ := p843
                  · have gwp843 := id gp843
                    have gzp843 : mFz I h hp843 := mFz_t gf840 (mFz_w gwp843)
                    have m9 := mp843
                    rw [Sf840, show stN 1 = 1 from rfl] at m9
                    obtain ⟨hS, s2, hs2, K3⟩ := rCl2_s K2 (by have z := q841i; omega) m9
                    have Dp843 := mSk_0 dp843 hS
                    refine tw_aload rfl rfl ?_
                    refine tw_getS rfl (hs_111_41 gzp843.1) ?_
                    refine tw_iload rfl rfl ?_
                    refine tw_aload rfl rfl ?_
                    refine tw_getS rfl (hi_111_31 gzp843.1) ?_
                    refine tw_iast rfl (fun f844 => ?_)
                    have Lf844 : (tvI (tF hp843 111 31)).toNatClampNeg = (rA (rB T n s2.1) s2).2.2.length := by rw [← mEn_len]; exact congrArg (fun z : rS => z.2.2.length) hs2
                    refine tG_ast f844 (gzp843).1 (fun hf844 af844 => ?_)
                    try dsimp only [tvI_i, tvR_r] at af844
                    rw [hI9] at af844
                    have gf844 : mFz I h hf844 := mFz_a gzp843 af844 (by decide) (Nat.le_refl _)
                    have pf844 := mAs_P af844 (by decide) pp843e
                    have Sf844 : ms hf844 = (rA (rB T n s2.1) s2) := (mAs_m af844 (by decide)).1.trans hs2
                    have Df844 : tvI (tF hf844 111 32) = 0 := by rw [af844.2.1]; exact Dp843
                    refine tw_aload rfl rfl ?_
                    refine tw_virt0 rfl (g_blanks hG hX (gf844).1 pf844 ((mFz_T gf844).trans hT) ((mFz_n gf844).trans hN)) (fun wp845 hp845 p845 => ?_)
                    obtain ⟨rfl, gp845, pp845e, sp845, tp845, dp845⟩ := p845
                    have gwp845 := mFw_f gp845
                    have gzp845 : mFz I h hp845 := mFz_t gf844 (mFz_w gwp845)
                    have Dp845 : tvI (tF hp845 111 32) = 0 := by rw [dp845]; exact Df844
                    have Sp845 : ms hp845 = (rA (rB T n s2.1) s2) := (by rw [sp845, Sf844]; exact rB_A)
                    refine tw_aload rfl rfl ?_
                    refine tw_push rfl ?_
                    refine tw_virt1 rfl (g_stands hG hX (gzp845).1 ((mFz_T gzp845).trans hT) ((mFz_n gzp845).trans hN) (q := 21) (by decide +kernel) ⟨pp845e.2.1.1, by have := pp845e.2.1; omega⟩ ⟨by have := pp845e.2.1; omega, pp845e.2.1.2.2⟩) (fun w9 h9 p846 => ?_)
                    obtain ⟨⟨p846, rfl⟩ | ⟨p846, rfl⟩, rfl⟩ := p846
                    · try dsimp only [tvI_i, tvJ_j, tvR_r] at p846
                      refine tw_istore rfl ?_
                      refine tw_iload rfl rfl ?_
                      refine tw_push rfl ?_
                      refine tw_ic_ne rfl (fun q847 => ?_) (fun q847 => ?_)
                      · try dsimp only [tvI_i, tvJ_j, tvR_r] at q847
                        have q847i := zneq (Y := 3) (by decide) q847
                        refine tw_iload rfl rfl ?_
                        refine tw_if_eq rfl (fun z => absurd z (by decide)) (fun _ => ?_)
                        refine tw_aload rfl rfl ?_
                        refine tw_getS rfl (hi_111_29 gzp845.1) ?_
                        refine tw_if_ne rfl (fun q848 => ?_) (fun q848 => ?_)
                        · try dsimp only [tvI_i, tvJ_j, tvR_r] at q848
                          have q848i := zneq (Y := 0) (by decide) q848
                          exact absurd (mP_0 pp845e) q848
                        · try dsimp only [tvI_i, tvJ_j, tvR_r] at q848
                          have q848i := zeqi (Y := 0) (by decide) q848
                          refine tw_aload rfl rfl ?_
                          refine tw_dup rfl ?_
                          refine tw_getS rfl (hi_111_28 gzp845.1) ?_
                          refine tw_push rfl ?_
                          refine tw_iadd rfl ?_
                          refine tw_put rfl (fun f849 => ?_)
                          have hw16 : rW T n (rB T n s2.1) (rWd 16) = true := by have z := p846; rw [Sp845, rA_1] at z; exact z
                          refine tG_setm f849 (hw_111_28 f849 (gzp845).1) (fun hf849 ef849 => ?_)
                          try dsimp only [tvI_i] at ef849
                          have gf849 : mFz I h hf849 := mFz_s gzp845 ef849 (Or.inl (by unfold mFs; omega))
                          have h9w : rE T n (rB T n s2.1) = rB T n s2.1 + 2 := by rw [rW_e hw16, wlen_k.2.2.2]
                          have hpB : rB T n s2.1 ≤ n := by have z := mPle pp845e ((mFz_n gzp845).trans hN); rw [Sp845, rA_1] at z; exact z
                          have hr9 := rE_le (T := T) hpB
                          rw [h9w] at hr9
                          obtain ⟨pf849, sf849, tf849⟩ := mTo pp845e ((mFz_n gzp845).trans hN) ef849 (v := rB T n s2.1 + 2) (zadN (a := rB T n s2.1) (b := 2) (by rw [mPl pp845e, Sp845, rA_1]) rfl (by omega) (by decide)) (by omega)
                          have Sf849 : ms hf849 = (rA (rB T n s2.1 + 2) s2) := by rw [sf849, Sp845, rA_A]
                          have Df849 : tvI (tF hf849 111 32) = 0 := by rw [mI_o ef849 (by decide)]; exact Dp845
                          have gwf849 : tA hf849 = tA hp845 := ef849.2.2.2.1
                          refine tw_aload rfl rfl ?_
                          refine tw_push rfl ?_
                          refine tw_virt1 rfl (g_readsR hG hX (gf849).1 pf849 ((mFz_T gf849).trans hT) ((mFz_n gf849).trans hN) (x := 0) (tst := true) (by decide) (by decide) ⟨fun _ => rfl, fun _ => rfl⟩ Df849) (fun w9 hp850 p850 => ?_)
                          obtain ⟨rfl, gp850, ⟨pp850e, dp850, mp850⟩ | ⟨ep850, Fp850, Zp850, mp850⟩⟩ := p850
                          · have gwp850 := id gp850
                            have gzp850 : mFz I h hp850 := mFz_t gf849 (mFz_w gwp850)
                            have m9 := mp850
                            rw [Sf849, show stN 0 = 0 from rfl] at m9
                            obtain ⟨hS3, s3, hs3, hr⟩ := rCl3_s K3 hw16 m9
                            have Dp850 := mSk_0 dp850 hS3
                            refine tw_aload rfl rfl ?_
                            refine tw_getS rfl (hs_111_42 gzp850.1) ?_
                            refine tw_iload rfl rfl ?_
                            refine tw_aload rfl rfl ?_
                            refine tw_getS rfl (hi_111_31 gzp850.1) ?_
                            refine tw_iast rfl (fun f851 => ?_)
                            have Lf851 : (tvI (tF hp850 111 31)).toNatClampNeg = (rA (rB T n s3.1) s3).2.2.length := by rw [← mEn_len]; exact congrArg (fun z : rS => z.2.2.length) hs3
                            refine tG_ast f851 (gzp850).1 (fun hf851 af851 => ?_)
                            try dsimp only [tvI_i, tvR_r] at af851
                            rw [hI9] at af851
                            have gf851 : mFz I h hf851 := mFz_a gzp850 af851 (by decide) (Nat.le_refl _)
                            have pf851 := mAs_P af851 (by decide) pp850e
                            have Sf851 : ms hf851 = (rA (rB T n s3.1) s3) := (mAs_m af851 (by decide)).1.trans hs3
                            have Df851 : tvI (tF hf851 111 32) = 0 := by rw [af851.2.1]; exact Dp850
                            have c135 : tA hf851 135 I = x := ((congrFun ((mAs_A af851 (q := 135) (by decide)).trans ((mFw_A gwp850 (p := 135) (by decide)).trans ((congrFun gwf849 135).trans ((mFw_A gwp845 (p := 135) (by decide)).trans ((mAs_A af844 (q := 135) (by decide)).trans ((mFw_A gwp843 (p := 135) (by decide)).trans ((mAs_A af840 (q := 135) (by decide)).trans ((mAs_A af839 (q := 135) (by decide)).trans ((mFw_A gwp838 (p := 135) (by decide)).trans ((mFw_A gwp837 (p := 135) (by decide)).trans (mAs_A af800 (q := 135) (by decide)))))))))))) I).trans (mAs_x af799))
                            have c137 : (tA hf851 137 I).toNatClampNeg = (rA vp838.1 (rA (rE T n (rB T n (ms h).1)) (ms h))).2.2.length := by rw [((congrFun ((mAs_A af851 (q := 137) (by decide)).trans ((mFw_A gwp850 (p := 137) (by decide)).trans ((congrFun gwf849 137).trans ((mFw_A gwp845 (p := 137) (by decide)).trans ((mAs_A af844 (q := 137) (by decide)).trans (mFw_A gwp843 (p := 137) (by decide))))))) I).trans (mAs_x af840))]; exact Lf840
                            have c138 : (tA hf851 138 I).toNatClampNeg = (rA (rB T n s2.1) s2).2.2.length := by rw [((congrFun ((mAs_A af851 (q := 138) (by decide)).trans ((mFw_A gwp850 (p := 138) (by decide)).trans ((congrFun gwf849 138).trans (mFw_A gwp845 (p := 138) (by decide))))) I).trans (mAs_x af844))]; exact Lf844
                            have c139 : (tA hf851 139 I).toNatClampNeg = (rA (rB T n s3.1) s3).2.2.length := by rw [(mAs_x af851)]; exact Lf851
                            have c136 : (tA hf851 136 I).toNatClampNeg = vp838.2 := by rw [((congrFun ((mAs_A af851 (q := 136) (by decide)).trans ((mFw_A gwp850 (p := 136) (by decide)).trans ((congrFun gwf849 136).trans ((mFw_A gwp845 (p := 136) (by decide)).trans ((mAs_A af844 (q := 136) (by decide)).trans ((mFw_A gwp843 (p := 136) (by decide)).trans (mAs_A af840 (q := 136) (by decide)))))))) I).trans (mAs_x af839))]; exact zoN (by omega)
                            have hrow : mRow hf851 I = (vp838.2, (rA vp838.1 (rA (rE T n (rB T n (ms h).1)) (ms h))).2.2.length, (rA (rB T n s2.1) s2).2.2.length, (rA (rB T n s3.1) s3).2.2.length) := by
                              unfold mRow
                              rw [c135, c137, c138, c139, zof_cl hx, c136, if_pos ⟨by have z := q801i; omega, by omega⟩]
                            exact tw_vret rfl ⟨rfl, gf851, mCo_r hr pf851 Sf851 Df851 hrow⟩
                          · have gwp850 := id gp850
                            have gzp850 : mFz I h hp850 := mFz_t gf849 (mFz_w gwp850)
                            have m9 := mp850
                            rw [Sf849, show stN 0 = 0 from rfl] at m9
                            have hr := rCl3_e K3 hw16 m9
                            refine tw_aload rfl rfl ?_
                            refine tw_getS rfl (hs_111_42 gzp850.1) ?_
                            refine tw_iload rfl rfl ?_
                            refine tw_aload rfl rfl ?_
                            refine tw_getS rfl (hi_111_31 gzp850.1) ?_
                            refine tw_iast rfl (fun f852 => ?_)
                            refine tG_ast f852 (gzp850).1 (fun hf852 af852 => ?_)
                            try dsimp only [tvI_i, tvR_r] at af852
                            rw [hI9] at af852
                            have gf852 : mFz I h hf852 := mFz_a gzp850 af852 (by decide) (Nat.le_refl _)
                            have Ff852 := mAs_F af852 Fp850
                            have Zf852 := mAs_Z af852 Zp850
                            exact tw_vret rfl ⟨rfl, gf852, mCo_l hr Ff852 Zf852⟩
                      · try dsimp only [tvI_i, tvJ_j, tvR_r] at q847
                        have q847i := zeqi (Y := 3) (by decide) q847
                        exfalso
                        have z1 := q801i
                        have z2 := q847i
                        omega
                    · try dsimp only [tvI_i, tvJ_j, tvR_r] at p846
                      refine tw_istore rfl ?_
                      refine tw_iload rfl rfl ?_
                      refine tw_push rfl ?_
                      refine tw_ic_ne rfl (fun q853 => ?_) (fun q853 => ?_)
                      · try dsimp only [tvI_i, tvJ_j, tvR_r] at q853
                        have q853i := zneq (Y := 3) (by decide) q853
                        refine tw_iload rfl rfl ?_
                        refine tw_if_eq rfl (fun _ => ?_) (fun z => absurd z (by decide))
                        refine tw_aload rfl rfl ?_
                        refine tw_getS rfl (hs_111_42 gzp845.1) ?_
                        refine tw_iload rfl rfl ?_
                        refine tw_aload rfl rfl ?_
                        refine tw_getS rfl (hi_111_31 gzp845.1) ?_
                        refine tw_iast rfl (fun f854 => ?_)
                        have Lf854 : (tvI (tF hp845 111 31)).toNatClampNeg = (rA (rB T n s2.1) s2).2.2.length := by rw [← mEn_len]; exact congrArg (fun z : rS => z.2.2.length) Sp845
                        refine tG_ast f854 (gzp845).1 (fun hf854 af854 => ?_)
                        try dsimp only [tvI_i, tvR_r] at af854
                        rw [hI9] at af854
                        have gf854 : mFz I h hf854 := mFz_a gzp845 af854 (by decide) (Nat.le_refl _)
                        have pf854 := mAs_P af854 (by decide) pp845e
                        have Sf854 : ms hf854 = (rA (rB T n s2.1) s2) := (mAs_m af854 (by decide)).1.trans Sp845
                        have Df854 : tvI (tF hf854 111 32) = 0 := by rw [af854.2.1]; exact Dp845
                        have hw16 : ¬ rW T n (rB T n s2.1) (rWd 16) = true := by have z := p846; rw [Sp845, rA_1] at z; exact z
                        have hr := rCl3_2 K3 hw16 (by have z := q853i; omega)
                        have c135 : tA hf854 135 I = x := ((congrFun ((mAs_A af854 (q := 135) (by decide)).trans ((mFw_A gwp845 (p := 135) (by decide)).trans ((mAs_A af844 (q := 135) (by decide)).trans ((mFw_A gwp843 (p := 135) (by decide)).trans ((mAs_A af840 (q := 135) (by decide)).trans ((mAs_A af839 (q := 135) (by decide)).trans ((mFw_A gwp838 (p := 135) (by decide)).trans ((mFw_A gwp837 (p := 135) (by decide)).trans (mAs_A af800 (q := 135) (by decide)))))))))) I).trans (mAs_x af799))
                        have c137 : (tA hf854 137 I).toNatClampNeg = (rA vp838.1 (rA (rE T n (rB T n (ms h).1)) (ms h))).2.2.length := by rw [((congrFun ((mAs_A af854 (q := 137) (by decide)).trans ((mFw_A gwp845 (p := 137) (by decide)).trans ((mAs_A af844 (q := 137) (by decide)).trans (mFw_A gwp843 (p := 137) (by decide))))) I).trans (mAs_x af840))]; exact Lf840
                        have c138 : (tA hf854 138 I).toNatClampNeg = (rA (rB T n s2.1) s2).2.2.length := by rw [((congrFun ((mAs_A af854 (q := 138) (by decide)).trans (mFw_A gwp845 (p := 138) (by decide))) I).trans (mAs_x af844))]; exact Lf844
                        have c139 : (tA hf854 139 I).toNatClampNeg = (rA (rB T n s2.1) s2).2.2.length := by rw [(mAs_x af854)]; exact Lf854
                        have c136 : (tA hf854 136 I).toNatClampNeg = vp838.2 := by rw [((congrFun ((mAs_A af854 (q := 136) (by decide)).trans ((mFw_A gwp845 (p := 136) (by decide)).trans ((mAs_A af844 (q := 136) (by decide)).trans ((mFw_A gwp843 (p := 136) (by decide)).trans (mAs_A af840 (q := 136) (by decide)))))) I).trans (mAs_x af839))]; exact zoN (by omega)
                        have hrow : mRow hf854 I = (vp838.2, (rA vp838.1 (rA (rE T n (rB T n (ms h).1)) (ms h))).2.2.length, (rA (rB T n s2.1) s2).2.2.length, (rA (rB T n s2.1) s2).2.2.length) := by
                          unfold mRow
                          rw [c135, c137, c138, c139, zof_cl hx, c136, if_pos ⟨by have z := q801i; omega, by omega⟩]
                        exact tw_vret rfl ⟨rfl, gf854, mCo_r hr pf854 (Sf854.trans rB_A.symm) Df854 hrow⟩
                      · try dsimp only [tvI_i, tvJ_j, tvR_r] at q853
                        have q853i := zeqi (Y := 3) (by decide) q853
                        exfalso
                        have z1 := q801i
                        have z2 := q853i
                        omega
                  · have gwp843 := id gp843
                    have gzp843 : mFz I h hp843 := mFz_t gf840 (mFz_w gwp843)
                    have m9 := mp843
                    rw [Sf840, show stN 1 = 1 from rfl] at m9
                    have hr := rCl2_e K2 (by have z := q841i; omega) m9
                    refine tw_aload rfl rfl ?_
                    refine tw_getS rfl (hs_111_41 gzp843.1) ?_
                    refine tw_iload rfl rfl ?_
                    refine tw_aload rfl rfl ?_
                    refine tw_getS rfl (hi_111_31 gzp843.1) ?_
                    refine tw_iast rfl (fun f855 => ?_)
                    refine tG_ast f855 (gzp843).1 (fun hf855 af855 => ?_)
                    try dsimp only [tvI_i, tvR_r] at af855
                    rw [hI9] at af855
                    have gf855 : mFz I h hf855 := mFz_a gzp843 af855 (by decide) (Nat.le_refl _)
                    have Ff855 := mAs_F af855 Fp843
                    have Zf855 := mAs_Z af855 Zp843
                    refine tw_aload rfl rfl ?_
                    refine tw_virt0 rfl (y_blanks hG hX (gf855).1 Ff855 ((mFz_T gf855).trans hT) ((mFz_n gf855).trans hN) Zf855) (fun wp856 hp856 p856 => ?_)
                    obtain ⟨rfl, gp856, Fp856, Zp856⟩ := p856
                    have gwp856 := mFw_f gp856
                    have gzp856 : mFz I h hp856 := mFz_t gf855 (mFz_w gwp856)
                    refine tw_aload rfl rfl ?_
                    refine tw_push rfl ?_
                    refine tw_virt1 rfl (g_stands hG hX (gzp856).1 ((mFz_T gzp856).trans hT) ((mFz_n gzp856).trans hN) (q := 21) (by decide +kernel) Zp856.1 ⟨by have := Zp856.2; omega, Zp856.2.2⟩) (fun w9 h9 p857 => ?_)
                    obtain ⟨⟨p857, rfl⟩ | ⟨p857, rfl⟩, rfl⟩ := p857
                    · try dsimp only [tvI_i, tvJ_j, tvR_r] at p857
                      refine tw_istore rfl ?_
                      refine tw_iload rfl rfl ?_
                      refine tw_push rfl ?_
                      refine tw_ic_ne rfl (fun q858 => ?_) (fun q858 => ?_)
                      · try dsimp only [tvI_i, tvJ_j, tvR_r] at q858
                        have q858i := zneq (Y := 3) (by decide) q858
                        refine tw_iload rfl rfl ?_
                        refine tw_if_eq rfl (fun z => absurd z (by decide)) (fun _ => ?_)
                        refine tw_aload rfl rfl ?_
                        refine tw_getS rfl (hi_111_29 gzp856.1) ?_
                        refine tw_if_ne rfl (fun q859 => ?_) (fun q859 => ?_)
                        · try dsimp only [tvI_i, tvJ_j, tvR_r] at q859
                          have q859i := zneq (Y := 0) (by decide) q859
                          refine tw_aload rfl rfl ?_
                          refine tw_getS rfl (hs_111_42 gzp856.1) ?_
                          refine tw_iload rfl rfl ?_
                          refine tw_aload rfl rfl ?_
                          refine tw_getS rfl (hi_111_31 gzp856.1) ?_
                          refine tw_iast rfl (fun f860 => ?_)
                          refine tG_ast f860 (gzp856).1 (fun hf860 af860 => ?_)
                          try dsimp only [tvI_i, tvR_r] at af860
                          rw [hI9] at af860
                          have gf860 : mFz I h hf860 := mFz_a gzp856 af860 (by decide) (Nat.le_refl _)
                          have Ff860 := mAs_F af860 Fp856
                          have Zf860 := mAs_Z af860 Zp856
                          exact tw_vret rfl ⟨rfl, gf860, mCo_l hr Ff860 Zf860⟩
                        · try dsimp only [tvI_i, tvJ_j, tvR_r] at q859
                          have q859i := zeqi (Y := 0) (by decide) q859
                          exact absurd q859 (mFt_n Fp856)
                      · try dsimp only [tvI_i, tvJ_j, tvR_r] at q858
                        have q858i := zeqi (Y := 3) (by decide) q858
                        exfalso
                        have z1 := q801i
                        have z2 := q858i
                        omega
                    · try dsimp only [tvI_i, tvJ_j, tvR_r] at p857
                      refine tw_istore rfl ?_
                      refine tw_iload rfl rfl ?_
                      refine tw_push rfl ?_
                      refine tw_ic_ne rfl (fun q861 => ?_) (fun q861 => ?_)
                      · try dsimp only [tvI_i, tvJ_j, tvR_r] at q861
                        have q861i := zneq (Y := 3) (by decide) q861
                        refine tw_iload rfl rfl ?_
                        refine tw_if_eq rfl (fun _ => ?_) (fun z => absurd z (by decide))
                        refine tw_aload rfl rfl ?_
                        refine tw_getS rfl (hs_111_42 gzp856.1) ?_
                        refine tw_iload rfl rfl ?_
                        refine tw_aload rfl rfl ?_
                        refine tw_getS rfl (hi_111_31 gzp856.1) ?_
                        refine tw_iast rfl (fun f862 => ?_)
                        refine tG_ast f862 (gzp856).1 (fun hf862 af862 => ?_)
                        try dsimp only [tvI_i, tvR_r] at af862
                        rw [hI9] at af862
                        have gf862 : mFz I h hf862 := mFz_a gzp856 af862 (by decide) (Nat.le_refl _)
                        have Ff862 := mAs_F af862 Fp856
                        have Zf862 := mAs_Z af862 Zp856
                        exact tw_vret rfl ⟨rfl, gf862, mCo_l hr Ff862 Zf862⟩
                      · try dsimp only [tvI_i, tvJ_j, tvR_r] at q861
                        have q861i := zeqi (Y := 3) (by decide) q861
                        exfalso
                        have z1 := q801i
                        have z2 := q861i
                        omega
            · have gwp838 := mFw_f gp838
              have gzp838 : mFz I h hp838 := mFz_t gzp837 (mFz_w gwp838)
              have hr : r = .inl ep838 := rCl1_e K1 (by have z := q801i; omega) (by rw [← rM_bb]; have z := Np838; rw [Sp837, rA_1] at z; exact z)
              refine tw_iast rfl (fun f863 => ?_)
              refine tG_ast f863 (gzp838).1 (fun hf863 af863 => ?_)
              try dsimp only [tvI_i, tvR_r] at af863
              rw [hI9] at af863
              have gf863 : mFz I h hf863 := mFz_a gzp838 af863 (by decide) (Nat.le_refl _)
              have Ff863 := mAs_F af863 Fp838
              have Zf863 := mAs_Z af863 Zp838
              refine tw_aload rfl rfl ?_
              refine tw_getS rfl (hs_111_40 (gf863).1) ?_
              refine tw_iload rfl rfl ?_
              refine tw_aload rfl rfl ?_
              refine tw_getS rfl (hi_111_31 (gf863).1) ?_
              refine tw_iast rfl (fun f864 => ?_)
              refine tG_ast f864 (gf863).1 (fun hf864 af864 => ?_)
              try dsimp only [tvI_i, tvR_r] at af864
              rw [hI9] at af864
              have gf864 : mFz I h hf864 := mFz_a gf863 af864 (by decide) (Nat.le_refl _)
              have Ff864 := mAs_F af864 Ff863
              have Zf864 := mAs_Z af864 Zf863
              refine tw_iload rfl rfl ?_
              refine tw_push rfl ?_
              refine tw_ic_eq rfl (fun q865 => ?_) (fun q865 => ?_)
              · try dsimp only [tvI_i, tvJ_j, tvR_r] at q865
                have q865i := zeqi (Y := 3) (by decide) q865
                exfalso
                have z1 := q801i
                have z2 := q865i
                omega
              · try dsimp only [tvI_i, tvJ_j, tvR_r] at q865
                have q865i := zneq (Y := 3) (by decide) q865
                refine tw_aload rfl rfl ?_
                refine tw_getS rfl (hi_111_29 (gf864).1) ?_
                refine tw_if_ne rfl (fun q866 => ?_) (fun q866 => ?_)
                · try dsimp only [tvI_i, tvJ_j, tvR_r] at q866
                  have q866i := zneq (Y := 0) (by decide) q866
                  refine tw_aload rfl rfl ?_
                  refine tw_getS rfl (hs_111_41 (gf864).1) ?_
                  refine tw_iload rfl rfl ?_
                  refine tw_aload rfl rfl ?_
                  refine tw_getS rfl (hi_111_31 (gf864).1) ?_
                  refine tw_iast rfl (fun f867 => ?_)
                  refine tG_ast f867 (gf864).1 (fun hf867 af867 => ?_)
                  try dsimp only [tvI_i, tvR_r] at af867
                  rw [hI9] at af867
                  have gf867 : mFz I h hf867 := mFz_a gf864 af867 (by decide) (Nat.le_refl _)
                  have Ff867 := mAs_F af867 Ff864
                  have Zf867 := mAs_Z af867 Zf864
                  refine tw_aload rfl rfl ?_
                  refine tw_virt0 rfl (y_blanks hG hX (gf867).1 Ff867 ((mFz_T gf867).trans hT) ((mFz_n gf867).trans hN) Zf867) (fun wp868 hp868 p868 => ?_)
                  obtain ⟨rfl, gp868, Fp868, Zp868⟩ := p868
                  have gwp868 := mFw_f gp868
                  have gzp868 : mFz I h hp868 := mFz_t gf867 (mFz_w gwp868)
                  refine tw_aload rfl rfl ?_
                  refine tw_push rfl ?_
                  refine tw_virt1 rfl (g_stands hG hX (gzp868).1 ((mFz_T gzp868).trans hT) ((mFz_n gzp868).trans hN) (q := 21) (by decide +kernel) Zp868.1 ⟨by have := Zp868.2; omega, Zp868.2.2⟩) (fun w9 h9 p869 => ?_)
                  obtain ⟨⟨p869, rfl⟩ | ⟨p869, rfl⟩, rfl⟩ := p869
                  · try dsimp only [tvI_i, tvJ_j, tvR_r] at p869
                    refine tw_istore rfl ?_
                    refine tw_iload rfl rfl ?_
                    refine tw_push rfl ?_
                    refine tw_ic_ne rfl (fun q870 => ?_) (fun q870 => ?_)
                    · try dsimp only [tvI_i, tvJ_j, tvR_r] at q870
                      have q870i := zneq (Y := 3) (by decide) q870
                      refine tw_iload rfl rfl ?_
                      refine tw_if_eq rfl (fun z => absurd z (by decide)) (fun _ => ?_)
                      refine tw_aload rfl rfl ?_
                      refine tw_getS rfl (hi_111_29 gzp868.1) ?_
                      refine tw_if_ne rfl (fun q871 => ?_) (fun q871 => ?_)
                      · try dsimp only [tvI_i, tvJ_j, tvR_r] at q871
                        have q871i := zneq (Y := 0) (by decide) q871
                        refine tw_aload rfl rfl ?_
                        refine tw_getS rfl (hs_111_42 gzp868.1) ?_
                        refine tw_iload rfl rfl ?_
                        refine tw_aload rfl rfl ?_
                        refine tw_getS rfl (hi_111_31 gzp868.1) ?_
                        refine tw_iast rfl (fun f872 => ?_)
                        refine tG_ast f872 (gzp868).1 (fun hf872 af872 => ?_)
                        try dsimp only [tvI_i, tvR_r] at af872
                        rw [hI9] at af872
                        have gf872 : mFz I h hf872 := mFz_a gzp868 af872 (by decide) (Nat.le_refl _)
                        have Ff872 := mAs_F af872 Fp868
                        have Zf872 := mAs_Z af872 Zp868
                        exact tw_vret rfl ⟨rfl, gf872, mCo_l hr Ff872 Zf872⟩
                      · try dsimp only [tvI_i, tvJ_j, tvR_r] at q871
                        have q871i := zeqi (Y := 0) (by decide) q871
                        exact absurd q871 (mFt_n Fp868)
                    · try dsimp only [tvI_i, tvJ_j, tvR_r] at q870
                      have q870i := zeqi (Y := 3) (by decide) q870
                      exfalso
                      have z1 := q801i
                      have z2 := q870i
                      omega
                  · try dsimp only [tvI_i, tvJ_j, tvR_r] at p869
                    refine tw_istore rfl ?_
                    refine tw_iload rfl rfl ?_
                    refine tw_push rfl ?_
                    refine tw_ic_ne rfl (fun q873 => ?_) (fun q873 => ?_)
                    · try dsimp only [tvI_i, tvJ_j, tvR_r] at q873
                      have q873i := zneq (Y := 3) (by decide) q873
                      refine tw_iload rfl rfl ?_
                      refine tw_if_eq rfl (fun _ => ?_) (fun z => absurd z (by decide))
                      refine tw_aload rfl rfl ?_
                      refine tw_getS rfl (hs_111_42 gzp868.1) ?_
                      refine tw_iload rfl rfl ?_
                      refine tw_aload rfl rfl ?_
                      refine tw_getS rfl (hi_111_31 gzp868.1) ?_
                      refine tw_iast rfl (fun f874 => ?_)
                      refine tG_ast f874 (gzp868).1 (fun hf874 af874 => ?_)
                      try dsimp only [tvI_i, tvR_r] at af874
                      rw [hI9] at af874
                      have gf874 : mFz I h hf874 := mFz_a gzp868 af874 (by decide) (Nat.le_refl _)
                      have Ff874 := mAs_F af874 Fp868
                      have Zf874 := mAs_Z af874 Zp868
                      exact tw_vret rfl ⟨rfl, gf874, mCo_l hr Ff874 Zf874⟩
                    · try dsimp only [tvI_i, tvJ_j, tvR_r] at q873
                      have q873i := zeqi (Y := 3) (by decide) q873
                      exfalso
                      have z1 := q801i
                      have z2 := q873i
                      omega
                · try dsimp only [tvI_i, tvJ_j, tvR_r] at q866
                  have q866i := zeqi (Y := 0) (by decide) q866
                  exact absurd q866 (mFt_n Ff864)
        · try dsimp only [tvI_i, tvJ_j, tvR_r] at q796
          have q796i := zeqi (Y := 12) (by decide) q796
          refine tw_aload rfl rfl ?_
          refine tw_push rfl ?_
          refine tw_iload rfl rfl ?_
          refine tw_virt2 rfl (g_fails hG hX (gzp789).1 pp789e ((mFz_T gzp789).trans hT) ((mFz_n gzp789).trans hN) (w := 4) rfl (by decide) (mPl pp789e) (by have := mPle pp789e ((mFz_n gzp789).trans hN); have := mNl pp789e ((mFz_n gzp789).trans hN); have := pp789e.2.1; omega)) (fun wp875 hp875 p875 => ?_)
          obtain ⟨rfl, gp875, Fp875, ip875, jp875⟩ := p875
          have gwp875 := mFw_f gp875
          have gzp875 : mFz I h hp875 := mFz_t gzp789 (mFz_w gwp875)
          have Zp875 : mZp hp875 := mZp_k (mZp_p pp789e) ip875 jp875
          rw [Sp789, rA_1] at Fp875
          have hk4 : k < 4 := by have z := q790; omega
          have hw : rW T n (rB T n (ms h).1) (rWd (k + 12)) = true := by have z := p794; rw [Sp789, rA_1] at z; rw [rWd_14 hk4]; exact z
          have hr := rCl_cc hr0 (k := k + 12) (by omega) (by omega) hw (by have z := q796i; omega)
          exact tw_vret rfl ⟨rfl, gzp875, mCo_l hr Fp875 Zp875⟩
      · try dsimp only [tvI_i, tvJ_j, tvR_r] at q795
        have q795i := zeqi (Y := 4) (by decide) q795
        exfalso
        have z1 := q790
        have z2 := q795i
        omega
    · try dsimp only [tvI_i, tvJ_j, tvR_r] at p794
      refine tw_if_ne rfl (fun z => absurd z (by decide)) (fun _ => ?_)
      refine tw_iinc rfl rfl ?_
      refine tw_goto rfl ?_
      have hk4 : k < 4 := by have z := q790; omega
      have hno : ¬ rW T n (rB T n (ms h).1) (rWd (k + 12)) = true := by have z := p794; rw [Sp789, rA_1] at z; rw [rWd_14 hk4]; exact z
      exact tG_cut (zW_mono zTt G dp) (Or.inr ⟨rfl, rfl, rfl, k + 1, x + 1, zincN hx (by omega), by omega, fun i hi => (Classical.em (i = k)).elim (fun z => by rw [z]; exact hno) (fun z => hall i (by omega)), rfl⟩)
/-! the reference's whole rule: what its loop stands on -/
section R9
variable {T : Nat → Int32} {n f : Nat} {s : rS} {cl : List rCt} {r : Nat ⊕ (rS × List rCt)}
/-- what follows a clause -/
noncomputable def rNx (T : Nat → Int32) (n : Nat) (cl : List rCt) (r : Nat ⊕ (rS × List rCt)) : Nat ⊕ (rS × rCt) → Prop
  | .inl e => r = .inl e
  | .inr x => (¬ rB T n x.1.1 < n ∧ r = .inr (rA (rB T n x.1.1) x.1, cl ++ [x.2])) ∨ ((rB T n x.1.1 < n ∧ T (rB T n x.1.1) = 59) ∧ ∃ f, rRu T n f (rA (rB T n x.1.1 + 1) x.1) (cl ++ [x.2]) r) ∨ ((rB T n x.1.1 < n ∧ ¬ T (rB T n x.1.1) = 59) ∧ r = .inl (1 + 8 * rB T n x.1.1 + 0))
theorem rRu_st (h : rRu T n f s cl r) : ∃ r2, rCl T n cl.length s r2 ∧ rNx T n cl r r2 := by
  cases f with
  | zero => exact h.elim
  | succ f =>
    rcases h with ⟨e, h1, h2⟩ | ⟨s1, c, h1, h2⟩
    · exact ⟨.inl e, h1, h2⟩
    · refine ⟨.inr (s1, c), h1, ?_⟩
      rcases h2 with h2 | ⟨h2, h3⟩ | h2
      · exact Or.inl h2
      · exact Or.inr (Or.inl ⟨h2, f, h3⟩)
      · exact Or.inr (Or.inr h2)
theorem mCo_w {I : Nat} {r2 : Nat ⊕ (rS × rCt)} {h h2 : zH} {w : Option Value} (k : w = none ∧ mFz I h h2 ∧ mCo T n I r2 h2) (q : rNx T n cl r r2) : w = none ∧ mFz I h h2 ∧ ((∃ e, r = .inl e ∧ mFt h2 e ∧ mZp h2) ∨ ∃ s1 c1, r2 = .inr (s1, c1) ∧ mP h2 ∧ ms h2 = rA (rB T n s1.1) s1 ∧ tvI (tF h2 111 32) = 0 ∧ mRow h2 I = c1 ∧ rNx T n cl r (.inr (s1, c1))) := by
  refine ⟨k.1, k.2.1, ?_⟩
  cases r2 with
  | inl e => exact Or.inl ⟨e, q, k.2.2.1, k.2.2.2⟩
  | inr x => exact Or.inr ⟨x.1, x.2, rfl, k.2.2.1, k.2.2.2.1, k.2.2.2.2.1, k.2.2.2.2.2, q⟩
/-- what the reference's reader keeps between rules -/
noncomputable def mK (h : zH) : Prop := (0 ≤ (tvI (tF h 111 27)).toInt ∧ (tvI (tF h 111 27)).toInt ≤ 400) ∧ 0 ≤ (tvI (tF h 111 34)).toInt ∧ (0 ≤ (tvI (tF h 111 30)).toInt ∧ (tvI (tF h 111 30)).toInt ≤ 10) ∧ (∀ i, i < tN h 142 → 0 ≤ (tA h 142 i).toInt) ∧ (∀ i : Nat, i = i) ∧ tN h 133 ≤ 100000 ∧ tN h 142 ≤ 100000
theorem mRs9 {h a b c d e : zH} {lo : Nat} (hs : tSh h) (k : mK h) (e28 : mSet 28 0 h a) (e29 : mSet 29 0 a b) (e31 : mSet 31 0 b c) (e32 : mSet 32 0 c d) (e33 : mSet 33 0 d e) : mFz lo h e ∧ mP e ∧ ms e = (0, 0, []) ∧ tvI (tF e 111 32) = 0 := by
  have z0 : mFz lo h h := mFz_r hs
  have z1 := mFz_s z0 e28 (Or.inl (by unfold mFs; omega))
  have z2 := mFz_s z1 e29 (Or.inl (by unfold mFs; omega))
  have z3 := mFz_s z2 e31 (Or.inl (by unfold mFs; omega))
  have z4 := mFz_s z3 e32 (Or.inl (by unfold mFs; omega))
  have z5 := mFz_s z4 e33 (Or.inl (by unfold mFs; omega))
  have f28 : tF e 111 28 = .int 0 := (e33.2.2.1 111 28 (by decide)).trans ((e32.2.2.1 111 28 (by decide)).trans ((e31.2.2.1 111 28 (by decide)).trans ((e29.2.2.1 111 28 (by decide)).trans e28.2.1)))
  have f29 : tF e 111 29 = .int 0 := (e33.2.2.1 111 29 (by decide)).trans ((e32.2.2.1 111 29 (by decide)).trans ((e31.2.2.1 111 29 (by decide)).trans e29.2.1))
  have f31 : tF e 111 31 = .int 0 := (e33.2.2.1 111 31 (by decide)).trans ((e32.2.2.1 111 31 (by decide)).trans e31.2.1)
  have f32 : tF e 111 32 = .int 0 := (e33.2.2.1 111 32 (by decide)).trans e32.2.1
  have f33 : tF e 111 33 = .int 0 := e33.2.1
  have f34 : tF e 111 34 = tF h 111 34 := (e33.2.2.1 111 34 (by decide)).trans ((e32.2.2.1 111 34 (by decide)).trans ((e31.2.2.1 111 34 (by decide)).trans ((e29.2.2.1 111 34 (by decide)).trans (e28.2.2.1 111 34 (by decide)))))
  have A : tA e = tA h := e33.2.2.2.1.trans (e32.2.2.2.1.trans (e31.2.2.2.1.trans (e29.2.2.2.1.trans e28.2.2.2.1)))
  have N : tN e = tN h := z5.2.2.2.1
  obtain ⟨k1, k2, k3, k4, k5, k6, k7⟩ := k
  refine ⟨z5, ⟨f29, ?_, ?_, ?_, ?_, ?_, ?_, ?_, by rw [N]; exact k6, by rw [N]; exact k7⟩, ?_, ?_⟩
  · rw [f28, mFz_27 z5]
    refine ⟨by decide, ?_, k1.2⟩
    show (0 : Int) ≤ _
    exact k1.1
  · rw [f33]; decide
  · rw [f31]; decide
  · rw [f34]; exact k2
  · rw [mFz_30 z5]; exact k3
  · rw [A, N]; exact k4
  · exact k5
  · unfold ms mEn
    rw [f28, f33, f31]
    rfl
  · rw [f32]; rfl
/-- the codes of rule q, k of them -/
noncomputable def mEk (h : zH) (q k : Nat) : List Nat := (List.range k).map (fun i => mCode (tA h 133 (500 * q + i)).toNatClampNeg (tA h 134 (500 * q + i)).toNatClampNeg)
theorem mEn_k {h : zH} : mEn h = mEk h (tvI (tF h 111 30)).toNatClampNeg (tvI (tF h 111 31)).toNatClampNeg := rfl
end R9
section R10
variable {T : Nat → Int32} {n : Nat} {h h1 h2 : zH}
theorem mRow_z {lo j : Nat} (a : mFz lo h h2) (hj : j < lo) : mRow h2 j = mRow h j := by
  unfold mRow
  rw [a.2.2.2.2.2 135 j (by decide) (by decide) hj, a.2.2.2.2.2 136 j (by decide) (by decide) hj, a.2.2.2.2.2 137 j (by decide) (by decide) hj, a.2.2.2.2.2 138 j (by decide) (by decide) hj, a.2.2.2.2.2 139 j (by decide) (by decide) hj]
noncomputable def mRw (h : zH) (b : Nat) (cl : List rCt) : Prop := ∀ i, i < cl.length → cl[i]? = some (mRow h (b + i))
theorem mRw_0 {b : Nat} : mRw h b [] := fun i hi => absurd hi (Nat.not_lt_zero _)
theorem mRw_z {b lo : Nat} {cl : List rCt} (k : mRw h b cl) (a : mFz lo h h2) (hl : b + cl.length ≤ lo) : mRw h2 b cl := fun i hi => by
  rw [mRow_z a (by omega)]
  exact k i hi
theorem mRw_s {b : Nat} {cl : List rCt} {c1 : rCt} (k : mRw h b cl) (e : mRow h (b + cl.length) = c1) : mRw h b (cl ++ [c1]) := fun i hi => by
  rcases Nat.lt_or_ge i cl.length with z | z
  · rw [List.getElem?_append_left z]
    exact k i z
  · have hi : i < cl.length + 1 := by rw [List.length_append] at hi; exact hi
    obtain rfl : i = cl.length := by omega
    rw [List.getElem?_append_right (Nat.le_refl _), Nat.sub_self, e]
    rfl
/-- a whole rule's frame -/
noncomputable def mFy (h h2 : zH) : Prop := tSh h2 ∧ (∀ p b, ¬ (p = 111 ∧ (mFs b ∨ b = 46 ∨ b = 47 ∨ b = 27 ∨ b = 30)) → tF h2 p b = tF h p b) ∧ (∀ p, p ≠ 133 → p ≠ 134 → p ≠ 142 → (p < 135 ∨ 141 < p) → tA h2 p = tA h p) ∧ tN h2 = tN h ∧ mLo h h2 ∧ (∀ p q, 135 ≤ p → p ≤ 139 → q < 12 * (tvI (tF h 111 30)).toNatClampNeg → tA h2 p q = tA h p q)
noncomputable def mRo (y : Int32) (r : Nat ⊕ (rS × List rCt)) (w : Option Value) (h h2 : zH) : Prop := mFy h h2 ∧ tvI (tF h2 111 27) = 0 ∧ match r with
  | .inl e => e < 100000 ∧ w = some (.int (-2 - Int32.ofNat e)) ∧ tF h2 111 30 = tF h 111 30 ∧ tA h2 140 = tA h 140 ∧ tA h2 141 = tA h 141
  | .inr x => w = some (.int (tvI (tF h 111 30) + 1 - 1)) ∧ tvI (tF h2 111 30) = tvI (tF h 111 30) + 1 ∧ (tA h2 140 (tvI (tF h 111 30)).toNatClampNeg).toNatClampNeg = x.2.length ∧ tA h2 141 (tvI (tF h 111 30)).toNatClampNeg = y ∧ (∀ q, q ≠ (tvI (tF h 111 30)).toNatClampNeg → tA h2 140 q = tA h 140 q ∧ tA h2 141 q = tA h 141 q) ∧ mRw h2 (12 * (tvI (tF h 111 30)).toNatClampNeg) x.2 ∧ x.1.2.2 = mEk h2 (tvI (tF h 111 30)).toNatClampNeg x.1.2.2.length
/-- the loop's end, and its middle -/
noncomputable def mLp (T : Nat → Int32) (n : Nat) (r : Nat ⊕ (rS × List rCt)) (b k : Nat) (m : Int32) (h1 : zH) : Prop :=
  (m ≠ 0 ∧ k ≤ 12 ∧ mP h1 ∧ tvI (tF h1 111 32) = 0 ∧ ∃ cl f, cl.length = k ∧ mRw h1 b cl ∧ rRu T n f (ms h1) cl r)
  ∨ (m = 0 ∧ ((∃ e, r = .inl e ∧ mFt h1 e) ∨ ∃ s cl, r = .inr (s, cl) ∧ cl.length = k ∧ mRw h1 b cl ∧ tF h1 111 29 = .int 0 ∧ mEn h1 = s.2.2))
theorem nx_1 {cl : List rCt} {c1 : rCt} {s1 : rS} {r : Nat ⊕ (rS × List rCt)} (q : rNx T n cl r (.inr (s1, c1))) (h1 : ¬ rB T n s1.1 < n) : r = .inr (rA (rB T n s1.1) s1, cl ++ [c1]) := by
  rcases q with ⟨_, q⟩ | ⟨z, _⟩ | ⟨z, _⟩
  · exact q
  · exact absurd z.1 h1
  · exact absurd z.1 h1
theorem nx_2 {cl : List rCt} {c1 : rCt} {s1 : rS} {r : Nat ⊕ (rS × List rCt)} (q : rNx T n cl r (.inr (s1, c1))) (h1 : rB T n s1.1 < n ∧ T (rB T n s1.1) = 59) : ∃ f, rRu T n f (rA (rB T n s1.1 + 1) s1) (cl ++ [c1]) r := by
  rcases q with ⟨z, _⟩ | ⟨_, q⟩ | ⟨z, _⟩
  · exact absurd h1.1 z
  · exact q
  · exact absurd h1.2 z.2
theorem nx_3 {cl : List rCt} {c1 : rCt} {s1 : rS} {r : Nat ⊕ (rS × List rCt)} (q : rNx T n cl r (.inr (s1, c1))) (h1 : rB T n s1.1 < n) (h2 : ¬ (rB T n s1.1 < n ∧ T (rB T n s1.1) = 59)) : r = .inl (1 + 8 * rB T n s1.1 + 0) := by
  rcases q with ⟨z, _⟩ | ⟨z, _⟩ | ⟨_, q⟩
  · exact absurd h1 z
  · exact absurd z h2
  · exact q
theorem mFt_m {b w : Nat} {X : Int32} {h3 : zH} (k : mSet b X h h3) (hb : b ≠ 29) (F : mFt h w) : mFt h3 w := ⟨(k.2.2.1 111 29 (fun z => hb z.2.symm)).trans F.1, F.2⟩
theorem mRw_m {b q : Nat} {X : Int32} {h3 : zH} {cl : List rCt} (k : mRw h b cl) (e : mSet q X h h3) : mRw h3 b cl := fun i hi => by
  rw [k i hi]
  unfold mRow
  rw [e.2.2.2.1]
theorem mRw_a {b q i : Nat} {x : Int32} {h3 : zH} {cl : List rCt} (k : mRw h b cl) (e : mAs q i x h h3) (hq : 139 < q) : mRw h3 b cl := fun j hj => by
  rw [k j hj]
  unfold mRow
  rw [mAs_A e (q := 135) (by omega), mAs_A e (q := 136) (by omega), mAs_A e (q := 137) (by omega), mAs_A e (q := 138) (by omega), mAs_A e (q := 139) (by omega)]
theorem mFy_1 {X : Int32} {h3 : zH} (g : mFz (12 * (tvI (tF h 111 30)).toNatClampNeg) h h1) (e : mSet 27 X h1 h3) : mFy h h3 := ⟨e.1, fun p b z => (e.2.2.1 p b (fun w => z ⟨w.1, by omega⟩)).trans (g.2.1 p b (fun w => z ⟨w.1, w.2.elim Or.inl (fun y => y.elim (fun y => Or.inr (Or.inl y)) (fun y => Or.inr (Or.inr (Or.inl y))))⟩)), fun p a b c d => (congrFun e.2.2.2.1 p).trans (g.2.2.1 p a b c (by omega)), e.2.2.2.2.trans g.2.2.2.1, mLo_A e.2.2.2.1 g.2.2.2.2.1, fun p q a b c => (congrFun (congrFun e.2.2.2.1 p) q).trans (g.2.2.2.2.2 p q a b c)⟩
theorem mFy_2 {q i : Nat} {x : Int32} {h3 : zH} (a : mFy h h1) (e : mAs q i x h1 h3) (hq : q = 140 ∨ q = 141) : mFy h h3 := ⟨e.1, fun p b z => by rw [e.2.1]; exact a.2.1 p b z, fun p w1 w2 w3 w4 => (mAs_A e (by omega)).trans (a.2.2.1 p w1 w2 w3 w4), e.2.2.1.trans a.2.2.2.1, fun j hj => ⟨(mAs_o e (by omega)).trans (a.2.2.2.2.1 j hj).1, (mAs_o e (by omega)).trans (a.2.2.2.2.1 j hj).2⟩, fun p j w1 w2 w3 => (mAs_o e (by omega)).trans (a.2.2.2.2.2 p j w1 w2 w3)⟩
theorem mFy_3 {X : Int32} {h3 : zH} (a : mFy h h1) (e : mSet 30 X h1 h3) : mFy h h3 := ⟨e.1, fun p b z => (e.2.2.1 p b (fun w => z ⟨w.1, by omega⟩)).trans (a.2.1 p b z), fun p w1 w2 w3 w4 => (congrFun e.2.2.2.1 p).trans (a.2.2.1 p w1 w2 w3 w4), e.2.2.2.2.trans a.2.2.2.1, mLo_A e.2.2.2.1 a.2.2.2.2.1, fun p j w1 w2 w3 => (congrFun (congrFun e.2.2.2.1 p) j).trans (a.2.2.2.2.2 p j w1 w2 w3)⟩
theorem mEk_c {q k : Nat} (a : tA h2 133 = tA h 133) (b : tA h2 134 = tA h 134) : mEk h2 q k = mEk h q k := by
  unfold mEk
  rw [a, b]
/-- the end, with a fault; the end without one -/
theorem mRo_l {y : Int32} {r : Nat ⊕ (rS × List rCt)} {e : Nat} {hA : zH} (hr : r = .inl e) (g1 : mFz (12 * (tvI (tF h 111 30)).toNatClampNeg) h h1) (k : mSet 27 0 h1 hA) (F : mFt h1 e) : mRo y r (some (.int (-2 - tvI (tF hA 111 29)))) h hA := by
  subst hr
  refine ⟨mFy_1 g1 k, mI_x k, F.2.2, ?_, (k.2.2.1 111 30 (by decide)).trans (mFz_30 g1), (congrFun k.2.2.2.1 140).trans (g1.2.2.1 140 (by decide) (by decide) (by decide) (by decide)), (congrFun k.2.2.2.1 141).trans (g1.2.2.1 141 (by decide) (by decide) (by decide) (by decide))⟩
  rw [(k.2.2.1 111 29 (by decide)).trans F.1]
  rfl
theorem mRo_r {y x : Int32} {r : Nat ⊕ (rS × List rCt)} {s9 : rS} {cl9 : List rCt} {i1 i2 X : Int32} {hA hB hC hD : zH} (hr : r = .inr (s9, cl9)) (g1 : mFz (12 * (tvI (tF h 111 30)).toNatClampNeg) h h1) (k : mSet 27 0 h1 hA) (a1 : mAs 140 i1.toNatClampNeg x hA hB) (hi1 : i1 = tvI (tF hA 111 30)) (a2 : mAs 141 i2.toNatClampNeg y hB hC) (hi2 : i2 = tvI (tF hB 111 30)) (k2 : mSet 30 X hC hD) (hX : X = tvI (tF hC 111 30) + 1) (hx : x.toInt = cl9.length) (rw9 : mRw h1 (12 * (tvI (tF h 111 30)).toNatClampNeg) cl9) (h5 : mEn h1 = s9.2.2) : mRo y r (some (.int (tvI (tF hD 111 30) - 1))) h hD := by
  subst hr
  have EA : tF hA 111 30 = tF h 111 30 := (k.2.2.1 111 30 (by decide)).trans (mFz_30 g1)
  have EB : tF hB 111 30 = tF h 111 30 := by rw [a1.2.1]; exact EA
  have EC : tF hC 111 30 = tF h 111 30 := by rw [a2.2.1]; exact EB
  rw [hi1, EA] at a1
  rw [hi2, EB] at a2
  have ED : tvI (tF hD 111 30) = tvI (tF h 111 30) + 1 := (mI_x k2).trans (by rw [hX, EC])
  refine ⟨mFy_3 (mFy_2 (mFy_2 (mFy_1 g1 k) a1 (Or.inl rfl)) a2 (Or.inr rfl)) k2, ?_, by rw [ED], ED, ?_, ?_, fun q hq => ⟨?_, ?_⟩, mRw_m (mRw_a (mRw_a (mRw_m rw9 k) a1 (by decide)) a2 (by decide)) k2, ?_⟩
  · rw [k2.2.2.1 111 27 (by decide), a2.2.1, a1.2.1]
    exact mI_x k
  · rw [k2.2.2.2.1, mAs_o a2 (by decide), mAs_x a1]
    exact zof_cl hx
  · rw [k2.2.2.2.1]
    exact mAs_x a2
  · rw [k2.2.2.2.1, mAs_o a2 (by decide), a1.2.2.2]
    refine (if_neg (fun z => hq z.2)).trans ?_
    rw [k.2.2.2.1, g1.2.2.1 140 (by decide) (by decide) (by decide) (by decide)]
  · rw [k2.2.2.2.1, a2.2.2.2]
    refine (if_neg (fun z => hq z.2)).trans ?_
    rw [mAs_A a1 (by decide), k.2.2.2.1, g1.2.2.1 141 (by decide) (by decide) (by decide) (by decide)]
  · rw [← h5, mEn_len, mEn_k, mFz_30 g1]
    refine (mEk_c ?_ ?_).symm
    · rw [k2.2.2.2.1, mAs_A a2 (by decide), mAs_A a1 (by decide), k.2.2.2.1]
    · rw [k2.2.2.2.1, mAs_A a2 (by decide), mAs_A a1 (by decide), k.2.2.2.1]
end R10
theorem g_rule {G : zG} (hG : G.1 = zProg) (hX : G.2.1 = ztx) {h : zH} {T : Nat → Int32} {n : Nat} (hs : tSh h) (hk : mK h) (hT : tA h 132 = T) (hN : mn h = n) {y : Int32} {r : Nat ⊕ (rS × List rCt)} (hr0 : ∃ f, rRu T n f (0, 0, []) [] r) : tC zTt G 225 [.ref 111, .int y] h (fun w h2 => (¬ (¬ tvI (tF h 111 30) = 10 ∧ (tvI (tF h 111 1)).toInt ≤ y.toInt ∧ y.toInt ≤ 599) ∧ w = some (.int (-1)) ∧ h2 = h) ∨ ((¬ tvI (tF h 111 30) = 10 ∧ (tvI (tF h 111 1)).toInt ≤ y.toInt ∧ y.toInt ≤ 599) ∧ mRo y r w h h2)) := by
  refine tC_in (by rw [hG]; rfl) (fun dp => ?_)
  have g0 : mFz (12 * (tvI (tF h 111 30)).toNatClampNeg) h h := mFz_r hs
  refine tw_aload rfl rfl ?_
  refine tw_getS rfl (hi_111_30 hs) ?_
  refine tw_push rfl ?_
  refine tw_ic_eq rfl (fun q876 => ?_) (fun q876 => ?_)
  · try dsimp only [tvI_i, tvJ_j, tvR_r] at q876
    have q876i := zeqi (Y := 10) (by decide) q876
    refine tw_push rfl ?_
    exact tw_iret rfl (Or.inl ⟨fun z => z.1 q876, rfl, rfl⟩)
  · try dsimp only [tvI_i, tvJ_j, tvR_r] at q876
    have q876i := zneq (Y := 10) (by decide) q876
    refine tw_iload rfl rfl ?_
    refine tw_i2l rfl ?_
    refine tw_aload rfl rfl ?_
    refine tw_getS rfl (hi_111_1 hs) ?_
    refine tw_i2l rfl ?_
    refine tw_push rfl ?_
    refine tw_stat3 rfl (f_in hG   (HI := 599) (Int32.toInt_toInt64 _) (Int32.toInt_toInt64 _) (by decide)) (fun w9 h9 p877 => ?_)
    obtain ⟨⟨p877, rfl⟩ | ⟨p877, rfl⟩, e9⟩ := p877
    · try dsimp only [tvI_i, tvJ_j, tvR_r] at p877
      obtain rfl := e9.symm
      refine tw_if_ne rfl (fun _ => ?_) (fun z => absurd z (by decide))
      refine tw_aload rfl rfl ?_
      refine tw_push rfl ?_
      refine tw_put rfl (fun f878 => ?_)
      refine tG_setm f878 (hw_111_28 f878 (g0).1) (fun hf878 ef878 => ?_)
      try dsimp only [tvI_i] at ef878
      have gf878 : mFz (12 * (tvI (tF h 111 30)).toNatClampNeg) h hf878 := mFz_s g0 ef878 (Or.inl (by unfold mFs; omega))
      refine tw_aload rfl rfl ?_
      refine tw_push rfl ?_
      refine tw_put rfl (fun f879 => ?_)
      refine tG_setm f879 (hw_111_29 f879 (gf878).1) (fun hf879 ef879 => ?_)
      try dsimp only [tvI_i] at ef879
      have gf879 : mFz (12 * (tvI (tF h 111 30)).toNatClampNeg) h hf879 := mFz_s gf878 ef879 (Or.inl (by unfold mFs; omega))
      refine tw_aload rfl rfl ?_
      refine tw_push rfl ?_
      refine tw_put rfl (fun f880 => ?_)
      refine tG_setm f880 (hw_111_31 f880 (gf879).1) (fun hf880 ef880 => ?_)
      try dsimp only [tvI_i] at ef880
      have gf880 : mFz (12 * (tvI (tF h 111 30)).toNatClampNeg) h hf880 := mFz_s gf879 ef880 (Or.inl (by unfold mFs; omega))
      refine tw_aload rfl rfl ?_
      refine tw_push rfl ?_
      refine tw_put rfl (fun f881 => ?_)
      refine tG_setm f881 (hw_111_32 f881 (gf880).1) (fun hf881 ef881 => ?_)
      try dsimp only [tvI_i] at ef881
      have gf881 : mFz (12 * (tvI (tF h 111 30)).toNatClampNeg) h hf881 := mFz_s gf880 ef881 (Or.inl (by unfold mFs; omega))
      refine tw_aload rfl rfl ?_
      refine tw_push rfl ?_
      refine tw_put rfl (fun f882 => ?_)
      refine tG_setm f882 (hw_111_33 f882 (gf881).1) (fun hf882 ef882 => ?_)
      try dsimp only [tvI_i] at ef882
      have gf882 : mFz (12 * (tvI (tF h 111 30)).toNatClampNeg) h hf882 := mFz_s gf881 ef882 (Or.inl (by unfold mFs; omega))
      refine tw_push rfl ?_
      refine tw_istore rfl ?_
      refine tw_push rfl ?_
      refine tw_istore rfl ?_
      refine tG_loop (zW_mono zTt G dp) (zW_conj zTt G dp) (V := fun pc L st h9 _ _ => pc = 56 ∧ st = [] ∧ ∃ (h1 : zH) (k : Nat) (x m : Int32), h1 = h9 ∧ x.toInt = k ∧ k ≤ 13 ∧ mFz (12 * (tvI (tF h 111 30)).toNatClampNeg) h h1 ∧ mLp T n r (12 * (tvI (tF h 111 30)).toNatClampNeg) k m h1 ∧ L = [some (.ref 111), some (.int y), some (.int x), some (.int m)]) ?_ (⟨rfl, rfl, _, 0, 0, 1, rfl, rfl, by decide, (mRs9 (lo := (12 * (tvI (tF h 111 30)).toNatClampNeg)) hs hk ef878 ef879 ef880 ef881 ef882).1, Or.inl ⟨by decide, by decide, (mRs9 (lo := (12 * (tvI (tF h 111 30)).toNatClampNeg)) hs hk ef878 ef879 ef880 ef881 ef882).2.1, (mRs9 (lo := (12 * (tvI (tF h 111 30)).toNatClampNeg)) hs hk ef878 ef879 ef880 ef881 ef882).2.2.2, [], hr0.choose, rfl, mRw_0, by rw [(mRs9 (lo := (12 * (tvI (tF h 111 30)).toNatClampNeg)) hs hk ef878 ef879 ef880 ef881 ef882).2.2.1]; exact hr0.choose_spec⟩, rfl⟩)
      rintro _ _ _ _ _ _ ⟨rfl, rfl, h1, k, x, m, rfl, hx, hk13, g1, hlp, rfl⟩
      refine tw_iload rfl rfl ?_
      refine tw_if_eq rfl (fun q883 => ?_) (fun q883 => ?_)
      · try dsimp only [tvI_i, tvJ_j, tvR_r] at q883
        have q883i := zeqi (Y := 0) (by decide) q883
        refine tw_aload rfl rfl ?_
        refine tw_push rfl ?_
        refine tw_put rfl (fun f884 => ?_)
        refine tG_setm f884 (hw_111_27 f884 (g1).1) (fun hf884 ef884 => ?_)
        try dsimp only [tvI_i] at ef884
        have gf884 : tSh hf884 ∧ True := ⟨ef884.1, trivial⟩
        refine tw_aload rfl rfl ?_
        refine tw_getS rfl (hi_111_29 (gf884).1) ?_
        refine tw_if_le rfl (fun q885 => ?_) (fun q885 => ?_)
        · try dsimp only [tvI_i, tvJ_j, tvR_r] at q885
          refine tw_aload rfl rfl ?_
          refine tw_getS rfl (hs_111_43 (gf884).1) ?_
          refine tw_aload rfl rfl ?_
          refine tw_getS rfl (hi_111_30 (gf884).1) ?_
          refine tw_iload rfl rfl ?_
          refine tw_iast rfl (fun f886 => ?_)
          refine tG_ast f886 (gf884).1 (fun hf886 af886 => ?_)
          try dsimp only [tvI_i, tvR_r] at af886
          have gf886 : tSh hf886 ∧ True := ⟨af886.1, trivial⟩
          refine tw_aload rfl rfl ?_
          refine tw_getS rfl (hs_111_44 (gf886).1) ?_
          refine tw_aload rfl rfl ?_
          refine tw_getS rfl (hi_111_30 (gf886).1) ?_
          refine tw_iload rfl rfl ?_
          refine tw_iast rfl (fun f887 => ?_)
          refine tG_ast f887 (gf886).1 (fun hf887 af887 => ?_)
          try dsimp only [tvI_i, tvR_r] at af887
          have gf887 : tSh hf887 ∧ True := ⟨af887.1, trivial⟩
          refine tw_aload rfl rfl ?_
          refine tw_dup rfl ?_
          refine tw_getS rfl (hi_111_30 (gf887).1) ?_
          refine tw_push rfl ?_
          refine tw_iadd rfl ?_
          refine tw_put rfl (fun f888 => ?_)
          refine tG_setm f888 (hw_111_30 f888 (gf887).1) (fun hf888 ef888 => ?_)
          try dsimp only [tvI_i] at ef888
          have gf888 : tSh hf888 ∧ True := ⟨ef888.1, trivial⟩
          refine tw_aload rfl rfl ?_
          refine tw_getS rfl (hi_111_30 (gf888).1) ?_
          refine tw_push rfl ?_
          refine tw_isub rfl ?_
          have hend := (hlp.resolve_left (fun z => z.1 q883)).2
          rcases hend with ⟨e9, hr, F9⟩ | ⟨s9, cl9, hr, l9, w9, f9, n9⟩
          · exfalso
            have z := q885
            have c09 : (0 : Int32).toInt = 0 := rfl
            have y9 : (tvI (tF h1 111 29)).toInt = e9 := by rw [F9.1]; exact zofI (by have := F9.2.2; omega)
            rw [ef884.2.2.1 111 29 (by decide)] at z
            have := F9.2.1
            omega
          · exact tw_iret rfl (Or.inr ⟨⟨q876, p877⟩, mRo_r hr g1 ef884 af886 rfl af887 rfl ef888 rfl (by rw [l9]; exact hx) w9 n9⟩)
        · try dsimp only [tvI_i, tvJ_j, tvR_r] at q885
          refine tw_push rfl ?_
          refine tw_aload rfl rfl ?_
          refine tw_getS rfl (hi_111_29 (gf884).1) ?_
          refine tw_isub rfl ?_
          have hend := (hlp.resolve_left (fun z => z.1 q883)).2
          rcases hend with ⟨e9, hr, F9⟩ | ⟨s9, cl9, hr, l9, w9, f9, n9⟩
          · exact tw_iret rfl (Or.inr ⟨⟨q876, p877⟩, mRo_l hr g1 ef884 F9⟩)
          · exfalso
            have z := q885
            rw [ef884.2.2.1 111 29 (by decide), f9] at z
            exact absurd z (by decide)
      · try dsimp only [tvI_i, tvJ_j, tvR_r] at q883
        have q883i := zneq (Y := 0) (by decide) q883
        refine tw_aload rfl rfl ?_
        refine tw_iload rfl rfl ?_
        obtain ⟨hk12, p1, d1, cl, f, hcl, hrw, hru⟩ := (hlp.resolve_right (fun z => q883 z.1)).2
        obtain ⟨r2, hc2, hnx⟩ := rRu_st hru
        refine tw_virt1 rfl (g_clause hG hX g1.1 p1 ((mFz_T g1).trans hT) ((mFz_n g1).trans hN) (c := cl.length) (by rw [hcl]; exact hx) (by omega) rfl d1 hc2) (fun w9 hp889 p889 => ?_)
        obtain ⟨rfl, gp889, ⟨e2, he2, Fp889, Zp889⟩ | ⟨s1, c1, hc1, pp889, sp889, dp889, wp889, nxp889⟩⟩ := mCo_w p889 hnx
        · have gzp889 : mFz (12 * (tvI (tF h 111 30)).toNatClampNeg) h hp889 := mFz_t g1 (mFz_l (by rw [mFz_30 g1]; omega) gp889)
          refine tw_iinc rfl rfl ?_
          refine tw_aload rfl rfl ?_
          refine tw_virt0 rfl (y_blanks hG hX (gzp889).1 Fp889 ((mFz_T gzp889).trans hT) ((mFz_n gzp889).trans hN) Zp889) (fun wp890 hp890 p890 => ?_)
          obtain ⟨rfl, gp890, Fp890, Zp890⟩ := p890
          have gzp890 : mFz (12 * (tvI (tF h 111 30)).toNatClampNeg) h hp890 := mFz_t gzp889 (mFz_w (mFw_f gp890))
          refine tw_aload rfl rfl ?_
          refine tw_getS rfl (hi_111_29 gzp890.1) ?_
          refine tw_if_ne rfl (fun q891 => ?_) (fun q891 => ?_)
          · try dsimp only [tvI_i, tvJ_j, tvR_r] at q891
            have q891i := zneq (Y := 0) (by decide) q891
            refine tw_aload rfl rfl ?_
            refine tw_getS rfl (hi_111_29 gzp890.1) ?_
            refine tw_if_ne rfl (fun q892 => ?_) (fun q892 => ?_)
            · try dsimp only [tvI_i, tvJ_j, tvR_r] at q892
              have q892i := zneq (Y := 0) (by decide) q892
              refine tw_push rfl ?_
              refine tw_istore rfl ?_
              refine tw_aload rfl rfl ?_
              refine tw_dup rfl ?_
              refine tw_getS rfl (hi_111_28 gzp890.1) ?_
              refine tw_push rfl ?_
              refine tw_iadd rfl ?_
              refine tw_put rfl (fun f893 => ?_)
              refine tG_setm f893 (hw_111_28 f893 (gzp890).1) (fun hf893 ef893 => ?_)
              try dsimp only [tvI_i] at ef893
              have gf893 : mFz (12 * (tvI (tF h 111 30)).toNatClampNeg) h hf893 := mFz_s gzp890 ef893 (Or.inl (by unfold mFs; omega))
              refine tw_goto rfl ?_
              exact tG_cut (zW_mono zTt G dp) (Or.inr ⟨rfl, rfl, _, k + 1, x + 1, 0, rfl, zincN hx (by omega), by omega, gf893, Or.inr ⟨rfl, Or.inl ⟨_, he2, mFt_m ef893 (by decide) Fp890⟩⟩, rfl⟩)
            · try dsimp only [tvI_i, tvJ_j, tvR_r] at q892
              have q892i := zeqi (Y := 0) (by decide) q892
              exact absurd q892 (mFt_n Fp890)
          · try dsimp only [tvI_i, tvJ_j, tvR_r] at q891
            have q891i := zeqi (Y := 0) (by decide) q891
            exact absurd q891 (mFt_n Fp890)
        · have gzp889 : mFz (12 * (tvI (tF h 111 30)).toNatClampNeg) h hp889 := mFz_t g1 (mFz_l (by rw [mFz_30 g1]; omega) gp889)
          have hwp889 : mRw hp889 (12 * (tvI (tF h 111 30)).toNatClampNeg) (cl ++ [c1]) := mRw_s (mRw_z hrw gp889 (by rw [mFz_30 g1]; exact Nat.le_refl _)) (by have z := wp889; rw [mFz_30 g1] at z; exact z)
          refine tw_iinc rfl rfl ?_
          refine tw_aload rfl rfl ?_
          refine tw_virt0 rfl (g_blanks hG hX (gzp889).1 pp889 ((mFz_T gzp889).trans hT) ((mFz_n gzp889).trans hN)) (fun wp894 hp894 p894 => ?_)
          obtain ⟨rfl, gp894, pp894, sp894, tp894, dp894⟩ := p894
          have gzp894 : mFz (12 * (tvI (tF h 111 30)).toNatClampNeg) h hp894 := mFz_t gzp889 (mFz_w (mFw_f gp894))
          have Sp894 : ms hp894 = rA (rB T n s1.1) s1 := by rw [sp894, sp889]; exact rB_A
          have Dp894 : tvI (tF hp894 111 32) = 0 := by rw [dp894]; exact dp889
          have hwp894 : mRw hp894 (12 * (tvI (tF h 111 30)).toNatClampNeg) (cl ++ [c1]) := mRw_z hwp889 (mFz_w (lo := (12 * (tvI (tF h 111 30)).toNatClampNeg) + (cl ++ [c1]).length) (mFw_f gp894)) (Nat.le_refl _)
          refine tw_aload rfl rfl ?_
          refine tw_getS rfl (hi_111_29 gzp894.1) ?_
          refine tw_if_ne rfl (fun q895 => ?_) (fun q895 => ?_)
          · try dsimp only [tvI_i, tvJ_j, tvR_r] at q895
            have q895i := zneq (Y := 0) (by decide) q895
            exact absurd (mP_0 pp894) q895
          · try dsimp only [tvI_i, tvJ_j, tvR_r] at q895
            have q895i := zeqi (Y := 0) (by decide) q895
            refine tw_aload rfl rfl ?_
            refine tw_getS rfl (hi_111_28 gzp894.1) ?_
            refine tw_aload rfl rfl ?_
            refine tw_getS rfl (hi_111_27 gzp894.1) ?_
            refine tw_ic_ge rfl (fun q896 => ?_) (fun q896 => ?_)
            · try dsimp only [tvI_i, tvJ_j, tvR_r] at q896
              refine tw_aload rfl rfl ?_
              refine tw_getS rfl (hi_111_29 gzp894.1) ?_
              refine tw_if_ne rfl (fun q897 => ?_) (fun q897 => ?_)
              · try dsimp only [tvI_i, tvJ_j, tvR_r] at q897
                have q897i := zneq (Y := 0) (by decide) q897
                exact absurd (mP_0 pp894) q897
              · try dsimp only [tvI_i, tvJ_j, tvR_r] at q897
                have q897i := zeqi (Y := 0) (by decide) q897
                refine tw_aload rfl rfl ?_
                refine tw_getS rfl (hi_111_28 gzp894.1) ?_
                refine tw_aload rfl rfl ?_
                refine tw_getS rfl (hi_111_27 gzp894.1) ?_
                refine tw_ic_ge rfl (fun q898 => ?_) (fun q898 => ?_)
                · try dsimp only [tvI_i, tvJ_j, tvR_r] at q898
                  refine tw_push rfl ?_
                  refine tw_istore rfl ?_
                  refine tw_aload rfl rfl ?_
                  refine tw_dup rfl ?_
                  refine tw_getS rfl (hi_111_28 gzp894.1) ?_
                  refine tw_push rfl ?_
                  refine tw_iadd rfl ?_
                  refine tw_put rfl (fun f899 => ?_)
                  refine tG_setm f899 (hw_111_28 f899 (gzp894).1) (fun hf899 ef899 => ?_)
                  try dsimp only [tvI_i] at ef899
                  have gf899 : mFz (12 * (tvI (tF h 111 30)).toNatClampNeg) h hf899 := mFz_s gzp894 ef899 (Or.inl (by unfold mFs; omega))
                  refine tw_goto rfl ?_
                  have hlt : ¬ rB T n s1.1 < n := by have z := fun y => Int.not_lt.mpr q896 ((mpos ⟨pp894.2.1.1, by have := pp894.2.1; omega⟩).mpr y); rw [Sp894, rA_1, (mFz_n gzp894).trans hN] at z; exact z
                  have hwn := mRw_m hwp894 ef899
                  have hln : (cl ++ [c1]).length = k + 1 := by rw [List.length_append, hcl]; rfl
                  have hr := nx_1 nxp889 hlt
                  exact tG_cut (zW_mono zTt G dp) (Or.inr ⟨rfl, rfl, _, k + 1, x + 1, 0, rfl, zincN hx (by omega), by omega, gf899, Or.inr ⟨rfl, Or.inr ⟨_, _, hr, hln, hwn, (ef899.2.2.1 111 29 (by decide)).trans pp894.1, (mEn_o ef899 (by decide) (by decide)).trans (congrArg (fun z : rS => z.2.2) Sp894)⟩⟩, rfl⟩)
                · try dsimp only [tvI_i, tvJ_j, tvR_r] at q898
                  exact absurd q898 (Int.not_lt.mpr q896)
            · try dsimp only [tvI_i, tvJ_j, tvR_r] at q896
              refine tw_aload rfl rfl ?_
              refine tw_virt0 rfl (g_sign hG hX (gzp894).1 ((mFz_T gzp894).trans hT) ((mFz_n gzp894).trans hN) ⟨pp894.2.1.1, by have := pp894.2.1; omega⟩) (fun wp900 hp900 p900 => ?_)
              obtain ⟨⟨cp900, rfl, kp900⟩, rfl⟩ := p900
              refine tw_push rfl ?_
              refine tw_ic_eq rfl (fun q901 => ?_) (fun q901 => ?_)
              · try dsimp only [tvI_i, tvJ_j, tvR_r] at q901
                have q901i := zeqi (Y := 59) (by decide) q901
                refine tw_aload rfl rfl ?_
                refine tw_getS rfl (hi_111_29 (gzp894).1) ?_
                refine tw_if_ne rfl (fun q902 => ?_) (fun q902 => ?_)
                · try dsimp only [tvI_i, tvJ_j, tvR_r] at q902
                  have q902i := zneq (Y := 0) (by decide) q902
                  exact absurd (mP_0 pp894) q902
                · try dsimp only [tvI_i, tvJ_j, tvR_r] at q902
                  have q902i := zeqi (Y := 0) (by decide) q902
                  refine tw_aload rfl rfl ?_
                  refine tw_getS rfl (hi_111_28 (gzp894).1) ?_
                  refine tw_aload rfl rfl ?_
                  refine tw_getS rfl (hi_111_27 (gzp894).1) ?_
                  refine tw_ic_ge rfl (fun q903 => ?_) (fun q903 => ?_)
                  · try dsimp only [tvI_i, tvJ_j, tvR_r] at q903
                    exact absurd q896 (Int.not_lt.mpr q903)
                  · try dsimp only [tvI_i, tvJ_j, tvR_r] at q903
                    refine tw_push rfl ?_
                    refine tw_goto rfl ?_
                    refine tw_istore rfl ?_
                    refine tw_aload rfl rfl ?_
                    refine tw_dup rfl ?_
                    refine tw_getS rfl (hi_111_28 (gzp894).1) ?_
                    refine tw_push rfl ?_
                    refine tw_iadd rfl ?_
                    refine tw_put rfl (fun f904 => ?_)
                    refine tG_setm f904 (hw_111_28 f904 (gzp894).1) (fun hf904 ef904 => ?_)
                    try dsimp only [tvI_i] at ef904
                    have gf904 : mFz (12 * (tvI (tF h 111 30)).toNatClampNeg) h hf904 := mFz_s gzp894 ef904 (Or.inl (by unfold mFs; omega))
                    refine tw_goto rfl ?_
                    have hlt : rB T n s1.1 < n := by have z := (mpos ⟨pp894.2.1.1, by have := pp894.2.1; omega⟩).mp q896; rw [Sp894, rA_1, (mFz_n gzp894).trans hN] at z; exact z
                    have h59 : cp900 = 59 ↔ rB T n s1.1 < n ∧ T (rB T n s1.1) = 59 := by have y := sgm_k kp900 59 (by decide); rw [Sp894, rA_1] at y; exact y
                    have hwn := mRw_m hwp894 ef904
                    have hln : (cl ++ [c1]).length = k + 1 := by rw [List.length_append, hcl]; rfl
                    have hcn := rCl_12 (by rw [hc1] at hc2; exact hc2)
                    obtain ⟨f9, hf9⟩ := nx_2 nxp889 (h59.mp q901)
                    have hn4 : n ≤ 400 := by have a := mNl pp894 ((mFz_n gzp894).trans hN); have b := pp894.2.1; omega
                    obtain ⟨pn, sn, tn⟩ := mTo pp894 ((mFz_n gzp894).trans hN) ef904 (v := rB T n s1.1 + 1) (zincN (n := rB T n s1.1) (by rw [mPl pp894, Sp894, rA_1]) (by omega)) hlt
                    rw [Sp894, rA_A] at sn
                    exact tG_cut (zW_mono zTt G dp) (Or.inr ⟨rfl, rfl, _, k + 1, x + 1, 1, rfl, zincN hx (by omega), by omega, gf904, Or.inl ⟨by decide, by omega, pn, (by rw [mI_o ef904 (by decide)]; exact Dp894), _, f9, hln, hwn, by rw [sn]; exact hf9⟩, rfl⟩)
              · try dsimp only [tvI_i, tvJ_j, tvR_r] at q901
                have q901i := zneq (Y := 59) (by decide) q901
                refine tw_aload rfl rfl ?_
                refine tw_push rfl ?_
                refine tw_aload rfl rfl ?_
                refine tw_getS rfl (hi_111_28 (gzp894).1) ?_
                refine tw_virt2 rfl (g_fails hG hX (gzp894).1 pp894 ((mFz_T gzp894).trans hT) ((mFz_n gzp894).trans hN) (w := 0) rfl (by decide) (mPl pp894) (by have := mPle pp894 ((mFz_n gzp894).trans hN); have := mNl pp894 ((mFz_n gzp894).trans hN); have := pp894.2.1; omega)) (fun wp905 hp905 p905 => ?_)
                obtain ⟨rfl, gp905, Fp905, ip905, jp905⟩ := p905
                have gzp905 : mFz (12 * (tvI (tF h 111 30)).toNatClampNeg) h hp905 := mFz_t gzp894 (mFz_w (mFw_f gp905))
                have Zp905 : mZp hp905 := mZp_k (mZp_p pp894) ip905 jp905
                rw [Sp894, rA_1] at Fp905
                refine tw_aload rfl rfl ?_
                refine tw_getS rfl (hi_111_29 gzp905.1) ?_
                refine tw_if_ne rfl (fun q906 => ?_) (fun q906 => ?_)
                · try dsimp only [tvI_i, tvJ_j, tvR_r] at q906
                  have q906i := zneq (Y := 0) (by decide) q906
                  refine tw_push rfl ?_
                  refine tw_istore rfl ?_
                  refine tw_aload rfl rfl ?_
                  refine tw_dup rfl ?_
                  refine tw_getS rfl (hi_111_28 gzp905.1) ?_
                  refine tw_push rfl ?_
                  refine tw_iadd rfl ?_
                  refine tw_put rfl (fun f907 => ?_)
                  refine tG_setm f907 (hw_111_28 f907 (gzp905).1) (fun hf907 ef907 => ?_)
                  try dsimp only [tvI_i] at ef907
                  have gf907 : mFz (12 * (tvI (tF h 111 30)).toNatClampNeg) h hf907 := mFz_s gzp905 ef907 (Or.inl (by unfold mFs; omega))
                  refine tw_goto rfl ?_
                  have hlt : rB T n s1.1 < n := by have z := (mpos ⟨pp894.2.1.1, by have := pp894.2.1; omega⟩).mp q896; rw [Sp894, rA_1, (mFz_n gzp894).trans hN] at z; exact z
                  have h59 : cp900 = 59 ↔ rB T n s1.1 < n ∧ T (rB T n s1.1) = 59 := by have y := sgm_k kp900 59 (by decide); rw [Sp894, rA_1] at y; exact y
                  have hr := nx_3 nxp889 hlt (fun z => q901 (h59.mpr z))
                  exact tG_cut (zW_mono zTt G dp) (Or.inr ⟨rfl, rfl, _, k + 1, x + 1, 0, rfl, zincN hx (by omega), by omega, gf907, Or.inr ⟨rfl, Or.inl ⟨_, hr, mFt_m ef907 (by decide) Fp905⟩⟩, rfl⟩)
                · try dsimp only [tvI_i, tvJ_j, tvR_r] at q906
                  have q906i := zeqi (Y := 0) (by decide) q906
                  exact absurd q906 (mFt_n Fp905)
    · try dsimp only [tvI_i, tvJ_j, tvR_r] at p877
      obtain rfl := e9.symm
      refine tw_if_ne rfl (fun z => absurd z (by decide)) (fun _ => ?_)
      refine tw_push rfl ?_
      exact tw_iret rfl (Or.inl ⟨fun z => p877 z.2, rfl, rfl⟩)
/-- what an array holds -/
noncomputable def tK (h : zH) (p : Nat) : Nat := match h[p]? with
  | some (.inl (k, _, _)) => k
  | _ => 0
theorem tK_tSF (h : zH) (r : Nat) (b : Nat) (w : Value) : tK (tSF h r b w) = tK h := by
  unfold tSF
  split
  · rename_i e
    funext p
    unfold tK
    rw [tup_at e]
    by_cases q : p = r
    · subst q; rw [if_pos rfl, e]
    · rw [if_neg q]
  · rfl
theorem tK_tSA (h : zH) (r : Nat) (i : Nat) (x : Int32) : tK (tSA h r i x) = tK h := by
  unfold tSA
  split
  · rename_i e
    funext p
    unfold tK
    rw [tup_at e]
    by_cases q : p = r
    · subst q; rw [if_pos rfl, e]
    · rw [if_neg q]
  · rfl
theorem tK_tSJ (h : zH) (r : Nat) (i : Nat) (x : Int64) : tK (tSJ h r i x) = tK h := by
  unfold tSJ
  split
  · rename_i e
    funext p
    unfold tK
    rw [tup_at e]
    by_cases q : p = r
    · subst q; rw [if_pos rfl, e]
    · rw [if_neg q]
  · rfl
theorem tK_tSO (h : zH) (r : Nat) (i : Nat) (x : Option Nat) : tK (tSO h r i x) = tK h := by
  unfold tSO
  split
  · rename_i e
    funext p
    unfold tK
    rw [tup_at e]
    by_cases q : p = r
    · subst q; rw [if_pos rfl, e]
    · rw [if_neg q]
  · rfl
theorem tIn.kd {h : zH} {r kd : Nat} {i : Int32} (k : tIn h r kd i) : tK h r = kd := by
  obtain ⟨N, f, e, -⟩ := k
  unfold tK
  rw [e]
theorem tkd_k {xs : Nat → Int32} {τ : List Nat} {h : zH} {p t k nlo nhi : Nat} {vt : yT} (hB : zBs xs τ h) (ht : zTG[p]? = some t) (hT : zTTy[t]? = some (.inr (k, nlo, nhi, vt))) : tK h p = k := by
  obtain ⟨ct, c, a1, a2, a3⟩ := hB.1.2 _ _ (hB.2.1 _ _ ht)
  rw [hT] at a1
  cases a1
  obtain ⟨N, x, rfl, -⟩ := a3
  unfold tK
  rw [a2]
theorem bst_k {h : zH} {r kd : Nat} {i : Int32} {x : Int32} (hk : tK h r = 2) (f : tIn h r kd i) : vp_nar (if kd = 1 then .boolean else .byte) x = vp_nar .byte x := by
  have := f.kd
  rw [if_neg (by omega)]
/-- a byte of a number -/
noncomputable def bF (x s : Int32) : Int32 := vp_nar .byte (x >>> (s &&& 31)).toInt8.toInt32
/-- four bytes behind a tape -/
noncomputable def f4 (f : Nat → Int32) (n x : Int32) : Nat → Int32 := fun j => if j = (n + 1 + 1 + 1).toNatClampNeg then bF x (24 + -8 + -8 + -8) else if j = (n + 1 + 1).toNatClampNeg then bF x (24 + -8 + -8) else if j = (n + 1).toNatClampNeg then bF x (24 + -8) else if j = n.toNatClampNeg then bF x 24 else f j
noncomputable abbrev z4 (n : Int32) : Int32 := n + 1 + 1 + 1 + 1
theorem zi1n {x : Int32} {k : Int} (h : x.toInt = k) (h0 : 0 ≤ k ∧ k ≤ 1000) : (x + 1).toInt = k + 1 := (zincN (n := k.toNat) (by omega) (by omega)).trans (by omega)
theorem z4n {x : Int32} {k : Int} (h : x.toInt = k) (h0 : 0 ≤ k ∧ k ≤ 900) : (z4 x).toInt = k + 4 := by
  have e1 := zi1n h (by omega)
  have e2 := zi1n e1 (by omega)
  have e3 := zi1n e2 (by omega)
  have e4 := zi1n e3 (by omega)
  show (x + 1 + 1 + 1 + 1).toInt = _
  omega
theorem z20n {x : Int32} (h : 0 ≤ x.toInt ∧ x.toInt ≤ 1000) : (x + 20).toInt = x.toInt + 20 := by
  rw [Int32.toInt_add, show (20 : Int32).toInt = 20 from rfl]
  exact Int.bmod_eq_of_le (by show (-2147483648 : Int) ≤ x.toInt + 20; omega) (by show x.toInt + 20 < (2147483648 : Int); omega)
noncomputable abbrev f20 (f : Nat → Int32) (n a b c d e : Int32) : Nat → Int32 := f4 (f4 (f4 (f4 (f4 f n a) (z4 n) b) (z4 (z4 n)) c) (z4 (z4 (z4 n))) d) (z4 (z4 (z4 (z4 n)))) e
noncomputable abbrev z20 (n : Int32) : Int32 := z4 (z4 (z4 (z4 (z4 n))))
section CP11
variable {tt : zT} {G : zG} {cd : zK} {bc bs : Nat} {rt : Option FieldType} {dp : Nat} {Q : zQ} {Z : zX} {f : Bool} {pc : Nat} {L : zL} {s : List Value} {h : zH} {c n nx a b d r y : Nat} {v : Value} {m x1 x2 : Int32}
theorem tw_clone (hc : cd[pc]? = some (some (.castore, nx, a, b, d, v))) (k : ∀ (N : Nat) (g : Nat → Int32), h[r]? = some (.inl (0, N, .inl g)) → tG tt G cd bc bs rt (zW tt G dp) Q Z true nx L (.ref h.length :: s) (h ++ [.inl (0, N, .inl g)]) (c + 1) (n + N)) : tG tt G cd bc bs rt (zW tt G dp) Q Z f pc L (.ref r :: s) h c n := tG_row hc (fun z => Or.elim z (fun z => False.elim z) (fun z => by
  obtain ⟨N, g, e, e2, z⟩ := z
  exact Or.inr ⟨N, g, e, e2, k N g e z⟩))
theorem tw_cast (hc : cd[pc]? = some (some (.fmul, nx, a, b, d, v))) (k : tG tt G cd bc bs rt (zW tt G dp) Q Z true nx L (.ref r :: s) h c n) : tG tt G cd bc bs rt (zW tt G dp) Q Z f pc L (.ref r :: s) h c n := tG_row hc (fun z => Or.elim z (fun z => False.elim z) (fun z => by
  obtain ⟨N, g, e, e2, z⟩ := z
  exact Or.inr ⟨N, g, e, e2, k z⟩))
theorem tw_acpy (hc : cd[pc]? = some (some (.sastore, nx, a, b, d, v))) (k : ∀ (N K : Nat) (f1 g1 : Nat → Int32), h[r]? = some (.inl (0, N, .inl f1)) → h[y]? = some (.inl (0, K, .inl g1)) → tG tt G cd bc bs rt (zW tt G dp) Q Z true nx L s (h.set y (.inl (0, K, .inl (va_cpy f1 g1 0 0 m.toNatClampNeg)))) c n) : tG tt G cd bc bs rt (zW tt G dp) Q Z f pc L (.int m :: .int x1 :: .ref y :: .int x2 :: .ref r :: s) h c n := tG_row hc (fun z => Or.elim z (fun z => False.elim z) (fun z => by
  obtain ⟨N, K, f1, g1, e1, e2, e3, z⟩ := z
  exact Or.inr ⟨N, K, f1, g1, e1, e2, e3, k N K f1 g1 e1 e2 z⟩))
end CP11
/-- one array more, the first of another one's -/
noncomputable def cpy (h h2 : zH) (r : Nat) (m : Int32) : Prop := h2.length = h.length + 1 ∧ (∀ p b, p < h.length → tF h2 p b = tF h p b) ∧ (∀ p, p < h.length → tA h2 p = tA h p ∧ tO h2 p = tO h p ∧ tN h2 p = tN h p) ∧ tN h2 h.length = m.toNatClampNeg ∧ ∀ i, i < m.toNatClampNeg → tA h2 h.length i = tA h r i
theorem cpy_of {h : zH} {r N : Nat} {m : Int32} {f g : Nat → Int32} (hr : h[r]? = some (.inl (0, N, .inl f))) (hg : ∀ i, i < m.toNatClampNeg → g i = f i) : cpy h (h ++ [.inl (0, m.toNatClampNeg, .inl g)]) r m := by
  have hf : tA h r = f := by
    funext i
    unfold tA
    rw [hr]
  refine ⟨by rw [List.length_append]; rfl, fun p b hp => ?_, fun p hp => ⟨?_, ?_, ?_⟩, ?_, fun i hi => ?_⟩
  · unfold tF
    rw [List.getElem?_append_left hp]
  · funext i
    unfold tA
    rw [List.getElem?_append_left hp]
  · funext i
    unfold tO
    rw [List.getElem?_append_left hp]
  · unfold tN
    rw [List.getElem?_append_left hp]
  · unfold tN
    rw [List.getElem?_append_right (Nat.le_refl _), Nat.sub_self]
    rfl
  · rw [hf, ← hg i hi]
    unfold tA
    rw [List.getElem?_append_right (Nat.le_refl _), Nat.sub_self]
    rfl
theorem cpy_sh {h h2 : zH} {r : Nat} {m : Int32} (hl : 182 ≤ h.length) (k : cpy h h2 r m) (hs : tSh h) : tSh h2 := by
  have a1 : tSr.all (fun q => Nat.blt q.1 182) = true := by decide +kernel
  have a2 : tSi.all (fun q => Nat.blt q.1 182) = true := by decide +kernel
  refine ⟨fun q hq => ?_, fun q hq => ?_⟩
  · have := Nat.le_of_ble_eq_true (List.all_eq_true.mp a1 q hq)
    rw [k.2.1 _ _ (by omega)]; exact hs.1 q hq
  · have := Nat.le_of_ble_eq_true (List.all_eq_true.mp a2 q hq)
    rw [k.2.1 _ _ (by omega)]; exact hs.2 q hq
theorem tw_alenF {tt : zT} {G : zG} {cd : zK} {bc bs : Nat} {rt : Option FieldType} {dp : Nat} {Q : zQ} {Z : zX} {f : Bool} {pc : Nat} {L : zL} {s : List Value} {h : zH} {c n nx a b d r : Nat} {v : Value} (hc : cd[pc]? = some (some (.arraylength, nx, a, b, d, v))) (k : ∀ (kd N : Nat) (x : (Nat → Int32) ⊕ (Nat → Int64) ⊕ (Nat → UInt32) ⊕ (Nat → UInt64) ⊕ (Nat → Option Nat)), h[r]? = some (.inl (kd, N, x)) → tG tt G cd bc bs rt (zW tt G dp) Q Z true nx L (.int (Int32.ofNat N) :: s) h c n) : tG tt G cd bc bs rt (zW tt G dp) Q Z f pc L (.ref r :: s) h c n := tG_row hc (fun z => Or.elim z (fun z => False.elim z) (fun z => by
  obtain ⟨kd, N, x, hk, e, z⟩ := z
  exact Or.inr ⟨kd, N, x, hk, e, k kd N x e z⟩))
theorem f_copyOf {G : zG} (hG : G.1 = zProg) {h : zH} {r : Nat} {m : Int32} (hm : 0 ≤ m.toInt ∧ m.toInt ≤ (tN h r : Int) ∧ tN h r ≤ 1000) : tC zTt G 283 [.ref r, .int m] h (fun w h2 => w = some (.ref h.length) ∧ cpy h h2 r m) := by
  refine tC_in (by rw [hG]; rfl) (fun dp => ?_)
  refine tw_iload rfl rfl ?_
  refine tw_aload rfl rfl ?_
  refine tw_alenF rfl (fun kd N x e0 => ?_)
  have hl : r < h.length := by
    rcases Nat.lt_or_ge r h.length with z | z
    · exact z
    · rw [List.getElem?_eq_none z] at e0; cases e0
  have hN : tN h r = N := by unfold tN; rw [e0]
  rw [hN] at hm
  refine tw_ic_ne rfl (fun q => ?_) (fun q => ?_)
  · have q : ¬ m = Int32.ofNat N := q
    have hlt : m < Int32.ofNat N := Int32.lt_iff_toInt_lt.mpr (by
      rw [yofN (by omega)]
      have : m.toInt ≠ (N : Int) := fun z => q (Int32.toInt_inj.mp (by rw [yofN (by omega)]; exact z))
      omega)
    refine tw_iload rfl rfl ?_
    refine tw_newa rfl ?_
    refine tw_astore rfl ?_
    refine tw_aload rfl rfl ?_
    refine tw_push rfl ?_
    refine tw_aload rfl rfl ?_
    refine tw_push rfl ?_
    refine tw_aload rfl rfl ?_
    refine tw_alenF rfl (fun k5 N5 x5 e5 => ?_)
    have e5 : (h ++ [zarr (zkind .int) m.toNatClampNeg])[r]? = some (.inl (k5, N5, x5)) := e5
    rw [List.getElem?_append_left hl, e0] at e5
    cases e5
    refine tw_iload rfl rfl ?_
    refine tw_imin rfl ?_
    refine tw_acpy rfl (fun N2 K f1 g1 e1 e2 => ?_)
    have e1 : (h ++ [zarr (zkind .int) m.toNatClampNeg])[r]? = some (.inl (0, N2, .inl f1)) := e1
    have e2 : (h ++ [zarr (zkind .int) m.toNatClampNeg])[h.length]? = some (.inl (0, K, .inl g1)) := e2
    rw [List.getElem?_append_left hl, e0] at e1
    cases e1
    rw [List.getElem?_append_right (Nat.le_refl _), Nat.sub_self] at e2
    have e3 : zarr (zkind .int) m.toNatClampNeg = .inl (0, m.toNatClampNeg, .inl (fun _ => 0)) := rfl
    have e2 : some (zarr (zkind .int) m.toNatClampNeg) = some (.inl (0, K, .inl g1)) := e2
    rw [e3] at e2
    cases e2
    refine tw_aload rfl rfl ?_
    refine tw_aret rfl ⟨rfl, ?_⟩
    show cpy h ((h ++ [zarr (zkind .int) m.toNatClampNeg]).set h.length (.inl (0, m.toNatClampNeg, .inl (va_cpy f1 (fun _ => 0) 0 0 (if m < Int32.ofNat N then m else Int32.ofNat N).toNatClampNeg)))) r m
    rw [List.set_append_right _ _ (Nat.le_refl _), Nat.sub_self, if_pos hlt]
    exact cpy_of e0 (fun i hi => by
      unfold va_cpy
      rw [if_pos ⟨Nat.zero_le _, by omega⟩, Nat.zero_add, Nat.sub_zero])
  · have q : m = Int32.ofNat N := q
    have hmN : m.toNatClampNeg = N := by
      rw [zclE, q, yofN (by omega)]
      rfl
    refine tw_aload rfl rfl ?_
    refine tw_clone rfl (fun N2 g e => ?_)
    have e : h[r]? = some (.inl (0, N2, .inl g)) := e
    rw [e0] at e
    cases e
    refine tw_cast rfl ?_
    refine tw_aret rfl ⟨rfl, ?_⟩
    have := cpy_of (m := m) (g := g) e0 (fun _ _ => rfl)
    rw [hmN] at this
    exact this
theorem tO_st {h : zH} {r i : Nat} {x : Option Nat} {z : Int32} (hf : tInO h r z) {f : Nat → Option Nat} (k : tO h r = f) : tO (tSO h r i x) r = fun j => if j = i then x else f j := by
  rw [tO_tSO hf.cell]
  funext j
  dsimp only
  rw [k]
  by_cases e : j = i
  · rw [if_pos ⟨rfl, e⟩, if_pos e]
  · rw [if_neg (fun z => e z.2), if_neg e]
theorem tO_nz {h : zH} {r i p : Nat} {x : Option Nat} {z : Int32} (hf : tInO h r z) (hn : p ≠ r) : tO (tSO h r i x) p = tO h p := by
  rw [tO_tSO hf.cell]
  funext j
  exact if_neg (fun z => hn z.1)
/-- one rule more -/
noncomputable def cAdd (m : Int32) (h h2 : zH) : Prop := tF h2 48 3 = .int (tvI (tF h 48 3) + 1) ∧ tA h2 49 = (fun j => if j = (tvI (tF h 48 3)).toNatClampNeg then m else tA h 49 j) ∧ tO h2 50 = (fun j => if j = (tvI (tF h 48 3)).toNatClampNeg then some h.length else tO h 50 j) ∧ tO h2 51 = (fun j => if j = (tvI (tF h 48 3)).toNatClampNeg then some (h.length + 1) else tO h 51 j) ∧ tN h2 h.length = (tvI (tF h 44 5)).toNatClampNeg ∧ (∀ i, i < (tvI (tF h 44 5)).toNatClampNeg → tA h2 h.length i = tA h 46 i) ∧ tN h2 (h.length + 1) = (tvI (tF h 44 7) * 4).toNatClampNeg ∧ (∀ i, i < (tvI (tF h 44 7) * 4).toNatClampNeg → tA h2 (h.length + 1) i = tA h 47 i) ∧ (∀ p, p < h.length → p ≠ 49 → tA h2 p = tA h p) ∧ (∀ p b, p < h.length → ¬ (p = 48 ∧ b = 3) → tF h2 p b = tF h p b) ∧ (∀ p, p < h.length → p ≠ 50 → p ≠ 51 → tO h2 p = tO h p) ∧ ∀ p, p < h.length → tN h2 p = tN h p
theorem cAdd_of {h a b : zH} {m i : Int32} {kd : Nat} (hl : 182 ≤ h.length) (e : i = tvI (tF h 48 3)) (f1 : tIn h 49 kd i) (k1 : cpy (tSA h 49 i.toNatClampNeg m) a 46 (tvI (tF h 44 5))) (f2 : tInO a 50 i) (k2 : cpy (tSO a 50 i.toNatClampNeg (some (tSA h 49 i.toNatClampNeg m).length)) b 47 (tvI (tF h 44 7) * 4)) (f3 : tInO b 51 i) (f4 : tFd (tSO b 51 i.toNatClampNeg (some (tSO a 50 i.toNatClampNeg (some (tSA h 49 i.toNatClampNeg m).length)).length)) 48 3) : cAdd m h (tSF (tSO b 51 i.toNatClampNeg (some (tSO a 50 i.toNatClampNeg (some (tSA h 49 i.toNatClampNeg m).length)).length)) 48 3 (.int (i + 1))) := by
  subst e
  have L1 : (tSA h 49 (tvI (tF h 48 3)).toNatClampNeg m).length = h.length := tlen_tSA _ _ _ _
  rw [L1] at k2 f4 ⊢
  have La : a.length = h.length + 1 := by rw [k1.1, L1]
  have L2 : (tSO a 50 (tvI (tF h 48 3)).toNatClampNeg (some h.length)).length = h.length + 1 := by rw [tlen_tSO, La]
  rw [L2] at f4 ⊢
  obtain ⟨-, u1, u2, u3, u4⟩ := k1
  obtain ⟨-, v1, v2, v3, v4⟩ := k2
  rw [L1] at u1 u2 u3 u4
  rw [L2] at v1 v2 v3 v4
  refine ⟨tF_same f4, ?_, ?_, ?_, ?_, ?_, ?_, ?_, ?_, ?_, ?_, ?_⟩
  · rw [tA_tSF, tA_tSO, (v2 49 (by omega)).1, tA_tSO, (u2 49 (by omega)).1]
    exact tA_st f1 rfl
  · rw [tO_tSF, tO_nz f3 (by decide), (v2 50 (by omega)).2.1]
    refine tO_st f2 ?_
    rw [(u2 50 (by omega)).2.1, tO_tSA]
  · rw [tO_tSF]
    refine tO_st f3 ?_
    rw [(v2 51 (by omega)).2.1, tO_nz f2 (by decide), (u2 51 (by omega)).2.1, tO_tSA]
  · rw [tN_tSF, tN_tSO, (v2 h.length (by omega)).2.2, tN_tSO]
    exact u3
  · intro j hj
    rw [tA_tSF, tA_tSO, (v2 h.length (by omega)).1, tA_tSO, u4 j hj, tA_nz (by decide)]
  · rw [tN_tSF, tN_tSO]
    exact v3
  · intro j hj
    rw [tA_tSF, tA_tSO, v4 j hj, tA_tSO, (u2 47 (by omega)).1, tA_nz (by decide)]
  · intro p hp hn
    rw [tA_tSF, tA_tSO, (v2 p (by omega)).1, tA_tSO, (u2 p hp).1, tA_nz hn]
  · intro p c hp hn
    rw [tF_nz hn, tF_tSO, v1 p c (by omega), tF_tSO, u1 p c hp, tF_tSA]
  · intro p hp n1 n2
    rw [tO_tSF, tO_nz f3 n2, (v2 p (by omega)).2.1, tO_nz f2 n1, (u2 p hp).2.1, tO_tSA]
  · intro p hp
    rw [tN_tSF, tN_tSO, (v2 p (by omega)).2.2, tN_tSO, (u2 p hp).2.2, tN_tSA]
theorem f_bfull {G : zG} (hG : G.1 = zProg) {h : zH} (hs : tSh h) : tC zTt G 63 [.ref 48] h (fun w h2 => tBo ((tvI (tF h 48 3)).toInt = 10) w ∧ h2 = h) := by
  refine tC_in (by rw [hG]; rfl) (fun dp => ?_)
  refine tw_aload rfl rfl ?_
  refine tw_getS rfl (hi_48_3 hs) ?_
  refine tw_push rfl ?_
  refine tw_ic_ne rfl (fun q908 => ?_) (fun q908 => ?_)
  · try dsimp only [tvI_i, tvJ_j, tvR_r] at q908
    have q908i := zneq (Y := 10) (by decide) q908
    refine tw_push rfl ?_
    exact tw_iret rfl ⟨Or.inr ⟨by omega, rfl⟩, rfl⟩
  · try dsimp only [tvI_i, tvJ_j, tvR_r] at q908
    have q908i := zeqi (Y := 10) (by decide) q908
    refine tw_push rfl ?_
    refine tw_goto rfl ?_
    exact tw_iret rfl ⟨Or.inl ⟨by omega, rfl⟩, rfl⟩
theorem f_addRule {G : zG} (hG : G.1 = zProg) {h : zH} {m : Int32} (hs : tSh h) (hl : 182 ≤ h.length) (hc : 0 ≤ (tvI (tF h 44 5)).toInt ∧ (tvI (tF h 44 5)).toInt ≤ 400) (hk : 0 ≤ (tvI (tF h 44 7)).toInt ∧ (tvI (tF h 44 7)).toInt ≤ 12) (h46 : tN h 46 = 400) (h47 : tN h 47 = 48) : tC zTt G 64 [.ref 48, .int m, .ref 44] h (fun w h2 => (¬ (tvI (tF h 48 3)).toInt = 10 ∧ w = some (tF h 48 3) ∧ cAdd m h h2) ∨ (¬ ¬ (tvI (tF h 48 3)).toInt = 10 ∧ w = some (.int (-1)) ∧ h2 = h)) := by
  refine tC_in (by rw [hG]; rfl) (fun dp => ?_)
  have m4 : (tvI (tF h 44 7) * 4).toInt = (tvI (tF h 44 7)).toInt * 4 := zi32_4 hk.1 (by omega)
  refine tw_aload rfl rfl ?_
  refine tw_virt0 rfl (f_bfull hG hs) (fun w9 h9 p909 => ?_)
  obtain ⟨⟨p909, rfl⟩ | ⟨p909, rfl⟩, e9⟩ := p909
  · try dsimp only [tvI_i, tvJ_j, tvR_r] at p909
    obtain rfl := e9.symm
    refine tw_if_eq rfl (fun z => absurd z (by decide)) (fun _ => ?_)
    refine tw_push rfl ?_
    exact tw_iret rfl (Or.inr ⟨by omega, rfl, rfl⟩)
  · try dsimp only [tvI_i, tvJ_j, tvR_r] at p909
    obtain rfl := e9.symm
    refine tw_if_eq rfl (fun _ => ?_) (fun z => absurd z (by decide))
    refine tw_aload rfl rfl ?_
    refine tw_getS rfl (hs_48_0 hs) ?_
    refine tw_aload rfl rfl ?_
    refine tw_getS rfl (hi_48_3 hs) ?_
    refine tw_iload rfl rfl ?_
    refine tw_iast rfl (fun f910 => ?_)
    refine tw_aload rfl rfl ?_
    refine tw_getS rfl (hs_48_1 (tSh_SA hs)) ?_
    refine tw_aload rfl rfl ?_
    refine tw_getS rfl (tF_a (hi_48_3 hs)) ?_
    refine tw_aload rfl rfl ?_
    refine tw_getS rfl (hs_44_4 (tSh_SA hs)) ?_
    refine tw_aload rfl rfl ?_
    refine tw_getS rfl (tF_a (hi_44_5 hs)) ?_
    refine tw_stat2 rfl (f_copyOf hG (r := 46) (by rw [tN_tSA, h46]; omega)) (fun wp911 hp911 p911 => ?_)
    obtain ⟨rfl, cp911⟩ := p911
    refine tw_aast rfl (fun f912 => ?_)
    refine tw_aload rfl rfl ?_
    refine tw_getS rfl (hs_48_2 (tSh_SO (cpy_sh (by rw [tlen_tSA]; exact hl) cp911 (tSh_SA hs)))) ?_
    refine tw_aload rfl rfl ?_
    refine tw_getS rfl (tF_o ((cp911.2.1 48 3 (by rw [tlen_tSA]; omega)).trans (tF_a (hi_48_3 hs)))) ?_
    refine tw_aload rfl rfl ?_
    refine tw_getS rfl (hs_44_6 (tSh_SO (cpy_sh (by rw [tlen_tSA]; exact hl) cp911 (tSh_SA hs)))) ?_
    refine tw_aload rfl rfl ?_
    refine tw_getS rfl (tF_o ((cp911.2.1 44 7 (by rw [tlen_tSA]; omega)).trans (tF_a (hi_44_7 hs)))) ?_
    refine tw_push rfl ?_
    refine tw_imul rfl ?_
    refine tw_stat2 rfl (f_copyOf hG (r := 47) (by rw [tN_tSO, (cp911.2.2.1 47 (by rw [tlen_tSA]; omega)).2.2, tN_tSA, h47]; show 0 ≤ (tvI (tF h 44 7) * 4).toInt ∧ (tvI (tF h 44 7) * 4).toInt ≤ ((48 : Nat) : Int) ∧ 48 ≤ 1000; rw [m4]; omega)) (fun wp913 hp913 p913 => ?_)
    obtain ⟨rfl, cp913⟩ := p913
    refine tw_aast rfl (fun f914 => ?_)
    refine tw_aload rfl rfl ?_
    refine tw_dup rfl ?_
    refine tw_getS rfl (tF_o ((cp913.2.1 48 3 (by rw [tlen_tSO, cp911.1, tlen_tSA]; omega)).trans (tF_o ((cp911.2.1 48 3 (by rw [tlen_tSA]; omega)).trans (tF_a (hi_48_3 hs)))))) ?_
    refine tw_dup_x1 rfl ?_
    refine tw_push rfl ?_
    refine tw_iadd rfl ?_
    refine tw_put rfl (fun f915 => ?_)
    exact tw_iret rfl (Or.inl ⟨by omega, congrArg some (hi_48_3 hs).symm, cAdd_of hl rfl f910 cp911 f912 cp913 f914 f915⟩)
noncomputable def R_tlen (h : zH) : Prop := tF h 44 1 = tF h 111 27
noncomputable def R_tape (h : zH) : Prop := tA h 45 = tA h 132
noncomputable def R_rules (h : zH) : Prop := tF h 48 3 = tF h 111 30
noncomputable def R_froms (h : zH) : Prop := tA h 49 = tA h 141
theorem len_181 {h : zH} (e : tN h 181 = 81) : 182 ≤ h.length := by
  rcases Nat.lt_or_ge 181 h.length with q | q
  · omega
  · unfold tN at e
    rw [List.getElem?_eq_none q] at e
    cases e
theorem tN_lt {h : zH} {p : Nat} (e : 0 < tN h p) : p < h.length := by
  refine Classical.byContradiction (fun z => ?_)
  unfold tN at e
  rw [List.getElem?_eq_none (by omega)] at e
  exact absurd e (Nat.lt_irrefl 0)
theorem tC_and {tt : zT} {G : zG} {j : Nat} {as : List Value} {h : zH} {P Q : zQ} (k : tC tt G j as h P) (k2 : tC tt G j as h Q) : tC tt G j as h (fun w h2 => P w h2 ∧ Q w h2) := fun d z => zW_conj tt G d _ _ _ _ _ (k d z) (k2 d z)
theorem tC_triv {tt : zT} {G : zG} {j : Nat} {as : List Value} {h : zH} {Q : zQ} (k : ∀ w h2, Q w h2) : tC tt G j as h Q := fun d z => zW_mono tt G d _ _ _ _ _ (fun w h2 _ => k w h2) z
theorem f_cutTo2 {G : zG} (hG : G.1 = zProg) {h : zH} {n : Int32} : tC zTt G 74 [.ref 44, .int n] h (fun w h2 => w = some (.int n) ∧ h2 = tSF h 44 1 (.int n) ∧ tFd h 44 1) := by
  refine tC_in (by rw [hG]; rfl) (fun dp => ?_)
  refine tw_aload rfl rfl ?_
  refine tw_iload rfl rfl ?_
  refine tw_put rfl (fun f2 => ?_)
  refine tw_iload rfl rfl ?_
  exact tw_iret rfl ⟨rfl, rfl, f2⟩
/-- the codes in an array; a rule's clauses in one -/
noncomputable def cArr (h : zH) (a : Nat) : List Nat := (List.range (tN h a)).map (fun i => (tA h a i).toNatClampNeg)
noncomputable def cCls (h : zH) (b k : Nat) : List rCt := (List.range k).map (fun i => ((tA h b (4 * i)).toNatClampNeg, (tA h b (4 * i + 1)).toNatClampNeg, (tA h b (4 * i + 2)).toNatClampNeg, (tA h b (4 * i + 3)).toNatClampNeg))
/-- what the class's rule leaves -/
noncomputable def cRo (y : Int32) (r : Nat ⊕ (rS × List rCt)) (w : Option Value) (h h2 : zH) : Prop := match r with
  | .inl e => 100000 ≤ e ∨ (tF h2 44 1 = .int 0 ∧ w = some (.int (-2 - Int32.ofNat e)) ∧ tF h2 48 3 = tF h 48 3 ∧ tA h2 49 = tA h 49 ∧ (∀ p, 182 ≤ p → tA h2 p = tA h p) ∧ tO h2 50 = tO h 50 ∧ tO h2 51 = tO h 51)
  | .inr x => tF h2 44 1 = .int 0 ∧ w = some (tF h 48 3) ∧ tF h2 48 3 = .int (tvI (tF h 48 3) + 1) ∧ tA h2 49 = (fun j => if j = (tvI (tF h 48 3)).toNatClampNeg then y else tA h 49 j) ∧ ∃ a, 182 ≤ a ∧ tO h2 50 = (fun j => if j = (tvI (tF h 48 3)).toNatClampNeg then some a else tO h 50 j) ∧ tO h2 51 = (fun j => if j = (tvI (tF h 48 3)).toNatClampNeg then some (a + 1) else tO h 51 j) ∧ cArr h2 a = x.1.2.2 ∧ tN h2 (a + 1) = 4 * x.2.length ∧ cCls h2 (a + 1) x.2.length = x.2 ∧ ∀ p, 182 ≤ p → 0 < tN h p → tA h2 p = tA h p
theorem cRo_r {y : Int32} {h ha : zH} {b : zH} {w : Option Value} (hF : cFq h ha) (hP : cP ha) (hQ : cQ ha) (f1 : tFd ha 44 1) (hl : 182 ≤ ha.length) (hO : tO ha 50 = tO h 50 ∧ tO ha 51 = tO h 51) (k : cAdd y (tSF ha 44 1 (.int 0)) b) (hw : w = some (tF (tSF ha 44 1 (.int 0)) 48 3)) : cRo y (.inr (cs ha, cCl ha)) w h b := by
  have E : tF (tSF ha 44 1 (.int 0)) 48 3 = tF h 48 3 := (tF_nz (by decide)).trans (hF.2.1 48 3 (by decide))
  have E5 : tF (tSF ha 44 1 (.int 0)) 44 5 = tF ha 44 5 := tF_nz (by decide)
  have E7 : tF (tSF ha 44 1 (.int 0)) 44 7 = tF ha 44 7 := tF_nz (by decide)
  have L : (tSF ha 44 1 (.int 0)).length = ha.length := tlen_tSF _ _ _ _
  obtain ⟨k1, k2, k3, k4, k5, k6, k7, k8, k9, k10, k11, k12⟩ := k
  rw [E] at k1 k2 k3 k4
  rw [E5] at k5 k6
  rw [E7] at k7 k8
  rw [L] at k3 k4 k5 k6 k7 k8 k9 k10 k11 k12
  have m4 : (tvI (tF ha 44 7) * 4).toNatClampNeg = 4 * (tvI (tF ha 44 7)).toNatClampNeg := by
    rw [zclE, zi32_4 hQ.1 (by have := hQ.2.1; omega), zclE]
    have := hQ.1
    omega
  have hlen : (cCl ha).length = (tvI (tF ha 44 7)).toNatClampNeg := by unfold cCl; rw [List.length_map, List.length_range]
  refine ⟨?_, hw.trans (by rw [E]), k1, ?_, ha.length, hl, ?_, ?_, ?_, ?_, ?_, fun p hp h0 => ?_⟩
  · rw [k10 44 1 (by omega) (by decide)]
    exact tF_same f1
  · rw [k2]
    funext j
    rw [tA_tSF, hF.2.2.1 49 (by decide) (by decide)]
  · rw [k3, tO_tSF, hO.1]
  · rw [k4, tO_tSF, hO.2]
  · show cArr b ha.length = cCo ha
    unfold cArr cCo
    rw [k5]
    refine List.map_congr_left (fun i hi => ?_)
    have hi := List.mem_range.mp hi
    rw [k6 i hi, tA_tSF]
  · show tN b (ha.length + 1) = 4 * (cCl ha).length
    rw [k7, m4, hlen]
  · show cCls b (ha.length + 1) (cCl ha).length = cCl ha
    rw [hlen]
    unfold cCls cCl
    refine List.map_congr_left (fun i hi => ?_)
    have hi := List.mem_range.mp hi
    rw [k8 (4 * i) (by omega), k8 (4 * i + 1) (by omega), k8 (4 * i + 2) (by omega), k8 (4 * i + 3) (by omega), tA_tSF]
  · have h1 : p < ha.length := tN_lt (by rw [hF.2.2.2]; exact h0)
    rw [k9 p h1 (by omega), tA_tSF, hF.2.2.1 p (by omega) (by omega)]
theorem ofN_ne {e : Nat} (h : e < 100000) : ¬ Int32.ofNat e = -1 := by
  intro z
  have := congrArg Int32.toInt z
  rw [yofN (by omega)] at this
  have m : (-1 : Int32).toInt = -1 := rfl
  omega
noncomputable def ph_ruc (y : Int32) (h : zH) (w : Option Value) (h2 : zH) : Prop := (¬ ((tvI (tF h 48 3)).toInt ≠ 10 ∧ (tvI (tF h 0 14)).toInt ≤ y.toInt ∧ y.toInt ≤ 599) ∧ w = some (.int (-1)) ∧ h2 = h) ∨ (((tvI (tF h 48 3)).toInt ≠ 10 ∧ (tvI (tF h 0 14)).toInt ≤ y.toInt ∧ y.toInt ≤ 599) ∧ ∃ r, (∃ f, rRu (tA h 45) (cn h) f (0, 0, []) [] r) ∧ cRo y r w h h2)
theorem f_rule {G : zG} (hG : G.1 = zProg) (hX : G.2.1 = ztx) (hN : G.2.2.1 ≤ 4096) {τ : List Nat} {h : zH} {y : Int32} (hB : zBs G.2.2.2 τ h) (hs : tSh h) (hl : 0 ≤ (tvI (tF h 44 1)).toInt ∧ (tvI (tF h 44 1)).toInt ≤ 400) (hT9 : ∀ i, i < 400 → -128 ≤ (tA h 45 i).toInt ∧ (tA h 45 i).toInt ≤ 127) (h46 : tN h 46 = 400) (h47 : tN h 47 = 48) (h181 : tN h 181 = 81) : tC zTt G 124 [.ref 0, .int y] h (ph_ruc y h) := by
  by_cases hcnd : ((tvI (tF h 48 3)).toInt ≠ 10 ∧ (tvI (tF h 0 14)).toInt ≤ y.toInt ∧ y.toInt ≤ 599)
  · by_cases hbig : ∃ e f, rRu (tA h 45) (cn h) f (0, 0, []) [] (.inl e) ∧ 100000 ≤ e
    · obtain ⟨e, f, h1, h2⟩ := hbig
      exact tC_triv (fun _ _ => Or.inr ⟨hcnd, .inl e, ⟨f, h1⟩, Or.inl h2⟩)
    · refine tC_in (by rw [hG]; rfl) (fun dp => ?_)
      refine tw_aload rfl rfl ?_
      refine tw_getS rfl (hs_0_3 hs) ?_
      refine tw_virt0 rfl (f_bfull hG hs) (fun w9 h9 p916 => ?_)
      obtain ⟨⟨p916, rfl⟩ | ⟨p916, rfl⟩, e9⟩ := p916
      · try dsimp only [tvI_i, tvJ_j, tvR_r] at p916
        obtain rfl := e9.symm
        refine tw_if_ne rfl (fun _ => ?_) (fun z => absurd z (by decide))
        refine tw_push rfl ?_
        exact tw_iret rfl (Or.inl ⟨fun z => by have := z.1; omega, rfl, rfl⟩)
      · try dsimp only [tvI_i, tvJ_j, tvR_r] at p916
        obtain rfl := e9.symm
        refine tw_if_ne rfl (fun z => absurd z (by decide)) (fun _ => ?_)
        refine tw_iload rfl rfl ?_
        refine tw_aload rfl rfl ?_
        refine tw_getS rfl (hi_0_14 hs) ?_
        refine tw_push rfl ?_
        refine tw_stat3 rfl (f_isWithin hG  (HI := 599) rfl (by decide)) (fun w9 h9 p917 => ?_)
        obtain ⟨⟨p917, rfl⟩ | ⟨p917, rfl⟩, e9⟩ := p917
        · try dsimp only [tvI_i, tvJ_j, tvR_r] at p917
          obtain rfl := e9.symm
          refine tw_if_ne rfl (fun _ => ?_) (fun z => absurd z (by decide))
          refine tw_aload rfl rfl ?_
          refine tw_getS rfl (hs_0_2 hs) ?_
          refine tw_virt0 rfl (tC_and (f_readRule hG hX hs rfl rfl hl hT9 h46 h47) (tC_of (zpub hG hX hN (j := 75) (x := 44) (bs := []) (xs := []) (ct := kt_75_0) (g := false) (kd := 0) (lv := 42) (cts := [kt_75_0]) (by rfl) List.mem_cons_self (by rfl) (by rfl) (by decide) (by decide +kernel) (by decide +kernel) trivial hB))) (fun w9 hp918 p918 => ?_)
          obtain ⟨⟨Fp918, ⟨Np918, rp918, rfl, Pp918, Qp918⟩ | ⟨ep918, Np918, rp918, rfl⟩⟩, -, -, Yp918⟩ := p918
          · refine tw_istore rfl ?_
            refine tw_aload rfl rfl ?_
            refine tw_getS rfl (hs_0_2 Fp918.1) ?_
            refine tw_push rfl ?_
            refine tw_virt1 rfl (f_cutTo2 hG) (fun wp919 hp919 p919 => ?_)
            obtain ⟨rfl, rfl, fp919⟩ := p919
            refine tw_pop rfl ?_
            refine tw_iload rfl rfl ?_
            refine tw_push rfl ?_
            refine tw_ic_ne rfl (fun z => absurd z (by decide)) (fun _ => ?_)
            refine tw_aload rfl rfl ?_
            refine tw_getS rfl (hs_0_3 (hw_44_1 fp919 Fp918.1)) ?_
            refine tw_iload rfl rfl ?_
            refine tw_aload rfl rfl ?_
            refine tw_getS rfl (hs_0_2 (hw_44_1 fp919 Fp918.1)) ?_
            refine tw_virt2 rfl (f_addRule hG (hw_44_1 fp919 Fp918.1) (by rw [tlen_tSF]; exact len_181 ((congrFun Fp918.2.2.2 181).trans h181)) (by rw [tF_nz (by decide)]; exact ⟨Pp918.2.2.1.1, by have a := Pp918.2.2.1.2; have b := Pp918.1.2.1; have c := Pp918.1.2.2; omega⟩) (by rw [tF_nz (by decide)]; exact ⟨Qp918.1, Qp918.2.1⟩) (by rw [tN_tSF, Fp918.2.2.2]; exact h46) (by rw [tN_tSF, Fp918.2.2.2]; exact h47)) (fun wp920 hp920 p920 => ?_)
            refine tw_goto rfl ?_
            have E48 : tF (tSF hp918 44 1 (.int 0)) 48 3 = tF h 48 3 := (tF_nz (by decide)).trans (Fp918.2.1 48 3 (by decide))
            rcases p920 with ⟨c9, w9, k9⟩ | ⟨c9, w9, k9⟩
            · subst w9; exact tw_iret rfl (Or.inr ⟨⟨by omega, by omega⟩, _, ⟨Np918, rp918⟩, cRo_r Fp918 Pp918 Qp918 fp919 (len_181 ((congrFun Fp918.2.2.2 181).trans h181)) ⟨(tfr_A hB Yp918 (p := 50) rfl rfl).2.2, (tfr_A hB Yp918 (p := 51) rfl rfl).2.2⟩ k9 (congrArg some (hi_48_3 (hw_44_1 fp919 Fp918.1)).symm)⟩)
            · exfalso
              rw [E48] at c9
              omega
          · refine tw_istore rfl ?_
            refine tw_aload rfl rfl ?_
            refine tw_getS rfl (hs_0_2 Fp918.1) ?_
            refine tw_push rfl ?_
            refine tw_virt1 rfl (f_cutTo2 hG) (fun wp921 hp921 p921 => ?_)
            obtain ⟨rfl, rfl, fp921⟩ := p921
            refine tw_pop rfl ?_
            refine tw_iload rfl rfl ?_
            refine tw_push rfl ?_
            refine tw_ic_ne rfl (fun q922 => ?_) (fun q922 => ?_)
            · try dsimp only [tvI_i, tvJ_j, tvR_r] at q922
              have q922i := zneq (Y := (-1)) (by decide) q922
              refine tw_push rfl ?_
              refine tw_iload rfl rfl ?_
              refine tw_isub rfl ?_
              exact tw_iret rfl (Or.inr ⟨⟨by omega, by omega⟩, .inl ep918, ⟨Np918, rp918⟩, Or.inr ⟨tF_same fp921, rfl, (tF_nz (by decide)).trans (Fp918.2.1 48 3 (by decide)), (congrFun (tA_tSF _ _ _ _) 49).trans (Fp918.2.2.1 49 (by decide) (by decide)), fun p9 hp9 => (congrFun (tA_tSF _ _ _ _) p9).trans (Fp918.2.2.1 p9 (by omega) (by omega)), (congrFun (tO_tSF _ _ _ _) 50).trans (tfr_A hB Yp918 (p := 50) rfl rfl).2.2, (congrFun (tO_tSF _ _ _ _) 51).trans (tfr_A hB Yp918 (p := 51) rfl rfl).2.2⟩⟩)
            · try dsimp only [tvI_i, tvJ_j, tvR_r] at q922
              have q922i := zeqi (Y := (-1)) (by decide) q922
              exact absurd q922 (ofN_ne (Nat.lt_of_not_le (fun z => hbig ⟨_, _, rp918, z⟩)))
        · try dsimp only [tvI_i, tvJ_j, tvR_r] at p917
          obtain rfl := e9.symm
          refine tw_if_ne rfl (fun z => absurd z (by decide)) (fun _ => ?_)
          refine tw_push rfl ?_
          exact tw_iret rfl (Or.inl ⟨fun z => by have := z.1; omega, rfl, rfl⟩)
  · refine tC_in (by rw [hG]; rfl) (fun dp => ?_)
    refine tw_aload rfl rfl ?_
    refine tw_getS rfl (hs_0_3 hs) ?_
    refine tw_virt0 rfl (f_bfull hG hs) (fun w9 h9 p923 => ?_)
    obtain ⟨⟨p923, rfl⟩ | ⟨p923, rfl⟩, e9⟩ := p923
    · try dsimp only [tvI_i, tvJ_j, tvR_r] at p923
      obtain rfl := e9.symm
      refine tw_if_ne rfl (fun _ => ?_) (fun z => absurd z (by decide))
      refine tw_push rfl ?_
      exact tw_iret rfl (Or.inl ⟨fun z => by have := z.1; omega, rfl, rfl⟩)
    · try dsimp only [tvI_i, tvJ_j, tvR_r] at p923
      obtain rfl := e9.symm
      refine tw_if_ne rfl (fun z => absurd z (by decide)) (fun _ => ?_)
      refine tw_iload rfl rfl ?_
      refine tw_aload rfl rfl ?_
      refine tw_getS rfl (hi_0_14 hs) ?_
      refine tw_push rfl ?_
      refine tw_stat3 rfl (f_isWithin hG  (HI := 599) rfl (by decide)) (fun w9 h9 p924 => ?_)
      obtain ⟨⟨p924, rfl⟩ | ⟨p924, rfl⟩, e9⟩ := p924
      · try dsimp only [tvI_i, tvJ_j, tvR_r] at p924
        obtain rfl := e9.symm
        refine tw_if_ne rfl (fun _ => ?_) (fun z => absurd z (by decide))
        refine tw_aload rfl rfl ?_
        refine tw_getS rfl (hs_0_2 hs) ?_
        refine tw_virt0 rfl (tC_and (f_readRule hG hX hs rfl rfl hl hT9 h46 h47) (tC_of (zpub hG hX hN (j := 75) (x := 44) (bs := []) (xs := []) (ct := kt_75_0) (g := false) (kd := 0) (lv := 42) (cts := [kt_75_0]) (by rfl) List.mem_cons_self (by rfl) (by rfl) (by decide) (by decide +kernel) (by decide +kernel) trivial hB))) (fun w9 hp925 p925 => ?_)
        obtain ⟨⟨Fp925, ⟨Np925, rp925, rfl, Pp925, Qp925⟩ | ⟨ep925, Np925, rp925, rfl⟩⟩, -, -, Yp925⟩ := p925
        · exact absurd ⟨by omega, by omega⟩ hcnd
        · exact absurd ⟨by omega, by omega⟩ hcnd
      · try dsimp only [tvI_i, tvJ_j, tvR_r] at p924
        obtain rfl := e9.symm
        refine tw_if_ne rfl (fun z => absurd z (by decide)) (fun _ => ?_)
        refine tw_push rfl ?_
        exact tw_iret rfl (Or.inl ⟨fun z => by have := z.1; omega, rfl, rfl⟩)
theorem mK_of {xs : Nat → Int32} {τ : List Nat} {h : zH} (hB : zBs xs τ h) : mK h := ⟨kb_111_27 hB, (kb_111_34 hB).1, kb_111_30 hB, fun i hi => ((ka_142 hB).2 i (by rw [(ka_142 hB).1] at hi; exact hi)).1, fun _ => rfl, by rw [(ka_133 hB).1]; decide, by rw [(ka_142 hB).1]; decide⟩
theorem zAr_dep {G : zG} (hG : G.1 = zProg) (hT : G.2.1 = ztx) (hN : G.2.2.1 ≤ 4096) {R : zH → Prop} {cmp : Bool} {φ1 : List Int32 → zH → Option Value → zH → Prop} {φ2 : List Int32 → zH → Option Value → zH → Option Value → zH → Prop} {j1 j2 kd : Nat} {bs : List (Int × Int)} {ct1 ct2 : yCt} {g1 g2 : Bool} {l1 l2 : Nat} {cs1 cs2 : List yCt} (c1 : zCT[j1]? = some cs1) (i1 : ct1 ∈ cs1) (p1 : ct1.1 = zpM 0 bs g1) (v1 : ct1.2.2.1 = (.ofNat l1, [])) (v1' : l1 ≤ 64) (k1 : zpT kd ct1.2.2.2 = true) (q1 : zpG (ywf ct1.2.1) ct1.2.2.2 = true)
  (c2 : zCT[j2]? = some cs2) (i2 : ct2 ∈ cs2) (p2 : ct2.1 = zpM 111 bs g2) (v2 : ct2.2.2.1 = (.ofNat l2, [])) (v2' : l2 ≤ 64) (k2 : zpT kd ct2.2.2.2 = true) (q2 : zpG (ywf ct2.2.1) ct2.2.2.2 = true)
  (f1 : ∀ xs τ h, zpB bs xs → zBs G.2.2.2 τ h → R h → tC zTt G j1 (.ref 0 :: xs.map Value.int) h (fun w h2 => φ1 xs h w h2)) (f2 : ∀ xs τ h w h2 τ2, zpB bs xs → zBs G.2.2.2 τ h → R h → φ1 xs h w h2 → zBs G.2.2.2 τ2 h2 → yFr (ywf ct1.2.1) τ h h2 → tC zTt G j2 (.ref 111 :: xs.map Value.int) h2 (fun w2 h3 => φ2 xs h w h2 w2 h3))
  (fin : ∀ xs τ h w h2 τ2 w2 h3 τ3, zpB bs xs → zBs G.2.2.2 τ h → R h → φ1 xs h w h2 → zBs G.2.2.2 τ2 h2 → yFr (ywf ct1.2.1) τ h h2 → φ2 xs h w h2 w2 h3 → zBs G.2.2.2 τ3 h3 → yFr (ywf ct2.2.1) τ2 h2 h3 → (cmp = true → w2 = w) ∧ R h3) : zAr G R j1 j2 kd bs cmp := by
  intro xs h hb ⟨⟨τ, hB⟩, hR⟩
  refine zW_mono zTt G 64 _ _ _ _ _ ?_ ((f1 xs τ h hb hB hR).both (zpub hG hT hN c1 i1 p1 v1 v1' k1 q1 hb hB))
  rintro w h2 ⟨⟨t1, ⟨τ2, hB2⟩, r1⟩, h1⟩
  refine ⟨t1, zBs_111 hB2, zW_mono zTt G 64 _ _ _ _ _ ?_ ((f2 xs τ h w h2 τ2 hb hB hR h1 hB2 r1).both (zpub hG hT hN c2 i2 p2 v2 v2' k2 q2 hb hB2))⟩
  rintro w2 h3 ⟨⟨t2, ⟨τ3, hB3⟩, r2⟩, hh2⟩
  obtain ⟨e1, e2⟩ := fin xs τ h w h2 τ2 w2 h3 τ3 hb hB hR h1 hB2 r1 hh2 hB3 r2
  exact ⟨t2, e1, ⟨τ3, hB3⟩, e2⟩
noncomputable def ph_rum (y : Int32) (h : zH) (w : Option Value) (h2 : zH) (w2 : Option Value) (h3 : zH) : Prop := (w = some (.int (-1)) ∧ h2 = h ∧ w2 = some (.int (-1)) ∧ h3 = h2) ∨ ∃ r, (∃ f, rRu (tA h 45) (cn h) f (0, 0, []) [] r) ∧ cRo y r w h h2 ∧ mRo y r w2 h2 h3
theorem g_rule0 {G : zG} (hG : G.1 = zProg) {h : zH} {y : Int32} (hs : tSh h) (hc : ¬ ((tvI (tF h 111 30)).toInt ≠ 10 ∧ (tvI (tF h 111 1)).toInt ≤ y.toInt ∧ y.toInt ≤ 599)) : tC zTt G 225 [.ref 111, .int y] h (fun w h2 => w = some (.int (-1)) ∧ h2 = h) := by
  refine tC_in (by rw [hG]; rfl) (fun dp => ?_)
  refine tw_aload rfl rfl ?_
  refine tw_getS rfl (hi_111_30 hs) ?_
  refine tw_push rfl ?_
  refine tw_ic_eq rfl (fun q926 => ?_) (fun q926 => ?_)
  · try dsimp only [tvI_i, tvJ_j, tvR_r] at q926
    have q926i := zeqi (Y := 10) (by decide) q926
    refine tw_push rfl ?_
    exact tw_iret rfl ⟨rfl, rfl⟩
  · try dsimp only [tvI_i, tvJ_j, tvR_r] at q926
    have q926i := zneq (Y := 10) (by decide) q926
    refine tw_iload rfl rfl ?_
    refine tw_i2l rfl ?_
    refine tw_aload rfl rfl ?_
    refine tw_getS rfl (hi_111_1 hs) ?_
    refine tw_i2l rfl ?_
    refine tw_push rfl ?_
    refine tw_stat3 rfl (f_in hG   (HI := 599) (Int32.toInt_toInt64 _) (Int32.toInt_toInt64 _) (by decide)) (fun w9 h9 p927 => ?_)
    obtain ⟨⟨p927, rfl⟩ | ⟨p927, rfl⟩, e9⟩ := p927
    · try dsimp only [tvI_i, tvJ_j, tvR_r] at p927
      obtain rfl := e9.symm
      exact absurd ⟨by omega, by omega⟩ hc
    · try dsimp only [tvI_i, tvJ_j, tvR_r] at p927
      obtain rfl := e9.symm
      refine tw_if_ne rfl (fun z => absurd z (by decide)) (fun _ => ?_)
      refine tw_push rfl ?_
      exact tw_iret rfl ⟨rfl, rfl⟩
theorem g_ruleD {G : zG} (hG : G.1 = zProg) (hX : G.2.1 = ztx) {τ τ2 : List Nat} {y : Int32} {h h2 : zH} {w : Option Value} (hB : zBs G.2.2.2 τ h) (hB2 : zBs G.2.2.2 τ2 h2) (hL : R_tlen h) (hT : R_tape h) (hN : R_rules h) (hW : R_now h) (e1 : tF h2 111 27 = tF h 111 27) (e2 : tF h2 111 30 = tF h 111 30) (e3 : tF h2 111 1 = tF h 111 1) (o1 : tA h2 132 = tA h 132) (k1 : ph_ruc y h w h2) : tC zTt G 225 [.ref 111, .int y] h2 (ph_rum y h w h2) := by
  unfold R_tlen at hL
  unfold R_tape at hT
  unfold R_rules at hN
  unfold R_now at hW
  rcases k1 with ⟨c1, rfl, rfl⟩ | ⟨c1, r, ⟨f, hr⟩, k1⟩
  · refine (g_rule0 hG (zBs_sh hB2) ?_).mono (fun w2 h3 z => Or.inl ⟨rfl, rfl, z.1, z.2⟩)
    rw [← hN, ← hW]
    exact c1
  · have hmn : mn h2 = cn h := by unfold mn cn; rw [e1, ← hL]
    refine (g_rule hG hX (zBs_sh hB2) (mK_of hB2) (o1.trans hT.symm) hmn ⟨f, hr⟩).mono (fun w2 h3 z => ?_)
    rcases z with ⟨c2, -⟩ | ⟨-, z⟩
    · refine absurd ?_ c2
      rw [e2, e3, ← hN, ← hW]
      exact ⟨fun y9 => c1.1 (by rw [y9]; rfl), c1.2.1, c1.2.2⟩
    · exact Or.inr ⟨r, ⟨f, hr⟩, k1, z⟩
theorem a_rule {xs : Nat → Int32} {τ : List Nat} {y : Int32} {h h2 h3 : zH} {w w2 : Option Value} (hB : zBs xs τ h) (hL : R_tlen h) (hN : R_rules h) (hF : R_froms h) (e1 : tF h2 111 27 = tF h 111 27) (e2 : tF h2 111 30 = tF h 111 30) (o2 : tA h2 141 = tA h 141) (t1 : tF h3 44 1 = tF h2 44 1) (t2 : tF h3 48 3 = tF h2 48 3) (t3 : tA h3 49 = tA h2 49) (k2 : ph_rum y h w h2 w2 h3) : w2 = w ∧ R_tlen h3 ∧ R_rules h3 ∧ R_froms h3 := by
  have hN0 := hN
  have hF0 := hF
  unfold R_rules at hN0
  unfold R_froms at hF0
  have i48 := hi_48_3 (zBs_sh hB)
  rcases k2 with ⟨rfl, rfl, rfl, rfl⟩ | ⟨r, -, k1, k2⟩
  · exact ⟨rfl, hL, hN, hF⟩
  · obtain ⟨m1, m2, k2⟩ := k2
    have E27 : tF h3 111 27 = .int 0 := by rw [hi_111_27 m1.1, m2]
    cases r with
    | inl e =>
      obtain ⟨m3, rfl, m4, -, m5⟩ := k2
      rcases k1 with k1 | ⟨k1, rfl, k3, k4, -⟩
      · exact absurd m3 (Nat.not_lt_of_le k1)
      · refine ⟨rfl, ?_, ?_, ?_⟩
        · unfold R_tlen
          rw [t1, k1, E27]
        · unfold R_rules
          rw [t2, k3, m4, e2]
          exact hN0
        · unfold R_froms
          rw [t3, k4, m5, o2]
          exact hF0
    | inr x =>
      obtain ⟨rfl, m4, m5, m6, m7, -⟩ := k2
      obtain ⟨k1, rfl, k3, k4, -⟩ := k1
      have E30 : tvI (tF h2 111 30) = tvI (tF h 48 3) := by rw [e2, ← hN0]
      refine ⟨?_, ?_, ?_, ?_⟩
      · rw [zi1, E30]
        exact congrArg some i48.symm
      · unfold R_tlen
        rw [t1, k1, E27]
      · unfold R_rules
        rw [t2, k3, hi_111_30 m1.1, m4, E30]
      · unfold R_froms
        rw [t3, k4]
        funext q
        rw [E30] at m6 m7
        by_cases z : q = (tvI (tF h 48 3)).toNatClampNeg
        · rw [if_pos z, z, m6]
        · rw [if_neg z, (m7 q z).2, o2, ← hF0]
/-! what the codes of a rule are worth: facts are 0 or 1 -/
noncomputable def tyS (S : List Bool) (c : Nat) : Option (List Bool) :=
  if c < 100012 then some (false :: S)
  else if c = 100110 then (match S with
    | true :: r => some (true :: r)
    | _ => none)
  else if c = 100108 ∨ c = 100109 then (match S with
    | true :: true :: r => some (true :: r)
    | _ => none)
  else if 100100 ≤ c ∧ c < 100103 then (match S with
    | false :: false :: r => some (false :: r)
    | _ => none)
  else if 100103 ≤ c ∧ c < 100108 then (match S with
    | false :: false :: r => some (true :: r)
    | _ => none)
  else none
noncomputable def tyL : List Bool → List Nat → Option (List Bool)
  | S, [] => some S
  | S, c :: e => match tyS S c with
    | none => none
    | some S1 => tyL S1 e
theorem tyL_app {e1 e2 : List Nat} {S S1 S2 : List Bool} (h1 : tyL S e1 = some S1) (h2 : tyL S1 e2 = some S2) : tyL S (e1 ++ e2) = some S2 := by
  induction e1 generalizing S with
  | nil =>
    have h1 : some S = some S1 := h1
    cases h1
    exact h2
  | cons c e1 ih =>
    have h1 : (match tyS S c with | none => none | some S1 => tyL S1 e1) = some S1 := h1
    show (match tyS S c with | none => none | some S1 => tyL S1 (e1 ++ e2)) = some S2
    cases hc : tyS S c with
    | none => rw [hc] at h1; cases h1
    | some S3 =>
      rw [hc] at h1
      exact ih h1
/-- how many values -/
noncomputable def nVl : List Nat → Nat
  | [] => 0
  | c :: e => (if c < 100100 then 1 else 0) + nVl e
theorem nVl_app {e1 e2 : List Nat} : nVl (e1 ++ e2) = nVl e1 + nVl e2 := by
  induction e1 with
  | nil => show nVl e2 = 0 + nVl e2; omega
  | cons c e ih =>
    show (if c < 100100 then 1 else 0) + nVl (e ++ e2) = (if c < 100100 then 1 else 0) + nVl e + nVl e2
    rw [ih]
    omega
noncomputable def tyH (A B : List Bool → List Bool) (s s2 : rS) : Prop := ∃ e, s2.2.2 = s.2.2 ++ e ∧ nVl e + s.2.1 ≤ s2.2.1 ∧ (s.2.1 ≤ 80 → s2.2.1 ≤ 80) ∧ ∀ S, tyL (A S) e = some (B S)
section TYH
variable {A B C : List Bool → List Bool} {s s1 s2 : rS} {c p : Nat}
theorem tyH_r : tyH A A s s := ⟨[], (List.append_nil _).symm, by show 0 + _ ≤ _; omega, id, fun _ => rfl⟩
theorem tyH_t (h1 : tyH A B s s1) (h2 : tyH B C s1 s2) : tyH A C s s2 := by
  obtain ⟨e1, a1, a2, a3, a4⟩ := h1
  obtain ⟨e2, b1, b2, b3, b4⟩ := h2
  exact ⟨e1 ++ e2, by rw [b1, a1, List.append_assoc], by rw [nVl_app]; omega, fun z => b3 (a3 z), fun S => tyL_app (a4 S) (b4 S)⟩
theorem tyH_a (h : tyH A B s s1) : tyH A B s (rA p s1) := h
theorem tyH_b (h : tyH A B (rA p s) s1) : tyH A B s s1 := h
theorem tyH_c (h : s.2.1 ≠ 80) : tyH A A s (s.1, s.2.1 + 1, s.2.2) := ⟨[], (List.append_nil _).symm, by show 0 + _ ≤ _ + 1; omega, fun z => by show _ + 1 ≤ 80; omega, fun _ => rfl⟩
theorem tyH_u (hv : 100100 ≤ c) (hc : ∀ S, tyS (A S) c = some (B S)) : tyH A B s (rU c s) := ⟨[c], rfl, by show (if c < 100100 then 1 else 0) + 0 + _ ≤ _; rw [if_neg (by omega)]; show 0 + 0 + s.2.1 ≤ s.2.1; omega, id, fun S => by
  show (match tyS (A S) c with | none => none | some S1 => tyL S1 []) = some (B S)
  rw [hc S]
  rfl⟩
theorem tyH_v (h : s.2.1 ≠ 80) (hv : c < 100012) : tyH A (fun S => false :: A S) s (rU c (rA p (s.1, s.2.1 + 1, s.2.2))) := ⟨[c], rfl, by show (if c < 100100 then 1 else 0) + 0 + s.2.1 ≤ s.2.1 + 1; rw [if_pos (by omega)]; omega, fun z => by show _ + 1 ≤ 80; omega, fun S => by
  have e : tyS (A S) c = some (false :: A S) := by
    unfold tyS
    rw [if_pos hv]
  show (match tyS (A S) c with | none => none | some S1 => tyL S1 []) = some (false :: A S)
  rw [e]
  rfl⟩
theorem tyH_S (g : List Bool → List Bool) (h : tyH A B s s2) : tyH (fun S => A (g S)) (fun S => B (g S)) s s2 := by
  obtain ⟨e, a1, a2, a3, a4⟩ := h
  exact ⟨e, a1, a2, a3, fun S => a4 (g S)⟩
theorem rK_ok {x : rR} {k : rS → rR} (h : rK x k = some (.inr s2)) : ∃ s1, x = some (.inr s1) ∧ k s1 = some (.inr s2) := by
  match x, h with
  | none, h => cases h
  | some (.inl f), h => cases h
  | some (.inr s1), h => exact ⟨s1, rfl, h⟩
theorem rC_ok (h : rC p s = some (.inr s1)) : s.2.1 ≠ 80 ∧ s1 = (s.1, s.2.1 + 1, s.2.2) := by
  unfold rC at h
  by_cases z : s.2.1 = 80
  · rw [if_pos z] at h; cases h
  · rw [if_neg z] at h; cases h; exact ⟨z, rfl⟩
theorem rO_ok (h : rO s = some (.inr s1)) : s1 = s := by cases h; rfl
theorem rF_no {w : Nat} (h : rF p w = some (.inr s1)) : False := by cases h
end TYH
noncomputable def mIn : Nat → List Bool → List Bool
  | 2 => fun S => false :: S
  | 4 => fun S => false :: S
  | 8 => fun S => true :: S
  | 10 => fun S => true :: S
  | _ => fun S => S
noncomputable def mOu : Nat → List Bool → List Bool
  | 0 => fun S => false :: S
  | 1 => fun S => false :: S
  | 2 => fun S => false :: S
  | 3 => fun S => false :: S
  | 4 => fun S => false :: S
  | _ => fun S => true :: S
theorem rM_le {T : Nat → Int32} {n most p : Nat} {q : Nat × Nat} (h : rM T n most p = .inr q) : q.2 ≤ most := by
  unfold rM at h
  split at h
  · cases h
  · split at h
    · cases h
    · rename_i z
      cases h
      exact Nat.le_of_not_lt (fun y => z (Or.inr y))
theorem rCm_le {T : Nat → Int32} {n b : Nat} {q : Nat × Nat} (h : rCm T n b = some q) : 100103 ≤ q.1 ∧ q.1 < 100108 := by
  unfold rCm at h
  split at h
  · cases h; exact ⟨Nat.le_of_ble_eq_true rfl, Nat.le_of_ble_eq_true rfl⟩
  · split at h
    · split at h <;> cases h <;> exact ⟨Nat.le_of_ble_eq_true rfl, Nat.le_of_ble_eq_true rfl⟩
    · split at h
      · split at h <;> cases h <;> exact ⟨Nat.le_of_ble_eq_true rfl, Nat.le_of_ble_eq_true rfl⟩
      · cases h
theorem ty_pm {c : Nat} (hc : 100100 ≤ c ∧ c < 100103) (S : List Bool) : tyS (false :: false :: S) c = some (false :: S) := by
  unfold tyS
  rw [if_neg (by omega), if_neg (by omega), if_neg (by omega), if_pos hc]
theorem ty_cm {c : Nat} (hc : 100103 ≤ c ∧ c < 100108) (S : List Bool) : tyS (false :: false :: S) c = some (true :: S) := by
  unfold tyS
  rw [if_neg (by omega), if_neg (by omega), if_neg (by omega), if_neg (by omega), if_pos hc]
theorem ty_ao {c : Nat} (hc : c = 100108 ∨ c = 100109) (S : List Bool) : tyS (true :: true :: S) c = some (true :: S) := by
  unfold tyS
  rw [if_neg (by omega), if_neg (by omega), if_pos hc]
theorem ty_no (S : List Bool) : tyS (true :: S) 100110 = some (true :: S) := by
  unfold tyS
  rw [if_neg (by omega), if_pos rfl]
theorem rX_ty {T : Nat → Int32} {n : Nat} : ∀ (f m d : Nat) (s s2 : rS), m ≤ 10 → rX T n f m d s = some (.inr s2) → tyH (mIn m) (mOu m) s s2 := by
  intro f
  induction f with
  | zero =>
    intro m d s s2 hm h
    have h : (none : rR) = some (.inr s2) := h
    cases h
  | succ f ih =>
    have i0 : ∀ d s s2, rX T n f 0 d s = some (.inr s2) → tyH (fun S => S) (fun S => false :: S) s s2 := fun d s s2 h => ih 0 d s s2 (by decide) h
    have i1 : ∀ d s s2, rX T n f 1 d s = some (.inr s2) → tyH (fun S => S) (fun S => false :: S) s s2 := fun d s s2 h => ih 1 d s s2 (by decide) h
    have i2 : ∀ d s s2, rX T n f 2 d s = some (.inr s2) → tyH (fun S => false :: S) (fun S => false :: S) s s2 := fun d s s2 h => ih 2 d s s2 (by decide) h
    have i3 : ∀ d s s2, rX T n f 3 d s = some (.inr s2) → tyH (fun S => S) (fun S => false :: S) s s2 := fun d s s2 h => ih 3 d s s2 (by decide) h
    have i4 : ∀ d s s2, rX T n f 4 d s = some (.inr s2) → tyH (fun S => false :: S) (fun S => false :: S) s s2 := fun d s s2 h => ih 4 d s s2 (by decide) h
    have i5 : ∀ d s s2, rX T n f 5 d s = some (.inr s2) → tyH (fun S => S) (fun S => true :: S) s s2 := fun d s s2 h => ih 5 d s s2 (by decide) h
    have i6 : ∀ d s s2, rX T n f 6 d s = some (.inr s2) → tyH (fun S => S) (fun S => true :: S) s s2 := fun d s s2 h => ih 6 d s s2 (by decide) h
    have i7 : ∀ d s s2, rX T n f 7 d s = some (.inr s2) → tyH (fun S => S) (fun S => true :: S) s s2 := fun d s s2 h => ih 7 d s s2 (by decide) h
    have i8 : ∀ d s s2, rX T n f 8 d s = some (.inr s2) → tyH (fun S => true :: S) (fun S => true :: S) s s2 := fun d s s2 h => ih 8 d s s2 (by decide) h
    have i9 : ∀ d s s2, rX T n f 9 d s = some (.inr s2) → tyH (fun S => S) (fun S => true :: S) s s2 := fun d s s2 h => ih 9 d s s2 (by decide) h
    have i10 : ∀ d s s2, rX T n f 10 d s = some (.inr s2) → tyH (fun S => true :: S) (fun S => true :: S) s s2 := fun d s s2 h => ih 10 d s s2 (by decide) h
    intro m d s s2 hm h
    rcases (by omega : m = 0 ∨ m = 1 ∨ m = 2 ∨ m = 3 ∨ m = 4 ∨ m = 5 ∨ m = 6 ∨ m = 7 ∨ m = 8 ∨ m = 9 ∨ m = 10) with rfl | rfl | rfl | rfl | rfl | rfl | rfl | rfl | rfl | rfl | rfl
    · have h : (if rB T n s.1 < n ∧ T (rB T n s.1) = 40 then (if d = 10 then rF (rB T n s.1) 2 else rK (rC (rB T n s.1) s) (fun s1 => rK (rX T n f 3 (d + 1) (rA (rB T n s.1 + 1) s1)) (rT T n 41)))
      else (match rK12 T n (rB T n s.1) with
        | some k => rK (rC (rB T n s.1) s) (fun s1 => rO (rU (100000 + k) (rA (rE T n (rB T n s.1)) s1)))
        | none => (match rM T n 99999 (rB T n s.1) with
          | .inl e => some (.inl e)
          | .inr q => rK (rC (rB T n s.1) s) (fun s1 => rO (rU q.2 (rA q.1 s1)))))) = some (.inr s2) := h
      show tyH (fun S => S) (fun S => false :: S) s s2
      split at h
      · split at h
        · exact (rF_no h).elim
        · obtain ⟨s1, h1, h⟩ := rK_ok h
          obtain ⟨k1, rfl⟩ := rC_ok h1
          obtain ⟨s3, h3, h⟩ := rK_ok h
          obtain ⟨-, rfl⟩ := rTon h
          exact tyH_a (tyH_t (tyH_c k1) (tyH_b (i3 _ _ _ h3)))
      · cases hk : rK12 T n (rB T n s.1) with
        | some k =>
          rw [hk] at h
          obtain ⟨s1, h1, h⟩ := rK_ok h
          obtain ⟨k1, rfl⟩ := rC_ok h1
          rw [rO_ok h]
          have := (rK12_s hk).1
          exact tyH_v k1 (by omega)
        | none =>
          rw [hk] at h
          cases hM : rM T n 99999 (rB T n s.1) with
          | inl e => simp only [hM] at h; cases h
          | inr q =>
            simp only [hM] at h
            obtain ⟨s1, h1, h⟩ := rK_ok h
            obtain ⟨k1, rfl⟩ := rC_ok h1
            rw [rO_ok h]
            have := rM_le hM
            exact tyH_v k1 (by omega)
    · have h : rK (rX T n f 0 d s) (rX T n f 2 d) = some (.inr s2) := h
      obtain ⟨s1, h1, h⟩ := rK_ok h
      exact tyH_t (i0 _ _ _ h1) (i2 _ _ _ h)
    · have h : (if rB T n s.1 < n ∧ T (rB T n s.1) = 42 then rK (rX T n f 0 d (rA (rB T n s.1 + 1) s)) (fun s1 => rX T n f 2 d (rU 100102 s1)) else rO (rA (rB T n s.1) s)) = some (.inr s2) := h
      show tyH (fun S => false :: S) (fun S => false :: S) s s2
      split at h
      · obtain ⟨s1, h1, h⟩ := rK_ok h
        exact tyH_t (tyH_S (fun S => false :: S) (tyH_b (i0 _ _ _ h1))) (tyH_t (tyH_u (by decide) (ty_pm (by decide))) (i2 _ _ _ h))
      · rw [rO_ok h]
        exact tyH_a tyH_r
    · have h : rK (rX T n f 1 d s) (rX T n f 4 d) = some (.inr s2) := h
      obtain ⟨s1, h1, h⟩ := rK_ok h
      exact tyH_t (i1 _ _ _ h1) (i4 _ _ _ h)
    · have h : (if rB T n s.1 < n ∧ T (rB T n s.1) = 43 then rK (rX T n f 1 d (rA (rB T n s.1 + 1) s)) (fun s1 => rX T n f 4 d (rU 100100 s1))
      else if rB T n s.1 < n ∧ T (rB T n s.1) = 45 then rK (rX T n f 1 d (rA (rB T n s.1 + 1) s)) (fun s1 => rX T n f 4 d (rU 100101 s1))
      else rO (rA (rB T n s.1) s)) = some (.inr s2) := h
      show tyH (fun S => false :: S) (fun S => false :: S) s s2
      split at h
      · obtain ⟨s1, h1, h⟩ := rK_ok h
        exact tyH_t (tyH_S (fun S => false :: S) (tyH_b (i1 _ _ _ h1))) (tyH_t (tyH_u (by decide) (ty_pm (by decide))) (i4 _ _ _ h))
      · split at h
        · obtain ⟨s1, h1, h⟩ := rK_ok h
          exact tyH_t (tyH_S (fun S => false :: S) (tyH_b (i1 _ _ _ h1))) (tyH_t (tyH_u (by decide) (ty_pm (by decide))) (i4 _ _ _ h))
        · rw [rO_ok h]
          exact tyH_a tyH_r
    · have h : rK (rX T n f 3 d s) (fun s1 => match rCm T n (rB T n s1.1) with
        | none => rF (rB T n s1.1) 0
        | some q => rK (rC (rB T n s1.1) s1) (fun s2 => rK (rX T n f 3 d (rA q.2 s2)) (fun s3 => rO (rU q.1 s3)))) = some (.inr s2) := h
      show tyH (fun S => S) (fun S => true :: S) s s2
      obtain ⟨s1, h1, h⟩ := rK_ok h
      cases hq : rCm T n (rB T n s1.1) with
      | none => simp only [hq] at h; exact (rF_no h).elim
      | some q =>
        simp only [hq] at h
        obtain ⟨s3, h3, h⟩ := rK_ok h
        obtain ⟨k3, rfl⟩ := rC_ok h3
        obtain ⟨s4, h4, h⟩ := rK_ok h
        rw [rO_ok h]
        have := rCm_le hq
        exact tyH_t (i3 _ _ _ h1) (tyH_t (tyH_c k3) (tyH_t (tyH_S (fun S => false :: S) (tyH_b (i3 _ _ _ h4))) (tyH_u (by omega) (ty_cm this))))
    · have h : (if rW T n (rB T n s.1) (rWd 19) = true then (if d = 10 then rF (rB T n s.1) 2 else rK (rX T n f 6 (d + 1) (rA (rB T n s.1 + 3) s)) (fun s1 => rO (rU 100110 s1)))
      else if rB T n s.1 < n ∧ T (rB T n s.1) = 91 then (if d = 10 then rF (rB T n s.1) 2 else rK (rX T n f 9 (d + 1) (rA (rB T n s.1 + 1) s)) (rT T n 93))
      else rX T n f 5 d (rA (rB T n s.1) s)) = some (.inr s2) := h
      show tyH (fun S => S) (fun S => true :: S) s s2
      split at h
      · split at h
        · exact (rF_no h).elim
        · obtain ⟨s1, h1, h⟩ := rK_ok h
          rw [rO_ok h]
          exact tyH_t (tyH_b (i6 _ _ _ h1)) (tyH_u (by decide) ty_no)
      · split at h
        · split at h
          · exact (rF_no h).elim
          · obtain ⟨s1, h1, h⟩ := rK_ok h
            obtain ⟨-, rfl⟩ := rTon h
            exact tyH_a (tyH_b (i9 _ _ _ h1))
        · exact tyH_b (i5 _ _ _ h)
    · have h : rK (rX T n f 6 d s) (rX T n f 8 d) = some (.inr s2) := h
      obtain ⟨s1, h1, h⟩ := rK_ok h
      exact tyH_t (i6 _ _ _ h1) (i8 _ _ _ h)
    · have h : (if rW T n (rB T n s.1) (rWd 18) = true then rK (rX T n f 6 d (rA (rB T n s.1 + 3) s)) (fun s1 => rX T n f 8 d (rU 100109 s1)) else rO (rA (rB T n s.1) s)) = some (.inr s2) := h
      show tyH (fun S => true :: S) (fun S => true :: S) s s2
      split at h
      · obtain ⟨s1, h1, h⟩ := rK_ok h
        exact tyH_t (tyH_S (fun S => true :: S) (tyH_b (i6 _ _ _ h1))) (tyH_t (tyH_u (by decide) (ty_ao (by decide))) (i8 _ _ _ h))
      · rw [rO_ok h]
        exact tyH_a tyH_r
    · have h : rK (rX T n f 7 d s) (rX T n f 10 d) = some (.inr s2) := h
      obtain ⟨s1, h1, h⟩ := rK_ok h
      exact tyH_t (i7 _ _ _ h1) (i10 _ _ _ h)
    · have h : (if rW T n (rB T n s.1) (rWd 17) = true then rK (rX T n f 7 d (rA (rB T n s.1 + 2) s)) (fun s1 => rX T n f 10 d (rU 100108 s1)) else rO (rA (rB T n s.1) s)) = some (.inr s2) := h
      show tyH (fun S => true :: S) (fun S => true :: S) s s2
      split at h
      · obtain ⟨s1, h1, h⟩ := rK_ok h
        exact tyH_t (tyH_S (fun S => true :: S) (tyH_b (i7 _ _ _ h1))) (tyH_t (tyH_u (by decide) (ty_ao (by decide))) (i10 _ _ _ h))
      · rw [rO_ok h]
        exact tyH_a tyH_r
