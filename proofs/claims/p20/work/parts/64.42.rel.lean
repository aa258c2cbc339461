theorem g_behindFact {G : zG} (hG : G.1 = zProg) (hX : G.2.1 = ztx) {h : zH} {T : Nat → Int32} {n : Nat} (hs : tSh h) (hp : mP h) (hT : tA h 132 = T) (hN : mn h = n) (hD : mD h) (hd : mDp (mSk h) ≤ 1000) (h46s : tvI (tF h 111 46) = 3) : tC zTt G 222 [.ref 111] h (fun w h2 => w = none ∧ mFq h h2 ∧ mOut (mS3 T n (mSk h) (ms h)) h2) := by
  refine tC_in (by rw [hG]; rfl) (fun dp => ?_)
  have g0 := mFr_r hs
  have hpn : (ms h).1 ≤ n := mPle hp hN
  have hn4 : n ≤ 400 := by have a := mNl hp hN; have b := hp.2.1; omega
  refine tw_aload rfl rfl ?_
  refine tw_virt0 rfl (g_makesNots hG hX (g0).1 hp ((mFr_T g0).trans hT) ((mFr_n g0).trans hN) hD) (fun wp649 hp649 p649 => ?_)
  obtain ⟨rfl, gp649, pp649e, ap649, bp649, mp649, dp649⟩ := p649
  have ggp649 := mFr_t g0 gp649
  refine tw_aload rfl rfl ?_
  refine tw_virt0 rfl (g_blanks hG hX (ggp649).1 pp649e ((mFr_T ggp649).trans hT) ((mFr_n ggp649).trans hN)) (fun wp650 hp650 p650 => ?_)
  obtain ⟨rfl, gp650, pp650e, sp650, tp650, dp650⟩ := p650
  have ggp650 := mFr_t ggp649 gp650
  rw [ap649] at sp650
  refine tw_aload rfl rfl ?_
  refine tw_push rfl ?_
  refine tw_virt1 rfl (g_stands hG hX (ggp650).1 ((mFr_T ggp650).trans hT) ((mFr_n ggp650).trans hN) (q := 19) (by decide +kernel) ⟨pp650e.2.1.1, by have := pp650e.2.1; omega⟩ ⟨by have := pp650e.2.1; omega, pp650e.2.1.2.2⟩) (fun w9 h9 p651 => ?_)
  obtain ⟨⟨p651, rfl⟩ | ⟨p651, rfl⟩, rfl⟩ := p651
  · try dsimp only [tvI_i, tvJ_j, tvR_r] at p651
    refine tw_if_eq rfl (fun z => absurd z (by decide)) (fun _ => ?_)
    refine tw_aload rfl rfl ?_
    refine tw_virt0 rfl (g_makesAnds hG hX (ggp650).1 pp650e ((mFr_T ggp650).trans hT) ((mFr_n ggp650).trans hN)) (fun wp652 hp652 p652 => ?_)
    obtain ⟨rfl, gp652, pp652e, ap652, bp652, mp652, dp652⟩ := p652
    have ggp652 := mFr_t ggp650 gp652
    refine tw_aload rfl rfl ?_
    refine tw_push rfl ?_
    refine tw_virt1 rfl (g_opens hG hX (ggp652).1 pp652e ((mFr_T ggp652).trans hT) ((mFr_n ggp652).trans hN) (by decide)) (fun wp653 hp653 p653 => ?_)
    obtain ⟨rfl, gp653, pp653e, tp653, sp653, dp653⟩ := p653
    have ggp653 := mFr_t ggp652 gp653
    refine tw_aload rfl rfl ?_
    refine tw_dup rfl ?_
    refine tw_getS rfl (hi_111_28 ggp653.1) ?_
    refine tw_push rfl ?_
    refine tw_iadd rfl ?_
    refine tw_put rfl (fun f654 => ?_)
    refine tG_setm f654 (hw_111_28 f654 (ggp653).1) (fun hf654 ef654 => ?_)
    try dsimp only [tvI_i] at ef654
    have gf654 := mFr_s ggp653 ef654 (by unfold mFs; omega)
    have hw18 : rW T n (rB T n (ms h).1) (rWd 18) = true := by have z := p651; rw [sp650] at z; rw [txt_k.2.1]; exact z
    have h9w : rE T n (rB T n (ms h).1) = (rB T n (ms h).1) + 3 := by rw [rW_e hw18, wlen_k.1]
    have hr9 := rE_le (T := T) (rB_le (T := T) hpn)
    rw [h9w] at hr9
    have hmsf654 : ms hp653 = ((rB T n (ms h).1), (ms h).2.1, (ms hp652).2.2) := (sp653).trans (mA3 sp650 ap652 bp652 bp649 rfl)
    obtain ⟨pf654, sf654, tf654⟩ := mTo pp653e ((mFr_n ggp653).trans hN) ef654 (v := (rB T n (ms h).1) + 3) (zp3 (k := (rB T n (ms h).1)) (j := 3) (by rw [mPl pp653e, hmsf654]) rfl (by have := rB_le (T := T) hpn; omega) (by decide)) hr9
    rw [hmsf654] at sf654
    refine tw_aload rfl rfl ?_
    refine tw_push rfl ?_
    refine tw_put rfl (fun f655 => ?_)
    refine tG_setm f655 (hw_111_46 f655 (gf654).1) (fun hf655 ef655 => ?_)
    try dsimp only [tvI_i] at ef655
    have gf655 := mFq_s (mFq_f gf654) ef655 (Or.inr rfl)
    obtain ⟨pf655, sf655, tf655⟩ := mSte pf654 ef655
    refine tw_goto rfl ?_
    have hmn : (mSk hp650, (ms hp650).2.2) = (mN (mSk h) (ms h).2.2) := by rw [tp650, sp650]; exact mp649
    have hmb : (mSk hp652, (ms hp652).2.2) = mA (mN (mSk h) (ms h).2.2).1 (mN (mSk h) (ms h).2.2).2 := by rw [mp652, mfst hmn, msnd hmn]
    have hsk : mSk hf655 = 11 :: (mA (mN (mSk h) (ms h).2.2).1 (mN (mSk h) (ms h).2.2).2).1 := by rw [tf655, tf654, tp653, ← mfst hmb]; rfl
    have hdd : mD hf655 := mD_m (mD_k dp649 tp650 dp650) (by rw [hsk, mDp_e (by decide), mDp_A, mfst hmn]) ((mI_o ef655 (by decide)).trans ((mI_o ef654 (by decide)).trans (dp653.trans dp652)))
    exact tw_vret rfl ⟨rfl, gf655, mOut_r (by unfold mS3; rw [if_pos hw18]) pf655 hdd (by unfold mst; rw [mI_x ef655, hsk, sf655, sf654, msnd hmb]; rfl)⟩
  · try dsimp only [tvI_i, tvJ_j, tvR_r] at p651
    refine tw_if_eq rfl (fun _ => ?_) (fun z => absurd z (by decide))
    refine tw_aload rfl rfl ?_
    refine tw_push rfl ?_
    refine tw_virt1 rfl (g_stands hG hX (ggp650).1 ((mFr_T ggp650).trans hT) ((mFr_n ggp650).trans hN) (q := 20) (by decide +kernel) ⟨pp650e.2.1.1, by have := pp650e.2.1; omega⟩ ⟨by have := pp650e.2.1; omega, pp650e.2.1.2.2⟩) (fun w9 h9 p656 => ?_)
    obtain ⟨⟨p656, rfl⟩ | ⟨p656, rfl⟩, rfl⟩ := p656
    · try dsimp only [tvI_i, tvJ_j, tvR_r] at p656
      refine tw_if_eq rfl (fun z => absurd z (by decide)) (fun _ => ?_)
      refine tw_aload rfl rfl ?_
      refine tw_virt0 rfl (g_makesOrs hG hX (ggp650).1 pp650e ((mFr_T ggp650).trans hT) ((mFr_n ggp650).trans hN)) (fun wp657 hp657 p657 => ?_)
      obtain ⟨rfl, gp657, pp657e, ap657, bp657, mp657, dp657⟩ := p657
      have ggp657 := mFr_t ggp650 gp657
      refine tw_aload rfl rfl ?_
      refine tw_push rfl ?_
      refine tw_virt1 rfl (g_opens hG hX (ggp657).1 pp657e ((mFr_T ggp657).trans hT) ((mFr_n ggp657).trans hN) (by decide)) (fun wp658 hp658 p658 => ?_)
      obtain ⟨rfl, gp658, pp658e, tp658, sp658, dp658⟩ := p658
      have ggp658 := mFr_t ggp657 gp658
      refine tw_aload rfl rfl ?_
      refine tw_dup rfl ?_
      refine tw_getS rfl (hi_111_28 ggp658.1) ?_
      refine tw_push rfl ?_
      refine tw_iadd rfl ?_
      refine tw_put rfl (fun f659 => ?_)
      refine tG_setm f659 (hw_111_28 f659 (ggp658).1) (fun hf659 ef659 => ?_)
      try dsimp only [tvI_i] at ef659
      have gf659 := mFr_s ggp658 ef659 (by unfold mFs; omega)
      have hw18 : ¬ rW T n (rB T n (ms h).1) (rWd 18) = true := by have z := p651; rw [sp650] at z; rw [txt_k.2.1]; exact z
      have hw17 : rW T n (rB T n (ms h).1) (rWd 17) = true := by have z := p656; rw [sp650] at z; rw [txt_k.2.2.1]; exact z
      have h9w : rE T n (rB T n (ms h).1) = (rB T n (ms h).1) + 2 := by rw [rW_e hw17, wlen_k.2.1]
      have hr9 := rE_le (T := T) (rB_le (T := T) hpn)
      rw [h9w] at hr9
      have hmsf659 : ms hp658 = ((rB T n (ms h).1), (ms h).2.1, (ms hp657).2.2) := (sp658).trans (mA3 sp650 ap657 bp657 bp649 rfl)
      obtain ⟨pf659, sf659, tf659⟩ := mTo pp658e ((mFr_n ggp658).trans hN) ef659 (v := (rB T n (ms h).1) + 2) (zp3 (k := (rB T n (ms h).1)) (j := 2) (by rw [mPl pp658e, hmsf659]) rfl (by have := rB_le (T := T) hpn; omega) (by decide)) hr9
      rw [hmsf659] at sf659
      refine tw_aload rfl rfl ?_
      refine tw_push rfl ?_
      refine tw_put rfl (fun f660 => ?_)
      refine tG_setm f660 (hw_111_46 f660 (gf659).1) (fun hf660 ef660 => ?_)
      try dsimp only [tvI_i] at ef660
      have gf660 := mFq_s (mFq_f gf659) ef660 (Or.inr rfl)
      obtain ⟨pf660, sf660, tf660⟩ := mSte pf659 ef660
      refine tw_goto rfl ?_
      have hmn : (mSk hp650, (ms hp650).2.2) = (mN (mSk h) (ms h).2.2) := by rw [tp650, sp650]; exact mp649
      have hmb : (mSk hp657, (ms hp657).2.2) = mO (mN (mSk h) (ms h).2.2).1 (mN (mSk h) (ms h).2.2).2 := by rw [mp657, mfst hmn, msnd hmn]
      have hsk : mSk hf660 = 12 :: (mO (mN (mSk h) (ms h).2.2).1 (mN (mSk h) (ms h).2.2).2).1 := by rw [tf660, tf659, tp658, ← mfst hmb]; rfl
      have hdd : mD hf660 := mD_m (mD_k dp649 tp650 dp650) (by rw [hsk, mDp_e (by decide), mDp_O, mfst hmn]) ((mI_o ef660 (by decide)).trans ((mI_o ef659 (by decide)).trans (dp658.trans dp657)))
      exact tw_vret rfl ⟨rfl, gf660, mOut_r (by unfold mS3; rw [if_neg hw18, if_pos hw17]) pf660 hdd (by unfold mst; rw [mI_x ef660, hsk, sf660, sf659, msnd hmb]; rfl)⟩
    · try dsimp only [tvI_i, tvJ_j, tvR_r] at p656
      refine tw_if_eq rfl (fun _ => ?_) (fun z => absurd z (by decide))
      refine tw_aload rfl rfl ?_
      refine tw_virt0 rfl (g_makesOrs hG hX (ggp650).1 pp650e ((mFr_T ggp650).trans hT) ((mFr_n ggp650).trans hN)) (fun wp661 hp661 p661 => ?_)
      obtain ⟨rfl, gp661, pp661e, ap661, bp661, mp661, dp661⟩ := p661
      have ggp661 := mFr_t ggp650 gp661
      refine tw_aload rfl rfl ?_
      refine tw_virt0 rfl (g_top hG hX (ggp661).1 pp661e ((mFr_T ggp661).trans hT) ((mFr_n ggp661).trans hN)) (fun wp662 hp662 p662 => ?_)
      obtain ⟨⟨cp662, rfl, Tp662⟩, rfl⟩ := p662
      refine tw_push rfl ?_
      refine tw_ic_ne rfl (fun q663 => ?_) (fun q663 => ?_)
      · try dsimp only [tvI_i, tvJ_j, tvR_r] at q663
        have q663i := zneq (Y := 13) (by decide) q663
        refine tw_aload rfl rfl ?_
        refine tw_push rfl ?_
        refine tw_put rfl (fun f664 => ?_)
        refine tG_setm f664 (hw_111_46 f664 (ggp661).1) (fun hf664 ef664 => ?_)
        try dsimp only [tvI_i] at ef664
        have gf664 := mFq_s (mFq_f ggp661) ef664 (Or.inr rfl)
        obtain ⟨pf664, sf664, tf664⟩ := mSte pp661e ef664
        have hw18 : ¬ rW T n (rB T n (ms h).1) (rWd 18) = true := by have z := p651; rw [sp650] at z; rw [txt_k.2.1]; exact z
        have hw17 : ¬ rW T n (rB T n (ms h).1) (rWd 17) = true := by have z := p656; rw [sp650] at z; rw [txt_k.2.2.1]; exact z
        have ht13 := tpm_k Tp662 (k := 13) (K := 13) rfl (by decide)
        have hn13 : ¬ (mSk hp661).headD 0 = 13 := fun z => q663 (ht13.mpr z)
        have hmn : (mSk hp650, (ms hp650).2.2) = (mN (mSk h) (ms h).2.2) := by rw [tp650, sp650]; exact mp649
        have hmb : (mSk hp661, (ms hp661).2.2) = mO (mN (mSk h) (ms h).2.2).1 (mN (mSk h) (ms h).2.2).2 := by rw [mp661, mfst hmn, msnd hmn]
        have hms : ms hf664 = ((rB T n (ms h).1), (ms h).2.1, (mO (mN (mSk h) (ms h).2.2).1 (mN (mSk h) (ms h).2.2).2).2) := (sf664).trans (mA3 sp650 ap661 bp661 bp649 (msnd hmb))
        have hsk : mSk hf664 = (mO (mN (mSk h) (ms h).2.2).1 (mN (mSk h) (ms h).2.2).2).1 := by rw [tf664, mfst hmb]
        have hdd : mD hf664 := mD_m (mD_k dp649 tp650 dp650) (by rw [hsk, mDp_O, mfst hmn]) ((mI_o ef664 (by decide)).trans dp661)
        exact tw_vret rfl ⟨rfl, gf664, mOut_r (by unfold mS3; rw [if_neg hw18, if_neg hw17, if_neg (show ¬ (mO (mN (mSk h) (ms h).2.2).1 (mN (mSk h) (ms h).2.2).2).1.headD 0 = 13 from by rw [← mfst hmb]; exact hn13)]) pf664 hdd (by unfold mst; rw [mI_x ef664, hsk, hms]; rfl)⟩
      · try dsimp only [tvI_i, tvJ_j, tvR_r] at q663
        have q663i := zeqi (Y := 13) (by decide) q663
        refine tw_aload rfl rfl ?_
        refine tw_virt0 rfl (g_sign hG hX (ggp661).1 ((mFr_T ggp661).trans hT) ((mFr_n ggp661).trans hN) ⟨pp661e.2.1.1, by have := pp661e.2.1; omega⟩) (fun wp665 hp665 p665 => ?_)
        obtain ⟨⟨cp665, rfl, kp665⟩, rfl⟩ := p665
        refine tw_push rfl ?_
        refine tw_ic_eq rfl (fun q666 => ?_) (fun q666 => ?_)
        · try dsimp only [tvI_i, tvJ_j, tvR_r] at q666
          have q666i := zeqi (Y := 93) (by decide) q666
          refine tw_aload rfl rfl ?_
          refine tw_dup rfl ?_
          refine tw_getS rfl (hi_111_28 (ggp661).1) ?_
          refine tw_push rfl ?_
          refine tw_iadd rfl ?_
          refine tw_put rfl (fun f667 => ?_)
          refine tG_setm f667 (hw_111_28 f667 (ggp661).1) (fun hf667 ef667 => ?_)
          try dsimp only [tvI_i] at ef667
          have gf667 := mFr_s ggp661 ef667 (by unfold mFs; omega)
          have hw18 : ¬ rW T n (rB T n (ms h).1) (rWd 18) = true := by have z := p651; rw [sp650] at z; rw [txt_k.2.1]; exact z
          have hw17 : ¬ rW T n (rB T n (ms h).1) (rWd 17) = true := by have z := p656; rw [sp650] at z; rw [txt_k.2.2.1]; exact z
          have ht13 := tpm_k Tp662 (k := 13) (K := 13) rfl (by decide)
          have hn13 : (mSk hp661).headD 0 = 13 := ht13.mp q663
          have hk93 : cp665 = 93 ↔ ((rB T n (ms h).1) < n ∧ T (rB T n (ms h).1) = 93) := by have y := sgm_k kp665 93 (by decide); rw [ap661, sp650] at y; exact y
          have hs93 : ((rB T n (ms h).1) < n ∧ T (rB T n (ms h).1) = 93) := hk93.mp q666
          have hDm : mD hp661 := mD_m (mD_k dp649 tp650 dp650) (by rw [mfst mp661]; exact mDp_O _ _) dp661
          obtain ⟨pf667, sf667, tf667⟩ := mTo pp661e ((mFr_n ggp661).trans hN) ef667 (v := (rB T n (ms h).1) + 1) (zp1 (by rw [mPl pp661e, show (ms hp661).1 = (rB T n (ms h).1) from by rw [ap661, sp650]; rfl]) (by have := rB_le (T := T) hpn; omega)) hs93.1
          refine tw_aload rfl rfl ?_
          refine tw_dup rfl ?_
          refine tw_getS rfl (hi_111_34 (gf667).1) ?_
          refine tw_push rfl ?_
          refine tw_isub rfl ?_
          refine tw_put rfl (fun f668 => ?_)
          refine tG_setm f668 (hw_111_34 f668 (gf667).1) (fun hf668 ef668 => ?_)
          try dsimp only [tvI_i] at ef668
          have gf668 := mFr_s gf667 ef668 (by unfold mFs; omega)
          have hst : mSk hf667 = 13 :: (mSk hp661).tail := tf667.trans (mhead (k := 12) hn13)
          obtain ⟨pf668, tf668, sf668, df668⟩ := mSk_pop pf667 (by rw [hst]; exact List.cons_ne_nil _ _) ef668
          rw [hst] at tf668
          have tf668 : mSk hf668 = (mSk hp661).tail := tf668
          refine tw_aload rfl rfl ?_
          refine tw_dup rfl ?_
          refine tw_getS rfl (hi_111_32 (gf668).1) ?_
          refine tw_push rfl ?_
          refine tw_isub rfl ?_
          refine tw_put rfl (fun f669 => ?_)
          refine tG_setm f669 (hw_111_32 f669 (gf668).1) (fun hf669 ef669 => ?_)
          try dsimp only [tvI_i] at ef669
          have gf669 := mFr_s gf668 ef669 (by unfold mFs; omega)
          have hdf669 : (tvI (tF hf668 111 32)).toInt = ((mDp (mSk hf668) + 1 : Nat) : Int) := by
            rw [df668, mI_o ef667 (by decide)]
            refine (show (tvI (tF hp661 111 32)).toInt = (mDp (mSk hp661) : Int) from hDm).trans ?_
            rw [tf668]
            exact congrArg (fun z : Nat => (z : Int)) ((congrArg mDp (mhead (k := 12) hn13)).trans (mDp_c (by decide)))
          obtain ⟨pf669, tf669, sf669, ddf669⟩ := mDn pf668 ef669 hdf669 rfl
          refine tw_goto rfl ?_
          have hmn : (mSk hp650, (ms hp650).2.2) = (mN (mSk h) (ms h).2.2) := by rw [tp650, sp650]; exact mp649
          have hmb : (mSk hp661, (ms hp661).2.2) = mO (mN (mSk h) (ms h).2.2).1 (mN (mSk h) (ms h).2.2).2 := by rw [mp661, mfst hmn, msnd hmn]
          have hms : ms hf669 = ((rB T n (ms h).1) + 1, (ms h).2.1, (mO (mN (mSk h) (ms h).2.2).1 (mN (mSk h) (ms h).2.2).2).2) := by rw [sf669, sf668, sf667]; exact mA6 (mA2 sp650 bp661 bp649) (msnd hmb)
          have hsk : mSk hf669 = (mO (mN (mSk h) (ms h).2.2).1 (mN (mSk h) (ms h).2.2).2).1.tail := by rw [tf669, tf668, mfst hmb]
          have h46 : stN (tvI (tF hf669 111 46)) = 3 := by rw [mFr_46 gf669, h46s]; rfl
          exact tw_vret rfl ⟨rfl, mFq_f gf669, mOut_r (by unfold mS3; rw [if_neg hw18, if_neg hw17, if_pos (show (mO (mN (mSk h) (ms h).2.2).1 (mN (mSk h) (ms h).2.2).2).1.headD 0 = 13 from by rw [← mfst hmb]; exact hn13), if_pos hs93]) pf669 ddf669 (by unfold mst; rw [h46, hsk, hms])⟩
        · try dsimp only [tvI_i, tvJ_j, tvR_r] at q666
          have q666i := zneq (Y := 93) (by decide) q666
          refine tw_aload rfl rfl ?_
          refine tw_push rfl ?_
          refine tw_aload rfl rfl ?_
          refine tw_getS rfl (hi_111_28 (ggp661).1) ?_
          refine tw_virt2 rfl (g_fails hG hX (ggp661).1 pp661e ((mFr_T ggp661).trans hT) ((mFr_n ggp661).trans hN) (w := 0) (b := (rB T n (ms h).1)) rfl (by decide) ((mPl pp661e).trans (by rw [show (ms hp661).1 = (rB T n (ms h).1) from by rw [ap661, sp650]; rfl])) (by have := rB_le (T := T) hpn; omega)) (fun wp670 hp670 p670 => ?_)
          obtain ⟨rfl, gp670, Fp670, ip670, jp670⟩ := p670
          have ggp670 := mFr_t ggp661 gp670
          refine tw_aload rfl rfl ?_
          refine tw_dup rfl ?_
          refine tw_getS rfl (hi_111_28 ggp670.1) ?_
          refine tw_push rfl ?_
          refine tw_iadd rfl ?_
          refine tw_put rfl (fun f671 => ?_)
          refine tG_setm f671 (hw_111_28 f671 (ggp670).1) (fun hf671 ef671 => ?_)
          try dsimp only [tvI_i] at ef671
          have gf671 := mFr_s ggp670 ef671 (by unfold mFs; omega)
          have zf671 := mFt_s Fp670 ef671 (by decide)
          have yf671 : (tvI (tF hp670 111 28)).toInt = (((rB T n (ms h).1) : Nat) : Int) := by rw [ip670, mPl pp661e, show (ms hp661).1 = (rB T n (ms h).1) from by rw [ap661, sp650]; rfl]
          have Zf671 : mZp hf671 := mZ_of ggp670 hp ef671 (zp1 yf671 (by have := rB_le (T := T) hpn; omega)) (by have := rB_le (T := T) hpn; omega)
          refine tw_aload rfl rfl ?_
          refine tw_dup rfl ?_
          refine tw_getS rfl (hi_111_34 (gf671).1) ?_
          refine tw_push rfl ?_
          refine tw_isub rfl ?_
          refine tw_put rfl (fun f672 => ?_)
          refine tG_setm f672 (hw_111_34 f672 (gf671).1) (fun hf672 ef672 => ?_)
          try dsimp only [tvI_i] at ef672
          have gf672 := mFr_s gf671 ef672 (by unfold mFs; omega)
          have zf672 := mFt_s zf671 ef672 (by decide)
          have Zf672 : mZp hf672 := mZp_o Zf671 ef672 (by decide)
          refine tw_aload rfl rfl ?_
          refine tw_dup rfl ?_
          refine tw_getS rfl (hi_111_32 (gf672).1) ?_
          refine tw_push rfl ?_
          refine tw_isub rfl ?_
          refine tw_put rfl (fun f673 => ?_)
          refine tG_setm f673 (hw_111_32 f673 (gf672).1) (fun hf673 ef673 => ?_)
          try dsimp only [tvI_i] at ef673
          have gf673 := mFr_s gf672 ef673 (by unfold mFs; omega)
          have zf673 := mFt_s zf672 ef673 (by decide)
          have Zf673 : mZp hf673 := mZp_o Zf672 ef673 (by decide)
          refine tw_goto rfl ?_
          have hw18 : ¬ rW T n (rB T n (ms h).1) (rWd 18) = true := by have z := p651; rw [sp650] at z; rw [txt_k.2.1]; exact z
          have hw17 : ¬ rW T n (rB T n (ms h).1) (rWd 17) = true := by have z := p656; rw [sp650] at z; rw [txt_k.2.2.1]; exact z
          have ht13 := tpm_k Tp662 (k := 13) (K := 13) rfl (by decide)
          have hn13 : (mSk hp661).headD 0 = 13 := ht13.mp q663
          have hk93 : cp665 = 93 ↔ ((rB T n (ms h).1) < n ∧ T (rB T n (ms h).1) = 93) := by have y := sgm_k kp665 93 (by decide); rw [ap661, sp650] at y; exact y
          have hs93 : ¬ ((rB T n (ms h).1) < n ∧ T (rB T n (ms h).1) = 93) := fun z => q666 (hk93.mpr z)
          have hDm : mD hp661 := mD_m (mD_k dp649 tp650 dp650) (by rw [mfst mp661]; exact mDp_O _ _) dp661
          have hmn : (mSk hp650, (ms hp650).2.2) = (mN (mSk h) (ms h).2.2) := by rw [tp650, sp650]; exact mp649
          have hmb : (mSk hp661, (ms hp661).2.2) = mO (mN (mSk h) (ms h).2.2).1 (mN (mSk h) (ms h).2.2).2 := by rw [mp661, mfst hmn, msnd hmn]
          exact tw_vret rfl ⟨rfl, mFq_f gf673, mOut_l (by unfold mS3; rw [if_neg hw18, if_neg hw17, if_pos (show (mO (mN (mSk h) (ms h).2.2).1 (mN (mSk h) (ms h).2.2).2).1.headD 0 = 13 from by rw [← mfst hmb]; exact hn13), if_neg hs93]) zf673 Zf673⟩
theorem mDp_N : ∀ (S o : List Nat), mDp (mN S o).1 ≤ mDp S
  | [], _ => Nat.le_refl _
  | x :: r, o => by
    unfold mN
    by_cases z : x = 10
    · rw [if_pos z, z, mDp_c (by decide)]
      exact Nat.le_succ_of_le (mDp_N r _)
    · rw [if_neg z]
      exact Nat.le_refl _
theorem mDp_t : ∀ (S : List Nat), mDp S.tail ≤ mDp S
  | [] => Nat.le_refl _
  | x :: r => by
    show mDp r ≤ (if _ then mDp r + 1 else mDp r)
    split
    · exact Nat.le_succ _
    · exact Nat.le_refl _
theorem mSt_dp {T : Nat → Int32} {n : Nat} {tst : Bool} {a : Nat} {S : List Nat} {s : rS} {x2 : rMs} (h : mDp S ≤ 10) (ha : a ≤ 3) (e : mSt T n tst (a, S, s) = .inr x2) : mDp x2.2.1 ≤ 10 ∧ x2.1 ≤ 4 := by
  match a, ha, e with
  | 0, _, e =>
    have e : mS0 T n S s = .inr x2 := e
    unfold mS0 at e
    split at e
    · split at e
      · cases e
      · rename_i z
        cases e
        exact ⟨by show mDp (10 :: S) ≤ 10; rw [mDp_c (by decide)]; omega, Nat.le_of_ble_eq_true rfl⟩
    · split at e
      · split at e
        · cases e
        · rename_i z
          cases e
          exact ⟨by show mDp (13 :: S) ≤ 10; rw [mDp_c (by decide)]; omega, Nat.le_of_ble_eq_true rfl⟩
      · cases e
        exact ⟨h, Nat.le_of_ble_eq_true rfl⟩
  | 1, _, e =>
    have e : mS1 T n S s = .inr x2 := e
    unfold mS1 at e
    split at e
    · split at e
      · cases e
      · split at e
        · cases e
        · rename_i z _
          cases e
          exact ⟨by show mDp (50 :: S) ≤ 10; rw [mDp_c (by decide)]; omega, Nat.le_of_ble_eq_true rfl⟩
    · split at e
      · split at e
        · cases e
        · cases e; exact ⟨h, Nat.le_of_ble_eq_true rfl⟩
      · split at e
        · cases e
        · split at e
          · cases e
          · cases e; exact ⟨h, Nat.le_of_ble_eq_true rfl⟩
  | 2, _, e =>
    have e : mS2 T n tst S s = .inr x2 := e
    have hT := mDp_T S s.2.2
    have hS := mDp_S S s.2.2
    have ht := mDp_t (mS S s.2.2).1
    unfold mS2 at e
    split at e
    · cases e
      exact ⟨by show mDp (102 :: _) ≤ 10; rw [mDp_e (by decide)]; omega, Nat.le_of_ble_eq_true rfl⟩
    · split at e
      · cases e
        exact ⟨by show mDp (103 :: _) ≤ 10; rw [mDp_e (by decide)]; omega, Nat.le_of_ble_eq_true rfl⟩
      · split at e
        · cases e
          exact ⟨by show mDp (104 :: _) ≤ 10; rw [mDp_e (by decide)]; omega, Nat.le_of_ble_eq_true rfl⟩
        · split at e
          · split at e
            · cases e
              exact ⟨by show mDp (mS S s.2.2).1.tail ≤ 10; omega, Nat.le_of_ble_eq_true rfl⟩
            · cases e
          · split at e
            · split at e
              · cases e
                exact ⟨by show mDp (mS S s.2.2).1.tail ≤ 10; omega, Nat.le_of_ble_eq_true rfl⟩
              · split at e
                · cases e
                · rename_i q hq
                  split at e
                  · cases e
                  · cases e
                    have r1 := (rCm_r hq).1
                    have r2 := (rCm_r hq).2.1
                    exact ⟨by show mDp ((q.1 - 99898) :: _) ≤ 10; rw [mDp_e (by omega)]; omega, Nat.le_of_ble_eq_true rfl⟩
            · cases e
              exact ⟨by show mDp (mS S s.2.2).1 ≤ 10; omega, Nat.le_of_ble_eq_true rfl⟩
  | 3, _, e =>
    have e : mS3 T n S s = .inr x2 := e
    have hN := mDp_N S s.2.2
    have hA := mDp_A (mN S s.2.2).1 (mN S s.2.2).2
    have hO := mDp_O (mN S s.2.2).1 (mN S s.2.2).2
    have ht := mDp_t (mO (mN S s.2.2).1 (mN S s.2.2).2).1
    unfold mS3 at e
    split at e
    · cases e
      exact ⟨by show mDp (11 :: _) ≤ 10; rw [mDp_e (by decide)]; omega, Nat.le_of_ble_eq_true rfl⟩
    · split at e
      · cases e
        exact ⟨by show mDp (12 :: _) ≤ 10; rw [mDp_e (by decide)]; omega, Nat.le_of_ble_eq_true rfl⟩
      · split at e
        · split at e
          · cases e
            exact ⟨by show mDp (mO (mN S s.2.2).1 (mN S s.2.2).2).1.tail ≤ 10; omega, Nat.le_of_ble_eq_true rfl⟩
          · cases e
        · cases e
          exact ⟨by show mDp (mO (mN S s.2.2).1 (mN S s.2.2).2).1 ≤ 10; omega, Nat.le_of_ble_eq_true rfl⟩
theorem mRst {h a b c : zH} {x y : Int32} (hx : 0 ≤ x.toInt) (p : mP h) (d0 : tvI (tF h 111 32) = 0) (e46 : mSet 46 x h a) (e34 : mSet 34 0 a b) (e47 : mSet 47 y b c) : mFw h c ∧ mP c ∧ mD c ∧ mst c = (stN x, [], ms h) ∧ tvI (tF c 111 47) = y := by
  have F : ∀ q, q ≠ 46 → q ≠ 34 → q ≠ 47 → tF c 111 q = tF h 111 q := fun q h1 h2 h3 => (mI_o e47 h3).trans ((mI_o e34 h2).trans (mI_o e46 h1))
  have A : tA c = tA h := e47.2.2.2.1.trans (e34.2.2.2.1.trans e46.2.2.2.1)
  have NN : tN c = tN h := e47.2.2.2.2.trans (e34.2.2.2.2.trans e46.2.2.2.2)
  have f34 : tvI (tF c 111 34) = 0 := by rw [mI_o e47 (by decide)]; exact mI_x e34
  have f46 : tvI (tF c 111 46) = x := by rw [mI_o e47 (by decide), mI_o e34 (by decide)]; exact mI_x e46
  have hk : mSk c = [] := mSk_nil (by rw [f34]; rfl)
  obtain ⟨p1, p2, p3, p4, p5, p6, p7, p8, t1, t2⟩ := p
  refine ⟨⟨e47.1, fun p q z => ?_, fun p _ _ _ => congrFun A p, NN, mLo_A A mLo_r⟩, ⟨?_, ?_, ?_, ?_, ?_, ?_, ?_, ?_, by rw [NN]; exact t1, by rw [NN]; exact t2⟩, ?_, ?_, mI_x e47⟩
  · refine (e47.2.2.1 p q (fun w => z ⟨w.1, Or.inr (Or.inr w.2)⟩)).trans ((e34.2.2.1 p q (fun w => z ⟨w.1, Or.inl (by unfold mFs; omega)⟩)).trans (e46.2.2.1 p q (fun w => z ⟨w.1, Or.inr (Or.inl w.2)⟩)))
  · rw [F 29 (by decide) (by decide) (by decide)]; exact p1
  · rw [F 28 (by decide) (by decide) (by decide), F 27 (by decide) (by decide) (by decide)]; exact p2
  · rw [F 33 (by decide) (by decide) (by decide)]; exact p3
  · rw [F 31 (by decide) (by decide) (by decide)]; exact p4
  · rw [f34]; decide
  · rw [F 30 (by decide) (by decide) (by decide)]; exact p6
  · rw [A, NN]; exact p7
  · exact p8
  · unfold mD
    rw [F 32 (by decide) (by decide) (by decide), d0, hk]
    rfl
  · unfold mst ms mEn
    rw [f46, hk, F 28 (by decide) (by decide) (by decide), F 33 (by decide) (by decide) (by decide), F 31 (by decide) (by decide) (by decide), F 30 (by decide) (by decide) (by decide), A]
theorem g_readsR {G : zG} (hG : G.1 = zProg) (hX : G.2.1 = ztx) {h : zH} {T : Nat → Int32} {n : Nat} (hs : tSh h) (hp : mP h) (hT : tA h 132 = T) (hN : mn h = n) {x : Int32} {tst : Bool} (hx0 : 0 ≤ x.toInt) (hx4 : stN x ≤ 4) (hts : x = 0 ↔ tst = true) (hd0 : tvI (tF h 111 32) = 0) : tC zTt G 223 [.ref 111, .int x] h (fun w h2 => w = none ∧ mFw h h2 ∧ ((mP h2 ∧ mD h2 ∧ mRe T n tst (stN x, [], ms h) (.inr (4, mSk h2, ms h2))) ∨ ∃ e, mFt h2 e ∧ mZp h2 ∧ mRe T n tst (stN x, [], ms h) (.inl e))) := by
  refine tC_in (by rw [hG]; rfl) (fun dp => ?_)
  refine tw_aload rfl rfl ?_
  refine tw_iload rfl rfl ?_
  refine tw_put rfl (fun f674 => ?_)
  refine tG_setm f674 (hw_111_46 f674 hs) (fun hf674 ef674 => ?_)
  try dsimp only [tvI_i] at ef674
  refine tw_aload rfl rfl ?_
  refine tw_push rfl ?_
  refine tw_put rfl (fun f675 => ?_)
  refine tG_setm f675 (hw_111_34 f675 ef674.1) (fun hf675 ef675 => ?_)
  try dsimp only [tvI_i] at ef675
  refine tw_aload rfl rfl ?_
  refine tw_iload rfl rfl ?_
  refine tw_if_ne rfl (fun q676 => ?_) (fun q676 => ?_)
  · try dsimp only [tvI_i, tvJ_j, tvR_r] at q676
    have q676i := zneq (Y := 0) (by decide) q676
    refine tw_push rfl ?_
    refine tw_put rfl (fun f677 => ?_)
    refine tG_setm f677 (hw_111_47 f677 ef675.1) (fun hf677 ef677 => ?_)
    try dsimp only [tvI_i] at ef677
    refine tG_loop (zW_mono zTt G dp) (zW_conj zTt G dp) (V := fun pc L st h9 _ _ => pc = 23 ∧ st = [] ∧ ∃ h1, h1 = h9 ∧ mFw h h1 ∧ (¬ tvI (tF h1 111 47) = 0 ↔ tst = true) ∧ ((mP h1 ∧ mD h1 ∧ mDp (mSk h1) ≤ 10 ∧ (mst h1).1 ≤ 4 ∧ mRe T n tst (stN x, [], ms h) (.inr (mst h1))) ∨ ∃ e, mFt h1 e ∧ mZp h1 ∧ mRe T n tst (stN x, [], ms h) (.inl e)) ∧ L = [some (.ref 111), some (.int x)]) ?_ (⟨rfl, rfl, _, rfl, (mRst hx0 hp hd0 ef674 ef675 ef677).1, (by rw [(mRst hx0 hp hd0 ef674 ef675 ef677).2.2.2.2]; exact ⟨fun z => absurd rfl z, fun z => absurd (hts.mpr z) q676⟩), Or.inl ⟨(mRst hx0 hp hd0 ef674 ef675 ef677).2.1, (mRst hx0 hp hd0 ef674 ef675 ef677).2.2.1, (by have z := congrArg (fun q : rMs => q.2.1) (mRst hx0 hp hd0 ef674 ef675 ef677).2.2.2.1; have z : mSk _ = [] := z; rw [z]; exact Nat.zero_le _), (by rw [(mRst hx0 hp hd0 ef674 ef675 ef677).2.2.2.1]; exact hx4), by rw [(mRst hx0 hp hd0 ef674 ef675 ef677).2.2.2.1]; exact mRe_0⟩, rfl⟩)
    rintro _ _ _ _ _ _ ⟨rfl, rfl, h1, rfl, gw, hT1, hv, rfl⟩
    refine tw_aload rfl rfl ?_
    refine tw_getS rfl (hi_111_46 gw.1) ?_
    refine tw_push rfl ?_
    refine tw_ic_eq rfl (fun q678 => ?_) (fun q678 => ?_)
    · try dsimp only [tvI_i, tvJ_j, tvR_r] at q678
      have q678i := zeqi (Y := 4) (by decide) q678
      rcases hv with ⟨hv1, hv2, hv3, hv4, hv6⟩ | ⟨e, hv1, hv2, hv3⟩
      · have hm1 : mst h1 = (4, mSk h1, ms h1) := by unfold mst; rw [q678]; rfl
        rw [hm1] at hv6
        exact tw_vret rfl ⟨rfl, gw, Or.inl ⟨hv1, hv2, hv6⟩⟩
      · exact tw_vret rfl ⟨rfl, gw, Or.inr ⟨e, hv1, hv2, hv3⟩⟩
    · try dsimp only [tvI_i, tvJ_j, tvR_r] at q678
      have q678i := zneq (Y := 4) (by decide) q678
      refine tw_aload rfl rfl ?_
      refine tw_getS rfl (hi_111_29 gw.1) ?_
      refine tw_if_ne rfl (fun q679 => ?_) (fun q679 => ?_)
      · try dsimp only [tvI_i, tvJ_j, tvR_r] at q679
        have q679i := zneq (Y := 0) (by decide) q679
        rcases hv with ⟨hv1, -⟩ | ⟨e, hv1, hv2, hv3⟩
        · exact absurd (mP_0 hv1) q679
        · exact tw_vret rfl ⟨rfl, gw, Or.inr ⟨e, hv1, hv2, hv3⟩⟩
      · try dsimp only [tvI_i, tvJ_j, tvR_r] at q679
        have q679i := zeqi (Y := 0) (by decide) q679
        refine tw_aload rfl rfl ?_
        refine tw_getS rfl (hi_111_46 gw.1) ?_
        refine tw_table rfl (fun q680 => ?_) (fun t9 q680a q680b q680c => ?_)
        · try dsimp only [tvI_i, tvJ_j, tvR_r] at q680
          refine tw_aload rfl rfl ?_
          obtain ⟨hv1, hv2, hv3, hv4, hv6⟩ := hv.resolve_right (fun z => by obtain ⟨e, z, -⟩ := z; exact mFt_n z q679)
          have hst : tvI (tF h1 111 46) = 3 := by
            refine Int32.toInt_inj.mp ?_
            show (tvI (tF h1 111 46)).toInt = 3
            have a4 : stN (tvI (tF h1 111 46)) ≤ 4 := hv4
            unfold stN at a4
            have a6 : ¬ (tvI (tF h1 111 46)).toInt < 0 := fun z => by rw [if_pos z] at a4; omega
            rw [if_neg a6] at a4
            have c29 : (2 : Int32).toInt = 2 := rfl
            have a5 : (tvI (tF h1 111 46)).toInt ≠ 4 := fun z => q678 (Int32.toInt_inj.mp z)
            have z0 := q680
            try dsimp only [tvI_i] at z0
            omega
          refine tw_virt0 rfl (g_behindFact hG hX gw.1 hv1 ((mFw_T gw).trans hT) ((mFw_n gw).trans hN) hv2 (Nat.le_trans hv3 (by decide)) hst) (fun wp681 hp681 p681 => ?_)
          obtain ⟨rfl, gp681, op681⟩ := p681
          refine tw_goto rfl ?_
          have hm1 : mst h1 = (3, mSk h1, ms h1) := by unfold mst; rw [hst]; rfl
          rw [hm1] at hv6
          refine tG_cut (zW_mono zTt G dp) (Or.inr ⟨rfl, rfl, _, rfl, mFw_t gw (mFw_q gp681), (by rw [mFq_47 gp681]; exact hT1), ?_, rfl⟩)
          cases hy : mSt T n tst (3, mSk h1, ms h1) with
          | inl e =>
            have op681 : mOut (mSt T n tst (3, mSk h1, ms h1)) hp681 := op681
            rw [hy] at op681
            exact Or.inr ⟨e, op681.1, op681.2, mRe_t hv6 (mRe_f hy)⟩
          | inr x2 =>
            have op681 : mOut (mSt T n tst (3, mSk h1, ms h1)) hp681 := op681
            rw [hy] at op681
            obtain ⟨o1, o2, o3⟩ := op681
            have hdp := mSt_dp hv3 (by decide) hy
            have o4 := mRe_t hv6 (mRe_s hy mRe_0)
            rw [← o3] at hdp o4
            exact Or.inl ⟨o1, o2, hdp.1, hdp.2, o4⟩
        · have q680d : (tvI (.int (tvI (tF h1 111 46)))).toInt = 0 ∨ (tvI (.int (tvI (tF h1 111 46)))).toInt = 1 ∨ (tvI (.int (tvI (tF h1 111 46)))).toInt = 2 := by omega
          rcases q680d with q680 | q680 | q680
          · obtain rfl : t9 = 68 := by rw [q680] at q680c; exact Option.some.inj (q680c.symm.trans rfl)
            try dsimp only [tvI_i, tvJ_j, tvR_r] at q680
            refine tw_aload rfl rfl ?_
            obtain ⟨hv1, hv2, hv3, hv4, hv6⟩ := hv.resolve_right (fun z => by obtain ⟨e, z, -⟩ := z; exact mFt_n z q679)
            have hst : tvI (tF h1 111 46) = 0 := by
              refine Int32.toInt_inj.mp ?_
              show (tvI (tF h1 111 46)).toInt = 0
              have a4 : stN (tvI (tF h1 111 46)) ≤ 4 := hv4
              unfold stN at a4
              have a6 : ¬ (tvI (tF h1 111 46)).toInt < 0 := fun z => by rw [if_pos z] at a4; omega
              rw [if_neg a6] at a4
              have c29 : (2 : Int32).toInt = 2 := rfl
              have a5 : (tvI (tF h1 111 46)).toInt ≠ 4 := fun z => q678 (Int32.toInt_inj.mp z)
              have z0 := q680
              try dsimp only [tvI_i] at z0
              omega
            refine tw_virt0 rfl (g_beginsFact hG hX gw.1 hv1 ((mFw_T gw).trans hT) ((mFw_n gw).trans hN) hv2 (Nat.le_trans hv3 (by decide)) hst) (fun wp682 hp682 p682 => ?_)
            obtain ⟨rfl, gp682, op682⟩ := p682
            refine tw_goto rfl ?_
            have hm1 : mst h1 = (0, mSk h1, ms h1) := by unfold mst; rw [hst]; rfl
            rw [hm1] at hv6
            refine tG_cut (zW_mono zTt G dp) (Or.inr ⟨rfl, rfl, _, rfl, mFw_t gw (mFw_q gp682), (by rw [mFq_47 gp682]; exact hT1), ?_, rfl⟩)
            cases hy : mSt T n tst (0, mSk h1, ms h1) with
            | inl e =>
              have op682 : mOut (mSt T n tst (0, mSk h1, ms h1)) hp682 := op682
              rw [hy] at op682
              exact Or.inr ⟨e, op682.1, op682.2, mRe_t hv6 (mRe_f hy)⟩
            | inr x2 =>
              have op682 : mOut (mSt T n tst (0, mSk h1, ms h1)) hp682 := op682
              rw [hy] at op682
              obtain ⟨o1, o2, o3⟩ := op682
              have hdp := mSt_dp hv3 (by decide) hy
              have o4 := mRe_t hv6 (mRe_s hy mRe_0)
              rw [← o3] at hdp o4
              exact Or.inl ⟨o1, o2, hdp.1, hdp.2, o4⟩
          · obtain rfl : t9 = 75 := by rw [q680] at q680c; exact Option.some.inj (q680c.symm.trans rfl)
            try dsimp only [tvI_i, tvJ_j, tvR_r] at q680
            refine tw_aload rfl rfl ?_
            obtain ⟨hv1, hv2, hv3, hv4, hv6⟩ := hv.resolve_right (fun z => by obtain ⟨e, z, -⟩ := z; exact mFt_n z q679)
            have hst : tvI (tF h1 111 46) = 1 := by
              refine Int32.toInt_inj.mp ?_
              show (tvI (tF h1 111 46)).toInt = 1
              have a4 : stN (tvI (tF h1 111 46)) ≤ 4 := hv4
              unfold stN at a4
              have a6 : ¬ (tvI (tF h1 111 46)).toInt < 0 := fun z => by rw [if_pos z] at a4; omega
              rw [if_neg a6] at a4
              have c29 : (2 : Int32).toInt = 2 := rfl
              have a5 : (tvI (tF h1 111 46)).toInt ≠ 4 := fun z => q678 (Int32.toInt_inj.mp z)
              have z0 := q680
              try dsimp only [tvI_i] at z0
              omega
            refine tw_virt0 rfl (g_value hG hX gw.1 hv1 ((mFw_T gw).trans hT) ((mFw_n gw).trans hN) hv2 (Nat.le_trans hv3 (by decide)) hst) (fun wp683 hp683 p683 => ?_)
            obtain ⟨rfl, gp683, op683⟩ := p683
            refine tw_goto rfl ?_
            have hm1 : mst h1 = (1, mSk h1, ms h1) := by unfold mst; rw [hst]; rfl
            rw [hm1] at hv6
            refine tG_cut (zW_mono zTt G dp) (Or.inr ⟨rfl, rfl, _, rfl, mFw_t gw (mFw_q gp683), (by rw [mFq_47 gp683]; exact hT1), ?_, rfl⟩)
            cases hy : mSt T n tst (1, mSk h1, ms h1) with
            | inl e =>
              have op683 : mOut (mSt T n tst (1, mSk h1, ms h1)) hp683 := op683
              rw [hy] at op683
              exact Or.inr ⟨e, op683.1, op683.2, mRe_t hv6 (mRe_f hy)⟩
            | inr x2 =>
              have op683 : mOut (mSt T n tst (1, mSk h1, ms h1)) hp683 := op683
              rw [hy] at op683
              obtain ⟨o1, o2, o3⟩ := op683
              have hdp := mSt_dp hv3 (by decide) hy
              have o4 := mRe_t hv6 (mRe_s hy mRe_0)
              rw [← o3] at hdp o4
              exact Or.inl ⟨o1, o2, hdp.1, hdp.2, o4⟩
          · obtain rfl : t9 = 82 := by rw [q680] at q680c; exact Option.some.inj (q680c.symm.trans rfl)
            try dsimp only [tvI_i, tvJ_j, tvR_r] at q680
            refine tw_aload rfl rfl ?_
            obtain ⟨hv1, hv2, hv3, hv4, hv6⟩ := hv.resolve_right (fun z => by obtain ⟨e, z, -⟩ := z; exact mFt_n z q679)
            have hst : tvI (tF h1 111 46) = 2 := by
              refine Int32.toInt_inj.mp ?_
              show (tvI (tF h1 111 46)).toInt = 2
              have a4 : stN (tvI (tF h1 111 46)) ≤ 4 := hv4
              unfold stN at a4
              have a6 : ¬ (tvI (tF h1 111 46)).toInt < 0 := fun z => by rw [if_pos z] at a4; omega
              rw [if_neg a6] at a4
              have c29 : (2 : Int32).toInt = 2 := rfl
              have a5 : (tvI (tF h1 111 46)).toInt ≠ 4 := fun z => q678 (Int32.toInt_inj.mp z)
              have z0 := q680
              try dsimp only [tvI_i] at z0
              omega
            refine tw_virt0 rfl (g_behindValue hG hX gw.1 hv1 ((mFw_T gw).trans hT) ((mFw_n gw).trans hN) hv2 (Nat.le_trans hv3 (by decide)) (tst := tst) hT1 hst) (fun wp684 hp684 p684 => ?_)
            obtain ⟨rfl, gp684, op684⟩ := p684
            refine tw_goto rfl ?_
            have hm1 : mst h1 = (2, mSk h1, ms h1) := by unfold mst; rw [hst]; rfl
            rw [hm1] at hv6
            refine tG_cut (zW_mono zTt G dp) (Or.inr ⟨rfl, rfl, _, rfl, mFw_t gw (mFw_q gp684), (by rw [mFq_47 gp684]; exact hT1), ?_, rfl⟩)
            cases hy : mSt T n tst (2, mSk h1, ms h1) with
            | inl e =>
              have op684 : mOut (mSt T n tst (2, mSk h1, ms h1)) hp684 := op684
              rw [hy] at op684
              exact Or.inr ⟨e, op684.1, op684.2, mRe_t hv6 (mRe_f hy)⟩
            | inr x2 =>
              have op684 : mOut (mSt T n tst (2, mSk h1, ms h1)) hp684 := op684
              rw [hy] at op684
              obtain ⟨o1, o2, o3⟩ := op684
              have hdp := mSt_dp hv3 (by decide) hy
              have o4 := mRe_t hv6 (mRe_s hy mRe_0)
              rw [← o3] at hdp o4
              exact Or.inl ⟨o1, o2, hdp.1, hdp.2, o4⟩
  · try dsimp only [tvI_i, tvJ_j, tvR_r] at q676
    have q676i := zeqi (Y := 0) (by decide) q676
    refine tw_push rfl ?_
    refine tw_goto rfl ?_
    refine tw_put rfl (fun f685 => ?_)
    refine tG_setm f685 (hw_111_47 f685 ef675.1) (fun hf685 ef685 => ?_)
    try dsimp only [tvI_i] at ef685
    refine tG_loop (zW_mono zTt G dp) (zW_conj zTt G dp) (V := fun pc L st h9 _ _ => pc = 23 ∧ st = [] ∧ ∃ h1, h1 = h9 ∧ mFw h h1 ∧ (¬ tvI (tF h1 111 47) = 0 ↔ tst = true) ∧ ((mP h1 ∧ mD h1 ∧ mDp (mSk h1) ≤ 10 ∧ (mst h1).1 ≤ 4 ∧ mRe T n tst (stN x, [], ms h) (.inr (mst h1))) ∨ ∃ e, mFt h1 e ∧ mZp h1 ∧ mRe T n tst (stN x, [], ms h) (.inl e)) ∧ L = [some (.ref 111), some (.int x)]) ?_ (⟨rfl, rfl, _, rfl, (mRst hx0 hp hd0 ef674 ef675 ef685).1, (by rw [(mRst hx0 hp hd0 ef674 ef675 ef685).2.2.2.2]; exact ⟨fun _ => hts.mp q676, fun _ => by decide⟩), Or.inl ⟨(mRst hx0 hp hd0 ef674 ef675 ef685).2.1, (mRst hx0 hp hd0 ef674 ef675 ef685).2.2.1, (by have z := congrArg (fun q : rMs => q.2.1) (mRst hx0 hp hd0 ef674 ef675 ef685).2.2.2.1; have z : mSk _ = [] := z; rw [z]; exact Nat.zero_le _), (by rw [(mRst hx0 hp hd0 ef674 ef675 ef685).2.2.2.1]; exact hx4), by rw [(mRst hx0 hp hd0 ef674 ef675 ef685).2.2.2.1]; exact mRe_0⟩, rfl⟩)
    rintro _ _ _ _ _ _ ⟨rfl, rfl, h1, rfl, gw, hT1, hv, rfl⟩
    refine tw_aload rfl rfl ?_
    refine tw_getS rfl (hi_111_46 gw.1) ?_
    refine tw_push rfl ?_
    refine tw_ic_eq rfl (fun q686 => ?_) (fun q686 => ?_)
    · try dsimp only [tvI_i, tvJ_j, tvR_r] at q686
      have q686i := zeqi (Y := 4) (by decide) q686
      rcases hv with ⟨hv1, hv2, hv3, hv4, hv6⟩ | ⟨e, hv1, hv2, hv3⟩
      · have hm1 : mst h1 = (4, mSk h1, ms h1) := by unfold mst; rw [q686]; rfl
        rw [hm1] at hv6
        exact tw_vret rfl ⟨rfl, gw, Or.inl ⟨hv1, hv2, hv6⟩⟩
      · exact tw_vret rfl ⟨rfl, gw, Or.inr ⟨e, hv1, hv2, hv3⟩⟩
    · try dsimp only [tvI_i, tvJ_j, tvR_r] at q686
      have q686i := zneq (Y := 4) (by decide) q686
      refine tw_aload rfl rfl ?_
      refine tw_getS rfl (hi_111_29 gw.1) ?_
      refine tw_if_ne rfl (fun q687 => ?_) (fun q687 => ?_)
      · try dsimp only [tvI_i, tvJ_j, tvR_r] at q687
        have q687i := zneq (Y := 0) (by decide) q687
        rcases hv with ⟨hv1, -⟩ | ⟨e, hv1, hv2, hv3⟩
        · exact absurd (mP_0 hv1) q687
        · exact tw_vret rfl ⟨rfl, gw, Or.inr ⟨e, hv1, hv2, hv3⟩⟩
      · try dsimp only [tvI_i, tvJ_j, tvR_r] at q687
        have q687i := zeqi (Y := 0) (by decide) q687
        refine tw_aload rfl rfl ?_
        refine tw_getS rfl (hi_111_46 gw.1) ?_
        refine tw_table rfl (fun q688 => ?_) (fun t9 q688a q688b q688c => ?_)
        · try dsimp only [tvI_i, tvJ_j, tvR_r] at q688
          refine tw_aload rfl rfl ?_
          obtain ⟨hv1, hv2, hv3, hv4, hv6⟩ := hv.resolve_right (fun z => by obtain ⟨e, z, -⟩ := z; exact mFt_n z q687)
          have hst : tvI (tF h1 111 46) = 3 := by
            refine Int32.toInt_inj.mp ?_
            show (tvI (tF h1 111 46)).toInt = 3
            have a4 : stN (tvI (tF h1 111 46)) ≤ 4 := hv4
            unfold stN at a4
            have a6 : ¬ (tvI (tF h1 111 46)).toInt < 0 := fun z => by rw [if_pos z] at a4; omega
            rw [if_neg a6] at a4
            have c29 : (2 : Int32).toInt = 2 := rfl
            have a5 : (tvI (tF h1 111 46)).toInt ≠ 4 := fun z => q686 (Int32.toInt_inj.mp z)
            have z0 := q688
            try dsimp only [tvI_i] at z0
            omega
          refine tw_virt0 rfl (g_behindFact hG hX gw.1 hv1 ((mFw_T gw).trans hT) ((mFw_n gw).trans hN) hv2 (Nat.le_trans hv3 (by decide)) hst) (fun wp689 hp689 p689 => ?_)
          obtain ⟨rfl, gp689, op689⟩ := p689
          refine tw_goto rfl ?_
          have hm1 : mst h1 = (3, mSk h1, ms h1) := by unfold mst; rw [hst]; rfl
          rw [hm1] at hv6
          refine tG_cut (zW_mono zTt G dp) (Or.inr ⟨rfl, rfl, _, rfl, mFw_t gw (mFw_q gp689), (by rw [mFq_47 gp689]; exact hT1), ?_, rfl⟩)
          cases hy : mSt T n tst (3, mSk h1, ms h1) with
          | inl e =>
            have op689 : mOut (mSt T n tst (3, mSk h1, ms h1)) hp689 := op689
            rw [hy] at op689
            exact Or.inr ⟨e, op689.1, op689.2, mRe_t hv6 (mRe_f hy)⟩
          | inr x2 =>
            have op689 : mOut (mSt T n tst (3, mSk h1, ms h1)) hp689 := op689
            rw [hy] at op689
            obtain ⟨o1, o2, o3⟩ := op689
            have hdp := mSt_dp hv3 (by decide) hy
            have o4 := mRe_t hv6 (mRe_s hy mRe_0)
            rw [← o3] at hdp o4
            exact Or.inl ⟨o1, o2, hdp.1, hdp.2, o4⟩
        · have q688d : (tvI (.int (tvI (tF h1 111 46)))).toInt = 0 ∨ (tvI (.int (tvI (tF h1 111 46)))).toInt = 1 ∨ (tvI (.int (tvI (tF h1 111 46)))).toInt = 2 := by omega
          rcases q688d with q688 | q688 | q688
          · obtain rfl : t9 = 68 := by rw [q688] at q688c; exact Option.some.inj (q688c.symm.trans rfl)
            try dsimp only [tvI_i, tvJ_j, tvR_r] at q688
            refine tw_aload rfl rfl ?_
            obtain ⟨hv1, hv2, hv3, hv4, hv6⟩ := hv.resolve_right (fun z => by obtain ⟨e, z, -⟩ := z; exact mFt_n z q687)
            have hst : tvI (tF h1 111 46) = 0 := by
              refine Int32.toInt_inj.mp ?_
              show (tvI (tF h1 111 46)).toInt = 0
              have a4 : stN (tvI (tF h1 111 46)) ≤ 4 := hv4
              unfold stN at a4
              have a6 : ¬ (tvI (tF h1 111 46)).toInt < 0 := fun z => by rw [if_pos z] at a4; omega
              rw [if_neg a6] at a4
              have c29 : (2 : Int32).toInt = 2 := rfl
              have a5 : (tvI (tF h1 111 46)).toInt ≠ 4 := fun z => q686 (Int32.toInt_inj.mp z)
              have z0 := q688
              try dsimp only [tvI_i] at z0
              omega
            refine tw_virt0 rfl (g_beginsFact hG hX gw.1 hv1 ((mFw_T gw).trans hT) ((mFw_n gw).trans hN) hv2 (Nat.le_trans hv3 (by decide)) hst) (fun wp690 hp690 p690 => ?_)
            obtain ⟨rfl, gp690, op690⟩ := p690
            refine tw_goto rfl ?_
            have hm1 : mst h1 = (0, mSk h1, ms h1) := by unfold mst; rw [hst]; rfl
            rw [hm1] at hv6
            refine tG_cut (zW_mono zTt G dp) (Or.inr ⟨rfl, rfl, _, rfl, mFw_t gw (mFw_q gp690), (by rw [mFq_47 gp690]; exact hT1), ?_, rfl⟩)
            cases hy : mSt T n tst (0, mSk h1, ms h1) with
            | inl e =>
              have op690 : mOut (mSt T n tst (0, mSk h1, ms h1)) hp690 := op690
              rw [hy] at op690
              exact Or.inr ⟨e, op690.1, op690.2, mRe_t hv6 (mRe_f hy)⟩
            | inr x2 =>
              have op690 : mOut (mSt T n tst (0, mSk h1, ms h1)) hp690 := op690
              rw [hy] at op690
              obtain ⟨o1, o2, o3⟩ := op690
              have hdp := mSt_dp hv3 (by decide) hy
              have o4 := mRe_t hv6 (mRe_s hy mRe_0)
              rw [← o3] at hdp o4
              exact Or.inl ⟨o1, o2, hdp.1, hdp.2, o4⟩
          · obtain rfl : t9 = 75 := by rw [q688] at q688c; exact Option.some.inj (q688c.symm.trans rfl)
            try dsimp only [tvI_i, tvJ_j, tvR_r] at q688
            refine tw_aload rfl rfl ?_
            obtain ⟨hv1, hv2, hv3, hv4, hv6⟩ := hv.resolve_right (fun z => by obtain ⟨e, z, -⟩ := z; exact mFt_n z q687)
            have hst : tvI (tF h1 111 46) = 1 := by
              refine Int32.toInt_inj.mp ?_
              show (tvI (tF h1 111 46)).toInt = 1
              have a4 : stN (tvI (tF h1 111 46)) ≤ 4 := hv4
              unfold stN at a4
              have a6 : ¬ (tvI (tF h1 111 46)).toInt < 0 := fun z => by rw [if_pos z] at a4; omega
              rw [if_neg a6] at a4
              have c29 : (2 : Int32).toInt = 2 := rfl
              have a5 : (tvI (tF h1 111 46)).toInt ≠ 4 := fun z => q686 (Int32.toInt_inj.mp z)
              have z0 := q688
              try dsimp only [tvI_i] at z0
              omega
            refine tw_virt0 rfl (g_value hG hX gw.1 hv1 ((mFw_T gw).trans hT) ((mFw_n gw).trans hN) hv2 (Nat.le_trans hv3 (by decide)) hst) (fun wp691 hp691 p691 => ?_)
            obtain ⟨rfl, gp691, op691⟩ := p691
            refine tw_goto rfl ?_
            have hm1 : mst h1 = (1, mSk h1, ms h1) := by unfold mst; rw [hst]; rfl
            rw [hm1] at hv6
            refine tG_cut (zW_mono zTt G dp) (Or.inr ⟨rfl, rfl, _, rfl, mFw_t gw (mFw_q gp691), (by rw [mFq_47 gp691]; exact hT1), ?_, rfl⟩)
            cases hy : mSt T n tst (1, mSk h1, ms h1) with
            | inl e =>
              have op691 : mOut (mSt T n tst (1, mSk h1, ms h1)) hp691 := op691
              rw [hy] at op691
              exact Or.inr ⟨e, op691.1, op691.2, mRe_t hv6 (mRe_f hy)⟩
            | inr x2 =>
              have op691 : mOut (mSt T n tst (1, mSk h1, ms h1)) hp691 := op691
              rw [hy] at op691
              obtain ⟨o1, o2, o3⟩ := op691
              have hdp := mSt_dp hv3 (by decide) hy
              have o4 := mRe_t hv6 (mRe_s hy mRe_0)
              rw [← o3] at hdp o4
              exact Or.inl ⟨o1, o2, hdp.1, hdp.2, o4⟩
          · obtain rfl : t9 = 82 := by rw [q688] at q688c; exact Option.some.inj (q688c.symm.trans rfl)
            try dsimp only [tvI_i, tvJ_j, tvR_r] at q688
            refine tw_aload rfl rfl ?_
            obtain ⟨hv1, hv2, hv3, hv4, hv6⟩ := hv.resolve_right (fun z => by obtain ⟨e, z, -⟩ := z; exact mFt_n z q687)
            have hst : tvI (tF h1 111 46) = 2 := by
              refine Int32.toInt_inj.mp ?_
              show (tvI (tF h1 111 46)).toInt = 2
              have a4 : stN (tvI (tF h1 111 46)) ≤ 4 := hv4
              unfold stN at a4
              have a6 : ¬ (tvI (tF h1 111 46)).toInt < 0 := fun z => by rw [if_pos z] at a4; omega
              rw [if_neg a6] at a4
              have c29 : (2 : Int32).toInt = 2 := rfl
              have a5 : (tvI (tF h1 111 46)).toInt ≠ 4 := fun z => q686 (Int32.toInt_inj.mp z)
              have z0 := q688
              try dsimp only [tvI_i] at z0
              omega
            refine tw_virt0 rfl (g_behindValue hG hX gw.1 hv1 ((mFw_T gw).trans hT) ((mFw_n gw).trans hN) hv2 (Nat.le_trans hv3 (by decide)) (tst := tst) hT1 hst) (fun wp692 hp692 p692 => ?_)
            obtain ⟨rfl, gp692, op692⟩ := p692
            refine tw_goto rfl ?_
            have hm1 : mst h1 = (2, mSk h1, ms h1) := by unfold mst; rw [hst]; rfl
            rw [hm1] at hv6
            refine tG_cut (zW_mono zTt G dp) (Or.inr ⟨rfl, rfl, _, rfl, mFw_t gw (mFw_q gp692), (by rw [mFq_47 gp692]; exact hT1), ?_, rfl⟩)
            cases hy : mSt T n tst (2, mSk h1, ms h1) with
            | inl e =>
              have op692 : mOut (mSt T n tst (2, mSk h1, ms h1)) hp692 := op692
              rw [hy] at op692
              exact Or.inr ⟨e, op692.1, op692.2, mRe_t hv6 (mRe_f hy)⟩
            | inr x2 =>
              have op692 : mOut (mSt T n tst (2, mSk h1, ms h1)) hp692 := op692
              rw [hy] at op692
              obtain ⟨o1, o2, o3⟩ := op692
              have hdp := mSt_dp hv3 (by decide) hy
              have o4 := mRe_t hv6 (mRe_s hy mRe_0)
              rw [← o3] at hdp o4
              exact Or.inl ⟨o1, o2, hdp.1, hdp.2, o4⟩
/-! the model's clause, held against what the class found -/
section R8
variable {T : Nat → Int32} {n c k : Nat} {s s0 s1 s2 s9 : rS} {r : Nat ⊕ (rS × rCt)} {e th f0 : Nat}
theorem rM_bb {M p : Nat} : rM T n M (rB T n p) = rM T n M p := by
  unfold rM
  rw [rB_2]
theorem rCl_0 (h : rCl T n c s r) (hk : ∀ k, 12 ≤ k → k ≤ 15 → ¬ rW T n (rB T n s.1) (rWd k) = true) : r = .inl (1 + 8 * rB T n s.1 + 0) := by
  rcases h with ⟨_, h⟩ | ⟨j, h1, h2, h3, _⟩
  · exact h
  · exact absurd h3 (hk j h1 h2)
theorem rCl_w (h : rCl T n c s r) (h1 : 12 ≤ k) (h2 : k ≤ 15) (hw : rW T n (rB T n s.1) (rWd k) = true) : (c = 12 ∧ r = .inl (1 + 8 * rB T n s.1 + 4)) ∨ (c ≠ 12 ∧ rCl1 T n k (rA (rE T n (rB T n s.1)) s) r) := by
  rcases h with ⟨h, _⟩ | ⟨j, j1, j2, j3, h⟩
  · exact absurd hw (h k h1 h2)
  · obtain rfl := rW_ij (by omega) (by omega) j3 hw
    exact h
theorem rCl_cc (h : rCl T n c s r) (h1 : 12 ≤ k) (h2 : k ≤ 15) (hw : rW T n (rB T n s.1) (rWd k) = true) (hc : c = 12) : r = .inl (1 + 8 * rB T n s.1 + 4) := by
  rcases rCl_w h h1 h2 hw with ⟨_, z⟩ | ⟨z, _⟩
  · exact z
  · exact absurd hc z
theorem rCl_g (h : rCl T n c s r) (h1 : 12 ≤ k) (h2 : k ≤ 15) (hw : rW T n (rB T n s.1) (rWd k) = true) (hc : c ≠ 12) : rCl1 T n k (rA (rE T n (rB T n s.1)) s) r := by
  rcases rCl_w h h1 h2 hw with ⟨z, _⟩ | ⟨_, z⟩
  · exact absurd z hc
  · exact z
theorem rCl1_e (h : rCl1 T n k s0 r) (hk : k = 12) (hm : rM T n 2 s0.1 = .inl e) : r = .inl e := by
  rcases h with ⟨_, ⟨e2, h2, h3⟩ | ⟨q, h2, _⟩⟩ | ⟨z, _⟩
  · rw [hm] at h2; cases h2; exact h3
  · rw [hm] at h2; cases h2
  · exact absurd hk z
theorem rCl1_q {q : Nat × Nat} (h : rCl1 T n k s0 r) (hk : k = 12) (hm : rM T n 2 s0.1 = .inr q) : rCl2 T n k q.2 (rA q.1 s0) r := by
  rcases h with ⟨_, ⟨e2, h2, h3⟩ | ⟨q2, h2, h3⟩⟩ | ⟨z, _⟩
  · rw [hm] at h2; cases h2
  · rw [hm] at h2; cases h2; exact h3
  · exact absurd hk z
theorem rCl1_n (h : rCl1 T n k s0 r) (hk : k ≠ 12) : rCl2 T n k k s0 r := by
  rcases h with ⟨z, _⟩ | ⟨_, h⟩
  · exact absurd z hk
  · exact h
theorem rCl2_15 (h : rCl2 T n k th s1 r) (hk : k = 15) : rCl3 T n k th s1.2.2.length s1 r := by
  rcases h with ⟨_, h⟩ | ⟨z, _⟩
  · exact h
  · exact absurd hk z
theorem pE_mS {r : Nat ⊕ rS} {y : rMo} (h : pE T n 3 0 s r) (m : mRe T n false (1, [], s) y) (hy : mHt y) : y = mEnd (r.map id (fun z => rA (rB T n z.1) z)) := by
  obtain ⟨N, hN⟩ := h
  refine mRe_u m (mSum (hN N (Nat.le_refl _))) hy ?_
  cases r with
  | inl e => exact trivial
  | inr s2 => exact Nat.le_refl 4
theorem pE_mT {r : Nat ⊕ rS} {y : rMo} (h : pE T n 9 0 s r) (m : mRe T n true (0, [], s) y) (hy : mHt y) : y = mEnd (r.map id (fun z => rA (rB T n z.1) z)) := by
  obtain ⟨N, hN⟩ := h
  refine mRe_u m (mTst (hN N (Nat.le_refl _))) hy ?_
  cases r with
  | inl e => exact trivial
  | inr s2 => exact Nat.le_refl 4
theorem rCl2_e (h : rCl2 T n k th s1 r) (hk : k ≠ 15) (hm : mRe T n false (1, [], s1) (.inl e)) : r = .inl e := by
  rcases h with ⟨z, _⟩ | ⟨_, ⟨e2, h2, h3⟩ | ⟨s2, h2, _⟩⟩
  · exact absurd z hk
  · have z := pE_mS h2 hm trivial
    cases z
    exact h3
  · have z := pE_mS h2 hm trivial
    cases z
theorem rCl2_s {S : List Nat} (h : rCl2 T n k th s1 r) (hk : k ≠ 15) (hm : mRe T n false (1, [], s1) (.inr (4, S, s9))) : S = [] ∧ ∃ s2, s9 = rA (rB T n s2.1) s2 ∧ rCl3 T n k th s1.2.2.length s2 r := by
  rcases h with ⟨z, _⟩ | ⟨_, ⟨e2, h2, _⟩ | ⟨s2, h2, h3⟩⟩
  · exact absurd z hk
  · have z := pE_mS h2 hm (Nat.le_refl 4)
    cases z
  · have z := pE_mS h2 hm (Nat.le_refl 4)
    have z : (Sum.inr (4, S, s9) : rMo) = .inr (4, [], rA (rB T n s2.1) s2) := z
    cases z
    exact ⟨rfl, s2, rfl, h3⟩
theorem rCl3_e (h : rCl3 T n k th f0 s2 r) (hw : rW T n (rB T n s2.1) (rWd 16) = true) (hm : mRe T n true (0, [], rA (rB T n s2.1 + 2) s2) (.inl e)) : r = .inl e := by
  rcases h with ⟨_, ⟨e2, h2, h3⟩ | ⟨s3, h2, _⟩⟩ | ⟨z, _⟩ | ⟨z, _⟩
  · have z := pE_mT h2 hm trivial
    cases z
    exact h3
  · have z := pE_mT h2 hm trivial
    cases z
  · exact absurd hw z
  · exact absurd hw z
theorem rCl3_s {S : List Nat} (h : rCl3 T n k th f0 s2 r) (hw : rW T n (rB T n s2.1) (rWd 16) = true) (hm : mRe T n true (0, [], rA (rB T n s2.1 + 2) s2) (.inr (4, S, s9))) : S = [] ∧ ∃ s3, s9 = rA (rB T n s3.1) s3 ∧ r = .inr (s3, th, f0, s2.2.2.length, s3.2.2.length) := by
  rcases h with ⟨_, ⟨e2, h2, _⟩ | ⟨s3, h2, h3⟩⟩ | ⟨z, _⟩ | ⟨z, _⟩
  · have z := pE_mT h2 hm (Nat.le_refl 4)
    cases z
  · have z := pE_mT h2 hm (Nat.le_refl 4)
    have z : (Sum.inr (4, S, s9) : rMo) = .inr (4, [], rA (rB T n s3.1) s3) := z
    cases z
    exact ⟨rfl, s3, rfl, h3⟩
  · exact absurd hw z
  · exact absurd hw z
theorem rCl3_1 (h : rCl3 T n k th f0 s2 r) (hw : ¬ rW T n (rB T n s2.1) (rWd 16) = true) (hk : k = 15) : r = .inl (1 + 8 * rB T n s2.1 + 0) := by
  rcases h with ⟨z, _⟩ | ⟨_, _, h⟩ | ⟨_, z, _⟩
  · exact absurd z hw
  · exact h
  · exact absurd hk z
theorem rCl3_2 (h : rCl3 T n k th f0 s2 r) (hw : ¬ rW T n (rB T n s2.1) (rWd 16) = true) (hk : k ≠ 15) : r = .inr (rA (rB T n s2.1) s2, th, f0, s2.2.2.length, s2.2.2.length) := by
  rcases h with ⟨z, _⟩ | ⟨_, z, _⟩ | ⟨_, _, h⟩
  · exact absurd z hw
  · exact absurd z hk
  · exact h
end R8
/-! a whole clause's frame: what lies below lo stays -/
noncomputable def mFz (lo : Nat) (h h2 : zH) : Prop := tSh h2 ∧ (∀ p b, ¬ (p = 111 ∧ (mFs b ∨ b = 46 ∨ b = 47)) → tF h2 p b = tF h p b) ∧ (∀ p, p ≠ 133 → p ≠ 134 → p ≠ 142 → (p < 135 ∨ 139 < p) → tA h2 p = tA h p) ∧ tN h2 = tN h ∧ mLo h h2 ∧ ∀ p q, 135 ≤ p → p ≤ 139 → q < lo → tA h2 p q = tA h p q
noncomputable def mAs (p i : Nat) (x : Int32) (h h3 : zH) : Prop := tSh h3 ∧ tF h3 = tF h ∧ tN h3 = tN h ∧ tA h3 = fun q j => if q = p ∧ j = i then x else tA h q j
section MZ
variable {h h1 h2 h3 : zH} {b e lo p i : Nat} {X x : Int32}
theorem mFz_r (hs : tSh h) : mFz lo h h := ⟨hs, fun _ _ _ => rfl, fun _ _ _ _ _ => rfl, rfl, mLo_r, fun _ _ _ _ _ => rfl⟩
theorem mFz_w (k : mFw h h2) : mFz lo h h2 := ⟨k.1, k.2.1, fun p a b c _ => k.2.2.1 p a b c, k.2.2.2.1, k.2.2.2.2, fun p q h1 h2 _ => congrFun (k.2.2.1 p (by omega) (by omega) (by omega)) q⟩
theorem mFw_f (k : mFr h h2) : mFw h h2 := mFw_q (mFq_f k)
theorem mFz_t (a : mFz lo h h1) (k : mFz lo h1 h2) : mFz lo h h2 := ⟨k.1, fun p q z => (k.2.1 p q z).trans (a.2.1 p q z), fun p z w y v => (k.2.2.1 p z w y v).trans (a.2.2.1 p z w y v), k.2.2.2.1.trans a.2.2.2.1, mLo_t (a.2.1 111 30 (fun z => by have z := z.2; unfold mFs at z; omega)) a.2.2.2.2.1 k.2.2.2.2.1, fun p q z w v => (k.2.2.2.2.2 p q z w v).trans (a.2.2.2.2.2 p q z w v)⟩
theorem mFz_l {l2 : Nat} (hl : l2 ≤ lo) (a : mFz lo h h1) : mFz l2 h h1 := ⟨a.1, a.2.1, a.2.2.1, a.2.2.2.1, a.2.2.2.2.1, fun p q z w v => a.2.2.2.2.2 p q z w (by omega)⟩
theorem mFz_s (a : mFz lo h h1) (k : mSet b X h1 h2) (hb : mFs b ∨ b = 46 ∨ b = 47) : mFz lo h h2 := mFz_t a (mFz_w (mFw_s ⟨a.1, fun _ _ _ => rfl, fun _ _ _ _ => rfl, rfl, mLo_r⟩ k hb))
theorem mFz_a (a : mFz lo h h1) (k : mAs p i x h1 h2) (hp : 135 ≤ p ∧ p ≤ 139) (hi : lo ≤ i) : mFz lo h h2 := mFz_t a ⟨k.1, fun p q _ => by rw [k.2.1], fun q h1 h2 h3 h4 => by rw [k.2.2.2]; funext j; exact if_neg (fun z => by omega), k.2.2.1, fun q _ => ⟨by rw [k.2.2.2]; exact if_neg (fun z => by omega), by rw [k.2.2.2]; exact if_neg (fun z => by omega)⟩, fun q j h1 h2 h3 => by rw [k.2.2.2]; exact if_neg (fun z => by omega)⟩
theorem mFz_T (a : mFz lo h h1) : tA h1 132 = tA h 132 := a.2.2.1 132 (by decide) (by decide) (by decide) (by decide)
theorem mFz_i {q : Nat} (a : mFz lo h h1) (hq : ¬ (mFs q ∨ q = 46 ∨ q = 47)) : tF h1 111 q = tF h 111 q := a.2.1 111 q (fun z => hq z.2)
theorem mFz_27 (a : mFz lo h h1) : tF h1 111 27 = tF h 111 27 := mFz_i a (fun z => by unfold mFs at z; omega)
theorem mFz_30 (a : mFz lo h h1) : tF h1 111 30 = tF h 111 30 := mFz_i a (fun z => by unfold mFs at z; omega)
theorem mFz_n (a : mFz lo h h1) : mn h1 = mn h := by
  unfold mn
  rw [mFz_27 a]
theorem tG_ast {tt : zT} {G : zG} {cd : zK} {bc bs : Nat} {rt : Option FieldType} {M : zM} {Q : zQ} {Z : zX} {f : Bool} {pc : Nat} {L : zL} {st : List Value} {c n kd : Nat} {i : Int32} (hf : tIn h p kd i) (hs : tSh h) (k : ∀ h3, mAs p i.toNatClampNeg x h h3 → tG tt G cd bc bs rt M Q Z f pc L st h3 c n) : tG tt G cd bc bs rt M Q Z f pc L st (tSA h p i.toNatClampNeg x) c n := k _ ⟨tSh_SA hs, tF_tSA _ _ _ _, tN_tSA _ _ _ _, tA_tSA hf.cell _ _⟩
theorem mAs_x (k : mAs p i x h h3) : tA h3 p i = x := by rw [k.2.2.2]; exact if_pos ⟨rfl, rfl⟩
theorem mAs_o {q j : Nat} (k : mAs p i x h h3) (hq : q ≠ p) : tA h3 q j = tA h q j := by rw [k.2.2.2]; exact if_neg (fun z => hq z.1)
theorem mAs_A {q : Nat} (k : mAs p i x h h3) (hq : q ≠ p) : tA h3 q = tA h q := by funext j; exact mAs_o k hq
theorem mAs_P (k : mAs p i x h h3) (hp : 135 ≤ p ∧ p ≤ 139) (P : mP h) : mP h3 := by
  unfold mP
  rw [k.2.1, k.2.2.1, mAs_A k (q := 142) (by omega)]
  exact P
theorem mAs_m (k : mAs p i x h h3) (hp : 135 ≤ p ∧ p ≤ 139) : ms h3 = ms h ∧ mSk h3 = mSk h := by
  unfold ms mEn mSk
  rw [k.2.1, mAs_A k (q := 142) (by omega), mAs_A k (q := 133) (by omega), mAs_A k (q := 134) (by omega)]
  exact ⟨rfl, rfl⟩
theorem mAs_F {w : Nat} (k : mAs p i x h h3) (F : mFt h w) : mFt h3 w := by
  unfold mFt
  rw [k.2.1]
  exact F
theorem mAs_Z (k : mAs p i x h h3) (z : mZp h) : mZp h3 := mZp_k z (by rw [k.2.1]) (by rw [k.2.1])
/-- a clause as it stands in its row -/
noncomputable def mRow (h : zH) (i : Nat) : rCt := (if (tA h 135 i).toNatClampNeg = 0 ∧ (tA h 136 i).toNatClampNeg < 12 then (tA h 136 i).toNatClampNeg else 12 + (tA h 135 i).toNatClampNeg + 100 * (tA h 136 i).toNatClampNeg, (tA h 137 i).toNatClampNeg, (tA h 138 i).toNatClampNeg, (tA h 139 i).toNatClampNeg)
theorem mEn_len : (mEn h).length = (tvI (tF h 111 31)).toNatClampNeg := by unfold mEn; rw [List.length_map, List.length_range]
theorem rB_A {T : Nat → Int32} {n : Nat} {s : rS} : rA (rB T n (rA (rB T n s.1) s).1) (rA (rB T n s.1) s) = rA (rB T n s.1) s := by
  show rA (rB T n (rB T n s.1)) _ = _
  rw [rB_2]
  rfl
end MZ
theorem zl_14 {k : Nat} (hk : k < 4) : (ztx (k + 14)).length ≤ 200 ∧ 0 < (ztx (k + 14)).length := zl_lo (k + 12) (by omega)
theorem rWd_14 {k : Nat} (hk : k < 4) : rWd (k + 12) = ztx (k + 14) := rWd_lo (k + 12) (by omega)
theorem mFw_A {h h2 : zH} {p : Nat} (k : mFw h h2) (hp : 135 ≤ p ∧ p ≤ 139) : tA h2 p = tA h p := k.2.2.1 p (by omega) (by omega) (by omega)
theorem mFt_pos {h : zH} {e : Nat} (k : mFt h e) : 0 < e ∧ e < 100000 := k.2
theorem mSk_0 {h : zH} (d : mD h) (e : mSk h = []) : tvI (tF h 111 32) = 0 := by
  refine Int32.toInt_inj.mp (d.trans ?_)
  rw [e]
  rfl
theorem rA_1 {b : Nat} {s : rS} : (rA b s).1 = b := rfl
theorem rA_A {b v : Nat} {s : rS} : rA v (rA b s) = rA v s := rfl
theorem mIx {a y : Int32} {c : Nat} (ha : 0 ≤ a.toInt ∧ a.toInt ≤ 10) (hy : y.toInt = c) (hc : c ≤ 12) : (12 * a + y).toNatClampNeg = 12 * a.toNatClampNeg + c := by
  have n1 : (12 * a).toInt = 12 * a.toInt := by
    rw [Int32.toInt_mul, show (12 : Int32).toInt = 12 from rfl]
    exact Int.bmod_eq_of_le (by show (-2147483648 : Int) ≤ 12 * a.toInt; omega) (by show 12 * a.toInt < (2147483648 : Int); omega)
  have n2 : (12 * a + y).toInt = 12 * a.toInt + c := by
    rw [Int32.toInt_add, n1, hy]
    exact Int.bmod_eq_of_le (by show (-2147483648 : Int) ≤ 12 * a.toInt + c; omega) (by show 12 * a.toInt + c < (2147483648 : Int); omega)
  rw [zclE, zclE, n2]
  omega
noncomputable def mCo (T : Nat → Int32) (n I : Nat) (r : Nat ⊕ (rS × rCt)) (h2 : zH) : Prop := match r with
  | .inl e => mFt h2 e ∧ mZp h2
  | .inr x => mP h2 ∧ ms h2 = rA (rB T n x.1.1) x.1 ∧ tvI (tF h2 111 32) = 0 ∧ mRow h2 I = x.2
theorem mCo_l {T : Nat → Int32} {n I e : Nat} {r : Nat ⊕ (rS × rCt)} {h2 : zH} (hr : r = .inl e) (F : mFt h2 e) (Z : mZp h2) : mCo T n I r h2 := by
  rw [hr]
  exact ⟨F, Z⟩
theorem mCo_r {T : Nat → Int32} {n I : Nat} {r : Nat ⊕ (rS × rCt)} {h2 : zH} {s : rS} {t : rCt} (hr : r = .inr (s, t)) (p : mP h2) (e : ms h2 = rA (rB T n s.1) s) (d : tvI (tF h2 111 32) = 0) (w : mRow h2 I = t) : mCo T n I r h2 := by
  rw [hr]
  exact ⟨p, e, d, w⟩
theorem y_blanks {G : zG} (hG : G.1 = zProg) (hX : G.2.1 = ztx) {h : zH} {T : Nat → Int32} {n : Nat} (hs : tSh h) {ef : Nat} (hp : mFt h ef) (hT : tA h 132 = T) (hN : mn h = n) (h0 : mZp h) : tC zTt G 203 [.ref 111] h (fun w h2 => w = none ∧ mFr h h2 ∧ mFt h2 ef ∧ mZp h2) := by
  refine tC_in (by rw [hG]; rfl) (fun dp => ?_)
  have g0 := mFr_r hs
  refine tG_loop (zW_mono zTt G dp) (zW_conj zTt G dp) (V := fun pc L st h9 _ _ => pc = 0 ∧ st = [] ∧ ∃ h1, h1 = h9 ∧ mFr h h1 ∧ mFt h1 ef ∧ mZp h1 ∧ L = [some (.ref 111)]) ?_ (⟨rfl, rfl, _, rfl, g0, hp, h0, rfl⟩)
  rintro _ _ _ _ _ _ ⟨rfl, rfl, h1, rfl, g1, z1, h0, rfl⟩
  refine tw_aload rfl rfl ?_
  refine tw_virt0 rfl (g_sign hG hX (g1).1 ((mFr_T g1).trans hT) ((mFr_n g1).trans hN) h0.1) (fun wp693 hp693 p693 => ?_)
  obtain ⟨⟨cp693, rfl, kp693⟩, rfl⟩ := p693
  refine tw_push rfl ?_
  refine tw_ic_ne rfl (fun q694 => ?_) (fun q694 => ?_)
  · try dsimp only [tvI_i, tvJ_j, tvR_r] at q694
    have q694i := zneq (Y := 32) (by decide) q694
    exact tw_vret rfl ⟨rfl, g1, z1, h0⟩
  · try dsimp only [tvI_i, tvJ_j, tvR_r] at q694
    have q694i := zeqi (Y := 32) (by decide) q694
    refine tw_aload rfl rfl ?_
    refine tw_dup rfl ?_
    refine tw_getS rfl (hi_111_28 (g1).1) ?_
    refine tw_push rfl ?_
    refine tw_iadd rfl ?_
    refine tw_put rfl (fun f695 => ?_)
    refine tG_setm f695 (hw_111_28 f695 (g1).1) (fun hf695 ef695 => ?_)
    try dsimp only [tvI_i] at ef695
    have gf695 := mFr_s g1 ef695 (by unfold mFs; omega)
    have zf695 := mFt_s z1 ef695 (by decide)
    have wf695 := (sgm_k kp693 32 (by decide)).mp q694
    have if695 : mZp hf695 := by
      have y := (mpos h0.1).mpr (by rw [((mFr_n g1).trans hN)]; exact wf695.1)
      have a := zj1 h0.1.1 y
      have b := h0
      unfold mZp at b ⊢
      rw [mI_x ef695, mI_o ef695 (by decide), a]
      exact ⟨⟨by omega, by omega⟩, by omega, by omega⟩
    refine tw_goto rfl ?_
    exact tG_cut (zW_mono zTt G dp) (Or.inr ⟨rfl, rfl, _, rfl, gf695, zf695, if695, rfl⟩)
theorem g_clause {G : zG} (hG : G.1 = zProg) (hX : G.2.1 = ztx) {h : zH} {T : Nat → Int32} {n : Nat} (hs : tSh h) (hp : mP h) (hT : tA h 132 = T) (hN : mn h = n) {y : Int32} {c I : Nat} (hy : y.toInt = c) (hc : c ≤ 12) (hI : I = 12 * (tvI (tF h 111 30)).toNatClampNeg + c) (hd9 : tvI (tF h 111 32) = 0) {r : Nat ⊕ (rS × rCt)} (hr0 : rCl T n c (ms h) r) : tC zTt G 224 [.ref 111, .int y] h (fun w h2 => w = none ∧ mFz I h h2 ∧ mCo T n I r h2) := by
  refine tC_in (by rw [hG]; rfl) (fun dp => ?_)
  have g0 : mFz I h h := mFz_r hs
  have hpn : (ms h).1 ≤ n := mPle hp hN
  have hn4 : n ≤ 400 := by have a := mNl hp hN; have b := hp.2.1; omega
  have c09 : (0 : Int32).toInt = 0 := rfl
  have c39 : (3 : Int32).toInt = 3 := rfl
  have c49 : (4 : Int32).toInt = 4 := rfl
  have c129 : (12 : Int32).toInt = 12 := rfl
  refine tw_aload rfl rfl ?_
  refine tw_virt0 rfl (g_blanks hG hX (g0).1 hp ((mFz_T g0).trans hT) ((mFz_n g0).trans hN)) (fun wp696 hp696 p696 => ?_)
  obtain ⟨rfl, gp696, pp696e, sp696, tp696, dp696⟩ := p696
  have gwp696 := mFw_f gp696
  have gzp696 : mFz I h hp696 := mFz_t g0 (mFz_w gwp696)
  have Dp696 : tvI (tF hp696 111 32) = 0 := by rw [dp696]; exact hd9
  have Sp696 : ms hp696 = (rA (rB T n (ms h).1) (ms h)) := sp696
  refine tw_aload rfl rfl ?_
  refine tw_getS rfl (hi_111_28 gzp696.1) ?_
  refine tw_istore rfl ?_
  refine tw_push rfl ?_
  refine tw_istore rfl ?_
  refine tG_loop (zW_mono zTt G dp) (zW_conj zTt G dp) (V := fun pc L st h9 _ _ => pc = 11 ∧ st = [] ∧ hp696 = h9 ∧ ∃ (k : Nat) (x : Int32), x.toInt = k ∧ k ≤ 4 ∧ (∀ i, i < k → ¬ rW T n (rB T n (ms h).1) (rWd (i + 12)) = true) ∧ L = [some (.ref 111), some (.int y), some (.int (tvI (tF hp696 111 28))), some (.int x), none, none]) ?_ (⟨rfl, rfl, rfl, 0, 0, rfl, by decide, fun i hi => absurd hi (Nat.not_lt_zero _), rfl⟩)
  rintro _ _ _ _ _ _ ⟨rfl, rfl, rfl, k, x, hx, hk5, hall, rfl⟩
  refine tw_iload rfl rfl ?_
  refine tw_push rfl ?_
  refine tw_ic_ge rfl (fun q697 => ?_) (fun q697 => ?_)
  · try dsimp only [tvI_i, tvJ_j, tvR_r] at q697
    refine tw_iload rfl rfl ?_
    refine tw_push rfl ?_
    refine tw_ic_ne rfl (fun q698 => ?_) (fun q698 => ?_)
    · try dsimp only [tvI_i, tvJ_j, tvR_r] at q698
      have q698i := zneq (Y := 4) (by decide) q698
      exfalso
      have z1 := q697
      have z2 := q698i
      omega
    · try dsimp only [tvI_i, tvJ_j, tvR_r] at q698
      have q698i := zeqi (Y := 4) (by decide) q698
      refine tw_aload rfl rfl ?_
      refine tw_push rfl ?_
      refine tw_iload rfl rfl ?_
      refine tw_virt2 rfl (g_fails hG hX (gzp696).1 pp696e ((mFz_T gzp696).trans hT) ((mFz_n gzp696).trans hN) (w := 0) rfl (by decide) (mPl pp696e) (by have := mPle pp696e ((mFz_n gzp696).trans hN); have := mNl pp696e ((mFz_n gzp696).trans hN); have := pp696e.2.1; omega)) (fun wp699 hp699 p699 => ?_)
      obtain ⟨rfl, gp699, Fp699, ip699, jp699⟩ := p699
      have gwp699 := mFw_f gp699
      have gzp699 : mFz I h hp699 := mFz_t gzp696 (mFz_w gwp699)
      have Zp699 : mZp hp699 := mZp_k (mZp_p pp696e) ip699 jp699
      rw [Sp696, rA_1] at Fp699
      have hk : k = 4 := by have z := q698i; omega
      have hr := rCl_0 hr0 (fun j h1 h2 => by have z := hall (j - 12) (by omega); rw [show j - 12 + 12 = j by omega] at z; exact z)
      exact tw_vret rfl ⟨rfl, gzp699, mCo_l hr Fp699 Zp699⟩
  · try dsimp only [tvI_i, tvJ_j, tvR_r] at q697
    refine tw_aload rfl rfl ?_
    refine tw_iload rfl rfl ?_
    refine tw_stat1 rfl (g_thingName hG (k := k) hx (by have z := q697; omega)) (fun wp700 hp700 p700 => ?_)
    obtain ⟨rfl, rfl⟩ := p700
    refine tw_virt1 rfl (g_stands hG hX (gzp696).1 ((mFz_T gzp696).trans hT) ((mFz_n gzp696).trans hN) (q := (k + 14)) (zl_14 (by have z := q697; omega)).1 ⟨pp696e.2.1.1, by have := pp696e.2.1; omega⟩ ⟨by have := pp696e.2.1; omega, pp696e.2.1.2.2⟩) (fun w9 h9 p701 => ?_)
    obtain ⟨⟨p701, rfl⟩ | ⟨p701, rfl⟩, rfl⟩ := p701
    · try dsimp only [tvI_i, tvJ_j, tvR_r] at p701
      refine tw_if_ne rfl (fun _ => ?_) (fun z => absurd z (by decide))
      refine tw_iload rfl rfl ?_
      refine tw_push rfl ?_
      refine tw_ic_ne rfl (fun q702 => ?_) (fun q702 => ?_)
      · try dsimp only [tvI_i, tvJ_j, tvR_r] at q702
        have q702i := zneq (Y := 4) (by decide) q702
        refine tw_iload rfl rfl ?_
        refine tw_push rfl ?_
        refine tw_ic_ne rfl (fun q703 => ?_) (fun q703 => ?_)
        · try dsimp only [tvI_i, tvJ_j, tvR_r] at q703
          have q703i := zneq (Y := 12) (by decide) q703
          refine tw_aload rfl rfl ?_
          refine tw_dup rfl ?_
          refine tw_getS rfl (hi_111_28 (gzp696).1) ?_
          refine tw_iload rfl rfl ?_
          have hk4 : k < 4 := by have z := q697; omega
          refine tw_stat1 rfl (g_thingName hG (k := k) hx hk4) (fun wp704 hp704 p704 => ?_)
          obtain ⟨rfl, rfl⟩ := p704
          refine tw_tlen rfl ?_
          refine tw_iadd rfl ?_
          refine tw_put rfl (fun f705 => ?_)
          refine tG_setm f705 (hw_111_28 f705 (gzp696).1) (fun hf705 ef705 => ?_)
          try dsimp only [tvI_i] at ef705
          have gf705 : mFz I h hf705 := mFz_s gzp696 ef705 (Or.inl (by unfold mFs; omega))
          have hk4 : k < 4 := by have z := q697; omega
          have hw : rW T n (rB T n (ms h).1) (rWd (k + 12)) = true := by have z := p701; rw [Sp696, rA_1] at z; rw [rWd_14 hk4]; exact z
          have hcn : c ≠ 12 := by have z := q703i; omega
          have K1 := rCl_g hr0 (k := k + 12) (by omega) (by omega) hw hcn
          have hre : rE T n (rB T n (ms h).1) = (rB T n (ms h).1) + (ztx (k + 14)).length := by rw [rW_e hw, rWd_14 hk4]
          have hre2 := rE_le (T := T) (rB_le (T := T) hpn)
          have hln : (Int32.ofNat (G.2.1 (k + 14)).length).toInt = ((ztx (k + 14)).length : Int) := by rw [hX]; exact zofI (by have := (zl_14 hk4).1; omega)
          obtain ⟨pf705, sf705, tf705⟩ := mTo pp696e ((mFz_n gzp696).trans hN) ef705 (v := (rB T n (ms h).1) + (ztx (k + 14)).length) (zadN (a := (rB T n (ms h).1)) (by rw [mPl pp696e, Sp696, rA_1]) hln (by omega) (by have := (zl_14 hk4).1; omega)) (by omega)
          have Sf705 : ms hf705 = (rA (rE T n (rB T n (ms h).1)) (ms h)) := by rw [sf705, Sp696, ← hre, rA_A]
          have Df705 : tvI (tF hf705 111 32) = 0 := by rw [mI_o ef705 (by decide)]; exact Dp696
          have gwf705 : tA hf705 = tA hp696 := ef705.2.2.2.1
          refine tw_push rfl ?_
          refine tw_aload rfl rfl ?_
          refine tw_getS rfl (hi_111_30 (gf705).1) ?_
          refine tw_imul rfl ?_
          refine tw_iload rfl rfl ?_
          refine tw_iadd rfl ?_
          refine tw_istore rfl ?_
          refine tw_aload rfl rfl ?_
          refine tw_getS rfl (hs_111_38 (gf705).1) ?_
          refine tw_iload rfl rfl ?_
          refine tw_iload rfl rfl ?_
          refine tw_iast rfl (fun f706 => ?_)
          have hI9 : (12 * tvI (tF hf705 111 30) + y).toNatClampNeg = I := by rw [mIx (pf705.2.2.2.2.2.1) hy hc, show tF hf705 111 30 = tF h 111 30 from mFz_30 gf705, ← hI]
          refine tG_ast f706 (gf705).1 (fun hf706 af706 => ?_)
          try dsimp only [tvI_i, tvR_r] at af706
          rw [hI9] at af706
          have gf706 : mFz I h hf706 := mFz_a gf705 af706 (by decide) (Nat.le_refl _)
          have pf706 := mAs_P af706 (by decide) pf705
          have Sf706 : ms hf706 = (rA (rE T n (rB T n (ms h).1)) (ms h)) := (mAs_m af706 (by decide)).1.trans Sf705
          have Df706 : tvI (tF hf706 111 32) = 0 := by rw [af706.2.1]; exact Df705
          refine tw_aload rfl rfl ?_
          refine tw_getS rfl (hs_111_39 (gf706).1) ?_
          refine tw_iload rfl rfl ?_
          refine tw_push rfl ?_
          refine tw_iast rfl (fun f707 => ?_)
          refine tG_ast f707 (gf706).1 (fun hf707 af707 => ?_)
          try dsimp only [tvI_i, tvR_r] at af707
          rw [hI9] at af707
          have gf707 : mFz I h hf707 := mFz_a gf706 af707 (by decide) (Nat.le_refl _)
          have pf707 := mAs_P af707 (by decide) pf706
          have Sf707 : ms hf707 = (rA (rE T n (rB T n (ms h).1)) (ms h)) := (mAs_m af707 (by decide)).1.trans Sf706
          have Df707 : tvI (tF hf707 111 32) = 0 := by rw [af707.2.1]; exact Df706
          refine tw_iload rfl rfl ?_
          refine tw_if_ne rfl (fun q708 => ?_) (fun q708 => ?_)
          · try dsimp only [tvI_i, tvJ_j, tvR_r] at q708
            have q708i := zneq (Y := 0) (by decide) q708
            refine tw_aload rfl rfl ?_
            refine tw_getS rfl (hs_111_40 (gf707).1) ?_
            refine tw_iload rfl rfl ?_
            refine tw_aload rfl rfl ?_
            refine tw_getS rfl (hi_111_31 (gf707).1) ?_
            refine tw_iast rfl (fun f709 => ?_)
            have Lf709 : (tvI (tF hf707 111 31)).toNatClampNeg = (rA (rE T n (rB T n (ms h).1)) (ms h)).2.2.length := by rw [← mEn_len]; exact congrArg (fun z : rS => z.2.2.length) Sf707
            have K2 : rCl2 T n (k + 12) (k + 12) (rA (rE T n (rB T n (ms h).1)) (ms h)) r := rCl1_n K1 (by have z := q708i; omega)
            refine tG_ast f709 (gf707).1 (fun hf709 af709 => ?_)
            try dsimp only [tvI_i, tvR_r] at af709
            rw [hI9] at af709
            have gf709 : mFz I h hf709 := mFz_a gf707 af709 (by decide) (Nat.le_refl _)
            have pf709 := mAs_P af709 (by decide) pf707
            have Sf709 : ms hf709 = (rA (rE T n (rB T n (ms h).1)) (ms h)) := (mAs_m af709 (by decide)).1.trans Sf707
            have Df709 : tvI (tF hf709 111 32) = 0 := by rw [af709.2.1]; exact Df707
            refine tw_iload rfl rfl ?_
            refine tw_push rfl ?_
            refine tw_ic_eq rfl (fun q710 => ?_) (fun q710 => ?_)
            · try dsimp only [tvI_i, tvJ_j, tvR_r] at q710
              have q710i := zeqi (Y := 3) (by decide) q710
              refine tw_aload rfl rfl ?_
              refine tw_getS rfl (hs_111_41 (gf709).1) ?_
              refine tw_iload rfl rfl ?_
              refine tw_aload rfl rfl ?_
              refine tw_getS rfl (hi_111_31 (gf709).1) ?_
              refine tw_iast rfl (fun f711 => ?_)
              have Lf711 : (tvI (tF hf709 111 31)).toNatClampNeg = (rA (rE T n (rB T n (ms h).1)) (ms h)).2.2.length := by rw [← mEn_len]; exact congrArg (fun z : rS => z.2.2.length) Sf709
              refine tG_ast f711 (gf709).1 (fun hf711 af711 => ?_)
              try dsimp only [tvI_i, tvR_r] at af711
              rw [hI9] at af711
              have gf711 : mFz I h hf711 := mFz_a gf709 af711 (by decide) (Nat.le_refl _)
              have pf711 := mAs_P af711 (by decide) pf709
              have Sf711 : ms hf711 = (rA (rE T n (rB T n (ms h).1)) (ms h)) := (mAs_m af711 (by decide)).1.trans Sf709
              have Df711 : tvI (tF hf711 111 32) = 0 := by rw [af711.2.1]; exact Df709
              refine tw_aload rfl rfl ?_
              obtain ⟨s2, hs2⟩ : ∃ s2, (rA (rE T n (rB T n (ms h).1)) (ms h)) = s2 := ⟨_, rfl⟩
              have K3 := rCl2_15 K2 (by have z := q710i; omega)
              rw [hs2] at K3
              have sm2 := Sf711.trans hs2
              refine tw_virt0 rfl (g_blanks hG hX (gf711).1 pf711 ((mFz_T gf711).trans hT) ((mFz_n gf711).trans hN)) (fun wp712 hp712 p712 => ?_)
              obtain ⟨rfl, gp712, pp712e, sp712, tp712, dp712⟩ := p712
              have gwp712 := mFw_f gp712
              have gzp712 : mFz I h hp712 := mFz_t gf711 (mFz_w gwp712)
              have Dp712 : tvI (tF hp712 111 32) = 0 := by rw [dp712]; exact Df711
              have Sp712 : ms hp712 = (rA (rB T n s2.1) s2) := (by rw [sp712, sm2])
              refine tw_aload rfl rfl ?_
              refine tw_push rfl ?_
              refine tw_virt1 rfl (g_stands hG hX (gzp712).1 ((mFz_T gzp712).trans hT) ((mFz_n gzp712).trans hN) (q := 21) (by decide +kernel) ⟨pp712e.2.1.1, by have := pp712e.2.1; omega⟩ ⟨by have := pp712e.2.1; omega, pp712e.2.1.2.2⟩) (fun w9 h9 p713 => ?_)
              obtain ⟨⟨p713, rfl⟩ | ⟨p713, rfl⟩, rfl⟩ := p713
              · try dsimp only [tvI_i, tvJ_j, tvR_r] at p713
                refine tw_istore rfl ?_
                refine tw_iload rfl rfl ?_
                refine tw_push rfl ?_
                refine tw_ic_ne rfl (fun q714 => ?_) (fun q714 => ?_)
                · try dsimp only [tvI_i, tvJ_j, tvR_r] at q714
                  have q714i := zneq (Y := 3) (by decide) q714
                  exact absurd q710 q714
                · try dsimp only [tvI_i, tvJ_j, tvR_r] at q714
                  have q714i := zeqi (Y := 3) (by decide) q714
                  refine tw_iload rfl rfl ?_
                  refine tw_if_ne rfl (fun _ => ?_) (fun z => absurd z (by decide))
                  refine tw_iload rfl rfl ?_
                  refine tw_if_eq rfl (fun z => absurd z (by decide)) (fun _ => ?_)
                  refine tw_aload rfl rfl ?_
                  refine tw_getS rfl (hi_111_29 gzp712.1) ?_
                  refine tw_if_ne rfl (fun q715 => ?_) (fun q715 => ?_)
                  · try dsimp only [tvI_i, tvJ_j, tvR_r] at q715
                    have q715i := zneq (Y := 0) (by decide) q715
                    exact absurd (mP_0 pp712e) q715
                  · try dsimp only [tvI_i, tvJ_j, tvR_r] at q715
                    have q715i := zeqi (Y := 0) (by decide) q715
                    refine tw_aload rfl rfl ?_
                    refine tw_dup rfl ?_
                    refine tw_getS rfl (hi_111_28 gzp712.1) ?_
                    refine tw_push rfl ?_
                    refine tw_iadd rfl ?_
                    refine tw_put rfl (fun f716 => ?_)
                    have hw16 : rW T n (rB T n s2.1) (rWd 16) = true := by have z := p713; rw [Sp712, rA_1] at z; exact z
                    refine tG_setm f716 (hw_111_28 f716 (gzp712).1) (fun hf716 ef716 => ?_)
                    try dsimp only [tvI_i] at ef716
                    have gf716 : mFz I h hf716 := mFz_s gzp712 ef716 (Or.inl (by unfold mFs; omega))
                    have h9w : rE T n (rB T n s2.1) = rB T n s2.1 + 2 := by rw [rW_e hw16, wlen_k.2.2.2]
                    have hpB : rB T n s2.1 ≤ n := by have z := mPle pp712e ((mFz_n gzp712).trans hN); rw [Sp712, rA_1] at z; exact z
                    have hr9 := rE_le (T := T) hpB
                    rw [h9w] at hr9
                    obtain ⟨pf716, sf716, tf716⟩ := mTo pp712e ((mFz_n gzp712).trans hN) ef716 (v := rB T n s2.1 + 2) (zadN (a := rB T n s2.1) (b := 2) (by rw [mPl pp712e, Sp712, rA_1]) rfl (by omega) (by decide)) (by omega)
                    have Sf716 : ms hf716 = (rA (rB T n s2.1 + 2) s2) := by rw [sf716, Sp712, rA_A]
                    have Df716 : tvI (tF hf716 111 32) = 0 := by rw [mI_o ef716 (by decide)]; exact Dp712
                    have gwf716 : tA hf716 = tA hp712 := ef716.2.2.2.1
                    refine tw_aload rfl rfl ?_
                    refine tw_push rfl ?_
                    refine tw_virt1 rfl (g_readsR hG hX (gf716).1 pf716 ((mFz_T gf716).trans hT) ((mFz_n gf716).trans hN) (x := 0) (tst := true) (by decide) (by decide) ⟨fun _ => rfl, fun _ => rfl⟩ Df716) (fun w9 hp717 p717 => ?_)
                    obtain ⟨rfl, gp717, ⟨pp717e, dp717, mp717⟩ | ⟨ep717, Fp717, Zp717, mp717⟩⟩ := p717
                    · have gwp717 := id gp717
                      have gzp717 : mFz I h hp717 := mFz_t gf716 (mFz_w gwp717)
                      have m9 := mp717
                      rw [Sf716, show stN 0 = 0 from rfl] at m9
                      obtain ⟨hS3, s3, hs3, hr⟩ := rCl3_s K3 hw16 m9
                      have Dp717 := mSk_0 dp717 hS3
                      refine tw_aload rfl rfl ?_
                      refine tw_getS rfl (hs_111_42 gzp717.1) ?_
                      refine tw_iload rfl rfl ?_
                      refine tw_aload rfl rfl ?_
                      refine tw_getS rfl (hi_111_31 gzp717.1) ?_
                      refine tw_iast rfl (fun f718 => ?_)
                      have Lf718 : (tvI (tF hp717 111 31)).toNatClampNeg = (rA (rB T n s3.1) s3).2.2.length := by rw [← mEn_len]; exact congrArg (fun z : rS => z.2.2.length) hs3
                      refine tG_ast f718 (gzp717).1 (fun hf718 af718 => ?_)
                      try dsimp only [tvI_i, tvR_r] at af718
                      rw [hI9] at af718
                      have gf718 : mFz I h hf718 := mFz_a gzp717 af718 (by decide) (Nat.le_refl _)
                      have pf718 := mAs_P af718 (by decide) pp717e
                      have Sf718 : ms hf718 = (rA (rB T n s3.1) s3) := (mAs_m af718 (by decide)).1.trans hs3
                      have Df718 : tvI (tF hf718 111 32) = 0 := by rw [af718.2.1]; exact Dp717
                      have c135 : tA hf718 135 I = x := ((congrFun ((mAs_A af718 (q := 135) (by decide)).trans ((mFw_A gwp717 (p := 135) (by decide)).trans ((congrFun gwf716 135).trans ((mFw_A gwp712 (p := 135) (by decide)).trans ((mAs_A af711 (q := 135) (by decide)).trans ((mAs_A af709 (q := 135) (by decide)).trans (mAs_A af707 (q := 135) (by decide)))))))) I).trans (mAs_x af706))
                      have c137 : (tA hf718 137 I).toNatClampNeg = (rA (rE T n (rB T n (ms h).1)) (ms h)).2.2.length := by rw [((congrFun ((mAs_A af718 (q := 137) (by decide)).trans ((mFw_A gwp717 (p := 137) (by decide)).trans ((congrFun gwf716 137).trans ((mFw_A gwp712 (p := 137) (by decide)).trans (mAs_A af711 (q := 137) (by decide)))))) I).trans (mAs_x af709))]; exact Lf709
                      have c138 : (tA hf718 138 I).toNatClampNeg = (rA (rE T n (rB T n (ms h).1)) (ms h)).2.2.length := by rw [((congrFun ((mAs_A af718 (q := 138) (by decide)).trans ((mFw_A gwp717 (p := 138) (by decide)).trans ((congrFun gwf716 138).trans (mFw_A gwp712 (p := 138) (by decide))))) I).trans (mAs_x af711))]; exact Lf711
                      have c139 : (tA hf718 139 I).toNatClampNeg = (rA (rB T n s3.1) s3).2.2.length := by rw [(mAs_x af718)]; exact Lf718
                      have c136 : (tA hf718 136 I).toNatClampNeg = 0 := by rw [((congrFun ((mAs_A af718 (q := 136) (by decide)).trans ((mFw_A gwp717 (p := 136) (by decide)).trans ((congrFun gwf716 136).trans ((mFw_A gwp712 (p := 136) (by decide)).trans ((mAs_A af711 (q := 136) (by decide)).trans (mAs_A af709 (q := 136) (by decide))))))) I).trans (mAs_x af707))]; rfl
                      have hrow : mRow hf718 I = ((k + 12), (rA (rE T n (rB T n (ms h).1)) (ms h)).2.2.length, (rA (rE T n (rB T n (ms h).1)) (ms h)).2.2.length, (rA (rB T n s3.1) s3).2.2.length) := by
                        unfold mRow
                        rw [c135, c137, c138, c139, zof_cl hx, c136, if_neg (fun y => by have z := q708i; have y := y.1; omega), Nat.mul_zero, Nat.add_zero, Nat.add_comm]
                      rw [hs2] at hrow
                      exact tw_vret rfl ⟨rfl, gf718, mCo_r hr pf718 Sf718 Df718 hrow⟩
                    · have gwp717 := id gp717
                      have gzp717 : mFz I h hp717 := mFz_t gf716 (mFz_w gwp717)
                      have m9 := mp717
                      rw [Sf716, show stN 0 = 0 from rfl] at m9
                      have hr := rCl3_e K3 hw16 m9
                      refine tw_aload rfl rfl ?_
                      refine tw_getS rfl (hs_111_42 gzp717.1) ?_
                      refine tw_iload rfl rfl ?_
                      refine tw_aload rfl rfl ?_
                      refine tw_getS rfl (hi_111_31 gzp717.1) ?_
                      refine tw_iast rfl (fun f719 => ?_)
                      refine tG_ast f719 (gzp717).1 (fun hf719 af719 => ?_)
                      try dsimp only [tvI_i, tvR_r] at af719
                      rw [hI9] at af719
                      have gf719 : mFz I h hf719 := mFz_a gzp717 af719 (by decide) (Nat.le_refl _)
                      have Ff719 := mAs_F af719 Fp717
                      have Zf719 := mAs_Z af719 Zp717
                      exact tw_vret rfl ⟨rfl, gf719, mCo_l hr Ff719 Zf719⟩
              · try dsimp only [tvI_i, tvJ_j, tvR_r] at p713
                refine tw_istore rfl ?_
                refine tw_iload rfl rfl ?_
                refine tw_push rfl ?_
                refine tw_ic_ne rfl (fun q720 => ?_) (fun q720 => ?_)
                · try dsimp only [tvI_i, tvJ_j, tvR_r] at q720
                  have q720i := zneq (Y := 3) (by decide) q720
                  exact absurd q710 q720
                · try dsimp only [tvI_i, tvJ_j, tvR_r] at q720
                  have q720i := zeqi (Y := 3) (by decide) q720
                  refine tw_iload rfl rfl ?_
                  refine tw_if_ne rfl (fun z => absurd z (by decide)) (fun _ => ?_)
                  refine tw_aload rfl rfl ?_
                  refine tw_push rfl ?_
                  refine tw_aload rfl rfl ?_
                  refine tw_getS rfl (hi_111_28 gzp712.1) ?_
                  refine tw_virt2 rfl (g_fails hG hX (gzp712).1 pp712e ((mFz_T gzp712).trans hT) ((mFz_n gzp712).trans hN) (w := 0) rfl (by decide) (mPl pp712e) (by have := mPle pp712e ((mFz_n gzp712).trans hN); have := mNl pp712e ((mFz_n gzp712).trans hN); have := pp712e.2.1; omega)) (fun wp721 hp721 p721 => ?_)
                  obtain ⟨rfl, gp721, Fp721, ip721, jp721⟩ := p721
                  have gwp721 := mFw_f gp721
                  have gzp721 : mFz I h hp721 := mFz_t gzp712 (mFz_w gwp721)
                  have Zp721 : mZp hp721 := mZp_k (mZp_p pp712e) ip721 jp721
                  rw [Sp712, rA_1] at Fp721
                  refine tw_iload rfl rfl ?_
                  refine tw_if_eq rfl (fun _ => ?_) (fun z => absurd z (by decide))
                  refine tw_aload rfl rfl ?_
                  refine tw_getS rfl (hs_111_42 gzp721.1) ?_
                  refine tw_iload rfl rfl ?_
                  refine tw_aload rfl rfl ?_
                  refine tw_getS rfl (hi_111_31 gzp721.1) ?_
                  refine tw_iast rfl (fun f722 => ?_)
                  refine tG_ast f722 (gzp721).1 (fun hf722 af722 => ?_)
                  try dsimp only [tvI_i, tvR_r] at af722
                  rw [hI9] at af722
                  have gf722 : mFz I h hf722 := mFz_a gzp721 af722 (by decide) (Nat.le_refl _)
                  have Ff722 := mAs_F af722 Fp721
                  have Zf722 := mAs_Z af722 Zp721
                  have hw16 : ¬ rW T n (rB T n s2.1) (rWd 16) = true := by have z := p713; rw [Sp712, rA_1] at z; exact z
                  have hr := rCl3_1 K3 hw16 (by have z := q720i; omega)
                  exact tw_vret rfl ⟨rfl, gf722, mCo_l hr Ff722 Zf722⟩
            · try dsimp only [tvI_i, tvJ_j, tvR_r] at q710
              have q710i := zneq (Y := 3) (by decide) q710
              refine tw_aload rfl rfl ?_
              refine tw_getS rfl (hi_111_29 (gf709).1) ?_
              refine tw_if_ne rfl (fun q723 => ?_) (fun q723 => ?_)
              · try dsimp only [tvI_i, tvJ_j, tvR_r] at q723
                have q723i := zneq (Y := 0) (by decide) q723
                exact absurd (mP_0 pf709) q723
              · try dsimp only [tvI_i, tvJ_j, tvR_r] at q723
                have q723i := zeqi (Y := 0) (by decide) q723
                refine tw_aload rfl rfl ?_
                refine tw_push rfl ?_
                refine tw_virt1 rfl (g_readsR hG hX (gf709).1 pf709 ((mFz_T gf709).trans hT) ((mFz_n gf709).trans hN) (x := 1) (tst := false) (by decide) (by decide) ⟨fun z => absurd z (by decide), fun z => absurd z (by decide)⟩ Df709) (fun w9 hp724 p724 => ?_)
                obtain ⟨rfl, gp724, ⟨pp724e, dp724, mp724⟩ | ⟨ep724, Fp724, Zp724, mp724⟩⟩ := p724
                · have gwp724 := id gp724
                  have gzp724 : mFz I h hp724 := mFz_t gf709 (mFz_w gwp724)
                  have m9 := mp724
                  rw [Sf709, show stN 1 = 1 from rfl] at m9
                  obtain ⟨hS, s2, hs2, K3⟩ := rCl2_s K2 (by have z := q710i; omega) m9
                  have Dp724 := mSk_0 dp724 hS
                  refine tw_aload rfl rfl ?_
                  refine tw_getS rfl (hs_111_41 gzp724.1) ?_
                  refine tw_iload rfl rfl ?_
                  refine tw_aload rfl rfl ?_
                  refine tw_getS rfl (hi_111_31 gzp724.1) ?_
                  refine tw_iast rfl (fun f725 => ?_)
                  have Lf725 : (tvI (tF hp724 111 31)).toNatClampNeg = (rA (rB T n s2.1) s2).2.2.length := by rw [← mEn_len]; exact congrArg (fun z : rS => z.2.2.length) hs2
                  refine tG_ast f725 (gzp724).1 (fun hf725 af725 => ?_)
                  try dsimp only [tvI_i, tvR_r] at af725
                  rw [hI9] at af725
                  have gf725 : mFz I h hf725 := mFz_a gzp724 af725 (by decide) (Nat.le_refl _)
                  have pf725 := mAs_P af725 (by decide) pp724e
                  have Sf725 : ms hf725 = (rA (rB T n s2.1) s2) := (mAs_m af725 (by decide)).1.trans hs2
                  have Df725 : tvI (tF hf725 111 32) = 0 := by rw [af725.2.1]; exact Dp724
                  refine tw_aload rfl rfl ?_
                  refine tw_virt0 rfl (g_blanks hG hX (gf725).1 pf725 ((mFz_T gf725).trans hT) ((mFz_n gf725).trans hN)) (fun wp726 hp726 p726 => ?_)
                  obtain ⟨rfl, gp726, pp726e, sp726, tp726, dp726⟩ := p726
                  have gwp726 := mFw_f gp726
                  have gzp726 : mFz I h hp726 := mFz_t gf725 (mFz_w gwp726)
                  have Dp726 : tvI (tF hp726 111 32) = 0 := by rw [dp726]; exact Df725
                  have Sp726 : ms hp726 = (rA (rB T n s2.1) s2) := (by rw [sp726, Sf725]; exact rB_A)
                  refine tw_aload rfl rfl ?_
                  refine tw_push rfl ?_
                  refine tw_virt1 rfl (g_stands hG hX (gzp726).1 ((mFz_T gzp726).trans hT) ((mFz_n gzp726).trans hN) (q := 21) (by decide +kernel) ⟨pp726e.2.1.1, by have := pp726e.2.1; omega⟩ ⟨by have := pp726e.2.1; omega, pp726e.2.1.2.2⟩) (fun w9 h9 p727 => ?_)
                  obtain ⟨⟨p727, rfl⟩ | ⟨p727, rfl⟩, rfl⟩ := p727
                  · try dsimp only [tvI_i, tvJ_j, tvR_r] at p727
                    refine tw_istore rfl ?_
                    refine tw_iload rfl rfl ?_
                    refine tw_push rfl ?_
                    refine tw_ic_ne rfl (fun q728 => ?_) (fun q728 => ?_)
                    · try dsimp only [tvI_i, tvJ_j, tvR_r] at q728
                      have q728i := zneq (Y := 3) (by decide) q728
                      refine tw_iload rfl rfl ?_
                      refine tw_if_eq rfl (fun z => absurd z (by decide)) (fun _ => ?_)
                      refine tw_aload rfl rfl ?_
                      refine tw_getS rfl (hi_111_29 gzp726.1) ?_
                      refine tw_if_ne rfl (fun q729 => ?_) (fun q729 => ?_)
                      · try dsimp only [tvI_i, tvJ_j, tvR_r] at q729
                        have q729i := zneq (Y := 0) (by decide) q729
                        exact absurd (mP_0 pp726e) q729
                      · try dsimp only [tvI_i, tvJ_j, tvR_r] at q729
                        have q729i := zeqi (Y := 0) (by decide) q729
                        refine tw_aload rfl rfl ?_
                        refine tw_dup rfl ?_
                        refine tw_getS rfl (hi_111_28 gzp726.1) ?_
                        refine tw_push rfl ?_
                        refine tw_iadd rfl ?_
                        refine tw_put rfl (fun f730 => ?_)
                        have hw16 : rW T n (rB T n s2.1) (rWd 16) = true := by have z := p727; rw [Sp726, rA_1] at z; exact z
                        refine tG_setm f730 (hw_111_28 f730 (gzp726).1) (fun hf730 ef730 => ?_)
                        try dsimp only [tvI_i] at ef730
                        have gf730 : mFz I h hf730 := mFz_s gzp726 ef730 (Or.inl (by unfold mFs; omega))
                        have h9w : rE T n (rB T n s2.1) = rB T n s2.1 + 2 := by rw [rW_e hw16, wlen_k.2.2.2]
                        have hpB : rB T n s2.1 ≤ n := by have z := mPle pp726e ((mFz_n gzp726).trans hN); rw [Sp726, rA_1] at z; exact z
                        have hr9 := rE_le (T := T) hpB
                        rw [h9w] at hr9
                        obtain ⟨pf730, sf730, tf730⟩ := mTo pp726e ((mFz_n gzp726).trans hN) ef730 (v := rB T n s2.1 + 2) (zadN (a := rB T n s2.1) (b := 2) (by rw [mPl pp726e, Sp726, rA_1]) rfl (by omega) (by decide)) (by omega)
                        have Sf730 : ms hf730 = (rA (rB T n s2.1 + 2) s2) := by rw [sf730, Sp726, rA_A]
                        have Df730 : tvI (tF hf730 111 32) = 0 := by rw [mI_o ef730 (by decide)]; exact Dp726
                        have gwf730 : tA hf730 = tA hp726 := ef730.2.2.2.1
                        refine tw_aload rfl rfl ?_
                        refine tw_push rfl ?_
                        refine tw_virt1 rfl (g_readsR hG hX (gf730).1 pf730 ((mFz_T gf730).trans hT) ((mFz_n gf730).trans hN) (x := 0) (tst := true) (by decide) (by decide) ⟨fun _ => rfl, fun _ => rfl⟩ Df730) (fun w9 hp731 p731 => ?_)
                        obtain ⟨rfl, gp731, ⟨pp731e, dp731, mp731⟩ | ⟨ep731, Fp731, Zp731, mp731⟩⟩ := p731
                        · have gwp731 := id gp731
                          have gzp731 : mFz I h hp731 := mFz_t gf730 (mFz_w gwp731)
                          have m9 := mp731
                          rw [Sf730, show stN 0 = 0 from rfl] at m9
                          obtain ⟨hS3, s3, hs3, hr⟩ := rCl3_s K3 hw16 m9
                          have Dp731 := mSk_0 dp731 hS3
                          refine tw_aload rfl rfl ?_
                          refine tw_getS rfl (hs_111_42 gzp731.1) ?_
                          refine tw_iload rfl rfl ?_
                          refine tw_aload rfl rfl ?_
                          refine tw_getS rfl (hi_111_31 gzp731.1) ?_
                          refine tw_iast rfl (fun f732 => ?_)
                          have Lf732 : (tvI (tF hp731 111 31)).toNatClampNeg = (rA (rB T n s3.1) s3).2.2.length := by rw [← mEn_len]; exact congrArg (fun z : rS => z.2.2.length) hs3
                          refine tG_ast f732 (gzp731).1 (fun hf732 af732 => ?_)
                          try dsimp only [tvI_i, tvR_r] at af732
                          rw [hI9] at af732
                          have gf732 : mFz I h hf732 := mFz_a gzp731 af732 (by decide) (Nat.le_refl _)
                          have pf732 := mAs_P af732 (by decide) pp731e
                          have Sf732 : ms hf732 = (rA (rB T n s3.1) s3) := (mAs_m af732 (by decide)).1.trans hs3
                          have Df732 : tvI (tF hf732 111 32) = 0 := by rw [af732.2.1]; exact Dp731
                          have c135 : tA hf732 135 I = x := ((congrFun ((mAs_A af732 (q := 135) (by decide)).trans ((mFw_A gwp731 (p := 135) (by decide)).trans ((congrFun gwf730 135).trans ((mFw_A gwp726 (p := 135) (by decide)).trans ((mAs_A af725 (q := 135) (by decide)).trans ((mFw_A gwp724 (p := 135) (by decide)).trans ((mAs_A af709 (q := 135) (by decide)).trans (mAs_A af707 (q := 135) (by decide))))))))) I).trans (mAs_x af706))
                          have c137 : (tA hf732 137 I).toNatClampNeg = (rA (rE T n (rB T n (ms h).1)) (ms h)).2.2.length := by rw [((congrFun ((mAs_A af732 (q := 137) (by decide)).trans ((mFw_A gwp731 (p := 137) (by decide)).trans ((congrFun gwf730 137).trans ((mFw_A gwp726 (p := 137) (by decide)).trans ((mAs_A af725 (q := 137) (by decide)).trans (mFw_A gwp724 (p := 137) (by decide))))))) I).trans (mAs_x af709))]; exact Lf709
                          have c138 : (tA hf732 138 I).toNatClampNeg = (rA (rB T n s2.1) s2).2.2.length := by rw [((congrFun ((mAs_A af732 (q := 138) (by decide)).trans ((mFw_A gwp731 (p := 138) (by decide)).trans ((congrFun gwf730 138).trans (mFw_A gwp726 (p := 138) (by decide))))) I).trans (mAs_x af725))]; exact Lf725
                          have c139 : (tA hf732 139 I).toNatClampNeg = (rA (rB T n s3.1) s3).2.2.length := by rw [(mAs_x af732)]; exact Lf732
                          have c136 : (tA hf732 136 I).toNatClampNeg = 0 := by rw [((congrFun ((mAs_A af732 (q := 136) (by decide)).trans ((mFw_A gwp731 (p := 136) (by decide)).trans ((congrFun gwf730 136).trans ((mFw_A gwp726 (p := 136) (by decide)).trans ((mAs_A af725 (q := 136) (by decide)).trans ((mFw_A gwp724 (p := 136) (by decide)).trans (mAs_A af709 (q := 136) (by decide)))))))) I).trans (mAs_x af707))]; rfl
                          have hrow : mRow hf732 I = ((k + 12), (rA (rE T n (rB T n (ms h).1)) (ms h)).2.2.length, (rA (rB T n s2.1) s2).2.2.length, (rA (rB T n s3.1) s3).2.2.length) := by
                            unfold mRow
                            rw [c135, c137, c138, c139, zof_cl hx, c136, if_neg (fun y => by have z := q708i; have y := y.1; omega), Nat.mul_zero, Nat.add_zero, Nat.add_comm]
                          exact tw_vret rfl ⟨rfl, gf732, mCo_r hr pf732 Sf732 Df732 hrow⟩
                        · have gwp731 := id gp731
                          have gzp731 : mFz I h hp731 := mFz_t gf730 (mFz_w gwp731)
                          have m9 := mp731
                          rw [Sf730, show stN 0 = 0 from rfl] at m9
                          have hr := rCl3_e K3 hw16 m9
                          refine tw_aload rfl rfl ?_
                          refine tw_getS rfl (hs_111_42 gzp731.1) ?_
                          refine tw_iload rfl rfl ?_
                          refine tw_aload rfl rfl ?_
                          refine tw_getS rfl (hi_111_31 gzp731.1) ?_
                          refine tw_iast rfl (fun f733 => ?_)
                          refine tG_ast f733 (gzp731).1 (fun hf733 af733 => ?_)
                          try dsimp only [tvI_i, tvR_r] at af733
                          rw [hI9] at af733
                          have gf733 : mFz I h hf733 := mFz_a gzp731 af733 (by decide) (Nat.le_refl _)
                          have Ff733 := mAs_F af733 Fp731
                          have Zf733 := mAs_Z af733 Zp731
                          exact tw_vret rfl ⟨rfl, gf733, mCo_l hr Ff733 Zf733⟩
                    · try dsimp only [tvI_i, tvJ_j, tvR_r] at q728
                      have q728i := zeqi (Y := 3) (by decide) q728
                      exact absurd q728 q710
                  · try dsimp only [tvI_i, tvJ_j, tvR_r] at p727
                    refine tw_istore rfl ?_
                    refine tw_iload rfl rfl ?_
                    refine tw_push rfl ?_
                    refine tw_ic_ne rfl (fun q734 => ?_) (fun q734 => ?_)
                    · try dsimp only [tvI_i, tvJ_j, tvR_r] at q734
                      have q734i := zneq (Y := 3) (by decide) q734
                      refine tw_iload rfl rfl ?_
                      refine tw_if_eq rfl (fun _ => ?_) (fun z => absurd z (by decide))
                      refine tw_aload rfl rfl ?_
                      refine tw_getS rfl (hs_111_42 gzp726.1) ?_
                      refine tw_iload rfl rfl ?_
                      refine tw_aload rfl rfl ?_
                      refine tw_getS rfl (hi_111_31 gzp726.1) ?_
                      refine tw_iast rfl (fun f735 => ?_)
                      have Lf735 : (tvI (tF hp726 111 31)).toNatClampNeg = (rA (rB T n s2.1) s2).2.2.length := by rw [← mEn_len]; exact congrArg (fun z : rS => z.2.2.length) Sp726
                      refine tG_ast f735 (gzp726).1 (fun hf735 af735 => ?_)
                      try dsimp only [tvI_i, tvR_r] at af735
                      rw [hI9] at af735
                      have gf735 : mFz I h hf735 := mFz_a gzp726 af735 (by decide) (Nat.le_refl _)
                      have pf735 := mAs_P af735 (by decide) pp726e
                      have Sf735 : ms hf735 = (rA (rB T n s2.1) s2) := (mAs_m af735 (by decide)).1.trans Sp726
                      have Df735 : tvI (tF hf735 111 32) = 0 := by rw [af735.2.1]; exact Dp726
                      have hw16 : ¬ rW T n (rB T n s2.1) (rWd 16) = true := by have z := p727; rw [Sp726, rA_1] at z; exact z
                      have hr := rCl3_2 K3 hw16 (by have z := q734i; omega)
                      have c135 : tA hf735 135 I = x := ((congrFun ((mAs_A af735 (q := 135) (by decide)).trans ((mFw_A gwp726 (p := 135) (by decide)).trans ((mAs_A af725 (q := 135) (by decide)).trans ((mFw_A gwp724 (p := 135) (by decide)).trans ((mAs_A af709 (q := 135) (by decide)).trans (mAs_A af707 (q := 135) (by decide))))))) I).trans (mAs_x af706))
                      have c137 : (tA hf735 137 I).toNatClampNeg = (rA (rE T n (rB T n (ms h).1)) (ms h)).2.2.length := by rw [((congrFun ((mAs_A af735 (q := 137) (by decide)).trans ((mFw_A gwp726 (p := 137) (by decide)).trans ((mAs_A af725 (q := 137) (by decide)).trans (mFw_A gwp724 (p := 137) (by decide))))) I).trans (mAs_x af709))]; exact Lf709
                      have c138 : (tA hf735 138 I).toNatClampNeg = (rA (rB T n s2.1) s2).2.2.length := by rw [((congrFun ((mAs_A af735 (q := 138) (by decide)).trans (mFw_A gwp726 (p := 138) (by decide))) I).trans (mAs_x af725))]; exact Lf725
                      have c139 : (tA hf735 139 I).toNatClampNeg = (rA (rB T n s2.1) s2).2.2.length := by rw [(mAs_x af735)]; exact Lf735
                      have c136 : (tA hf735 136 I).toNatClampNeg = 0 := by rw [((congrFun ((mAs_A af735 (q := 136) (by decide)).trans ((mFw_A gwp726 (p := 136) (by decide)).trans ((mAs_A af725 (q := 136) (by decide)).trans ((mFw_A gwp724 (p := 136) (by decide)).trans (mAs_A af709 (q := 136) (by decide)))))) I).trans (mAs_x af707))]; rfl
                      have hrow : mRow hf735 I = ((k + 12), (rA (rE T n (rB T n (ms h).1)) (ms h)).2.2.length, (rA (rB T n s2.1) s2).2.2.length, (rA (rB T n s2.1) s2).2.2.length) := by
                        unfold mRow
                        rw [c135, c137, c138, c139, zof_cl hx, c136, if_neg (fun y => by have z := q708i; have y := y.1; omega), Nat.mul_zero, Nat.add_zero, Nat.add_comm]
                      exact tw_vret rfl ⟨rfl, gf735, mCo_r hr pf735 (Sf735.trans rB_A.symm) Df735 hrow⟩
                    · try dsimp only [tvI_i, tvJ_j, tvR_r] at q734
                      have q734i := zeqi (Y := 3) (by decide) q734
                      exact absurd q734 q710
                · have gwp724 := id gp724
                  have gzp724 : mFz I h hp724 := mFz_t gf709 (mFz_w gwp724)
                  have m9 := mp724
                  rw [Sf709, show stN 1 = 1 from rfl] at m9
                  have hr := rCl2_e K2 (by have z := q710i; omega) m9
                  refine tw_aload rfl rfl ?_
                  refine tw_getS rfl (hs_111_41 gzp724.1) ?_
                  refine tw_iload rfl rfl ?_
                  refine tw_aload rfl rfl ?_
                  refine tw_getS rfl (hi_111_31 gzp724.1) ?_
                  refine tw_iast rfl (fun f736 => ?_)
                  refine tG_ast f736 (gzp724).1 (fun hf736 af736 => ?_)
                  try dsimp only [tvI_i, tvR_r] at af736
                  rw [hI9] at af736
                  have gf736 : mFz I h hf736 := mFz_a gzp724 af736 (by decide) (Nat.le_refl _)
                  have Ff736 := mAs_F af736 Fp724
                  have Zf736 := mAs_Z af736 Zp724
                  refine tw_aload rfl rfl ?_
                  refine tw_virt0 rfl (y_blanks hG hX (gf736).1 Ff736 ((mFz_T gf736).trans hT) ((mFz_n gf736).trans hN) Zf736) (fun wp737 hp737 p737 => ?_)
                  obtain ⟨rfl, gp737, Fp737, Zp737⟩ := p737
                  have gwp737 := mFw_f gp737
                  have gzp737 : mFz I h hp737 := mFz_t gf736 (mFz_w gwp737)
                  refine tw_aload rfl rfl ?_
                  refine tw_push rfl ?_
                  refine tw_virt1 rfl (g_stands hG hX (gzp737).1 ((mFz_T gzp737).trans hT) ((mFz_n gzp737).trans hN) (q := 21) (by decide +kernel) Zp737.1 ⟨by have := Zp737.2; omega, Zp737.2.2⟩) (fun w9 h9 p738 => ?_)
                  obtain ⟨⟨p738, rfl⟩ | ⟨p738, rfl⟩, rfl⟩ := p738
                  · try dsimp only [tvI_i, tvJ_j, tvR_r] at p738
                    refine tw_istore rfl ?_
                    refine tw_iload rfl rfl ?_
                    refine tw_push rfl ?_
                    refine tw_ic_ne rfl (fun q739 => ?_) (fun q739 => ?_)
                    · try dsimp only [tvI_i, tvJ_j, tvR_r] at q739
                      have q739i := zneq (Y := 3) (by decide) q739
                      refine tw_iload rfl rfl ?_
                      refine tw_if_eq rfl (fun z => absurd z (by decide)) (fun _ => ?_)
                      refine tw_aload rfl rfl ?_
                      refine tw_getS rfl (hi_111_29 gzp737.1) ?_
                      refine tw_if_ne rfl (fun q740 => ?_) (fun q740 => ?_)
                      · try dsimp only [tvI_i, tvJ_j, tvR_r] at q740
                        have q740i := zneq (Y := 0) (by decide) q740
                        refine tw_aload rfl rfl ?_
                        refine tw_getS rfl (hs_111_42 gzp737.1) ?_
                        refine tw_iload rfl rfl ?_
                        refine tw_aload rfl rfl ?_
                        refine tw_getS rfl (hi_111_31 gzp737.1) ?_
                        refine tw_iast rfl (fun f741 => ?_)
                        refine tG_ast f741 (gzp737).1 (fun hf741 af741 => ?_)
                        try dsimp only [tvI_i, tvR_r] at af741
                        rw [hI9] at af741
                        have gf741 : mFz I h hf741 := mFz_a gzp737 af741 (by decide) (Nat.le_refl _)
                        have Ff741 := mAs_F af741 Fp737
                        have Zf741 := mAs_Z af741 Zp737
                        exact tw_vret rfl ⟨rfl, gf741, mCo_l hr Ff741 Zf741⟩
                      · try dsimp only [tvI_i, tvJ_j, tvR_r] at q740
                        have q740i := zeqi (Y := 0) (by decide) q740
                        exact absurd q740 (mFt_n Fp737)
                    · try dsimp only [tvI_i, tvJ_j, tvR_r] at q739
                      have q739i := zeqi (Y := 3) (by decide) q739
                      exact absurd q739 q710
                  · try dsimp only [tvI_i, tvJ_j, tvR_r] at p738
                    refine tw_istore rfl ?_
                    refine tw_iload rfl rfl ?_
                    refine tw_push rfl ?_
                    refine tw_ic_ne rfl (fun q742 => ?_) (fun q742 => ?_)
                    · try dsimp only [tvI_i, tvJ_j, tvR_r] at q742
                      have q742i := zneq (Y := 3) (by decide) q742
                      refine tw_iload rfl rfl ?_
                      refine tw_if_eq rfl (fun _ => ?_) (fun z => absurd z (by decide))
                      refine tw_aload rfl rfl ?_
                      refine tw_getS rfl (hs_111_42 gzp737.1) ?_
                      refine tw_iload rfl rfl ?_
                      refine tw_aload rfl rfl ?_
                      refine tw_getS rfl (hi_111_31 gzp737.1) ?_
                      refine tw_iast rfl (fun f743 => ?_)
                      refine tG_ast f743 (gzp737).1 (fun hf743 af743 => ?_)
                      try dsimp only [tvI_i, tvR_r] at af743
                      rw [hI9] at af743
                      have gf743 : mFz I h hf743 := mFz_a gzp737 af743 (by decide) (Nat.le_refl _)
                      have Ff743 := mAs_F af743 Fp737
                      have Zf743 := mAs_Z af743 Zp737
                      exact tw_vret rfl ⟨rfl, gf743, mCo_l hr Ff743 Zf743⟩
                    · try dsimp only [tvI_i, tvJ_j, tvR_r] at q742
                      have q742i := zeqi (Y := 3) (by decide) q742
                      exact absurd q742 q710
          · try dsimp only [tvI_i, tvJ_j, tvR_r] at q708
            have q708i := zeqi (Y := 0) (by decide) q708
            refine tw_aload rfl rfl ?_
            refine tw_virt0 rfl (g_blanks hG hX (gf707).1 pf707 ((mFz_T gf707).trans hT) ((mFz_n gf707).trans hN)) (fun wp744 hp744 p744 => ?_)
            obtain ⟨rfl, gp744, pp744e, sp744, tp744, dp744⟩ := p744
            have gwp744 := mFw_f gp744
            have gzp744 : mFz I h hp744 := mFz_t gf707 (mFz_w gwp744)
            have Dp744 : tvI (tF hp744 111 32) = 0 := by rw [dp744]; exact Df707
            have Sp744 : ms hp744 = (rA (rB T n (rA (rE T n (rB T n (ms h).1)) (ms h)).1) (rA (rE T n (rB T n (ms h).1)) (ms h))) := (by rw [sp744, Sf707])
            refine tw_aload rfl rfl ?_
            refine tw_getS rfl (hs_111_39 gzp744.1) ?_
            refine tw_iload rfl rfl ?_
            refine tw_aload rfl rfl ?_
            refine tw_push rfl ?_
            refine tw_virt1 rfl (g_digits hG hX (gzp744).1 pp744e ((mFz_T gzp744).trans hT) ((mFz_n gzp744).trans hN) (m := 2) (M := 2) rfl (by decide) (by rw [Sp744, rA_1]; exact rB_2)) (fun w9 hp745 p745 => ?_)
            obtain ⟨gp745, ⟨vp745, Np745, rfl, pp745e, sp745, tp745, dp745⟩ | ⟨ep745, xp745, Np745, rfl, x0p745, Fp745, Zp745⟩⟩ := p745
            · have gwp745 := mFw_f gp745
              have gzp745 : mFz I h hp745 := mFz_t gzp744 (mFz_w gwp745)
              have Dp745 : tvI (tF hp745 111 32) = 0 := by rw [dp745]; exact Dp744
              have Sp745 : ms hp745 = (rA vp745.1 (rA (rE T n (rB T n (ms h).1)) (ms h))) := by rw [sp745, Sp744, rA_A, rA_A]
              have K2 : rCl2 T n (k + 12) vp745.2 (rA vp745.1 (rA (rE T n (rB T n (ms h).1)) (ms h))) r := by
                have y := rCl1_q K1 (by have z := q708i; omega) (q := vp745) (by rw [← rM_bb]; have z := Np745; rw [Sp744, rA_1] at z; exact z)
                exact y
              have hv2 : vp745.2 ≤ 2 := (rM_r (rE_le (rB_le hpn)) (by rw [← rM_bb]; have z := Np745; rw [Sp744, rA_1] at z; exact z)).2.2
              refine tw_iast rfl (fun f746 => ?_)
              refine tG_ast f746 (gzp745).1 (fun hf746 af746 => ?_)
              try dsimp only [tvI_i, tvR_r] at af746
              rw [hI9] at af746
              have gf746 : mFz I h hf746 := mFz_a gzp745 af746 (by decide) (Nat.le_refl _)
              have pf746 := mAs_P af746 (by decide) pp745e
              have Sf746 : ms hf746 = (rA vp745.1 (rA (rE T n (rB T n (ms h).1)) (ms h))) := (mAs_m af746 (by decide)).1.trans Sp745
              have Df746 : tvI (tF hf746 111 32) = 0 := by rw [af746.2.1]; exact Dp745
              refine tw_aload rfl rfl ?_
              refine tw_getS rfl (hs_111_40 (gf746).1) ?_
              refine tw_iload rfl rfl ?_
              refine tw_aload rfl rfl ?_
              refine tw_getS rfl (hi_111_31 (gf746).1) ?_
              refine tw_iast rfl (fun f747 => ?_)
              have Lf747 : (tvI (tF hf746 111 31)).toNatClampNeg = (rA vp745.1 (rA (rE T n (rB T n (ms h).1)) (ms h))).2.2.length := by rw [← mEn_len]; exact congrArg (fun z : rS => z.2.2.length) Sf746
              refine tG_ast f747 (gf746).1 (fun hf747 af747 => ?_)
              try dsimp only [tvI_i, tvR_r] at af747
              rw [hI9] at af747
              have gf747 : mFz I h hf747 := mFz_a gf746 af747 (by decide) (Nat.le_refl _)
              have pf747 := mAs_P af747 (by decide) pf746
              have Sf747 : ms hf747 = (rA vp745.1 (rA (rE T n (rB T n (ms h).1)) (ms h))) := (mAs_m af747 (by decide)).1.trans Sf746
              have Df747 : tvI (tF hf747 111 32) = 0 := by rw [af747.2.1]; exact Df746
              refine tw_iload rfl rfl ?_
              refine tw_push rfl ?_
              refine tw_ic_eq rfl (fun q748 => ?_) (fun q748 => ?_)
              · try dsimp only [tvI_i, tvJ_j, tvR_r] at q748
                have q748i := zeqi (Y := 3) (by decide) q748
                exfalso
                have z1 := q708i
                have z2 := q748i
                omega
              · try dsimp only [tvI_i, tvJ_j, tvR_r] at q748
                have q748i := zneq (Y := 3) (by decide) q748
                refine tw_aload rfl rfl ?_
                refine tw_getS rfl (hi_111_29 (gf747).1) ?_
                refine tw_if_ne rfl (fun q749 => ?_) (fun q749 => ?_)
                · try dsimp only [tvI_i, tvJ_j, tvR_r] at q749
                  have q749i := zneq (Y := 0) (by decide) q749
                  exact absurd (mP_0 pf747) q749
                · try dsimp only [tvI_i, tvJ_j, tvR_r] at q749
                  have q749i := zeqi (Y := 0) (by decide) q749
                  refine tw_aload rfl rfl ?_
                  refine tw_push rfl ?_
                  refine tw_virt1 rfl (g_readsR hG hX (gf747).1 pf747 ((mFz_T gf747).trans hT) ((mFz_n gf747).trans hN) (x := 1) (tst := false) (by decide) (by decide) ⟨fun z => absurd z (by decide), fun z => absurd z (by decide)⟩ Df747) (fun w9 hp750 p750 => ?_)
                  obtain ⟨rfl, gp750, ⟨pp750e, dp750, mp750⟩ | ⟨ep750, Fp750, Zp750, mp750⟩⟩ := p750
                  · have gwp750 := id gp750
                    have gzp750 : mFz I h hp750 := mFz_t gf747 (mFz_w gwp750)
                    have m9 := mp750
                    rw [Sf747, show stN 1 = 1 from rfl] at m9
                    obtain ⟨hS, s2, hs2, K3⟩ := rCl2_s K2 (by have z := q748i; omega) m9
                    have Dp750 := mSk_0 dp750 hS
                    refine tw_aload rfl rfl ?_
                    refine tw_getS rfl (hs_111_41 gzp750.1) ?_
                    refine tw_iload rfl rfl ?_
                    refine tw_aload rfl rfl ?_
                    refine tw_getS rfl (hi_111_31 gzp750.1) ?_
                    refine tw_iast rfl (fun f751 => ?_)
                    have Lf751 : (tvI (tF hp750 111 31)).toNatClampNeg = (rA (rB T n s2.1) s2).2.2.length := by rw [← mEn_len]; exact congrArg (fun z : rS => z.2.2.length) hs2
                    refine tG_ast f751 (gzp750).1 (fun hf751 af751 => ?_)
                    try dsimp only [tvI_i, tvR_r] at af751
                    rw [hI9] at af751
                    have gf751 : mFz I h hf751 := mFz_a gzp750 af751 (by decide) (Nat.le_refl _)
                    have pf751 := mAs_P af751 (by decide) pp750e
                    have Sf751 : ms hf751 = (rA (rB T n s2.1) s2) := (mAs_m af751 (by decide)).1.trans hs2
                    have Df751 : tvI (tF hf751 111 32) = 0 := by rw [af751.2.1]; exact Dp750
                    refine tw_aload rfl rfl ?_
                    refine tw_virt0 rfl (g_blanks hG hX (gf751).1 pf751 ((mFz_T gf751).trans hT) ((mFz_n gf751).trans hN)) (fun wp752 hp752 p752 => ?_)
                    obtain ⟨rfl, gp752, pp752e, sp752, tp752, dp752⟩ := p752
                    have gwp752 := mFw_f gp752
                    have gzp752 : mFz I h hp752 := mFz_t gf751 (mFz_w gwp752)
                    have Dp752 : tvI (tF hp752 111 32) = 0 := by rw [dp752]; exact Df751
                    have Sp752 : ms hp752 = (rA (rB T n s2.1) s2) := (by rw [sp752, Sf751]; exact rB_A)
                    refine tw_aload rfl rfl ?_
                    refine tw_push rfl ?_
                    refine tw_virt1 rfl (g_stands hG hX (gzp752).1 ((mFz_T gzp752).trans hT) ((mFz_n gzp752).trans hN) (q := 21) (by decide +kernel) ⟨pp752e.2.1.1, by have := pp752e.2.1; omega⟩ ⟨by have := pp752e.2.1; omega, pp752e.2.1.2.2⟩) (fun w9 h9 p753 => ?_)
                    obtain ⟨⟨p753, rfl⟩ | ⟨p753, rfl⟩, rfl⟩ := p753
                    · try dsimp only [tvI_i, tvJ_j, tvR_r] at p753
                      refine tw_istore rfl ?_
                      refine tw_iload rfl rfl ?_
                      refine tw_push rfl ?_
                      refine tw_ic_ne rfl (fun q754 => ?_) (fun q754 => ?_)
                      · try dsimp only [tvI_i, tvJ_j, tvR_r] at q754
                        have q754i := zneq (Y := 3) (by decide) q754
                        refine tw_iload rfl rfl ?_
                        refine tw_if_eq rfl (fun z => absurd z (by decide)) (fun _ => ?_)
                        refine tw_aload rfl rfl ?_
                        refine tw_getS rfl (hi_111_29 gzp752.1) ?_
                        refine tw_if_ne rfl (fun q755 => ?_) (fun q755 => ?_)
                        · try dsimp only [tvI_i, tvJ_j, tvR_r] at q755
                          have q755i := zneq (Y := 0) (by decide) q755
                          exact absurd (mP_0 pp752e) q755
                        · try dsimp only [tvI_i, tvJ_j, tvR_r] at q755
                          have q755i := zeqi (Y := 0) (by decide) q755
                          refine tw_aload rfl rfl ?_
                          refine tw_dup rfl ?_
                          refine tw_getS rfl (hi_111_28 gzp752.1) ?_
                          refine tw_push rfl ?_
                          refine tw_iadd rfl ?_
                          refine tw_put rfl (fun f756 => ?_)
                          have hw16 : rW T n (rB T n s2.1) (rWd 16) = true := by have z := p753; rw [Sp752, rA_1] at z; exact z
                          refine tG_setm f756 (hw_111_28 f756 (gzp752).1) (fun hf756 ef756 => ?_)
                          try dsimp only [tvI_i] at ef756
                          have gf756 : mFz I h hf756 := mFz_s gzp752 ef756 (Or.inl (by unfold mFs; omega))
                          have h9w : rE T n (rB T n s2.1) = rB T n s2.1 + 2 := by rw [rW_e hw16, wlen_k.2.2.2]
                          have hpB : rB T n s2.1 ≤ n := by have z := mPle pp752e ((mFz_n gzp752).trans hN); rw [Sp752, rA_1] at z; exact z
                          have hr9 := rE_le (T := T) hpB
                          rw [h9w] at hr9
                          obtain ⟨pf756, sf756, tf756⟩ := mTo pp752e ((mFz_n gzp752).trans hN) ef756 (v := rB T n s2.1 + 2) (zadN (a := rB T n s2.1) (b := 2) (by rw [mPl pp752e, Sp752, rA_1]) rfl (by omega) (by decide)) (by omega)
                          have Sf756 : ms hf756 = (rA (rB T n s2.1 + 2) s2) := by rw [sf756, Sp752, rA_A]
                          have Df756 : tvI (tF hf756 111 32) = 0 := by rw [mI_o ef756 (by decide)]; exact Dp752
                          have gwf756 : tA hf756 = tA hp752 := ef756.2.2.2.1
                          refine tw_aload rfl rfl ?_
                          refine tw_push rfl ?_
                          refine tw_virt1 rfl (g_readsR hG hX (gf756).1 pf756 ((mFz_T gf756).trans hT) ((mFz_n gf756).trans hN) (x := 0) (tst := true) (by decide) (by decide) ⟨fun _ => rfl, fun _ => rfl⟩ Df756) (fun w9 hp757 p757 => ?_)
                          obtain ⟨rfl, gp757, ⟨pp757e, dp757, mp757⟩ | ⟨ep757, Fp757, Zp757, mp757⟩⟩ := p757
                          · have gwp757 := id gp757
                            have gzp757 : mFz I h hp757 := mFz_t gf756 (mFz_w gwp757)
                            have m9 := mp757
                            rw [Sf756, show stN 0 = 0 from rfl] at m9
                            obtain ⟨hS3, s3, hs3, hr⟩ := rCl3_s K3 hw16 m9
                            have Dp757 := mSk_0 dp757 hS3
                            refine tw_aload rfl rfl ?_
                            refine tw_getS rfl (hs_111_42 gzp757.1) ?_
                            refine tw_iload rfl rfl ?_
                            refine tw_aload rfl rfl ?_
                            refine tw_getS rfl (hi_111_31 gzp757.1) ?_
                            refine tw_iast rfl (fun f758 => ?_)
                            have Lf758 : (tvI (tF hp757 111 31)).toNatClampNeg = (rA (rB T n s3.1) s3).2.2.length := by rw [← mEn_len]; exact congrArg (fun z : rS => z.2.2.length) hs3
                            refine tG_ast f758 (gzp757).1 (fun hf758 af758 => ?_)
                            try dsimp only [tvI_i, tvR_r] at af758
                            rw [hI9] at af758
                            have gf758 : mFz I h hf758 := mFz_a gzp757 af758 (by decide) (Nat.le_refl _)
                            have pf758 := mAs_P af758 (by decide) pp757e
                            have Sf758 : ms hf758 = (rA (rB T n s3.1) s3) := (mAs_m af758 (by decide)).1.trans hs3
                            have Df758 : tvI (tF hf758 111 32) = 0 := by rw [af758.2.1]; exact Dp757
                            have c135 : tA hf758 135 I = x := ((congrFun ((mAs_A af758 (q := 135) (by decide)).trans ((mFw_A gwp757 (p := 135) (by decide)).trans ((congrFun gwf756 135).trans ((mFw_A gwp752 (p := 135) (by decide)).trans ((mAs_A af751 (q := 135) (by decide)).trans ((mFw_A gwp750 (p := 135) (by decide)).trans ((mAs_A af747 (q := 135) (by decide)).trans ((mAs_A af746 (q := 135) (by decide)).trans ((mFw_A gwp745 (p := 135) (by decide)).trans ((mFw_A gwp744 (p := 135) (by decide)).trans (mAs_A af707 (q := 135) (by decide)))))))))))) I).trans (mAs_x af706))
                            have c137 : (tA hf758 137 I).toNatClampNeg = (rA vp745.1 (rA (rE T n (rB T n (ms h).1)) (ms h))).2.2.length := by rw [((congrFun ((mAs_A af758 (q := 137) (by decide)).trans ((mFw_A gwp757 (p := 137) (by decide)).trans ((congrFun gwf756 137).trans ((mFw_A gwp752 (p := 137) (by decide)).trans ((mAs_A af751 (q := 137) (by decide)).trans (mFw_A gwp750 (p := 137) (by decide))))))) I).trans (mAs_x af747))]; exact Lf747
                            have c138 : (tA hf758 138 I).toNatClampNeg = (rA (rB T n s2.1) s2).2.2.length := by rw [((congrFun ((mAs_A af758 (q := 138) (by decide)).trans ((mFw_A gwp757 (p := 138) (by decide)).trans ((congrFun gwf756 138).trans (mFw_A gwp752 (p := 138) (by decide))))) I).trans (mAs_x af751))]; exact Lf751
                            have c139 : (tA hf758 139 I).toNatClampNeg = (rA (rB T n s3.1) s3).2.2.length := by rw [(mAs_x af758)]; exact Lf758
                            have c136 : (tA hf758 136 I).toNatClampNeg = vp745.2 := by rw [((congrFun ((mAs_A af758 (q := 136) (by decide)).trans ((mFw_A gwp757 (p := 136) (by decide)).trans ((congrFun gwf756 136).trans ((mFw_A gwp752 (p := 136) (by decide)).trans ((mAs_A af751 (q := 136) (by decide)).trans ((mFw_A gwp750 (p := 136) (by decide)).trans (mAs_A af747 (q := 136) (by decide)))))))) I).trans (mAs_x af746))]; exact zoN (by omega)
                            have hrow : mRow hf758 I = (vp745.2, (rA vp745.1 (rA (rE T n (rB T n (ms h).1)) (ms h))).2.2.length, (rA (rB T n s2.1) s2).2.2.length, (rA (rB T n s3.1) s3).2.2.length) := by
                              unfold mRow
                              rw [c135, c137, c138, c139, zof_cl hx, c136, if_pos ⟨by have z := q708i; omega, by omega⟩]
                            exact tw_vret rfl ⟨rfl, gf758, mCo_r hr pf758 Sf758 Df758 hrow⟩
                          · have gwp757 := id gp757
                            have gzp757 : mFz I h hp757 := mFz_t gf756 (mFz_w gwp757)
                            have m9 := mp757
                            rw [Sf756, show stN 0 = 0 from rfl] at m9
                            have hr := rCl3_e K3 hw16 m9
                            refine tw_aload rfl rfl ?_
                            refine tw_getS rfl (hs_111_42 gzp757.1) ?_
                            refine tw_iload rfl rfl ?_
                            refine tw_aload rfl rfl ?_
                            refine tw_getS rfl (hi_111_31 gzp757.1) ?_
                            refine tw_iast rfl (fun f759 => ?_)
                            refine tG_ast f759 (gzp757).1 (fun hf759 af759 => ?_)
                            try dsimp only [tvI_i, tvR_r] at af759
                            rw [hI9] at af759
                            have gf759 : mFz I h hf759 := mFz_a gzp757 af759 (by decide) (Nat.le_refl _)
                            have Ff759 := mAs_F af759 Fp757
                            have Zf759 := mAs_Z af759 Zp757
                            exact tw_vret rfl ⟨rfl, gf759, mCo_l hr Ff759 Zf759⟩
                      · try dsimp only [tvI_i, tvJ_j, tvR_r] at q754
                        have q754i := zeqi (Y := 3) (by decide) q754
                        exfalso
                        have z1 := q708i
                        have z2 := q754i
                        omega
                    · try dsimp only [tvI_i, tvJ_j, tvR_r] at p753
                      refine tw_istore rfl ?_
                      refine tw_iload rfl rfl ?_
                      refine tw_push rfl ?_
                      refine tw_ic_ne rfl (fun q760 => ?_) (fun q760 => ?_)
                      · try dsimp only [tvI_i, tvJ_j, tvR_r] at q760
                        have q760i := zneq (Y := 3) (by decide) q760
                        refine tw_iload rfl rfl ?_
                        refine tw_if_eq rfl (fun _ => ?_) (fun z => absurd z (by decide))
                        refine tw_aload rfl rfl ?_
                        refine tw_getS rfl (hs_111_42 gzp752.1) ?_
                        refine tw_iload rfl rfl ?_
                        refine tw_aload rfl rfl ?_
                        refine tw_getS rfl (hi_111_31 gzp752.1) ?_
                        refine tw_iast rfl (fun f761 => ?_)
                        have Lf761 : (tvI (tF hp752 111 31)).toNatClampNeg = (rA (rB T n s2.1) s2).2.2.length := by rw [← mEn_len]; exact congrArg (fun z : rS => z.2.2.length) Sp752
                        refine tG_ast f761 (gzp752).1 (fun hf761 af761 => ?_)
                        try dsimp only [tvI_i, tvR_r] at af761
                        rw [hI9] at af761
                        have gf761 : mFz I h hf761 := mFz_a gzp752 af761 (by decide) (Nat.le_refl _)
                        have pf761 := mAs_P af761 (by decide) pp752e
                        have Sf761 : ms hf761 = (rA (rB T n s2.1) s2) := (mAs_m af761 (by decide)).1.trans Sp752
                        have Df761 : tvI (tF hf761 111 32) = 0 := by rw [af761.2.1]; exact Dp752
                        have hw16 : ¬ rW T n (rB T n s2.1) (rWd 16) = true := by have z := p753; rw [Sp752, rA_1] at z; exact z
                        have hr := rCl3_2 K3 hw16 (by have z := q760i; omega)
                        have c135 : tA hf761 135 I = x := ((congrFun ((mAs_A af761 (q := 135) (by decide)).trans ((mFw_A gwp752 (p := 135) (by decide)).trans ((mAs_A af751 (q := 135) (by decide)).trans ((mFw_A gwp750 (p := 135) (by decide)).trans ((mAs_A af747 (q := 135) (by decide)).trans ((mAs_A af746 (q := 135) (by decide)).trans ((mFw_A gwp745 (p := 135) (by decide)).trans ((mFw_A gwp744 (p := 135) (by decide)).trans (mAs_A af707 (q := 135) (by decide)))))))))) I).trans (mAs_x af706))
                        have c137 : (tA hf761 137 I).toNatClampNeg = (rA vp745.1 (rA (rE T n (rB T n (ms h).1)) (ms h))).2.2.length := by rw [((congrFun ((mAs_A af761 (q := 137) (by decide)).trans ((mFw_A gwp752 (p := 137) (by decide)).trans ((mAs_A af751 (q := 137) (by decide)).trans (mFw_A gwp750 (p := 137) (by decide))))) I).trans (mAs_x af747))]; exact Lf747
                        have c138 : (tA hf761 138 I).toNatClampNeg = (rA (rB T n s2.1) s2).2.2.length := by rw [((congrFun ((mAs_A af761 (q := 138) (by decide)).trans (mFw_A gwp752 (p := 138) (by decide))) I).trans (mAs_x af751))]; exact Lf751
                        have c139 : (tA hf761 139 I).toNatClampNeg = (rA (rB T n s2.1) s2).2.2.length := by rw [(mAs_x af761)]; exact Lf761
                        have c136 : (tA hf761 136 I).toNatClampNeg = vp745.2 := by rw [((congrFun ((mAs_A af761 (q := 136) (by decide)).trans ((mFw_A gwp752 (p := 136) (by decide)).trans ((mAs_A af751 (q := 136) (by decide)).trans ((mFw_A gwp750 (p := 136) (by decide)).trans (mAs_A af747 (q := 136) (by decide)))))) I).trans (mAs_x af746))]; exact zoN (by omega)
                        have hrow : mRow hf761 I = (vp745.2, (rA vp745.1 (rA (rE T n (rB T n (ms h).1)) (ms h))).2.2.length, (rA (rB T n s2.1) s2).2.2.length, (rA (rB T n s2.1) s2).2.2.length) := by
                          unfold mRow
                          rw [c135, c137, c138, c139, zof_cl hx, c136, if_pos ⟨by have z := q708i; omega, by omega⟩]
                        exact tw_vret rfl ⟨rfl, gf761, mCo_r hr pf761 (Sf761.trans rB_A.symm) Df761 hrow⟩
                      · try dsimp only [tvI_i, tvJ_j, tvR_r] at q760
                        have q760i := zeqi (Y := 3) (by decide) q760
                        exfalso
                        have z1 := q708i
                        have z2 := q760i
                        omega
                  · have gwp750 := id gp750
                    have gzp750 : mFz I h hp750 := mFz_t gf747 (mFz_w gwp750)
                    have m9 := mp750
                    rw [Sf747, show stN 1 = 1 from rfl] at m9
                    have hr := rCl2_e K2 (by have z := q748i; omega) m9
                    refine tw_aload rfl rfl ?_
                    refine tw_getS rfl (hs_111_41 gzp750.1) ?_
                    refine tw_iload rfl rfl ?_
                    refine tw_aload rfl rfl ?_
                    refine tw_getS rfl (hi_111_31 gzp750.1) ?_
                    refine tw_iast rfl (fun f762 => ?_)
                    refine tG_ast f762 (gzp750).1 (fun hf762 af762 => ?_)
                    try dsimp only [tvI_i, tvR_r] at af762
                    rw [hI9] at af762
                    have gf762 : mFz I h hf762 := mFz_a gzp750 af762 (by decide) (Nat.le_refl _)
                    have Ff762 := mAs_F af762 Fp750
                    have Zf762 := mAs_Z af762 Zp750
                    refine tw_aload rfl rfl ?_
                    refine tw_virt0 rfl (y_blanks hG hX (gf762).1 Ff762 ((mFz_T gf762).trans hT) ((mFz_n gf762).trans hN) Zf762) (fun wp763 hp763 p763 => ?_)
                    obtain ⟨rfl, gp763, Fp763, Zp763⟩ := p763
                    have gwp763 := mFw_f gp763
                    have gzp763 : mFz I h hp763 := mFz_t gf762 (mFz_w gwp763)
                    refine tw_aload rfl rfl ?_
                    refine tw_push rfl ?_
                    refine tw_virt1 rfl (g_stands hG hX (gzp763).1 ((mFz_T gzp763).trans hT) ((mFz_n gzp763).trans hN) (q := 21) (by decide +kernel) Zp763.1 ⟨by have := Zp763.2; omega, Zp763.2.2⟩) (fun w9 h9 p764 => ?_)
                    obtain ⟨⟨p764, rfl⟩ | ⟨p764, rfl⟩, rfl⟩ := p764
                    · try dsimp only [tvI_i, tvJ_j, tvR_r] at p764
                      refine tw_istore rfl ?_
                      refine tw_iload rfl rfl ?_
                      refine tw_push rfl ?_
                      refine tw_ic_ne rfl (fun q765 => ?_) (fun q765 => ?_)
                      · try dsimp only [tvI_i, tvJ_j, tvR_r] at q765
                        have q765i := zneq (Y := 3) (by decide) q765
                        refine tw_iload rfl rfl ?_
                        refine tw_if_eq rfl (fun z => absurd z (by decide)) (fun _ => ?_)
                        refine tw_aload rfl rfl ?_
                        refine tw_getS rfl (hi_111_29 gzp763.1) ?_
                        refine tw_if_ne rfl (fun q766 => ?_) (fun q766 => ?_)
                        · try dsimp only [tvI_i, tvJ_j, tvR_r] at q766
                          have q766i := zneq (Y := 0) (by decide) q766
                          refine tw_aload rfl rfl ?_
                          refine tw_getS rfl (hs_111_42 gzp763.1) ?_
                          refine tw_iload rfl rfl ?_
                          refine tw_aload rfl rfl ?_
                          refine tw_getS rfl (hi_111_31 gzp763.1) ?_
                          refine tw_iast rfl (fun f767 => ?_)
                          refine tG_ast f767 (gzp763).1 (fun hf767 af767 => ?_)
                          try dsimp only [tvI_i, tvR_r] at af767
                          rw [hI9] at af767
                          have gf767 : mFz I h hf767 := mFz_a gzp763 af767 (by decide) (Nat.le_refl _)
                          have Ff767 := mAs_F af767 Fp763
                          have Zf767 := mAs_Z af767 Zp763
                          exact tw_vret rfl ⟨rfl, gf767, mCo_l hr Ff767 Zf767⟩
                        · try dsimp only [tvI_i, tvJ_j, tvR_r] at q766
                          have q766i := zeqi (Y := 0) (by decide) q766
                          exact absurd q766 (mFt_n Fp763)
                      · try dsimp only [tvI_i, tvJ_j, tvR_r] at q765
                        have q765i := zeqi (Y := 3) (by decide) q765
                        exfalso
                        have z1 := q708i
                        have z2 := q765i
                        omega
                    · try dsimp only [tvI_i, tvJ_j, tvR_r] at p764
                      refine tw_istore rfl ?_
                      refine tw_iload rfl rfl ?_
                      refine tw_push rfl ?_
                      refine tw_ic_ne rfl (fun q768 => ?_) (fun q768 => ?_)
                      · try dsimp only [tvI_i, tvJ_j, tvR_r] at q768
                        have q768i := zneq (Y := 3) (by decide) q768
                        refine tw_iload rfl rfl ?_
                        refine tw_if_eq rfl (fun _ => ?_) (fun z => absurd z (by decide))
                        refine tw_aload rfl rfl ?_
                        refine tw_getS rfl (hs_111_42 gzp763.1) ?_
                        refine tw_iload rfl rfl ?_
                        refine tw_aload rfl rfl ?_
                        refine tw_getS rfl (hi_111_31 gzp763.1) ?_
                        refine tw_iast rfl (fun f769 => ?_)
                        refine tG_ast f769 (gzp763).1 (fun hf769 af769 => ?_)
                        try dsimp only [tvI_i, tvR_r] at af769
                        rw [hI9] at af769
                        have gf769 : mFz I h hf769 := mFz_a gzp763 af769 (by decide) (Nat.le_refl _)
                        have Ff769 := mAs_F af769 Fp763
                        have Zf769 := mAs_Z af769 Zp763
                        exact tw_vret rfl ⟨rfl, gf769, mCo_l hr Ff769 Zf769⟩
                      · try dsimp only [tvI_i, tvJ_j, tvR_r] at q768
                        have q768i := zeqi (Y := 3) (by decide) q768
                        exfalso
                        have z1 := q708i
                        have z2 := q768i
                        omega
            · have gwp745 := mFw_f gp745
              have gzp745 : mFz I h hp745 := mFz_t gzp744 (mFz_w gwp745)
              have hr : r = .inl ep745 := rCl1_e K1 (by have z := q708i; omega) (by rw [← rM_bb]; have z := Np745; rw [Sp744, rA_1] at z; exact z)
              refine tw_iast rfl (fun f770 => ?_)
              refine tG_ast f770 (gzp745).1 (fun hf770 af770 => ?_)
              try dsimp only [tvI_i, tvR_r] at af770
              rw [hI9] at af770
              have gf770 : mFz I h hf770 := mFz_a gzp745 af770 (by decide) (Nat.le_refl _)
              have Ff770 := mAs_F af770 Fp745
              have Zf770 := mAs_Z af770 Zp745
              refine tw_aload rfl rfl ?_
              refine tw_getS rfl (hs_111_40 (gf770).1) ?_
              refine tw_iload rfl rfl ?_
              refine tw_aload rfl rfl ?_
              refine tw_getS rfl (hi_111_31 (gf770).1) ?_
              refine tw_iast rfl (fun f771 => ?_)
              refine tG_ast f771 (gf770).1 (fun hf771 af771 => ?_)
              try dsimp only [tvI_i, tvR_r] at af771
              rw [hI9] at af771
              have gf771 : mFz I h hf771 := mFz_a gf770 af771 (by decide) (Nat.le_refl _)
              have Ff771 := mAs_F af771 Ff770
              have Zf771 := mAs_Z af771 Zf770
              refine tw_iload rfl rfl ?_
              refine tw_push rfl ?_
              refine tw_ic_eq rfl (fun q772 => ?_) (fun q772 => ?_)
              · try dsimp only [tvI_i, tvJ_j, tvR_r] at q772
                have q772i := zeqi (Y := 3) (by decide) q772
                exfalso
                have z1 := q708i
                have z2 := q772i
                omega
              · try dsimp only [tvI_i, tvJ_j, tvR_r] at q772
                have q772i := zneq (Y := 3) (by decide) q772
                refine tw_aload rfl rfl ?_
                refine tw_getS rfl (hi_111_29 (gf771).1) ?_
                refine tw_if_ne rfl (fun q773 => ?_) (fun q773 => ?_)
                · try dsimp only [tvI_i, tvJ_j, tvR_r] at q773
                  have q773i := zneq (Y := 0) (by decide) q773
                  refine tw_aload rfl rfl ?_
                  refine tw_getS rfl (hs_111_41 (gf771).1) ?_
                  refine tw_iload rfl rfl ?_
                  refine tw_aload rfl rfl ?_
                  refine tw_getS rfl (hi_111_31 (gf771).1) ?_
                  refine tw_iast rfl (fun f774 => ?_)
                  refine tG_ast f774 (gf771).1 (fun hf774 af774 => ?_)
                  try dsimp only [tvI_i, tvR_r] at af774
                  rw [hI9] at af774
                  have gf774 : mFz I h hf774 := mFz_a gf771 af774 (by decide) (Nat.le_refl _)
                  have Ff774 := mAs_F af774 Ff771
                  have Zf774 := mAs_Z af774 Zf771
                  refine tw_aload rfl rfl ?_
                  refine tw_virt0 rfl (y_blanks hG hX (gf774).1 Ff774 ((mFz_T gf774).trans hT) ((mFz_n gf774).trans hN) Zf774) (fun wp775 hp775 p775 => ?_)
                  obtain ⟨rfl, gp775, Fp775, Zp775⟩ := p775
                  have gwp775 := mFw_f gp775
                  have gzp775 : mFz I h hp775 := mFz_t gf774 (mFz_w gwp775)
                  refine tw_aload rfl rfl ?_
                  refine tw_push rfl ?_
                  refine tw_virt1 rfl (g_stands hG hX (gzp775).1 ((mFz_T gzp775).trans hT) ((mFz_n gzp775).trans hN) (q := 21) (by decide +kernel) Zp775.1 ⟨by have := Zp775.2; omega, Zp775.2.2⟩) (fun w9 h9 p776 => ?_)
                  obtain ⟨⟨p776, rfl⟩ | ⟨p776, rfl⟩, rfl⟩ := p776
                  · try dsimp only [tvI_i, tvJ_j, tvR_r] at p776
                    refine tw_istore rfl ?_
                    refine tw_iload rfl rfl ?_
                    refine tw_push rfl ?_
                    refine tw_ic_ne rfl (fun q777 => ?_) (fun q777 => ?_)
                    · try dsimp only [tvI_i, tvJ_j, tvR_r] at q777
                      have q777i := zneq (Y := 3) (by decide) q777
                      refine tw_iload rfl rfl ?_
                      refine tw_if_eq rfl (fun z => absurd z (by decide)) (fun _ => ?_)
                      refine tw_aload rfl rfl ?_
                      refine tw_getS rfl (hi_111_29 gzp775.1) ?_
                      refine tw_if_ne rfl (fun q778 => ?_) (fun q778 => ?_)
                      · try dsimp only [tvI_i, tvJ_j, tvR_r] at q778
                        have q778i := zneq (Y := 0) (by decide) q778
                        refine tw_aload rfl rfl ?_
                        refine tw_getS rfl (hs_111_42 gzp775.1) ?_
                        refine tw_iload rfl rfl ?_
                        refine tw_aload rfl rfl ?_
                        refine tw_getS rfl (hi_111_31 gzp775.1) ?_
                        refine tw_iast rfl (fun f779 => ?_)
                        refine tG_ast f779 (gzp775).1 (fun hf779 af779 => ?_)
                        try dsimp only [tvI_i, tvR_r] at af779
                        rw [hI9] at af779
                        have gf779 : mFz I h hf779 := mFz_a gzp775 af779 (by decide) (Nat.le_refl _)
                        have Ff779 := mAs_F af779 Fp775
                        have Zf779 := mAs_Z af779 Zp775
                        exact tw_vret rfl ⟨rfl, gf779, mCo_l hr Ff779 Zf779⟩
                      · try dsimp only [tvI_i, tvJ_j, tvR_r] at q778
                        have q778i := zeqi (Y := 0) (by decide) q778
                        exact absurd q778 (mFt_n Fp775)
                    · try dsimp only [tvI_i, tvJ_j, tvR_r] at q777
                      have q777i := zeqi (Y := 3) (by decide) q777
                      exfalso
                      have z1 := q708i
                      have z2 := q777i
                      omega
                  · try dsimp only [tvI_i, tvJ_j, tvR_r] at p776
                    refine tw_istore rfl ?_
                    refine tw_iload rfl rfl ?_
                    refine tw_push rfl ?_
                    refine tw_ic_ne rfl (fun q780 => ?_) (fun q780 => ?_)
                    · try dsimp only [tvI_i, tvJ_j, tvR_r] at q780
                      have q780i := zneq (Y := 3) (by decide) q780
                      refine tw_iload rfl rfl ?_
                      refine tw_if_eq rfl (fun _ => ?_) (fun z => absurd z (by decide))
                      refine tw_aload rfl rfl ?_
                      refine tw_getS rfl (hs_111_42 gzp775.1) ?_
                      refine tw_iload rfl rfl ?_
                      refine tw_aload rfl rfl ?_
                      refine tw_getS rfl (hi_111_31 gzp775.1) ?_
                      refine tw_iast rfl (fun f781 => ?_)
                      refine tG_ast f781 (gzp775).1 (fun hf781 af781 => ?_)
                      try dsimp only [tvI_i, tvR_r] at af781
                      rw [hI9] at af781
                      have gf781 : mFz I h hf781 := mFz_a gzp775 af781 (by decide) (Nat.le_refl _)
                      have Ff781 := mAs_F af781 Fp775
                      have Zf781 := mAs_Z af781 Zp775
                      exact tw_vret rfl ⟨rfl, gf781, mCo_l hr Ff781 Zf781⟩
                    · try dsimp only [tvI_i, tvJ_j, tvR_r] at q780
                      have q780i := zeqi (Y := 3) (by decide) q780
                      exfalso
                      have z1 := q708i
                      have z2 := q780i
                      omega
                · try dsimp only [tvI_i, tvJ_j, tvR_r] at q773
                  have q773i := zeqi (Y := 0) (by decide) q773
                  exact absurd q773 (mFt_n Ff771)
        · try dsimp only [tvI_i, tvJ_j, tvR_r] at q703
          have q703i := zeqi (Y := 12) (by decide) q703
          refine tw_aload rfl rfl ?_
          refine tw_push rfl ?_
          refine tw_iload rfl rfl ?_
          refine tw_virt2 rfl (g_fails hG hX (gzp696).1 pp696e ((mFz_T gzp696).trans hT) ((mFz_n gzp696).trans hN) (w := 4) rfl (by decide) (mPl pp696e) (by have := mPle pp696e ((mFz_n gzp696).trans hN); have := mNl pp696e ((mFz_n gzp696).trans hN); have := pp696e.2.1; omega)) (fun wp782 hp782 p782 => ?_)
          obtain ⟨rfl, gp782, Fp782, ip782, jp782⟩ := p782
          have gwp782 := mFw_f gp782
          have gzp782 : mFz I h hp782 := mFz_t gzp696 (mFz_w gwp782)
          have Zp782 : mZp hp782 := mZp_k (mZp_p pp696e) ip782 jp782
          rw [Sp696, rA_1] at Fp782
          have hk4 : k < 4 := by have z := q697; omega
          have hw : rW T n (rB T n (ms h).1) (rWd (k + 12)) = true := by have z := p701; rw [Sp696, rA_1] at z; rw [rWd_14 hk4]; exact z
          have hr := rCl_cc hr0 (k := k + 12) (by omega) (by omega) hw (by have z := q703i; omega)
          exact tw_vret rfl ⟨rfl, gzp782, mCo_l hr Fp782 Zp782⟩
      · try dsimp only [tvI_i, tvJ_j, tvR_r] at q702
        have q702i := zeqi (Y := 4) (by decide) q702
        exfalso
        have z1 := q697
        have z2 := q702i
        omega
    · try dsimp only [tvI_i, tvJ_j, tvR_r] at p701
      refine tw_if_ne rfl (fun z => absurd z (by decide)) (fun _ => ?_)
      refine tw_iinc rfl rfl ?_
      refine tw_goto rfl ?_
      have hk4 : k < 4 := by have z := q697; omega
      have hno : ¬ rW T n (rB T n (ms h).1) (rWd (k + 12)) = true := by have z := p701; rw [Sp696, rA_1] at z; rw [rWd_14 hk4]; exact z
      exact tG_cut (zW_mono zTt G dp) (Or.inr ⟨rfl, rfl, rfl, k + 1, x + 1, zincN hx (by omega), by omega, fun i hi => (Classical.em (i = k)).elim (fun z => by rw [z]; exact hno) (fun z => hall i (by omega)), rfl⟩)
/-! the reference's whole rule: what its loop stands on -/
section R9
variable {T : Nat → Int32} {n f : Nat} {s : rS} {cl : List rCt} {r : Nat ⊕ (rS × List rCt)}
/-- what follows a clause -/
noncomputable def rNx (T : Nat → Int32) (n : Nat) (cl : List rCt) (r : Nat ⊕ (rS × List rCt)) : Nat ⊕ (rS × rCt) → Prop
  | .inl e => r = .inl e
  | .inr x => (¬ rB T n x.1.1 < n ∧ r = .inr (rA (rB T n x.1.1) x.1, cl ++ [x.2])) ∨ ((rB T n x.1.1 < n ∧ T (rB T n x.1.1) = 59) ∧ ∃ f, rRu T n f (rA (rB T n x.1.1 + 1) x.1) (cl ++ [x.2]) r) ∨ ((rB T n x.1.1 < n ∧ ¬ T (rB T n x.1.1) = 59) ∧ r = .inl (1 + 8 * rB T n x.1.1 + 0))
theorem rRu_st (h : rRu T n f s cl r) : ∃ r2, rCl T n cl.length s r2 ∧ rNx T n cl r r2 := by
  cases f with
  | zero => exact h.elim
  | succ f =>
    rcases h with ⟨e, h1, h2⟩ | ⟨s1, c, h1, h2⟩
    · exact ⟨.inl e, h1, h2⟩
    · refine ⟨.inr (s1, c), h1, ?_⟩
      rcases h2 with h2 | ⟨h2, h3⟩ | h2
      · exact Or.inl h2
      · exact Or.inr (Or.inl ⟨h2, f, h3⟩)
      · exact Or.inr (Or.inr h2)
theorem mCo_w {I : Nat} {r2 : Nat ⊕ (rS × rCt)} {h h2 : zH} {w : Option Value} (k : w = none ∧ mFz I h h2 ∧ mCo T n I r2 h2) (q : rNx T n cl r r2) : w = none ∧ mFz I h h2 ∧ ((∃ e, r = .inl e ∧ mFt h2 e ∧ mZp h2) ∨ ∃ s1 c1, r2 = .inr (s1, c1) ∧ mP h2 ∧ ms h2 = rA (rB T n s1.1) s1 ∧ tvI (tF h2 111 32) = 0 ∧ mRow h2 I = c1 ∧ rNx T n cl r (.inr (s1, c1))) := by
  refine ⟨k.1, k.2.1, ?_⟩
  cases r2 with
  | inl e => exact Or.inl ⟨e, q, k.2.2.1, k.2.2.2⟩
  | inr x => exact Or.inr ⟨x.1, x.2, rfl, k.2.2.1, k.2.2.2.1, k.2.2.2.2.1, k.2.2.2.2.2, q⟩
/-- what the reference's reader keeps between rules -/
noncomputable def mK (h : zH) : Prop := (0 ≤ (tvI (tF h 111 27)).toInt ∧ (tvI (tF h 111 27)).toInt ≤ 400) ∧ 0 ≤ (tvI (tF h 111 34)).toInt ∧ (0 ≤ (tvI (tF h 111 30)).toInt ∧ (tvI (tF h 111 30)).toInt ≤ 10) ∧ (∀ i, i < tN h 142 → 0 ≤ (tA h 142 i).toInt) ∧ (∀ i : Nat, i = i) ∧ tN h 133 ≤ 100000 ∧ tN h 142 ≤ 100000
theorem mRs9 {h a b c d e : zH} {lo : Nat} (hs : tSh h) (k : mK h) (e28 : mSet 28 0 h a) (e29 : mSet 29 0 a b) (e31 : mSet 31 0 b c) (e32 : mSet 32 0 c d) (e33 : mSet 33 0 d e) : mFz lo h e ∧ mP e ∧ ms e = (0, 0, []) ∧ tvI (tF e 111 32) = 0 := by
  have z0 : mFz lo h h := mFz_r hs
  have z1 := mFz_s z0 e28 (Or.inl (by unfold mFs; omega))
  have z2 := mFz_s z1 e29 (Or.inl (by unfold mFs; omega))
  have z3 := mFz_s z2 e31 (Or.inl (by unfold mFs; omega))
  have z4 := mFz_s z3 e32 (Or.inl (by unfold mFs; omega))
  have z5 := mFz_s z4 e33 (Or.inl (by unfold mFs; omega))
  have f28 : tF e 111 28 = .int 0 := (e33.2.2.1 111 28 (by decide)).trans ((e32.2.2.1 111 28 (by decide)).trans ((e31.2.2.1 111 28 (by decide)).trans ((e29.2.2.1 111 28 (by decide)).trans e28.2.1)))
  have f29 : tF e 111 29 = .int 0 := (e33.2.2.1 111 29 (by decide)).trans ((e32.2.2.1 111 29 (by decide)).trans ((e31.2.2.1 111 29 (by decide)).trans e29.2.1))
  have f31 : tF e 111 31 = .int 0 := (e33.2.2.1 111 31 (by decide)).trans ((e32.2.2.1 111 31 (by decide)).trans e31.2.1)
  have f32 : tF e 111 32 = .int 0 := (e33.2.2.1 111 32 (by decide)).trans e32.2.1
  have f33 : tF e 111 33 = .int 0 := e33.2.1
  have f34 : tF e 111 34 = tF h 111 34 := (e33.2.2.1 111 34 (by decide)).trans ((e32.2.2.1 111 34 (by decide)).trans ((e31.2.2.1 111 34 (by decide)).trans ((e29.2.2.1 111 34 (by decide)).trans (e28.2.2.1 111 34 (by decide)))))
  have A : tA e = tA h := e33.2.2.2.1.trans (e32.2.2.2.1.trans (e31.2.2.2.1.trans (e29.2.2.2.1.trans e28.2.2.2.1)))
  have N : tN e = tN h := z5.2.2.2.1
  obtain ⟨k1, k2, k3, k4, k5, k6, k7⟩ := k
  refine ⟨z5, ⟨f29, ?_, ?_, ?_, ?_, ?_, ?_, ?_, by rw [N]; exact k6, by rw [N]; exact k7⟩, ?_, ?_⟩
  · rw [f28, mFz_27 z5]
    refine ⟨by decide, ?_, k1.2⟩
    show (0 : Int) ≤ _
    exact k1.1
  · rw [f33]; decide
  · rw [f31]; decide
  · rw [f34]; exact k2
  · rw [mFz_30 z5]; exact k3
  · rw [A, N]; exact k4
  · exact k5
  · unfold ms mEn
    rw [f28, f33, f31]
    rfl
  · rw [f32]; rfl
/-- the codes of rule q, k of them -/
noncomputable def mEk (h : zH) (q k : Nat) : List Nat := (List.range k).map (fun i => mCode (tA h 133 (500 * q + i)).toNatClampNeg (tA h 134 (500 * q + i)).toNatClampNeg)
theorem mEn_k {h : zH} : mEn h = mEk h (tvI (tF h 111 30)).toNatClampNeg (tvI (tF h 111 31)).toNatClampNeg := rfl
end R9
section R10
variable {T : Nat → Int32} {n : Nat} {h h1 h2 : zH}
theorem mRow_z {lo j : Nat} (a : mFz lo h h2) (hj : j < lo) : mRow h2 j = mRow h j := by
  unfold mRow
  rw [a.2.2.2.2.2 135 j (by decide) (by decide) hj, a.2.2.2.2.2 136 j (by decide) (by decide) hj, a.2.2.2.2.2 137 j (by decide) (by decide) hj, a.2.2.2.2.2 138 j (by decide) (by decide) hj, a.2.2.2.2.2 139 j (by decide) (by decide) hj]
noncomputable def mRw (h : zH) (b : Nat) (cl : List rCt) : Prop := ∀ i, i < cl.length → cl[i]? = some (mRow h (b + i))
theorem mRw_0 {b : Nat} : mRw h b [] := fun i hi => absurd hi (Nat.not_lt_zero _)
theorem mRw_z {b lo : Nat} {cl : List rCt} (k : mRw h b cl) (a : mFz lo h h2) (hl : b + cl.length ≤ lo) : mRw h2 b cl := fun i hi => by
  rw [mRow_z a (by omega)]
  exact k i hi
theorem mRw_s {b : Nat} {cl : List rCt} {c1 : rCt} (k : mRw h b cl) (e : mRow h (b + cl.length) = c1) : mRw h b (cl ++ [c1]) := fun i hi => by
  rcases Nat.lt_or_ge i cl.length with z | z
  · rw [List.getElem?_append_left z]
    exact k i z
  · have hi : i < cl.length + 1 := by rw [List.length_append] at hi; exact hi
    obtain rfl : i = cl.length := by omega
    rw [List.getElem?_append_right (Nat.le_refl _), Nat.sub_self, e]
    rfl
/-- a whole rule's frame -/
noncomputable def mFy (h h2 : zH) : Prop := tSh h2 ∧ (∀ p b, ¬ (p = 111 ∧ (mFs b ∨ b = 46 ∨ b = 47 ∨ b = 27 ∨ b = 30)) → tF h2 p b = tF h p b) ∧ (∀ p, p ≠ 133 → p ≠ 134 → p ≠ 142 → (p < 135 ∨ 141 < p) → tA h2 p = tA h p) ∧ tN h2 = tN h ∧ mLo h h2 ∧ (∀ p q, 135 ≤ p → p ≤ 139 → q < 12 * (tvI (tF h 111 30)).toNatClampNeg → tA h2 p q = tA h p q)
noncomputable def mRo (y : Int32) (r : Nat ⊕ (rS × List rCt)) (w : Option Value) (h h2 : zH) : Prop := mFy h h2 ∧ tvI (tF h2 111 27) = 0 ∧ match r with
  | .inl e => e < 100000 ∧ w = some (.int (-2 - Int32.ofNat e)) ∧ tF h2 111 30 = tF h 111 30 ∧ tA h2 140 = tA h 140 ∧ tA h2 141 = tA h 141
  | .inr x => w = some (.int (tvI (tF h 111 30) + 1 - 1)) ∧ tvI (tF h2 111 30) = tvI (tF h 111 30) + 1 ∧ (tA h2 140 (tvI (tF h 111 30)).toNatClampNeg).toNatClampNeg = x.2.length ∧ tA h2 141 (tvI (tF h 111 30)).toNatClampNeg = y ∧ (∀ q, q ≠ (tvI (tF h 111 30)).toNatClampNeg → tA h2 140 q = tA h 140 q ∧ tA h2 141 q = tA h 141 q) ∧ mRw h2 (12 * (tvI (tF h 111 30)).toNatClampNeg) x.2 ∧ x.1.2.2 = mEk h2 (tvI (tF h 111 30)).toNatClampNeg x.1.2.2.length
/-- the loop's end, and its middle -/
noncomputable def mLp (T : Nat → Int32) (n : Nat) (r : Nat ⊕ (rS × List rCt)) (b k : Nat) (m : Int32) (h1 : zH) : Prop :=
  (m ≠ 0 ∧ k ≤ 12 ∧ mP h1 ∧ tvI (tF h1 111 32) = 0 ∧ ∃ cl f, cl.length = k ∧ mRw h1 b cl ∧ rRu T n f (ms h1) cl r)
  ∨ (m = 0 ∧ ((∃ e, r = .inl e ∧ mFt h1 e) ∨ ∃ s cl, r = .inr (s, cl) ∧ cl.length = k ∧ mRw h1 b cl ∧ tF h1 111 29 = .int 0 ∧ mEn h1 = s.2.2))
theorem nx_1 {cl : List rCt} {c1 : rCt} {s1 : rS} {r : Nat ⊕ (rS × List rCt)} (q : rNx T n cl r (.inr (s1, c1))) (h1 : ¬ rB T n s1.1 < n) : r = .inr (rA (rB T n s1.1) s1, cl ++ [c1]) := by
  rcases q with ⟨_, q⟩ | ⟨z, _⟩ | ⟨z, _⟩
  · exact q
  · exact absurd z.1 h1
  · exact absurd z.1 h1
theorem nx_2 {cl : List rCt} {c1 : rCt} {s1 : rS} {r : Nat ⊕ (rS × List rCt)} (q : rNx T n cl r (.inr (s1, c1))) (h1 : rB T n s1.1 < n ∧ T (rB T n s1.1) = 59) : ∃ f, rRu T n f (rA (rB T n s1.1 + 1) s1) (cl ++ [c1]) r := by
  rcases q with ⟨z, _⟩ | ⟨_, q⟩ | ⟨z, _⟩
  · exact absurd h1.1 z
  · exact q
  · exact absurd h1.2 z.2
theorem nx_3 {cl : List rCt} {c1 : rCt} {s1 : rS} {r : Nat ⊕ (rS × List rCt)} (q : rNx T n cl r (.inr (s1, c1))) (h1 : rB T n s1.1 < n) (h2 : ¬ (rB T n s1.1 < n ∧ T (rB T n s1.1) = 59)) : r = .inl (1 + 8 * rB T n s1.1 + 0) := by
  rcases q with ⟨z, _⟩ | ⟨z, _⟩ | ⟨_, q⟩
  · exact absurd h1 z
  · exact absurd z h2
  · exact q
theorem mFt_m {b w : Nat} {X : Int32} {h3 : zH} (k : mSet b X h h3) (hb : b ≠ 29) (F : mFt h w) : mFt h3 w := ⟨(k.2.2.1 111 29 (fun z => hb z.2.symm)).trans F.1, F.2⟩
theorem mRw_m {b q : Nat} {X : Int32} {h3 : zH} {cl : List rCt} (k : mRw h b cl) (e : mSet q X h h3) : mRw h3 b cl := fun i hi => by
  rw [k i hi]
  unfold mRow
  rw [e.2.2.2.1]
theorem mRw_a {b q i : Nat} {x : Int32} {h3 : zH} {cl : List rCt} (k : mRw h b cl) (e : mAs q i x h h3) (hq : 139 < q) : mRw h3 b cl := fun j hj => by
  rw [k j hj]
  unfold mRow
  rw [mAs_A e (q := 135) (by omega), mAs_A e (q := 136) (by omega), mAs_A e (q := 137) (by omega), mAs_A e (q := 138) (by omega), mAs_A e (q := 139) (by omega)]
theorem mFy_1 {X : Int32} {h3 : zH} (g : mFz (12 * (tvI (tF h 111 30)).toNatClampNeg) h h1) (e : mSet 27 X h1 h3) : mFy h h3 := ⟨e.1, fun p b z => (e.2.2.1 p b (fun w => z ⟨w.1, by omega⟩)).trans (g.2.1 p b (fun w => z ⟨w.1, w.2.elim Or.inl (fun y => y.elim (fun y => Or.inr (Or.inl y)) (fun y => Or.inr (Or.inr (Or.inl y))))⟩)), fun p a b c d => (congrFun e.2.2.2.1 p).trans (g.2.2.1 p a b c (by omega)), e.2.2.2.2.trans g.2.2.2.1, mLo_A e.2.2.2.1 g.2.2.2.2.1, fun p q a b c => (congrFun (congrFun e.2.2.2.1 p) q).trans (g.2.2.2.2.2 p q a b c)⟩
theorem mFy_2 {q i : Nat} {x : Int32} {h3 : zH} (a : mFy h h1) (e : mAs q i x h1 h3) (hq : q = 140 ∨ q = 141) : mFy h h3 := ⟨e.1, fun p b z => by rw [e.2.1]; exact a.2.1 p b z, fun p w1 w2 w3 w4 => (mAs_A e (by omega)).trans (a.2.2.1 p w1 w2 w3 w4), e.2.2.1.trans a.2.2.2.1, fun j hj => ⟨(mAs_o e (by omega)).trans (a.2.2.2.2.1 j hj).1, (mAs_o e (by omega)).trans (a.2.2.2.2.1 j hj).2⟩, fun p j w1 w2 w3 => (mAs_o e (by omega)).trans (a.2.2.2.2.2 p j w1 w2 w3)⟩
theorem mFy_3 {X : Int32} {h3 : zH} (a : mFy h h1) (e : mSet 30 X h1 h3) : mFy h h3 := ⟨e.1, fun p b z => (e.2.2.1 p b (fun w => z ⟨w.1, by omega⟩)).trans (a.2.1 p b z), fun p w1 w2 w3 w4 => (congrFun e.2.2.2.1 p).trans (a.2.2.1 p w1 w2 w3 w4), e.2.2.2.2.trans a.2.2.2.1, mLo_A e.2.2.2.1 a.2.2.2.2.1, fun p j w1 w2 w3 => (congrFun (congrFun e.2.2.2.1 p) j).trans (a.2.2.2.2.2 p j w1 w2 w3)⟩
theorem mEk_c {q k : Nat} (a : tA h2 133 = tA h 133) (b : tA h2 134 = tA h 134) : mEk h2 q k = mEk h q k := by
  unfold mEk
  rw [a, b]
/-- the end, with a fault; the end without one -/
theorem mRo_l {y : Int32} {r : Nat ⊕ (rS × List rCt)} {e : Nat} {hA : zH} (hr : r = .inl e) (g1 : mFz (12 * (tvI (tF h 111 30)).toNatClampNeg) h h1) (k : mSet 27 0 h1 hA) (F : mFt h1 e) : mRo y r (some (.int (-2 - tvI (tF hA 111 29)))) h hA := by
  subst hr
  refine ⟨mFy_1 g1 k, mI_x k, F.2.2, ?_, (k.2.2.1 111 30 (by decide)).trans (mFz_30 g1), (congrFun k.2.2.2.1 140).trans (g1.2.2.1 140 (by decide) (by decide) (by decide) (by decide)), (congrFun k.2.2.2.1 141).trans (g1.2.2.1 141 (by decide) (by decide) (by decide) (by decide))⟩
  rw [(k.2.2.1 111 29 (by decide)).trans F.1]
  rfl
theorem mRo_r {y x : Int32} {r : Nat ⊕ (rS × List rCt)} {s9 : rS} {cl9 : List rCt} {i1 i2 X : Int32} {hA hB hC hD : zH} (hr : r = .inr (s9, cl9)) (g1 : mFz (12 * (tvI (tF h 111 30)).toNatClampNeg) h h1) (k : mSet 27 0 h1 hA) (a1 : mAs 140 i1.toNatClampNeg x hA hB) (hi1 : i1 = tvI (tF hA 111 30)) (a2 : mAs 141 i2.toNatClampNeg y hB hC) (hi2 : i2 = tvI (tF hB 111 30)) (k2 : mSet 30 X hC hD) (hX : X = tvI (tF hC 111 30) + 1) (hx : x.toInt = cl9.length) (rw9 : mRw h1 (12 * (tvI (tF h 111 30)).toNatClampNeg) cl9) (h5 : mEn h1 = s9.2.2) : mRo y r (some (.int (tvI (tF hD 111 30) - 1))) h hD := by
  subst hr
  have EA : tF hA 111 30 = tF h 111 30 := (k.2.2.1 111 30 (by decide)).trans (mFz_30 g1)
  have EB : tF hB 111 30 = tF h 111 30 := by rw [a1.2.1]; exact EA
  have EC : tF hC 111 30 = tF h 111 30 := by rw [a2.2.1]; exact EB
  rw [hi1, EA] at a1
  rw [hi2, EB] at a2
  have ED : tvI (tF hD 111 30) = tvI (tF h 111 30) + 1 := (mI_x k2).trans (by rw [hX, EC])
  refine ⟨mFy_3 (mFy_2 (mFy_2 (mFy_1 g1 k) a1 (Or.inl rfl)) a2 (Or.inr rfl)) k2, ?_, by rw [ED], ED, ?_, ?_, fun q hq => ⟨?_, ?_⟩, mRw_m (mRw_a (mRw_a (mRw_m rw9 k) a1 (by decide)) a2 (by decide)) k2, ?_⟩
  · rw [k2.2.2.1 111 27 (by decide), a2.2.1, a1.2.1]
    exact mI_x k
  · rw [k2.2.2.2.1, mAs_o a2 (by decide), mAs_x a1]
    exact zof_cl hx
  · rw [k2.2.2.2.1]
    exact mAs_x a2
  · rw [k2.2.2.2.1, mAs_o a2 (by decide), a1.2.2.2]
    refine (if_neg (fun z => hq z.2)).trans ?_
    rw [k.2.2.2.1, g1.2.2.1 140 (by decide) (by decide) (by decide) (by decide)]
  · rw [k2.2.2.2.1, a2.2.2.2]
    refine (if_neg (fun z => hq z.2)).trans ?_
    rw [mAs_A a1 (by decide), k.2.2.2.1, g1.2.2.1 141 (by decide) (by decide) (by decide) (by decide)]
  · rw [← h5, mEn_len, mEn_k, mFz_30 g1]
    refine (mEk_c ?_ ?_).symm
    · rw [k2.2.2.2.1, mAs_A a2 (by decide), mAs_A a1 (by decide), k.2.2.2.1]
    · rw [k2.2.2.2.1, mAs_A a2 (by decide), mAs_A a1 (by decide), k.2.2.2.1]
end R10
theorem g_rule {G : zG} (hG : G.1 = zProg) (hX : G.2.1 = ztx) {h : zH} {T : Nat → Int32} {n : Nat} (hs : tSh h) (hk : mK h) (hT : tA h 132 = T) (hN : mn h = n) {y : Int32} {r : Nat ⊕ (rS × List rCt)} (hr0 : ∃ f, rRu T n f (0, 0, []) [] r) : tC zTt G 225 [.ref 111, .int y] h (fun w h2 => (¬ (¬ tvI (tF h 111 30) = 10 ∧ (tvI (tF h 111 1)).toInt ≤ y.toInt ∧ y.toInt ≤ 599) ∧ w = some (.int (-1)) ∧ h2 = h) ∨ ((¬ tvI (tF h 111 30) = 10 ∧ (tvI (tF h 111 1)).toInt ≤ y.toInt ∧ y.toInt ≤ 599) ∧ mRo y r w h h2)) := by
  refine tC_in (by rw [hG]; rfl) (fun dp => ?_)
  have g0 : mFz (12 * (tvI (tF h 111 30)).toNatClampNeg) h h := mFz_r hs
  refine tw_aload rfl rfl ?_
  refine tw_getS rfl (hi_111_30 hs) ?_
  refine tw_push rfl ?_
  refine tw_ic_eq rfl (fun q783 => ?_) (fun q783 => ?_)
  · try dsimp only [tvI_i, tvJ_j, tvR_r] at q783
    have q783i := zeqi (Y := 10) (by decide) q783
    refine tw_push rfl ?_
    exact tw_iret rfl (Or.inl ⟨fun z => z.1 q783, rfl, rfl⟩)
  · try dsimp only [tvI_i, tvJ_j, tvR_r] at q783
    have q783i := zneq (Y := 10) (by decide) q783
    refine tw_iload rfl rfl ?_
    refine tw_i2l rfl ?_
    refine tw_aload rfl rfl ?_
    refine tw_getS rfl (hi_111_1 hs) ?_
    refine tw_i2l rfl ?_
    refine tw_push rfl ?_
    refine tw_stat3 rfl (f_in hG   (HI := 599) (Int32.toInt_toInt64 _) (Int32.toInt_toInt64 _) (by decide)) (fun w9 h9 p784 => ?_)
    obtain ⟨⟨p784, rfl⟩ | ⟨p784, rfl⟩, e9⟩ := p784
    · try dsimp only [tvI_i, tvJ_j, tvR_r] at p784
      obtain rfl := e9.symm
      refine tw_if_ne rfl (fun _ => ?_) (fun z => absurd z (by decide))
      refine tw_aload rfl rfl ?_
      refine tw_push rfl ?_
      refine tw_put rfl (fun f785 => ?_)
      refine tG_setm f785 (hw_111_28 f785 (g0).1) (fun hf785 ef785 => ?_)
      try dsimp only [tvI_i] at ef785
      have gf785 : mFz (12 * (tvI (tF h 111 30)).toNatClampNeg) h hf785 := mFz_s g0 ef785 (Or.inl (by unfold mFs; omega))
      refine tw_aload rfl rfl ?_
      refine tw_push rfl ?_
      refine tw_put rfl (fun f786 => ?_)
      refine tG_setm f786 (hw_111_29 f786 (gf785).1) (fun hf786 ef786 => ?_)
      try dsimp only [tvI_i] at ef786
      have gf786 : mFz (12 * (tvI (tF h 111 30)).toNatClampNeg) h hf786 := mFz_s gf785 ef786 (Or.inl (by unfold mFs; omega))
      refine tw_aload rfl rfl ?_
      refine tw_push rfl ?_
      refine tw_put rfl (fun f787 => ?_)
      refine tG_setm f787 (hw_111_31 f787 (gf786).1) (fun hf787 ef787 => ?_)
      try dsimp only [tvI_i] at ef787
      have gf787 : mFz (12 * (tvI (tF h 111 30)).toNatClampNeg) h hf787 := mFz_s gf786 ef787 (Or.inl (by unfold mFs; omega))
      refine tw_aload rfl rfl ?_
      refine tw_push rfl ?_
      refine tw_put rfl (fun f788 => ?_)
      refine tG_setm f788 (hw_111_32 f788 (gf787).1) (fun hf788 ef788 => ?_)
      try dsimp only [tvI_i] at ef788
      have gf788 : mFz (12 * (tvI (tF h 111 30)).toNatClampNeg) h hf788 := mFz_s gf787 ef788 (Or.inl (by unfold mFs; omega))
      refine tw_aload rfl rfl ?_
      refine tw_push rfl ?_
      refine tw_put rfl (fun f789 => ?_)
      refine tG_setm f789 (hw_111_33 f789 (gf788).1) (fun hf789 ef789 => ?_)
      try dsimp only [tvI_i] at ef789
      have gf789 : mFz (12 * (tvI (tF h 111 30)).toNatClampNeg) h hf789 := mFz_s gf788 ef789 (Or.inl (by unfold mFs; omega))
      refine tw_push rfl ?_
      refine tw_istore rfl ?_
      refine tw_push rfl ?_
      refine tw_istore rfl ?_
      refine tG_loop (zW_mono zTt G dp) (zW_conj zTt G dp) (V := fun pc L st h9 _ _ => pc = 56 ∧ st = [] ∧ ∃ (h1 : zH) (k : Nat) (x m : Int32), h1 = h9 ∧ x.toInt = k ∧ k ≤ 13 ∧ mFz (12 * (tvI (tF h 111 30)).toNatClampNeg) h h1 ∧ mLp T n r (12 * (tvI (tF h 111 30)).toNatClampNeg) k m h1 ∧ L = [some (.ref 111), some (.int y), some (.int x), some (.int m)]) ?_ (⟨rfl, rfl, _, 0, 0, 1, rfl, rfl, by decide, (mRs9 (lo := (12 * (tvI (tF h 111 30)).toNatClampNeg)) hs hk ef785 ef786 ef787 ef788 ef789).1, Or.inl ⟨by decide, by decide, (mRs9 (lo := (12 * (tvI (tF h 111 30)).toNatClampNeg)) hs hk ef785 ef786 ef787 ef788 ef789).2.1, (mRs9 (lo := (12 * (tvI (tF h 111 30)).toNatClampNeg)) hs hk ef785 ef786 ef787 ef788 ef789).2.2.2, [], hr0.choose, rfl, mRw_0, by rw [(mRs9 (lo := (12 * (tvI (tF h 111 30)).toNatClampNeg)) hs hk ef785 ef786 ef787 ef788 ef789).2.2.1]; exact hr0.choose_spec⟩, rfl⟩)
      rintro _ _ _ _ _ _ ⟨rfl, rfl, h1, k, x, m, rfl, hx, hk13, g1, hlp, rfl⟩
      refine tw_iload rfl rfl ?_
      refine tw_if_eq rfl (fun q790 => ?_) (fun q790 => ?_)
      · try dsimp only [tvI_i, tvJ_j, tvR_r] at q790
        have q790i := zeqi (Y := 0) (by decide) q790
        refine tw_aload rfl rfl ?_
        refine tw_push rfl ?_
        refine tw_put rfl (fun f791 => ?_)
        refine tG_setm f791 (hw_111_27 f791 (g1).1) (fun hf791 ef791 => ?_)
        try dsimp only [tvI_i] at ef791
        have gf791 : tSh hf791 ∧ True := ⟨ef791.1, trivial⟩
        refine tw_aload rfl rfl ?_
        refine tw_getS rfl (hi_111_29 (gf791).1) ?_
        refine tw_if_le rfl (fun q792 => ?_) (fun q792 => ?_)
        · try dsimp only [tvI_i, tvJ_j, tvR_r] at q792
          refine tw_aload rfl rfl ?_
          refine tw_getS rfl (hs_111_43 (gf791).1) ?_
          refine tw_aload rfl rfl ?_
          refine tw_getS rfl (hi_111_30 (gf791).1) ?_
          refine tw_iload rfl rfl ?_
          refine tw_iast rfl (fun f793 => ?_)
          refine tG_ast f793 (gf791).1 (fun hf793 af793 => ?_)
          try dsimp only [tvI_i, tvR_r] at af793
          have gf793 : tSh hf793 ∧ True := ⟨af793.1, trivial⟩
          refine tw_aload rfl rfl ?_
          refine tw_getS rfl (hs_111_44 (gf793).1) ?_
          refine tw_aload rfl rfl ?_
          refine tw_getS rfl (hi_111_30 (gf793).1) ?_
          refine tw_iload rfl rfl ?_
          refine tw_iast rfl (fun f794 => ?_)
          refine tG_ast f794 (gf793).1 (fun hf794 af794 => ?_)
          try dsimp only [tvI_i, tvR_r] at af794
          have gf794 : tSh hf794 ∧ True := ⟨af794.1, trivial⟩
          refine tw_aload rfl rfl ?_
          refine tw_dup rfl ?_
          refine tw_getS rfl (hi_111_30 (gf794).1) ?_
          refine tw_push rfl ?_
          refine tw_iadd rfl ?_
          refine tw_put rfl (fun f795 => ?_)
          refine tG_setm f795 (hw_111_30 f795 (gf794).1) (fun hf795 ef795 => ?_)
          try dsimp only [tvI_i] at ef795
          have gf795 : tSh hf795 ∧ True := ⟨ef795.1, trivial⟩
          refine tw_aload rfl rfl ?_
          refine tw_getS rfl (hi_111_30 (gf795).1) ?_
          refine tw_push rfl ?_
          refine tw_isub rfl ?_
          have hend := (hlp.resolve_left (fun z => z.1 q790)).2
          rcases hend with ⟨e9, hr, F9⟩ | ⟨s9, cl9, hr, l9, w9, f9, n9⟩
          · exfalso
            have z := q792
            have c09 : (0 : Int32).toInt = 0 := rfl
            have y9 : (tvI (tF h1 111 29)).toInt = e9 := by rw [F9.1]; exact zofI (by have := F9.2.2; omega)
            rw [ef791.2.2.1 111 29 (by decide)] at z
            have := F9.2.1
            omega
          · exact tw_iret rfl (Or.inr ⟨⟨q783, p784⟩, mRo_r hr g1 ef791 af793 rfl af794 rfl ef795 rfl (by rw [l9]; exact hx) w9 n9⟩)
        · try dsimp only [tvI_i, tvJ_j, tvR_r] at q792
          refine tw_push rfl ?_
          refine tw_aload rfl rfl ?_
          refine tw_getS rfl (hi_111_29 (gf791).1) ?_
          refine tw_isub rfl ?_
          have hend := (hlp.resolve_left (fun z => z.1 q790)).2
          rcases hend with ⟨e9, hr, F9⟩ | ⟨s9, cl9, hr, l9, w9, f9, n9⟩
          · exact tw_iret rfl (Or.inr ⟨⟨q783, p784⟩, mRo_l hr g1 ef791 F9⟩)
          · exfalso
            have z := q792
            rw [ef791.2.2.1 111 29 (by decide), f9] at z
            exact absurd z (by decide)
      · try dsimp only [tvI_i, tvJ_j, tvR_r] at q790
        have q790i := zneq (Y := 0) (by decide) q790
        refine tw_aload rfl rfl ?_
        refine tw_iload rfl rfl ?_
        obtain ⟨hk12, p1, d1, cl, f, hcl, hrw, hru⟩ := (hlp.resolve_right (fun z => q790 z.1)).2
        obtain ⟨r2, hc2, hnx⟩ := rRu_st hru
        refine tw_virt1 rfl (g_clause hG hX g1.1 p1 ((mFz_T g1).trans hT) ((mFz_n g1).trans hN) (c := cl.length) (by rw [hcl]; exact hx) (by omega) rfl d1 hc2) (fun w9 hp796 p796 => ?_)
        obtain ⟨rfl, gp796, ⟨e2, he2, Fp796, Zp796⟩ | ⟨s1, c1, hc1, pp796, sp796, dp796, wp796, nxp796⟩⟩ := mCo_w p796 hnx
        · have gzp796 : mFz (12 * (tvI (tF h 111 30)).toNatClampNeg) h hp796 := mFz_t g1 (mFz_l (by rw [mFz_30 g1]; omega) gp796)
          refine tw_iinc rfl rfl ?_
          refine tw_aload rfl rfl ?_
          refine tw_virt0 rfl (y_blanks hG hX (gzp796).1 Fp796 ((mFz_T gzp796).trans hT) ((mFz_n gzp796).trans hN) Zp796) (fun wp797 hp797 p797 => ?_)
          obtain ⟨rfl, gp797, Fp797, Zp797⟩ := p797
          have gzp797 : mFz (12 * (tvI (tF h 111 30)).toNatClampNeg) h hp797 := mFz_t gzp796 (mFz_w (mFw_f gp797))
          refine tw_aload rfl rfl ?_
          refine tw_getS rfl (hi_111_29 gzp797.1) ?_
          refine tw_if_ne rfl (fun q798 => ?_) (fun q798 => ?_)
          · try dsimp only [tvI_i, tvJ_j, tvR_r] at q798
            have q798i := zneq (Y := 0) (by decide) q798
            refine tw_aload rfl rfl ?_
            refine tw_getS rfl (hi_111_29 gzp797.1) ?_
            refine tw_if_ne rfl (fun q799 => ?_) (fun q799 => ?_)
            · try dsimp only [tvI_i, tvJ_j, tvR_r] at q799
              have q799i := zneq (Y := 0) (by decide) q799
              refine tw_push rfl ?_
              refine tw_istore rfl ?_
              refine tw_aload rfl rfl ?_
              refine tw_dup rfl ?_
              refine tw_getS rfl (hi_111_28 gzp797.1) ?_
              refine tw_push rfl ?_
              refine tw_iadd rfl ?_
              refine tw_put rfl (fun f800 => ?_)
              refine tG_setm f800 (hw_111_28 f800 (gzp797).1) (fun hf800 ef800 => ?_)
              try dsimp only [tvI_i] at ef800
              have gf800 : mFz (12 * (tvI (tF h 111 30)).toNatClampNeg) h hf800 := mFz_s gzp797 ef800 (Or.inl (by unfold mFs; omega))
              refine tw_goto rfl ?_
              exact tG_cut (zW_mono zTt G dp) (Or.inr ⟨rfl, rfl, _, k + 1, x + 1, 0, rfl, zincN hx (by omega), by omega, gf800, Or.inr ⟨rfl, Or.inl ⟨_, he2, mFt_m ef800 (by decide) Fp797⟩⟩, rfl⟩)
            · try dsimp only [tvI_i, tvJ_j, tvR_r] at q799
              have q799i := zeqi (Y := 0) (by decide) q799
              exact absurd q799 (mFt_n Fp797)
          · try dsimp only [tvI_i, tvJ_j, tvR_r] at q798
            have q798i := zeqi (Y := 0) (by decide) q798
            exact absurd q798 (mFt_n Fp797)
        · have gzp796 : mFz (12 * (tvI (tF h 111 30)).toNatClampNeg) h hp796 := mFz_t g1 (mFz_l (by rw [mFz_30 g1]; omega) gp796)
          have hwp796 : mRw hp796 (12 * (tvI (tF h 111 30)).toNatClampNeg) (cl ++ [c1]) := mRw_s (mRw_z hrw gp796 (by rw [mFz_30 g1]; exact Nat.le_refl _)) (by have z := wp796; rw [mFz_30 g1] at z; exact z)
          refine tw_iinc rfl rfl ?_
          refine tw_aload rfl rfl ?_
          refine tw_virt0 rfl (g_blanks hG hX (gzp796).1 pp796 ((mFz_T gzp796).trans hT) ((mFz_n gzp796).trans hN)) (fun wp801 hp801 p801 => ?_)
          obtain ⟨rfl, gp801, pp801, sp801, tp801, dp801⟩ := p801
          have gzp801 : mFz (12 * (tvI (tF h 111 30)).toNatClampNeg) h hp801 := mFz_t gzp796 (mFz_w (mFw_f gp801))
          have Sp801 : ms hp801 = rA (rB T n s1.1) s1 := by rw [sp801, sp796]; exact rB_A
          have Dp801 : tvI (tF hp801 111 32) = 0 := by rw [dp801]; exact dp796
          have hwp801 : mRw hp801 (12 * (tvI (tF h 111 30)).toNatClampNeg) (cl ++ [c1]) := mRw_z hwp796 (mFz_w (lo := (12 * (tvI (tF h 111 30)).toNatClampNeg) + (cl ++ [c1]).length) (mFw_f gp801)) (Nat.le_refl _)
          refine tw_aload rfl rfl ?_
          refine tw_getS rfl (hi_111_29 gzp801.1) ?_
          refine tw_if_ne rfl (fun q802 => ?_) (fun q802 => ?_)
          · try dsimp only [tvI_i, tvJ_j, tvR_r] at q802
            have q802i := zneq (Y := 0) (by decide) q802
            exact absurd (mP_0 pp801) q802
          · try dsimp only [tvI_i, tvJ_j, tvR_r] at q802
            have q802i := zeqi (Y := 0) (by decide) q802
            refine tw_aload rfl rfl ?_
            refine tw_getS rfl (hi_111_28 gzp801.1) ?_
            refine tw_aload rfl rfl ?_
            refine tw_getS rfl (hi_111_27 gzp801.1) ?_
            refine tw_ic_ge rfl (fun q803 => ?_) (fun q803 => ?_)
            · try dsimp only [tvI_i, tvJ_j, tvR_r] at q803
              refine tw_aload rfl rfl ?_
              refine tw_getS rfl (hi_111_29 gzp801.1) ?_
              refine tw_if_ne rfl (fun q804 => ?_) (fun q804 => ?_)
              · try dsimp only [tvI_i, tvJ_j, tvR_r] at q804
                have q804i := zneq (Y := 0) (by decide) q804
                exact absurd (mP_0 pp801) q804
              · try dsimp only [tvI_i, tvJ_j, tvR_r] at q804
                have q804i := zeqi (Y := 0) (by decide) q804
                refine tw_aload rfl rfl ?_
                refine tw_getS rfl (hi_111_28 gzp801.1) ?_
                refine tw_aload rfl rfl ?_
                refine tw_getS rfl (hi_111_27 gzp801.1) ?_
                refine tw_ic_ge rfl (fun q805 => ?_) (fun q805 => ?_)
                · try dsimp only [tvI_i, tvJ_j, tvR_r] at q805
                  refine tw_push rfl ?_
                  refine tw_istore rfl ?_
                  refine tw_aload rfl rfl ?_
                  refine tw_dup rfl ?_
                  refine tw_getS rfl (hi_111_28 gzp801.1) ?_
                  refine tw_push rfl ?_
                  refine tw_iadd rfl ?_
                  refine tw_put rfl (fun f806 => ?_)
                  refine tG_setm f806 (hw_111_28 f806 (gzp801).1) (fun hf806 ef806 => ?_)
                  try dsimp only [tvI_i] at ef806
                  have gf806 : mFz (12 * (tvI (tF h 111 30)).toNatClampNeg) h hf806 := mFz_s gzp801 ef806 (Or.inl (by unfold mFs; omega))
                  refine tw_goto rfl ?_
                  have hlt : ¬ rB T n s1.1 < n := by have z := fun y => Int.not_lt.mpr q803 ((mpos ⟨pp801.2.1.1, by have := pp801.2.1; omega⟩).mpr y); rw [Sp801, rA_1, (mFz_n gzp801).trans hN] at z; exact z
                  have hwn := mRw_m hwp801 ef806
                  have hln : (cl ++ [c1]).length = k + 1 := by rw [List.length_append, hcl]; rfl
                  have hr := nx_1 nxp796 hlt
                  exact tG_cut (zW_mono zTt G dp) (Or.inr ⟨rfl, rfl, _, k + 1, x + 1, 0, rfl, zincN hx (by omega), by omega, gf806, Or.inr ⟨rfl, Or.inr ⟨_, _, hr, hln, hwn, (ef806.2.2.1 111 29 (by decide)).trans pp801.1, (mEn_o ef806 (by decide) (by decide)).trans (congrArg (fun z : rS => z.2.2) Sp801)⟩⟩, rfl⟩)
                · try dsimp only [tvI_i, tvJ_j, tvR_r] at q805
                  exact absurd q805 (Int.not_lt.mpr q803)
            · try dsimp only [tvI_i, tvJ_j, tvR_r] at q803
              refine tw_aload rfl rfl ?_
              refine tw_virt0 rfl (g_sign hG hX (gzp801).1 ((mFz_T gzp801).trans hT) ((mFz_n gzp801).trans hN) ⟨pp801.2.1.1, by have := pp801.2.1; omega⟩) (fun wp807 hp807 p807 => ?_)
              obtain ⟨⟨cp807, rfl, kp807⟩, rfl⟩ := p807
              refine tw_push rfl ?_
              refine tw_ic_eq rfl (fun q808 => ?_) (fun q808 => ?_)
              · try dsimp only [tvI_i, tvJ_j, tvR_r] at q808
                have q808i := zeqi (Y := 59) (by decide) q808
                refine tw_aload rfl rfl ?_
                refine tw_getS rfl (hi_111_29 (gzp801).1) ?_
                refine tw_if_ne rfl (fun q809 => ?_) (fun q809 => ?_)
                · try dsimp only [tvI_i, tvJ_j, tvR_r] at q809
                  have q809i := zneq (Y := 0) (by decide) q809
                  exact absurd (mP_0 pp801) q809
                · try dsimp only [tvI_i, tvJ_j, tvR_r] at q809
                  have q809i := zeqi (Y := 0) (by decide) q809
                  refine tw_aload rfl rfl ?_
                  refine tw_getS rfl (hi_111_28 (gzp801).1) ?_
                  refine tw_aload rfl rfl ?_
                  refine tw_getS rfl (hi_111_27 (gzp801).1) ?_
                  refine tw_ic_ge rfl (fun q810 => ?_) (fun q810 => ?_)
                  · try dsimp only [tvI_i, tvJ_j, tvR_r] at q810
                    exact absurd q803 (Int.not_lt.mpr q810)
                  · try dsimp only [tvI_i, tvJ_j, tvR_r] at q810
                    refine tw_push rfl ?_
                    refine tw_goto rfl ?_
                    refine tw_istore rfl ?_
                    refine tw_aload rfl rfl ?_
                    refine tw_dup rfl ?_
                    refine tw_getS rfl (hi_111_28 (gzp801).1) ?_
                    refine tw_push rfl ?_
                    refine tw_iadd rfl ?_
                    refine tw_put rfl (fun f811 => ?_)
                    refine tG_setm f811 (hw_111_28 f811 (gzp801).1) (fun hf811 ef811 => ?_)
                    try dsimp only [tvI_i] at ef811
                    have gf811 : mFz (12 * (tvI (tF h 111 30)).toNatClampNeg) h hf811 := mFz_s gzp801 ef811 (Or.inl (by unfold mFs; omega))
                    refine tw_goto rfl ?_
                    have hlt : rB T n s1.1 < n := by have z := (mpos ⟨pp801.2.1.1, by have := pp801.2.1; omega⟩).mp q803; rw [Sp801, rA_1, (mFz_n gzp801).trans hN] at z; exact z
                    have h59 : cp807 = 59 ↔ rB T n s1.1 < n ∧ T (rB T n s1.1) = 59 := by have y := sgm_k kp807 59 (by decide); rw [Sp801, rA_1] at y; exact y
                    have hwn := mRw_m hwp801 ef811
                    have hln : (cl ++ [c1]).length = k + 1 := by rw [List.length_append, hcl]; rfl
                    have hcn := rCl_12 (by rw [hc1] at hc2; exact hc2)
                    obtain ⟨f9, hf9⟩ := nx_2 nxp796 (h59.mp q808)
                    have hn4 : n ≤ 400 := by have a := mNl pp801 ((mFz_n gzp801).trans hN); have b := pp801.2.1; omega
                    obtain ⟨pn, sn, tn⟩ := mTo pp801 ((mFz_n gzp801).trans hN) ef811 (v := rB T n s1.1 + 1) (zincN (n := rB T n s1.1) (by rw [mPl pp801, Sp801, rA_1]) (by omega)) hlt
                    rw [Sp801, rA_A] at sn
                    exact tG_cut (zW_mono zTt G dp) (Or.inr ⟨rfl, rfl, _, k + 1, x + 1, 1, rfl, zincN hx (by omega), by omega, gf811, Or.inl ⟨by decide, by omega, pn, (by rw [mI_o ef811 (by decide)]; exact Dp801), _, f9, hln, hwn, by rw [sn]; exact hf9⟩, rfl⟩)
              · try dsimp only [tvI_i, tvJ_j, tvR_r] at q808
                have q808i := zneq (Y := 59) (by decide) q808
                refine tw_aload rfl rfl ?_
                refine tw_push rfl ?_
                refine tw_aload rfl rfl ?_
                refine tw_getS rfl (hi_111_28 (gzp801).1) ?_
                refine tw_virt2 rfl (g_fails hG hX (gzp801).1 pp801 ((mFz_T gzp801).trans hT) ((mFz_n gzp801).trans hN) (w := 0) rfl (by decide) (mPl pp801) (by have := mPle pp801 ((mFz_n gzp801).trans hN); have := mNl pp801 ((mFz_n gzp801).trans hN); have := pp801.2.1; omega)) (fun wp812 hp812 p812 => ?_)
                obtain ⟨rfl, gp812, Fp812, ip812, jp812⟩ := p812
                have gzp812 : mFz (12 * (tvI (tF h 111 30)).toNatClampNeg) h hp812 := mFz_t gzp801 (mFz_w (mFw_f gp812))
                have Zp812 : mZp hp812 := mZp_k (mZp_p pp801) ip812 jp812
                rw [Sp801, rA_1] at Fp812
                refine tw_aload rfl rfl ?_
                refine tw_getS rfl (hi_111_29 gzp812.1) ?_
                refine tw_if_ne rfl (fun q813 => ?_) (fun q813 => ?_)
                · try dsimp only [tvI_i, tvJ_j, tvR_r] at q813
                  have q813i := zneq (Y := 0) (by decide) q813
                  refine tw_push rfl ?_
                  refine tw_istore rfl ?_
                  refine tw_aload rfl rfl ?_
                  refine tw_dup rfl ?_
                  refine tw_getS rfl (hi_111_28 gzp812.1) ?_
                  refine tw_push rfl ?_
                  refine tw_iadd rfl ?_
                  refine tw_put rfl (fun f814 => ?_)
                  refine tG_setm f814 (hw_111_28 f814 (gzp812).1) (fun hf814 ef814 => ?_)
                  try dsimp only [tvI_i] at ef814
                  have gf814 : mFz (12 * (tvI (tF h 111 30)).toNatClampNeg) h hf814 := mFz_s gzp812 ef814 (Or.inl (by unfold mFs; omega))
                  refine tw_goto rfl ?_
                  have hlt : rB T n s1.1 < n := by have z := (mpos ⟨pp801.2.1.1, by have := pp801.2.1; omega⟩).mp q803; rw [Sp801, rA_1, (mFz_n gzp801).trans hN] at z; exact z
                  have h59 : cp807 = 59 ↔ rB T n s1.1 < n ∧ T (rB T n s1.1) = 59 := by have y := sgm_k kp807 59 (by decide); rw [Sp801, rA_1] at y; exact y
                  have hr := nx_3 nxp796 hlt (fun z => q808 (h59.mpr z))
                  exact tG_cut (zW_mono zTt G dp) (Or.inr ⟨rfl, rfl, _, k + 1, x + 1, 0, rfl, zincN hx (by omega), by omega, gf814, Or.inr ⟨rfl, Or.inl ⟨_, hr, mFt_m ef814 (by decide) Fp812⟩⟩, rfl⟩)
                · try dsimp only [tvI_i, tvJ_j, tvR_r] at q813
                  have q813i := zeqi (Y := 0) (by decide) q813
                  exact absurd q813 (mFt_n Fp812)
    · try dsimp only [tvI_i, tvJ_j, tvR_r] at p784
      obtain rfl := e9.symm
      refine tw_if_ne rfl (fun z => absurd z (by decide)) (fun _ => ?_)
      refine tw_push rfl ?_
      exact tw_iret rfl (Or.inl ⟨fun z => p784 z.2, rfl, rfl⟩)
/-- what an array holds -/
noncomputable def tK (h : zH) (p : Nat) : Nat := match h[p]? with
  | some (.inl (k, _, _)) => k
  | _ => 0
theorem tK_tSF (h : zH) (r : Nat) (b : Nat) (w : Value) : tK (tSF h r b w) = tK h := by
  unfold tSF
  split
  · rename_i e
    funext p
    unfold tK
    rw [tup_at e]
    by_cases q : p = r
    · subst q; rw [if_pos rfl, e]
    · rw [if_neg q]
  · rfl
theorem tK_tSA (h : zH) (r : Nat) (i : Nat) (x : Int32) : tK (tSA h r i x) = tK h := by
  unfold tSA
  split
  · rename_i e
    funext p
    unfold tK
    rw [tup_at e]
    by_cases q : p = r
    · subst q; rw [if_pos rfl, e]
    · rw [if_neg q]
  · rfl
theorem tK_tSJ (h : zH) (r : Nat) (i : Nat) (x : Int64) : tK (tSJ h r i x) = tK h := by
  unfold tSJ
  split
  · rename_i e
    funext p
    unfold tK
    rw [tup_at e]
    by_cases q : p = r
    · subst q; rw [if_pos rfl, e]
    · rw [if_neg q]
  · rfl
theorem tK_tSO (h : zH) (r : Nat) (i : Nat) (x : Option Nat) : tK (tSO h r i x) = tK h := by
  unfold tSO
  split
  · rename_i e
    funext p
    unfold tK
    rw [tup_at e]
    by_cases q : p = r
    · subst q; rw [if_pos rfl, e]
    · rw [if_neg q]
  · rfl
theorem tIn.kd {h : zH} {r kd : Nat} {i : Int32} (k : tIn h r kd i) : tK h r = kd := by
  obtain ⟨N, f, e, -⟩ := k
  unfold tK
  rw [e]
theorem tkd_k {xs : Nat → Int32} {τ : List Nat} {h : zH} {p t k nlo nhi : Nat} {vt : yT} (hB : zBs xs τ h) (ht : zTG[p]? = some t) (hT : zTTy[t]? = some (.inr (k, nlo, nhi, vt))) : tK h p = k := by
  obtain ⟨ct, c, a1, a2, a3⟩ := hB.1.2 _ _ (hB.2.1 _ _ ht)
  rw [hT] at a1
  cases a1
  obtain ⟨N, x, rfl, -⟩ := a3
  unfold tK
  rw [a2]
theorem bst_k {h : zH} {r kd : Nat} {i : Int32} {x : Int32} (hk : tK h r = 2) (f : tIn h r kd i) : vp_nar (if kd = 1 then .boolean else .byte) x = vp_nar .byte x := by
  have := f.kd
  rw [if_neg (by omega)]
/-- a byte of a number -/
noncomputable def bF (x s : Int32) : Int32 := vp_nar .byte (x >>> (s &&& 31)).toInt8.toInt32
/-- four bytes behind a tape -/
noncomputable def f4 (f : Nat → Int32) (n x : Int32) : Nat → Int32 := fun j => if j = (n + 1 + 1 + 1).toNatClampNeg then bF x (24 + -8 + -8 + -8) else if j = (n + 1 + 1).toNatClampNeg then bF x (24 + -8 + -8) else if j = (n + 1).toNatClampNeg then bF x (24 + -8) else if j = n.toNatClampNeg then bF x 24 else f j
noncomputable abbrev z4 (n : Int32) : Int32 := n + 1 + 1 + 1 + 1
theorem zi1n {x : Int32} {k : Int} (h : x.toInt = k) (h0 : 0 ≤ k ∧ k ≤ 1000) : (x + 1).toInt = k + 1 := (zincN (n := k.toNat) (by omega) (by omega)).trans (by omega)
theorem z4n {x : Int32} {k : Int} (h : x.toInt = k) (h0 : 0 ≤ k ∧ k ≤ 900) : (z4 x).toInt = k + 4 := by
  have e1 := zi1n h (by omega)
  have e2 := zi1n e1 (by omega)
  have e3 := zi1n e2 (by omega)
  have e4 := zi1n e3 (by omega)
  show (x + 1 + 1 + 1 + 1).toInt = _
  omega
theorem z20n {x : Int32} (h : 0 ≤ x.toInt ∧ x.toInt ≤ 1000) : (x + 20).toInt = x.toInt + 20 := by
  rw [Int32.toInt_add, show (20 : Int32).toInt = 20 from rfl]
  exact Int.bmod_eq_of_le (by show (-2147483648 : Int) ≤ x.toInt + 20; omega) (by show x.toInt + 20 < (2147483648 : Int); omega)
noncomputable abbrev f20 (f : Nat → Int32) (n a b c d e : Int32) : Nat → Int32 := f4 (f4 (f4 (f4 (f4 f n a) (z4 n) b) (z4 (z4 n)) c) (z4 (z4 (z4 n))) d) (z4 (z4 (z4 (z4 n)))) e
noncomputable abbrev z20 (n : Int32) : Int32 := z4 (z4 (z4 (z4 (z4 n))))
section CP11
variable {tt : zT} {G : zG} {cd : zK} {bc bs : Nat} {rt : Option FieldType} {dp : Nat} {Q : zQ} {Z : zX} {f : Bool} {pc : Nat} {L : zL} {s : List Value} {h : zH} {c n nx a b d r y : Nat} {v : Value} {m x1 x2 : Int32}
theorem tw_clone (hc : cd[pc]? = some (some (.castore, nx, a, b, d, v))) (k : ∀ (N : Nat) (g : Nat → Int32), h[r]? = some (.inl (0, N, .inl g)) → tG tt G cd bc bs rt (zW tt G dp) Q Z true nx L (.ref h.length :: s) (h ++ [.inl (0, N, .inl g)]) (c + 1) (n + N)) : tG tt G cd bc bs rt (zW tt G dp) Q Z f pc L (.ref r :: s) h c n := tG_row hc (fun z => Or.elim z (fun z => False.elim z) (fun z => by
  obtain ⟨N, g, e, e2, z⟩ := z
  exact Or.inr ⟨N, g, e, e2, k N g e z⟩))
theorem tw_cast (hc : cd[pc]? = some (some (.fmul, nx, a, b, d, v))) (k : tG tt G cd bc bs rt (zW tt G dp) Q Z true nx L (.ref r :: s) h c n) : tG tt G cd bc bs rt (zW tt G dp) Q Z f pc L (.ref r :: s) h c n := tG_row hc (fun z => Or.elim z (fun z => False.elim z) (fun z => by
  obtain ⟨N, g, e, e2, z⟩ := z
  exact Or.inr ⟨N, g, e, e2, k z⟩))
theorem tw_acpy (hc : cd[pc]? = some (some (.sastore, nx, a, b, d, v))) (k : ∀ (N K : Nat) (f1 g1 : Nat → Int32), h[r]? = some (.inl (0, N, .inl f1)) → h[y]? = some (.inl (0, K, .inl g1)) → tG tt G cd bc bs rt (zW tt G dp) Q Z true nx L s (h.set y (.inl (0, K, .inl (va_cpy f1 g1 0 0 m.toNatClampNeg)))) c n) : tG tt G cd bc bs rt (zW tt G dp) Q Z f pc L (.int m :: .int x1 :: .ref y :: .int x2 :: .ref r :: s) h c n := tG_row hc (fun z => Or.elim z (fun z => False.elim z) (fun z => by
  obtain ⟨N, K, f1, g1, e1, e2, e3, z⟩ := z
  exact Or.inr ⟨N, K, f1, g1, e1, e2, e3, k N K f1 g1 e1 e2 z⟩))
end CP11
/-- one array more, the first of another one's -/
noncomputable def cpy (h h2 : zH) (r : Nat) (m : Int32) : Prop := h2.length = h.length + 1 ∧ (∀ p b, p < h.length → tF h2 p b = tF h p b) ∧ (∀ p, p < h.length → tA h2 p = tA h p ∧ tO h2 p = tO h p ∧ tN h2 p = tN h p) ∧ tN h2 h.length = m.toNatClampNeg ∧ ∀ i, i < m.toNatClampNeg → tA h2 h.length i = tA h r i
theorem cpy_of {h : zH} {r N : Nat} {m : Int32} {f g : Nat → Int32} (hr : h[r]? = some (.inl (0, N, .inl f))) (hg : ∀ i, i < m.toNatClampNeg → g i = f i) : cpy h (h ++ [.inl (0, m.toNatClampNeg, .inl g)]) r m := by
  have hf : tA h r = f := by
    funext i
    unfold tA
    rw [hr]
  refine ⟨by rw [List.length_append]; rfl, fun p b hp => ?_, fun p hp => ⟨?_, ?_, ?_⟩, ?_, fun i hi => ?_⟩
  · unfold tF
    rw [List.getElem?_append_left hp]
  · funext i
    unfold tA
    rw [List.getElem?_append_left hp]
  · funext i
    unfold tO
    rw [List.getElem?_append_left hp]
  · unfold tN
    rw [List.getElem?_append_left hp]
  · unfold tN
    rw [List.getElem?_append_right (Nat.le_refl _), Nat.sub_self]
    rfl
  · rw [hf, ← hg i hi]
    unfold tA
    rw [List.getElem?_append_right (Nat.le_refl _), Nat.sub_self]
    rfl
theorem cpy_sh {h h2 : zH} {r : Nat} {m : Int32} (hl : 182 ≤ h.length) (k : cpy h h2 r m) (hs : tSh h) : tSh h2 := by
  have a1 : tSr.all (fun q => Nat.blt q.1 182) = true := by decide +kernel
  have a2 : tSi.all (fun q => Nat.blt q.1 182) = true := by decide +kernel
  refine ⟨fun q hq => ?_, fun q hq => ?_⟩
  · have := Nat.le_of_ble_eq_true (List.all_eq_true.mp a1 q hq)
    rw [k.2.1 _ _ (by omega)]; exact hs.1 q hq
  · have := Nat.le_of_ble_eq_true (List.all_eq_true.mp a2 q hq)
    rw [k.2.1 _ _ (by omega)]; exact hs.2 q hq
theorem tw_alenF {tt : zT} {G : zG} {cd : zK} {bc bs : Nat} {rt : Option FieldType} {dp : Nat} {Q : zQ} {Z : zX} {f : Bool} {pc : Nat} {L : zL} {s : List Value} {h : zH} {c n nx a b d r : Nat} {v : Value} (hc : cd[pc]? = some (some (.arraylength, nx, a, b, d, v))) (k : ∀ (kd N : Nat) (x : (Nat → Int32) ⊕ (Nat → Int64) ⊕ (Nat → UInt32) ⊕ (Nat → UInt64) ⊕ (Nat → Option Nat)), h[r]? = some (.inl (kd, N, x)) → tG tt G cd bc bs rt (zW tt G dp) Q Z true nx L (.int (Int32.ofNat N) :: s) h c n) : tG tt G cd bc bs rt (zW tt G dp) Q Z f pc L (.ref r :: s) h c n := tG_row hc (fun z => Or.elim z (fun z => False.elim z) (fun z => by
  obtain ⟨kd, N, x, hk, e, z⟩ := z
  exact Or.inr ⟨kd, N, x, hk, e, k kd N x e z⟩))
theorem f_copyOf {G : zG} (hG : G.1 = zProg) {h : zH} {r : Nat} {m : Int32} (hm : 0 ≤ m.toInt ∧ m.toInt ≤ (tN h r : Int) ∧ tN h r ≤ 1000) : tC zTt G 283 [.ref r, .int m] h (fun w h2 => w = some (.ref h.length) ∧ cpy h h2 r m) := by
  refine tC_in (by rw [hG]; rfl) (fun dp => ?_)
  refine tw_iload rfl rfl ?_
  refine tw_aload rfl rfl ?_
  refine tw_alenF rfl (fun kd N x e0 => ?_)
  have hl : r < h.length := by
    rcases Nat.lt_or_ge r h.length with z | z
    · exact z
    · rw [List.getElem?_eq_none z] at e0; cases e0
  have hN : tN h r = N := by unfold tN; rw [e0]
  rw [hN] at hm
  refine tw_ic_ne rfl (fun q => ?_) (fun q => ?_)
  · have q : ¬ m = Int32.ofNat N := q
    have hlt : m < Int32.ofNat N := Int32.lt_iff_toInt_lt.mpr (by
      rw [yofN (by omega)]
      have : m.toInt ≠ (N : Int) := fun z => q (Int32.toInt_inj.mp (by rw [yofN (by omega)]; exact z))
      omega)
    refine tw_iload rfl rfl ?_
    refine tw_newa rfl ?_
    refine tw_astore rfl ?_
    refine tw_aload rfl rfl ?_
    refine tw_push rfl ?_
    refine tw_aload rfl rfl ?_
    refine tw_push rfl ?_
    refine tw_aload rfl rfl ?_
    refine tw_alenF rfl (fun k5 N5 x5 e5 => ?_)
    have e5 : (h ++ [zarr (zkind .int) m.toNatClampNeg])[r]? = some (.inl (k5, N5, x5)) := e5
    rw [List.getElem?_append_left hl, e0] at e5
    cases e5
    refine tw_iload rfl rfl ?_
    refine tw_imin rfl ?_
    refine tw_acpy rfl (fun N2 K f1 g1 e1 e2 => ?_)
    have e1 : (h ++ [zarr (zkind .int) m.toNatClampNeg])[r]? = some (.inl (0, N2, .inl f1)) := e1
    have e2 : (h ++ [zarr (zkind .int) m.toNatClampNeg])[h.length]? = some (.inl (0, K, .inl g1)) := e2
    rw [List.getElem?_append_left hl, e0] at e1
    cases e1
    rw [List.getElem?_append_right (Nat.le_refl _), Nat.sub_self] at e2
    have e3 : zarr (zkind .int) m.toNatClampNeg = .inl (0, m.toNatClampNeg, .inl (fun _ => 0)) := rfl
    have e2 : some (zarr (zkind .int) m.toNatClampNeg) = some (.inl (0, K, .inl g1)) := e2
    rw [e3] at e2
    cases e2
    refine tw_aload rfl rfl ?_
    refine tw_aret rfl ⟨rfl, ?_⟩
    show cpy h ((h ++ [zarr (zkind .int) m.toNatClampNeg]).set h.length (.inl (0, m.toNatClampNeg, .inl (va_cpy f1 (fun _ => 0) 0 0 (if m < Int32.ofNat N then m else Int32.ofNat N).toNatClampNeg)))) r m
    rw [List.set_append_right _ _ (Nat.le_refl _), Nat.sub_self, if_pos hlt]
    exact cpy_of e0 (fun i hi => by
      unfold va_cpy
      rw [if_pos ⟨Nat.zero_le _, by omega⟩, Nat.zero_add, Nat.sub_zero])
  · have q : m = Int32.ofNat N := q
    have hmN : m.toNatClampNeg = N := by
      rw [zclE, q, yofN (by omega)]
      rfl
    refine tw_aload rfl rfl ?_
    refine tw_clone rfl (fun N2 g e => ?_)
    have e : h[r]? = some (.inl (0, N2, .inl g)) := e
    rw [e0] at e
    cases e
    refine tw_cast rfl ?_
    refine tw_aret rfl ⟨rfl, ?_⟩
    have := cpy_of (m := m) (g := g) e0 (fun _ _ => rfl)
    rw [hmN] at this
    exact this
theorem tO_st {h : zH} {r i : Nat} {x : Option Nat} {z : Int32} (hf : tInO h r z) {f : Nat → Option Nat} (k : tO h r = f) : tO (tSO h r i x) r = fun j => if j = i then x else f j := by
  rw [tO_tSO hf.cell]
  funext j
  dsimp only
  rw [k]
  by_cases e : j = i
  · rw [if_pos ⟨rfl, e⟩, if_pos e]
  · rw [if_neg (fun z => e z.2), if_neg e]
theorem tO_nz {h : zH} {r i p : Nat} {x : Option Nat} {z : Int32} (hf : tInO h r z) (hn : p ≠ r) : tO (tSO h r i x) p = tO h p := by
  rw [tO_tSO hf.cell]
  funext j
  exact if_neg (fun z => hn z.1)
/-- one rule more -/
noncomputable def cAdd (m : Int32) (h h2 : zH) : Prop := tF h2 48 3 = .int (tvI (tF h 48 3) + 1) ∧ tA h2 49 = (fun j => if j = (tvI (tF h 48 3)).toNatClampNeg then m else tA h 49 j) ∧ tO h2 50 = (fun j => if j = (tvI (tF h 48 3)).toNatClampNeg then some h.length else tO h 50 j) ∧ tO h2 51 = (fun j => if j = (tvI (tF h 48 3)).toNatClampNeg then some (h.length + 1) else tO h 51 j) ∧ tN h2 h.length = (tvI (tF h 44 5)).toNatClampNeg ∧ (∀ i, i < (tvI (tF h 44 5)).toNatClampNeg → tA h2 h.length i = tA h 46 i) ∧ tN h2 (h.length + 1) = (tvI (tF h 44 7) * 4).toNatClampNeg ∧ (∀ i, i < (tvI (tF h 44 7) * 4).toNatClampNeg → tA h2 (h.length + 1) i = tA h 47 i) ∧ (∀ p, p < h.length → p ≠ 49 → tA h2 p = tA h p) ∧ (∀ p b, p < h.length → ¬ (p = 48 ∧ b = 3) → tF h2 p b = tF h p b) ∧ (∀ p, p < h.length → p ≠ 50 → p ≠ 51 → tO h2 p = tO h p) ∧ ∀ p, p < h.length → tN h2 p = tN h p
theorem cAdd_of {h a b : zH} {m i : Int32} {kd : Nat} (hl : 182 ≤ h.length) (e : i = tvI (tF h 48 3)) (f1 : tIn h 49 kd i) (k1 : cpy (tSA h 49 i.toNatClampNeg m) a 46 (tvI (tF h 44 5))) (f2 : tInO a 50 i) (k2 : cpy (tSO a 50 i.toNatClampNeg (some (tSA h 49 i.toNatClampNeg m).length)) b 47 (tvI (tF h 44 7) * 4)) (f3 : tInO b 51 i) (f4 : tFd (tSO b 51 i.toNatClampNeg (some (tSO a 50 i.toNatClampNeg (some (tSA h 49 i.toNatClampNeg m).length)).length)) 48 3) : cAdd m h (tSF (tSO b 51 i.toNatClampNeg (some (tSO a 50 i.toNatClampNeg (some (tSA h 49 i.toNatClampNeg m).length)).length)) 48 3 (.int (i + 1))) := by
  subst e
  have L1 : (tSA h 49 (tvI (tF h 48 3)).toNatClampNeg m).length = h.length := tlen_tSA _ _ _ _
  rw [L1] at k2 f4 ⊢
  have La : a.length = h.length + 1 := by rw [k1.1, L1]
  have L2 : (tSO a 50 (tvI (tF h 48 3)).toNatClampNeg (some h.length)).length = h.length + 1 := by rw [tlen_tSO, La]
  rw [L2] at f4 ⊢
  obtain ⟨-, u1, u2, u3, u4⟩ := k1
  obtain ⟨-, v1, v2, v3, v4⟩ := k2
  rw [L1] at u1 u2 u3 u4
  rw [L2] at v1 v2 v3 v4
  refine ⟨tF_same f4, ?_, ?_, ?_, ?_, ?_, ?_, ?_, ?_, ?_, ?_, ?_⟩
  · rw [tA_tSF, tA_tSO, (v2 49 (by omega)).1, tA_tSO, (u2 49 (by omega)).1]
    exact tA_st f1 rfl
  · rw [tO_tSF, tO_nz f3 (by decide), (v2 50 (by omega)).2.1]
    refine tO_st f2 ?_
    rw [(u2 50 (by omega)).2.1, tO_tSA]
  · rw [tO_tSF]
    refine tO_st f3 ?_
    rw [(v2 51 (by omega)).2.1, tO_nz f2 (by decide), (u2 51 (by omega)).2.1, tO_tSA]
  · rw [tN_tSF, tN_tSO, (v2 h.length (by omega)).2.2, tN_tSO]
    exact u3
  · intro j hj
    rw [tA_tSF, tA_tSO, (v2 h.length (by omega)).1, tA_tSO, u4 j hj, tA_nz (by decide)]
  · rw [tN_tSF, tN_tSO]
    exact v3
  · intro j hj
    rw [tA_tSF, tA_tSO, v4 j hj, tA_tSO, (u2 47 (by omega)).1, tA_nz (by decide)]
  · intro p hp hn
    rw [tA_tSF, tA_tSO, (v2 p (by omega)).1, tA_tSO, (u2 p hp).1, tA_nz hn]
  · intro p c hp hn
    rw [tF_nz hn, tF_tSO, v1 p c (by omega), tF_tSO, u1 p c hp, tF_tSA]
  · intro p hp n1 n2
    rw [tO_tSF, tO_nz f3 n2, (v2 p (by omega)).2.1, tO_nz f2 n1, (u2 p hp).2.1, tO_tSA]
  · intro p hp
    rw [tN_tSF, tN_tSO, (v2 p (by omega)).2.2, tN_tSO, (u2 p hp).2.2, tN_tSA]
theorem f_bfull {G : zG} (hG : G.1 = zProg) {h : zH} (hs : tSh h) : tC zTt G 63 [.ref 48] h (fun w h2 => tBo ((tvI (tF h 48 3)).toInt = 10) w ∧ h2 = h) := by
  refine tC_in (by rw [hG]; rfl) (fun dp => ?_)
  refine tw_aload rfl rfl ?_
  refine tw_getS rfl (hi_48_3 hs) ?_
  refine tw_push rfl ?_
  refine tw_ic_ne rfl (fun q815 => ?_) (fun q815 => ?_)
  · try dsimp only [tvI_i, tvJ_j, tvR_r] at q815
    have q815i := zneq (Y := 10) (by decide) q815
    refine tw_push rfl ?_
    exact tw_iret rfl ⟨Or.inr ⟨by omega, rfl⟩, rfl⟩
  · try dsimp only [tvI_i, tvJ_j, tvR_r] at q815
    have q815i := zeqi (Y := 10) (by decide) q815
    refine tw_push rfl ?_
    refine tw_goto rfl ?_
    exact tw_iret rfl ⟨Or.inl ⟨by omega, rfl⟩, rfl⟩
theorem f_addRule {G : zG} (hG : G.1 = zProg) {h : zH} {m : Int32} (hs : tSh h) (hl : 182 ≤ h.length) (hc : 0 ≤ (tvI (tF h 44 5)).toInt ∧ (tvI (tF h 44 5)).toInt ≤ 400) (hk : 0 ≤ (tvI (tF h 44 7)).toInt ∧ (tvI (tF h 44 7)).toInt ≤ 12) (h46 : tN h 46 = 400) (h47 : tN h 47 = 48) : tC zTt G 64 [.ref 48, .int m, .ref 44] h (fun w h2 => (¬ (tvI (tF h 48 3)).toInt = 10 ∧ w = some (tF h 48 3) ∧ cAdd m h h2) ∨ (¬ ¬ (tvI (tF h 48 3)).toInt = 10 ∧ w = some (.int (-1)) ∧ h2 = h)) := by
  refine tC_in (by rw [hG]; rfl) (fun dp => ?_)
  have m4 : (tvI (tF h 44 7) * 4).toInt = (tvI (tF h 44 7)).toInt * 4 := zi32_4 hk.1 (by omega)
  refine tw_aload rfl rfl ?_
  refine tw_virt0 rfl (f_bfull hG hs) (fun w9 h9 p816 => ?_)
  obtain ⟨⟨p816, rfl⟩ | ⟨p816, rfl⟩, e9⟩ := p816
  · try dsimp only [tvI_i, tvJ_j, tvR_r] at p816
    obtain rfl := e9.symm
    refine tw_if_eq rfl (fun z => absurd z (by decide)) (fun _ => ?_)
    refine tw_push rfl ?_
    exact tw_iret rfl (Or.inr ⟨by omega, rfl, rfl⟩)
  · try dsimp only [tvI_i, tvJ_j, tvR_r] at p816
    obtain rfl := e9.symm
    refine tw_if_eq rfl (fun _ => ?_) (fun z => absurd z (by decide))
    refine tw_aload rfl rfl ?_
    refine tw_getS rfl (hs_48_0 hs) ?_
    refine tw_aload rfl rfl ?_
    refine tw_getS rfl (hi_48_3 hs) ?_
    refine tw_iload rfl rfl ?_
    refine tw_iast rfl (fun f817 => ?_)
    refine tw_aload rfl rfl ?_
    refine tw_getS rfl (hs_48_1 (tSh_SA hs)) ?_
    refine tw_aload rfl rfl ?_
    refine tw_getS rfl (tF_a (hi_48_3 hs)) ?_
    refine tw_aload rfl rfl ?_
    refine tw_getS rfl (hs_44_4 (tSh_SA hs)) ?_
    refine tw_aload rfl rfl ?_
    refine tw_getS rfl (tF_a (hi_44_5 hs)) ?_
    refine tw_stat2 rfl (f_copyOf hG (r := 46) (by rw [tN_tSA, h46]; omega)) (fun wp818 hp818 p818 => ?_)
    obtain ⟨rfl, cp818⟩ := p818
    refine tw_aast rfl (fun f819 => ?_)
    refine tw_aload rfl rfl ?_
    refine tw_getS rfl (hs_48_2 (tSh_SO (cpy_sh (by rw [tlen_tSA]; exact hl) cp818 (tSh_SA hs)))) ?_
    refine tw_aload rfl rfl ?_
    refine tw_getS rfl (tF_o ((cp818.2.1 48 3 (by rw [tlen_tSA]; omega)).trans (tF_a (hi_48_3 hs)))) ?_
    refine tw_aload rfl rfl ?_
    refine tw_getS rfl (hs_44_6 (tSh_SO (cpy_sh (by rw [tlen_tSA]; exact hl) cp818 (tSh_SA hs)))) ?_
    refine tw_aload rfl rfl ?_
    refine tw_getS rfl (tF_o ((cp818.2.1 44 7 (by rw [tlen_tSA]; omega)).trans (tF_a (hi_44_7 hs)))) ?_
    refine tw_push rfl ?_
    refine tw_imul rfl ?_
    refine tw_stat2 rfl (f_copyOf hG (r := 47) (by rw [tN_tSO, (cp818.2.2.1 47 (by rw [tlen_tSA]; omega)).2.2, tN_tSA, h47]; show 0 ≤ (tvI (tF h 44 7) * 4).toInt ∧ (tvI (tF h 44 7) * 4).toInt ≤ ((48 : Nat) : Int) ∧ 48 ≤ 1000; rw [m4]; omega)) (fun wp820 hp820 p820 => ?_)
    obtain ⟨rfl, cp820⟩ := p820
    refine tw_aast rfl (fun f821 => ?_)
    refine tw_aload rfl rfl ?_
    refine tw_dup rfl ?_
    refine tw_getS rfl (tF_o ((cp820.2.1 48 3 (by rw [tlen_tSO, cp818.1, tlen_tSA]; omega)).trans (tF_o ((cp818.2.1 48 3 (by rw [tlen_tSA]; omega)).trans (tF_a (hi_48_3 hs)))))) ?_
    refine tw_dup_x1 rfl ?_
    refine tw_push rfl ?_
    refine tw_iadd rfl ?_
    refine tw_put rfl (fun f822 => ?_)
    exact tw_iret rfl (Or.inl ⟨by omega, congrArg some (hi_48_3 hs).symm, cAdd_of hl rfl f817 cp818 f819 cp820 f821 f822⟩)
noncomputable def R_tlen (h : zH) : Prop := tF h 44 1 = tF h 111 27
noncomputable def R_tape (h : zH) : Prop := tA h 45 = tA h 132
noncomputable def R_rules (h : zH) : Prop := tF h 48 3 = tF h 111 30
noncomputable def R_froms (h : zH) : Prop := tA h 49 = tA h 141
theorem len_181 {h : zH} (e : tN h 181 = 81) : 182 ≤ h.length := by
  rcases Nat.lt_or_ge 181 h.length with q | q
  · omega
  · unfold tN at e
    rw [List.getElem?_eq_none q] at e
    cases e
theorem tN_lt {h : zH} {p : Nat} (e : 0 < tN h p) : p < h.length := by
  refine Classical.byContradiction (fun z => ?_)
  unfold tN at e
  rw [List.getElem?_eq_none (by omega)] at e
  exact absurd e (Nat.lt_irrefl 0)
theorem tC_and {tt : zT} {G : zG} {j : Nat} {as : List Value} {h : zH} {P Q : zQ} (k : tC tt G j as h P) (k2 : tC tt G j as h Q) : tC tt G j as h (fun w h2 => P w h2 ∧ Q w h2) := fun d z => zW_conj tt G d _ _ _ _ _ (k d z) (k2 d z)
theorem tC_triv {tt : zT} {G : zG} {j : Nat} {as : List Value} {h : zH} {Q : zQ} (k : ∀ w h2, Q w h2) : tC tt G j as h Q := fun d z => zW_mono tt G d _ _ _ _ _ (fun w h2 _ => k w h2) z
theorem f_cutTo2 {G : zG} (hG : G.1 = zProg) {h : zH} {n : Int32} : tC zTt G 74 [.ref 44, .int n] h (fun w h2 => w = some (.int n) ∧ h2 = tSF h 44 1 (.int n) ∧ tFd h 44 1) := by
  refine tC_in (by rw [hG]; rfl) (fun dp => ?_)
  refine tw_aload rfl rfl ?_
  refine tw_iload rfl rfl ?_
  refine tw_put rfl (fun f2 => ?_)
  refine tw_iload rfl rfl ?_
  exact tw_iret rfl ⟨rfl, rfl, f2⟩
/-- the codes in an array; a rule's clauses in one -/
noncomputable def cArr (h : zH) (a : Nat) : List Nat := (List.range (tN h a)).map (fun i => (tA h a i).toNatClampNeg)
noncomputable def cCls (h : zH) (b k : Nat) : List rCt := (List.range k).map (fun i => ((tA h b (4 * i)).toNatClampNeg, (tA h b (4 * i + 1)).toNatClampNeg, (tA h b (4 * i + 2)).toNatClampNeg, (tA h b (4 * i + 3)).toNatClampNeg))
/-- what the class's rule leaves -/
noncomputable def cRo (y : Int32) (r : Nat ⊕ (rS × List rCt)) (w : Option Value) (h h2 : zH) : Prop := match r with
  | .inl e => 100000 ≤ e ∨ (tF h2 44 1 = .int 0 ∧ w = some (.int (-2 - Int32.ofNat e)) ∧ tF h2 48 3 = tF h 48 3 ∧ tA h2 49 = tA h 49 ∧ (∀ p, 182 ≤ p → tA h2 p = tA h p) ∧ tO h2 50 = tO h 50 ∧ tO h2 51 = tO h 51)
  | .inr x => tF h2 44 1 = .int 0 ∧ w = some (tF h 48 3) ∧ tF h2 48 3 = .int (tvI (tF h 48 3) + 1) ∧ tA h2 49 = (fun j => if j = (tvI (tF h 48 3)).toNatClampNeg then y else tA h 49 j) ∧ ∃ a, 182 ≤ a ∧ tO h2 50 = (fun j => if j = (tvI (tF h 48 3)).toNatClampNeg then some a else tO h 50 j) ∧ tO h2 51 = (fun j => if j = (tvI (tF h 48 3)).toNatClampNeg then some (a + 1) else tO h 51 j) ∧ cArr h2 a = x.1.2.2 ∧ tN h2 (a + 1) = 4 * x.2.length ∧ cCls h2 (a + 1) x.2.length = x.2 ∧ ∀ p, 182 ≤ p → 0 < tN h p → tA h2 p = tA h p
theorem cRo_r {y : Int32} {h ha : zH} {b : zH} {w : Option Value} (hF : cFq h ha) (hP : cP ha) (hQ : cQ ha) (f1 : tFd ha 44 1) (hl : 182 ≤ ha.length) (hO : tO ha 50 = tO h 50 ∧ tO ha 51 = tO h 51) (k : cAdd y (tSF ha 44 1 (.int 0)) b) (hw : w = some (tF (tSF ha 44 1 (.int 0)) 48 3)) : cRo y (.inr (cs ha, cCl ha)) w h b := by
  have E : tF (tSF ha 44 1 (.int 0)) 48 3 = tF h 48 3 := (tF_nz (by decide)).trans (hF.2.1 48 3 (by decide))
  have E5 : tF (tSF ha 44 1 (.int 0)) 44 5 = tF ha 44 5 := tF_nz (by decide)
  have E7 : tF (tSF ha 44 1 (.int 0)) 44 7 = tF ha 44 7 := tF_nz (by decide)
  have L : (tSF ha 44 1 (.int 0)).length = ha.length := tlen_tSF _ _ _ _
  obtain ⟨k1, k2, k3, k4, k5, k6, k7, k8, k9, k10, k11, k12⟩ := k
  rw [E] at k1 k2 k3 k4
  rw [E5] at k5 k6
  rw [E7] at k7 k8
  rw [L] at k3 k4 k5 k6 k7 k8 k9 k10 k11 k12
  have m4 : (tvI (tF ha 44 7) * 4).toNatClampNeg = 4 * (tvI (tF ha 44 7)).toNatClampNeg := by
    rw [zclE, zi32_4 hQ.1 (by have := hQ.2.1; omega), zclE]
    have := hQ.1
    omega
  have hlen : (cCl ha).length = (tvI (tF ha 44 7)).toNatClampNeg := by unfold cCl; rw [List.length_map, List.length_range]
  refine ⟨?_, hw.trans (by rw [E]), k1, ?_, ha.length, hl, ?_, ?_, ?_, ?_, ?_, fun p hp h0 => ?_⟩
  · rw [k10 44 1 (by omega) (by decide)]
    exact tF_same f1
  · rw [k2]
    funext j
    rw [tA_tSF, hF.2.2.1 49 (by decide) (by decide)]
  · rw [k3, tO_tSF, hO.1]
  · rw [k4, tO_tSF, hO.2]
  · show cArr b ha.length = cCo ha
    unfold cArr cCo
    rw [k5]
    refine List.map_congr_left (fun i hi => ?_)
    have hi := List.mem_range.mp hi
    rw [k6 i hi, tA_tSF]
  · show tN b (ha.length + 1) = 4 * (cCl ha).length
    rw [k7, m4, hlen]
  · show cCls b (ha.length + 1) (cCl ha).length = cCl ha
    rw [hlen]
    unfold cCls cCl
    refine List.map_congr_left (fun i hi => ?_)
    have hi := List.mem_range.mp hi
    rw [k8 (4 * i) (by omega), k8 (4 * i + 1) (by omega), k8 (4 * i + 2) (by omega), k8 (4 * i + 3) (by omega), tA_tSF]
  · have h1 : p < ha.length := tN_lt (by rw [hF.2.2.2]; exact h0)
    rw [k9 p h1 (by omega), tA_tSF, hF.2.2.1 p (by omega) (by omega)]
theorem ofN_ne {e : Nat} (h : e < 100000) : ¬ Int32.ofNat e = -1 := by
  intro z
  have := congrArg Int32.toInt z
  rw [yofN (by omega)] at this
  have m : (-1 : Int32).toInt = -1 := rfl
  omega
noncomputable def ph_ruc (y : Int32) (h : zH) (w : Option Value) (h2 : zH) : Prop := (¬ ((tvI (tF h 48 3)).toInt ≠ 10 ∧ (tvI (tF h 0 14)).toInt ≤ y.toInt ∧ y.toInt ≤ 599) ∧ w = some (.int (-1)) ∧ h2 = h) ∨ (((tvI (tF h 48 3)).toInt ≠ 10 ∧ (tvI (tF h 0 14)).toInt ≤ y.toInt ∧ y.toInt ≤ 599) ∧ ∃ r, (∃ f, rRu (tA h 45) (cn h) f (0, 0, []) [] r) ∧ cRo y r w h h2)
theorem f_rule {G : zG} (hG : G.1 = zProg) (hX : G.2.1 = ztx) (hN : G.2.2.1 ≤ 4096) {τ : List Nat} {h : zH} {y : Int32} (hB : zBs G.2.2.2 τ h) (hs : tSh h) (hl : 0 ≤ (tvI (tF h 44 1)).toInt ∧ (tvI (tF h 44 1)).toInt ≤ 400) (hT9 : ∀ i, i < 400 → -128 ≤ (tA h 45 i).toInt ∧ (tA h 45 i).toInt ≤ 127) (h46 : tN h 46 = 400) (h47 : tN h 47 = 48) (h181 : tN h 181 = 81) : tC zTt G 124 [.ref 0, .int y] h (ph_ruc y h) := by
  by_cases hcnd : ((tvI (tF h 48 3)).toInt ≠ 10 ∧ (tvI (tF h 0 14)).toInt ≤ y.toInt ∧ y.toInt ≤ 599)
  · by_cases hbig : ∃ e f, rRu (tA h 45) (cn h) f (0, 0, []) [] (.inl e) ∧ 100000 ≤ e
    · obtain ⟨e, f, h1, h2⟩ := hbig
      exact tC_triv (fun _ _ => Or.inr ⟨hcnd, .inl e, ⟨f, h1⟩, Or.inl h2⟩)
    · refine tC_in (by rw [hG]; rfl) (fun dp => ?_)
      refine tw_aload rfl rfl ?_
      refine tw_getS rfl (hs_0_3 hs) ?_
      refine tw_virt0 rfl (f_bfull hG hs) (fun w9 h9 p823 => ?_)
      obtain ⟨⟨p823, rfl⟩ | ⟨p823, rfl⟩, e9⟩ := p823
      · try dsimp only [tvI_i, tvJ_j, tvR_r] at p823
        obtain rfl := e9.symm
        refine tw_if_ne rfl (fun _ => ?_) (fun z => absurd z (by decide))
        refine tw_push rfl ?_
        exact tw_iret rfl (Or.inl ⟨fun z => by have := z.1; omega, rfl, rfl⟩)
      · try dsimp only [tvI_i, tvJ_j, tvR_r] at p823
        obtain rfl := e9.symm
        refine tw_if_ne rfl (fun z => absurd z (by decide)) (fun _ => ?_)
        refine tw_iload rfl rfl ?_
        refine tw_aload rfl rfl ?_
        refine tw_getS rfl (hi_0_14 hs) ?_
        refine tw_push rfl ?_
        refine tw_stat3 rfl (f_isWithin hG  (HI := 599) rfl (by decide)) (fun w9 h9 p824 => ?_)
        obtain ⟨⟨p824, rfl⟩ | ⟨p824, rfl⟩, e9⟩ := p824
        · try dsimp only [tvI_i, tvJ_j, tvR_r] at p824
          obtain rfl := e9.symm
          refine tw_if_ne rfl (fun _ => ?_) (fun z => absurd z (by decide))
          refine tw_aload rfl rfl ?_
          refine tw_getS rfl (hs_0_2 hs) ?_
          refine tw_virt0 rfl (tC_and (f_readRule hG hX hs rfl rfl hl hT9 h46 h47) (tC_of (zpub hG hX hN (j := 75) (x := 44) (bs := []) (xs := []) (ct := kt_75_0) (g := false) (kd := 0) (lv := 42) (cts := [kt_75_0]) (by rfl) List.mem_cons_self (by rfl) (by rfl) (by decide) (by decide +kernel) (by decide +kernel) trivial hB))) (fun w9 hp825 p825 => ?_)
          obtain ⟨⟨Fp825, ⟨Np825, rp825, rfl, Pp825, Qp825⟩ | ⟨ep825, Np825, rp825, rfl⟩⟩, -, -, Yp825⟩ := p825
          · refine tw_istore rfl ?_
            refine tw_aload rfl rfl ?_
            refine tw_getS rfl (hs_0_2 Fp825.1) ?_
            refine tw_push rfl ?_
            refine tw_virt1 rfl (f_cutTo2 hG) (fun wp826 hp826 p826 => ?_)
            obtain ⟨rfl, rfl, fp826⟩ := p826
            refine tw_pop rfl ?_
            refine tw_iload rfl rfl ?_
            refine tw_push rfl ?_
            refine tw_ic_ne rfl (fun z => absurd z (by decide)) (fun _ => ?_)
            refine tw_aload rfl rfl ?_
            refine tw_getS rfl (hs_0_3 (hw_44_1 fp826 Fp825.1)) ?_
            refine tw_iload rfl rfl ?_
            refine tw_aload rfl rfl ?_
            refine tw_getS rfl (hs_0_2 (hw_44_1 fp826 Fp825.1)) ?_
            refine tw_virt2 rfl (f_addRule hG (hw_44_1 fp826 Fp825.1) (by rw [tlen_tSF]; exact len_181 ((congrFun Fp825.2.2.2 181).trans h181)) (by rw [tF_nz (by decide)]; exact ⟨Pp825.2.2.1.1, by have a := Pp825.2.2.1.2; have b := Pp825.1.2.1; have c := Pp825.1.2.2; omega⟩) (by rw [tF_nz (by decide)]; exact ⟨Qp825.1, Qp825.2.1⟩) (by rw [tN_tSF, Fp825.2.2.2]; exact h46) (by rw [tN_tSF, Fp825.2.2.2]; exact h47)) (fun wp827 hp827 p827 => ?_)
            refine tw_goto rfl ?_
            have E48 : tF (tSF hp825 44 1 (.int 0)) 48 3 = tF h 48 3 := (tF_nz (by decide)).trans (Fp825.2.1 48 3 (by decide))
            rcases p827 with ⟨c9, w9, k9⟩ | ⟨c9, w9, k9⟩
            · subst w9; exact tw_iret rfl (Or.inr ⟨⟨by omega, by omega⟩, _, ⟨Np825, rp825⟩, cRo_r Fp825 Pp825 Qp825 fp826 (len_181 ((congrFun Fp825.2.2.2 181).trans h181)) ⟨(tfr_A hB Yp825 (p := 50) rfl rfl).2.2, (tfr_A hB Yp825 (p := 51) rfl rfl).2.2⟩ k9 (congrArg some (hi_48_3 (hw_44_1 fp826 Fp825.1)).symm)⟩)
            · exfalso
              rw [E48] at c9
              omega
          · refine tw_istore rfl ?_
            refine tw_aload rfl rfl ?_
            refine tw_getS rfl (hs_0_2 Fp825.1) ?_
            refine tw_push rfl ?_
            refine tw_virt1 rfl (f_cutTo2 hG) (fun wp828 hp828 p828 => ?_)
            obtain ⟨rfl, rfl, fp828⟩ := p828
            refine tw_pop rfl ?_
            refine tw_iload rfl rfl ?_
            refine tw_push rfl ?_
            refine tw_ic_ne rfl (fun q829 => ?_) (fun q829 => ?_)
            · try dsimp only [tvI_i, tvJ_j, tvR_r] at q829
              have q829i := zneq (Y := (-1)) (by decide) q829
              refine tw_push rfl ?_
              refine tw_iload rfl rfl ?_
              refine tw_isub rfl ?_
              exact tw_iret rfl (Or.inr ⟨⟨by omega, by omega⟩, .inl ep825, ⟨Np825, rp825⟩, Or.inr ⟨tF_same fp828, rfl, (tF_nz (by decide)).trans (Fp825.2.1 48 3 (by decide)), (congrFun (tA_tSF _ _ _ _) 49).trans (Fp825.2.2.1 49 (by decide) (by decide)), fun p9 hp9 => (congrFun (tA_tSF _ _ _ _) p9).trans (Fp825.2.2.1 p9 (by omega) (by omega)), (congrFun (tO_tSF _ _ _ _) 50).trans (tfr_A hB Yp825 (p := 50) rfl rfl).2.2, (congrFun (tO_tSF _ _ _ _) 51).trans (tfr_A hB Yp825 (p := 51) rfl rfl).2.2⟩⟩)
            · try dsimp only [tvI_i, tvJ_j, tvR_r] at q829
              have q829i := zeqi (Y := (-1)) (by decide) q829
              exact absurd q829 (ofN_ne (Nat.lt_of_not_le (fun z => hbig ⟨_, _, rp825, z⟩)))
        · try dsimp only [tvI_i, tvJ_j, tvR_r] at p824
          obtain rfl := e9.symm
          refine tw_if_ne rfl (fun z => absurd z (by decide)) (fun _ => ?_)
          refine tw_push rfl ?_
          exact tw_iret rfl (Or.inl ⟨fun z => by have := z.1; omega, rfl, rfl⟩)
  · refine tC_in (by rw [hG]; rfl) (fun dp => ?_)
    refine tw_aload rfl rfl ?_
    refine tw_getS rfl (hs_0_3 hs) ?_
    refine tw_virt0 rfl (f_bfull hG hs) (fun w9 h9 p830 => ?_)
    obtain ⟨⟨p830, rfl⟩ | ⟨p830, rfl⟩, e9⟩ := p830
    · try dsimp only [tvI_i, tvJ_j, tvR_r] at p830
      obtain rfl := e9.symm
      refine tw_if_ne rfl (fun _ => ?_) (fun z => absurd z (by decide))
      refine tw_push rfl ?_
      exact tw_iret rfl (Or.inl ⟨fun z => by have := z.1; omega, rfl, rfl⟩)
    · try dsimp only [tvI_i, tvJ_j, tvR_r] at p830
      obtain rfl := e9.symm
      refine tw_if_ne rfl (fun z => absurd z (by decide)) (fun _ => ?_)
      refine tw_iload rfl rfl ?_
      refine tw_aload rfl rfl ?_
      refine tw_getS rfl (hi_0_14 hs) ?_
      refine tw_push rfl ?_
      refine tw_stat3 rfl (f_isWithin hG  (HI := 599) rfl (by decide)) (fun w9 h9 p831 => ?_)
      obtain ⟨⟨p831, rfl⟩ | ⟨p831, rfl⟩, e9⟩ := p831
      · try dsimp only [tvI_i, tvJ_j, tvR_r] at p831
        obtain rfl := e9.symm
        refine tw_if_ne rfl (fun _ => ?_) (fun z => absurd z (by decide))
        refine tw_aload rfl rfl ?_
        refine tw_getS rfl (hs_0_2 hs) ?_
        refine tw_virt0 rfl (tC_and (f_readRule hG hX hs rfl rfl hl hT9 h46 h47) (tC_of (zpub hG hX hN (j := 75) (x := 44) (bs := []) (xs := []) (ct := kt_75_0) (g := false) (kd := 0) (lv := 42) (cts := [kt_75_0]) (by rfl) List.mem_cons_self (by rfl) (by rfl) (by decide) (by decide +kernel) (by decide +kernel) trivial hB))) (fun w9 hp832 p832 => ?_)
        obtain ⟨⟨Fp832, ⟨Np832, rp832, rfl, Pp832, Qp832⟩ | ⟨ep832, Np832, rp832, rfl⟩⟩, -, -, Yp832⟩ := p832
        · exact absurd ⟨by omega, by omega⟩ hcnd
        · exact absurd ⟨by omega, by omega⟩ hcnd
      · try dsimp only [tvI_i, tvJ_j, tvR_r] at p831
        obtain rfl := e9.symm
        refine tw_if_ne rfl (fun z => absurd z (by decide)) (fun _ => ?_)
        refine tw_push rfl ?_
        exact tw_iret rfl (Or.inl ⟨fun z => by have := z.1; omega, rfl, rfl⟩)
theorem mK_of {xs : Nat → Int32} {τ : List Nat} {h : zH} (hB : zBs xs τ h) : mK h := ⟨kb_111_27 hB, (kb_111_34 hB).1, kb_111_30 hB, fun i hi => ((ka_142 hB).2 i (by rw [(ka_142 hB).1] at hi; exact hi)).1, fun _ => rfl, by rw [(ka_133 hB).1]; decide, by rw [(ka_142 hB).1]; decide⟩
theorem zAr_dep {G : zG} (hG : G.1 = zProg) (hT : G.2.1 = ztx) (hN : G.2.2.1 ≤ 4096) {R : zH → Prop} {cmp : Bool} {φ1 : List Int32 → zH → Option Value → zH → Prop} {φ2 : List Int32 → zH → Option Value → zH → Option Value → zH → Prop} {j1 j2 kd : Nat} {bs : List (Int × Int)} {ct1 ct2 : yCt} {g1 g2 : Bool} {l1 l2 : Nat} {cs1 cs2 : List yCt} (c1 : zCT[j1]? = some cs1) (i1 : ct1 ∈ cs1) (p1 : ct1.1 = zpM 0 bs g1) (v1 : ct1.2.2.1 = (.ofNat l1, [])) (v1' : l1 ≤ 64) (k1 : zpT kd ct1.2.2.2 = true) (q1 : zpG (ywf ct1.2.1) ct1.2.2.2 = true)
  (c2 : zCT[j2]? = some cs2) (i2 : ct2 ∈ cs2) (p2 : ct2.1 = zpM 111 bs g2) (v2 : ct2.2.2.1 = (.ofNat l2, [])) (v2' : l2 ≤ 64) (k2 : zpT kd ct2.2.2.2 = true) (q2 : zpG (ywf ct2.2.1) ct2.2.2.2 = true)
  (f1 : ∀ xs τ h, zpB bs xs → zBs G.2.2.2 τ h → R h → tC zTt G j1 (.ref 0 :: xs.map Value.int) h (fun w h2 => φ1 xs h w h2)) (f2 : ∀ xs τ h w h2 τ2, zpB bs xs → zBs G.2.2.2 τ h → R h → φ1 xs h w h2 → zBs G.2.2.2 τ2 h2 → yFr (ywf ct1.2.1) τ h h2 → tC zTt G j2 (.ref 111 :: xs.map Value.int) h2 (fun w2 h3 => φ2 xs h w h2 w2 h3))
  (fin : ∀ xs τ h w h2 τ2 w2 h3 τ3, zpB bs xs → zBs G.2.2.2 τ h → R h → φ1 xs h w h2 → zBs G.2.2.2 τ2 h2 → yFr (ywf ct1.2.1) τ h h2 → φ2 xs h w h2 w2 h3 → zBs G.2.2.2 τ3 h3 → yFr (ywf ct2.2.1) τ2 h2 h3 → (cmp = true → w2 = w) ∧ R h3) : zAr G R j1 j2 kd bs cmp := by
  intro xs h hb ⟨⟨τ, hB⟩, hR⟩
  refine zW_mono zTt G 64 _ _ _ _ _ ?_ ((f1 xs τ h hb hB hR).both (zpub hG hT hN c1 i1 p1 v1 v1' k1 q1 hb hB))
  rintro w h2 ⟨⟨t1, ⟨τ2, hB2⟩, r1⟩, h1⟩
  refine ⟨t1, zBs_111 hB2, zW_mono zTt G 64 _ _ _ _ _ ?_ ((f2 xs τ h w h2 τ2 hb hB hR h1 hB2 r1).both (zpub hG hT hN c2 i2 p2 v2 v2' k2 q2 hb hB2))⟩
  rintro w2 h3 ⟨⟨t2, ⟨τ3, hB3⟩, r2⟩, hh2⟩
  obtain ⟨e1, e2⟩ := fin xs τ h w h2 τ2 w2 h3 τ3 hb hB hR h1 hB2 r1 hh2 hB3 r2
  exact ⟨t2, e1, ⟨τ3, hB3⟩, e2⟩
noncomputable def ph_rum (y : Int32) (h : zH) (w : Option Value) (h2 : zH) (w2 : Option Value) (h3 : zH) : Prop := (w = some (.int (-1)) ∧ h2 = h ∧ w2 = some (.int (-1)) ∧ h3 = h2) ∨ ∃ r, (∃ f, rRu (tA h 45) (cn h) f (0, 0, []) [] r) ∧ cRo y r w h h2 ∧ mRo y r w2 h2 h3
theorem g_rule0 {G : zG} (hG : G.1 = zProg) {h : zH} {y : Int32} (hs : tSh h) (hc : ¬ ((tvI (tF h 111 30)).toInt ≠ 10 ∧ (tvI (tF h 111 1)).toInt ≤ y.toInt ∧ y.toInt ≤ 599)) : tC zTt G 225 [.ref 111, .int y] h (fun w h2 => w = some (.int (-1)) ∧ h2 = h) := by
  refine tC_in (by rw [hG]; rfl) (fun dp => ?_)
  refine tw_aload rfl rfl ?_
  refine tw_getS rfl (hi_111_30 hs) ?_
  refine tw_push rfl ?_
  refine tw_ic_eq rfl (fun q833 => ?_) (fun q833 => ?_)
  · try dsimp only [tvI_i, tvJ_j, tvR_r] at q833
    have q833i := zeqi (Y := 10) (by decide) q833
    refine tw_push rfl ?_
    exact tw_iret rfl ⟨rfl, rfl⟩
  · try dsimp only [tvI_i, tvJ_j, tvR_r] at q833
    have q833i := zneq (Y := 10) (by decide) q833
    refine tw_iload rfl rfl ?_
    refine tw_i2l rfl ?_
    refine tw_aload rfl rfl ?_
    refine tw_getS rfl (hi_111_1 hs) ?_
    refine tw_i2l rfl ?_
    refine tw_push rfl ?_
    refine tw_stat3 rfl (f_in hG   (HI := 599) (Int32.toInt_toInt64 _) (Int32.toInt_toInt64 _) (by decide)) (fun w9 h9 p834 => ?_)
    obtain ⟨⟨p834, rfl⟩ | ⟨p834, rfl⟩, e9⟩ := p834
    · try dsimp only [tvI_i, tvJ_j, tvR_r] at p834
      obtain rfl := e9.symm
      exact absurd ⟨by omega, by omega⟩ hc
    · try dsimp only [tvI_i, tvJ_j, tvR_r] at p834
      obtain rfl := e9.symm
      refine tw_if_ne rfl (fun z => absurd z (by decide)) (fun _ => ?_)
      refine tw_push rfl ?_
      exact tw_iret rfl ⟨rfl, rfl⟩
theorem g_ruleD {G : zG} (hG : G.1 = zProg) (hX : G.2.1 = ztx) {τ τ2 : List Nat} {y : Int32} {h h2 : zH} {w : Option Value} (hB : zBs G.2.2.2 τ h) (hB2 : zBs G.2.2.2 τ2 h2) (hL : R_tlen h) (hT : R_tape h) (hN : R_rules h) (hW : R_now h) (e1 : tF h2 111 27 = tF h 111 27) (e2 : tF h2 111 30 = tF h 111 30) (e3 : tF h2 111 1 = tF h 111 1) (o1 : tA h2 132 = tA h 132) (k1 : ph_ruc y h w h2) : tC zTt G 225 [.ref 111, .int y] h2 (ph_rum y h w h2) := by
  unfold R_tlen at hL
  unfold R_tape at hT
  unfold R_rules at hN
  unfold R_now at hW
  rcases k1 with ⟨c1, rfl, rfl⟩ | ⟨c1, r, ⟨f, hr⟩, k1⟩
  · refine (g_rule0 hG (zBs_sh hB2) ?_).mono (fun w2 h3 z => Or.inl ⟨rfl, rfl, z.1, z.2⟩)
    rw [← hN, ← hW]
    exact c1
  · have hmn : mn h2 = cn h := by unfold mn cn; rw [e1, ← hL]
    refine (g_rule hG hX (zBs_sh hB2) (mK_of hB2) (o1.trans hT.symm) hmn ⟨f, hr⟩).mono (fun w2 h3 z => ?_)
    rcases z with ⟨c2, -⟩ | ⟨-, z⟩
    · refine absurd ?_ c2
      rw [e2, e3, ← hN, ← hW]
      exact ⟨fun y9 => c1.1 (by rw [y9]; rfl), c1.2.1, c1.2.2⟩
    · exact Or.inr ⟨r, ⟨f, hr⟩, k1, z⟩
theorem a_rule {xs : Nat → Int32} {τ : List Nat} {y : Int32} {h h2 h3 : zH} {w w2 : Option Value} (hB : zBs xs τ h) (hL : R_tlen h) (hN : R_rules h) (hF : R_froms h) (e1 : tF h2 111 27 = tF h 111 27) (e2 : tF h2 111 30 = tF h 111 30) (o2 : tA h2 141 = tA h 141) (t1 : tF h3 44 1 = tF h2 44 1) (t2 : tF h3 48 3 = tF h2 48 3) (t3 : tA h3 49 = tA h2 49) (k2 : ph_rum y h w h2 w2 h3) : w2 = w ∧ R_tlen h3 ∧ R_rules h3 ∧ R_froms h3 := by
  have hN0 := hN
  have hF0 := hF
  unfold R_rules at hN0
  unfold R_froms at hF0
  have i48 := hi_48_3 (zBs_sh hB)
  rcases k2 with ⟨rfl, rfl, rfl, rfl⟩ | ⟨r, -, k1, k2⟩
  · exact ⟨rfl, hL, hN, hF⟩
  · obtain ⟨m1, m2, k2⟩ := k2
    have E27 : tF h3 111 27 = .int 0 := by rw [hi_111_27 m1.1, m2]
    cases r with
    | inl e =>
      obtain ⟨m3, rfl, m4, -, m5⟩ := k2
      rcases k1 with k1 | ⟨k1, rfl, k3, k4, -⟩
      · exact absurd m3 (Nat.not_lt_of_le k1)
      · refine ⟨rfl, ?_, ?_, ?_⟩
        · unfold R_tlen
          rw [t1, k1, E27]
        · unfold R_rules
          rw [t2, k3, m4, e2]
          exact hN0
        · unfold R_froms
          rw [t3, k4, m5, o2]
          exact hF0
    | inr x =>
      obtain ⟨rfl, m4, m5, m6, m7, -⟩ := k2
      obtain ⟨k1, rfl, k3, k4, -⟩ := k1
      have E30 : tvI (tF h2 111 30) = tvI (tF h 48 3) := by rw [e2, ← hN0]
      refine ⟨?_, ?_, ?_, ?_⟩
      · rw [zi1, E30]
        exact congrArg some i48.symm
      · unfold R_tlen
        rw [t1, k1, E27]
      · unfold R_rules
        rw [t2, k3, hi_111_30 m1.1, m4, E30]
      · unfold R_froms
        rw [t3, k4]
        funext q
        rw [E30] at m6 m7
        by_cases z : q = (tvI (tF h 48 3)).toNatClampNeg
        · rw [if_pos z, z, m6]
        · rw [if_neg z, (m7 q z).2, o2, ← hF0]
/-! what the codes of a rule are worth: facts are 0 or 1 -/
noncomputable def tyS (S : List Bool) (c : Nat) : Option (List Bool) :=
  if c < 100012 then some (false :: S)
  else if c = 100110 then (match S with
    | true :: r => some (true :: r)
    | _ => none)
  else if c = 100108 ∨ c = 100109 then (match S with
    | true :: true :: r => some (true :: r)
    | _ => none)
  else if 100100 ≤ c ∧ c < 100103 then (match S with
    | false :: false :: r => some (false :: r)
    | _ => none)
  else if 100103 ≤ c ∧ c < 100108 then (match S with
    | false :: false :: r => some (true :: r)
    | _ => none)
  else none
noncomputable def tyL : List Bool → List Nat → Option (List Bool)
  | S, [] => some S
  | S, c :: e => match tyS S c with
    | none => none
    | some S1 => tyL S1 e
theorem tyL_app {e1 e2 : List Nat} {S S1 S2 : List Bool} (h1 : tyL S e1 = some S1) (h2 : tyL S1 e2 = some S2) : tyL S (e1 ++ e2) = some S2 := by
  induction e1 generalizing S with
  | nil =>
    have h1 : some S = some S1 := h1
    cases h1
    exact h2
  | cons c e1 ih =>
    have h1 : (match tyS S c with | none => none | some S1 => tyL S1 e1) = some S1 := h1
    show (match tyS S c with | none => none | some S1 => tyL S1 (e1 ++ e2)) = some S2
    cases hc : tyS S c with
    | none => rw [hc] at h1; cases h1
    | some S3 =>
      rw [hc] at h1
      exact ih h1
/-- how many values -/
noncomputable def nVl : List Nat → Nat
  | [] => 0
  | c :: e => (if c < 100100 then 1 else 0) + nVl e
theorem nVl_app {e1 e2 : List Nat} : nVl (e1 ++ e2) = nVl e1 + nVl e2 := by
  induction e1 with
  | nil => show nVl e2 = 0 + nVl e2; omega
  | cons c e ih =>
    show (if c < 100100 then 1 else 0) + nVl (e ++ e2) = (if c < 100100 then 1 else 0) + nVl e + nVl e2
    rw [ih]
    omega
noncomputable def tyH (A B : List Bool → List Bool) (s s2 : rS) : Prop := ∃ e, s2.2.2 = s.2.2 ++ e ∧ nVl e + s.2.1 ≤ s2.2.1 ∧ (s.2.1 ≤ 80 → s2.2.1 ≤ 80) ∧ ∀ S, tyL (A S) e = some (B S)
section TYH
variable {A B C : List Bool → List Bool} {s s1 s2 : rS} {c p : Nat}
theorem tyH_r : tyH A A s s := ⟨[], (List.append_nil _).symm, by show 0 + _ ≤ _; omega, id, fun _ => rfl⟩
theorem tyH_t (h1 : tyH A B s s1) (h2 : tyH B C s1 s2) : tyH A C s s2 := by
  obtain ⟨e1, a1, a2, a3, a4⟩ := h1
  obtain ⟨e2, b1, b2, b3, b4⟩ := h2
  exact ⟨e1 ++ e2, by rw [b1, a1, List.append_assoc], by rw [nVl_app]; omega, fun z => b3 (a3 z), fun S => tyL_app (a4 S) (b4 S)⟩
theorem tyH_a (h : tyH A B s s1) : tyH A B s (rA p s1) := h
theorem tyH_b (h : tyH A B (rA p s) s1) : tyH A B s s1 := h
theorem tyH_c (h : s.2.1 ≠ 80) : tyH A A s (s.1, s.2.1 + 1, s.2.2) := ⟨[], (List.append_nil _).symm, by show 0 + _ ≤ _ + 1; omega, fun z => by show _ + 1 ≤ 80; omega, fun _ => rfl⟩
theorem tyH_u (hv : 100100 ≤ c) (hc : ∀ S, tyS (A S) c = some (B S)) : tyH A B s (rU c s) := ⟨[c], rfl, by show (if c < 100100 then 1 else 0) + 0 + _ ≤ _; rw [if_neg (by omega)]; show 0 + 0 + s.2.1 ≤ s.2.1; omega, id, fun S => by
  show (match tyS (A S) c with | none => none | some S1 => tyL S1 []) = some (B S)
  rw [hc S]
  rfl⟩
theorem tyH_v (h : s.2.1 ≠ 80) (hv : c < 100012) : tyH A (fun S => false :: A S) s (rU c (rA p (s.1, s.2.1 + 1, s.2.2))) := ⟨[c], rfl, by show (if c < 100100 then 1 else 0) + 0 + s.2.1 ≤ s.2.1 + 1; rw [if_pos (by omega)]; omega, fun z => by show _ + 1 ≤ 80; omega, fun S => by
  have e : tyS (A S) c = some (false :: A S) := by
    unfold tyS
    rw [if_pos hv]
  show (match tyS (A S) c with | none => none | some S1 => tyL S1 []) = some (false :: A S)
  rw [e]
  rfl⟩
theorem tyH_S (g : List Bool → List Bool) (h : tyH A B s s2) : tyH (fun S => A (g S)) (fun S => B (g S)) s s2 := by
  obtain ⟨e, a1, a2, a3, a4⟩ := h
  exact ⟨e, a1, a2, a3, fun S => a4 (g S)⟩
theorem rK_ok {x : rR} {k : rS → rR} (h : rK x k = some (.inr s2)) : ∃ s1, x = some (.inr s1) ∧ k s1 = some (.inr s2) := by
  match x, h with
  | none, h => cases h
  | some (.inl f), h => cases h
  | some (.inr s1), h => exact ⟨s1, rfl, h⟩
theorem rC_ok (h : rC p s = some (.inr s1)) : s.2.1 ≠ 80 ∧ s1 = (s.1, s.2.1 + 1, s.2.2) := by
  unfold rC at h
  by_cases z : s.2.1 = 80
  · rw [if_pos z] at h; cases h
  · rw [if_neg z] at h; cases h; exact ⟨z, rfl⟩
theorem rO_ok (h : rO s = some (.inr s1)) : s1 = s := by cases h; rfl
theorem rF_no {w : Nat} (h : rF p w = some (.inr s1)) : False := by cases h
end TYH
noncomputable def mIn : Nat → List Bool → List Bool
  | 2 => fun S => false :: S
  | 4 => fun S => false :: S
  | 8 => fun S => true :: S
  | 10 => fun S => true :: S
  | _ => fun S => S
noncomputable def mOu : Nat → List Bool → List Bool
  | 0 => fun S => false :: S
  | 1 => fun S => false :: S
  | 2 => fun S => false :: S
  | 3 => fun S => false :: S
  | 4 => fun S => false :: S
  | _ => fun S => true :: S
theorem rM_le {T : Nat → Int32} {n most p : Nat} {q : Nat × Nat} (h : rM T n most p = .inr q) : q.2 ≤ most := by
  unfold rM at h
  split at h
  · cases h
  · split at h
    · cases h
    · rename_i z
      cases h
      exact Nat.le_of_not_lt (fun y => z (Or.inr y))
theorem rCm_le {T : Nat → Int32} {n b : Nat} {q : Nat × Nat} (h : rCm T n b = some q) : 100103 ≤ q.1 ∧ q.1 < 100108 := by
  unfold rCm at h
  split at h
  · cases h; exact ⟨Nat.le_of_ble_eq_true rfl, Nat.le_of_ble_eq_true rfl⟩
  · split at h
    · split at h <;> cases h <;> exact ⟨Nat.le_of_ble_eq_true rfl, Nat.le_of_ble_eq_true rfl⟩
    · split at h
      · split at h <;> cases h <;> exact ⟨Nat.le_of_ble_eq_true rfl, Nat.le_of_ble_eq_true rfl⟩
      · cases h
theorem ty_pm {c : Nat} (hc : 100100 ≤ c ∧ c < 100103) (S : List Bool) : tyS (false :: false :: S) c = some (false :: S) := by
  unfold tyS
  rw [if_neg (by omega), if_neg (by omega), if_neg (by omega), if_pos hc]
theorem ty_cm {c : Nat} (hc : 100103 ≤ c ∧ c < 100108) (S : List Bool) : tyS (false :: false :: S) c = some (true :: S) := by
  unfold tyS
  rw [if_neg (by omega), if_neg (by omega), if_neg (by omega), if_neg (by omega), if_pos hc]
theorem ty_ao {c : Nat} (hc : c = 100108 ∨ c = 100109) (S : List Bool) : tyS (true :: true :: S) c = some (true :: S) := by
  unfold tyS
  rw [if_neg (by omega), if_neg (by omega), if_pos hc]
theorem ty_no (S : List Bool) : tyS (true :: S) 100110 = some (true :: S) := by
  unfold tyS
  rw [if_neg (by omega), if_pos rfl]
theorem rX_ty {T : Nat → Int32} {n : Nat} : ∀ (f m d : Nat) (s s2 : rS), m ≤ 10 → rX T n f m d s = some (.inr s2) → tyH (mIn m) (mOu m) s s2 := by
  intro f
  induction f with
  | zero =>
    intro m d s s2 hm h
    have h : (none : rR) = some (.inr s2) := h
    cases h
  | succ f ih =>
    have i0 : ∀ d s s2, rX T n f 0 d s = some (.inr s2) → tyH (fun S => S) (fun S => false :: S) s s2 := fun d s s2 h => ih 0 d s s2 (by decide) h
    have i1 : ∀ d s s2, rX T n f 1 d s = some (.inr s2) → tyH (fun S => S) (fun S => false :: S) s s2 := fun d s s2 h => ih 1 d s s2 (by decide) h
    have i2 : ∀ d s s2, rX T n f 2 d s = some (.inr s2) → tyH (fun S => false :: S) (fun S => false :: S) s s2 := fun d s s2 h => ih 2 d s s2 (by decide) h
    have i3 : ∀ d s s2, rX T n f 3 d s = some (.inr s2) → tyH (fun S => S) (fun S => false :: S) s s2 := fun d s s2 h => ih 3 d s s2 (by decide) h
    have i4 : ∀ d s s2, rX T n f 4 d s = some (.inr s2) → tyH (fun S => false :: S) (fun S => false :: S) s s2 := fun d s s2 h => ih 4 d s s2 (by decide) h
    have i5 : ∀ d s s2, rX T n f 5 d s = some (.inr s2) → tyH (fun S => S) (fun S => true :: S) s s2 := fun d s s2 h => ih 5 d s s2 (by decide) h
    have i6 : ∀ d s s2, rX T n f 6 d s = some (.inr s2) → tyH (fun S => S) (fun S => true :: S) s s2 := fun d s s2 h => ih 6 d s s2 (by decide) h
    have i7 : ∀ d s s2, rX T n f 7 d s = some (.inr s2) → tyH (fun S => S) (fun S => true :: S) s s2 := fun d s s2 h => ih 7 d s s2 (by decide) h
    have i8 : ∀ d s s2, rX T n f 8 d s = some (.inr s2) → tyH (fun S => true :: S) (fun S => true :: S) s s2 := fun d s s2 h => ih 8 d s s2 (by decide) h
    have i9 : ∀ d s s2, rX T n f 9 d s = some (.inr s2) → tyH (fun S => S) (fun S => true :: S) s s2 := fun d s s2 h => ih 9 d s s2 (by decide) h
    have i10 : ∀ d s s2, rX T n f 10 d s = some (.inr s2) → tyH (fun S => true :: S) (fun S => true :: S) s s2 := fun d s s2 h => ih 10 d s s2 (by decide) h
    intro m d s s2 hm h
    rcases (by omega : m = 0 ∨ m = 1 ∨ m = 2 ∨ m = 3 ∨ m = 4 ∨ m = 5 ∨ m = 6 ∨ m = 7 ∨ m = 8 ∨ m = 9 ∨ m = 10) with rfl | rfl | rfl | rfl | rfl | rfl | rfl | rfl | rfl | rfl | rfl
    · have h : (if rB T n s.1 < n ∧ T (rB T n s.1) = 40 then (if d = 10 then rF (rB T n s.1) 2 else rK (rC (rB T n s.1) s) (fun s1 => rK (rX T n f 3 (d + 1) (rA (rB T n s.1 + 1) s1)) (rT T n 41)))
      else (match rK12 T n (rB T n s.1) with
        | some k => rK (rC (rB T n s.1) s) (fun s1 => rO (rU (100000 + k) (rA (rE T n (rB T n s.1)) s1)))
        | none => (match rM T n 99999 (rB T n s.1) with
          | .inl e => some (.inl e)
          | .inr q => rK (rC (rB T n s.1) s) (fun s1 => rO (rU q.2 (rA q.1 s1)))))) = some (.inr s2) := h
      show tyH (fun S => S) (fun S => false :: S) s s2
      split at h
      · split at h
        · exact (rF_no h).elim
        · obtain ⟨s1, h1, h⟩ := rK_ok h
          obtain ⟨k1, rfl⟩ := rC_ok h1
          obtain ⟨s3, h3, h⟩ := rK_ok h
          obtain ⟨-, rfl⟩ := rTon h
          exact tyH_a (tyH_t (tyH_c k1) (tyH_b (i3 _ _ _ h3)))
      · cases hk : rK12 T n (rB T n s.1) with
        | some k =>
          rw [hk] at h
          obtain ⟨s1, h1, h⟩ := rK_ok h
          obtain ⟨k1, rfl⟩ := rC_ok h1
          rw [rO_ok h]
          have := (rK12_s hk).1
          exact tyH_v k1 (by omega)
        | none =>
          rw [hk] at h
          cases hM : rM T n 99999 (rB T n s.1) with
          | inl e => simp only [hM] at h; cases h
          | inr q =>
            simp only [hM] at h
            obtain ⟨s1, h1, h⟩ := rK_ok h
            obtain ⟨k1, rfl⟩ := rC_ok h1
            rw [rO_ok h]
            have := rM_le hM
            exact tyH_v k1 (by omega)
    · have h : rK (rX T n f 0 d s) (rX T n f 2 d) = some (.inr s2) := h
      obtain ⟨s1, h1, h⟩ := rK_ok h
      exact tyH_t (i0 _ _ _ h1) (i2 _ _ _ h)
    · have h : (if rB T n s.1 < n ∧ T (rB T n s.1) = 42 then rK (rX T n f 0 d (rA (rB T n s.1 + 1) s)) (fun s1 => rX T n f 2 d (rU 100102 s1)) else rO (rA (rB T n s.1) s)) = some (.inr s2) := h
      show tyH (fun S => false :: S) (fun S => false :: S) s s2
      split at h
      · obtain ⟨s1, h1, h⟩ := rK_ok h
        exact tyH_t (tyH_S (fun S => false :: S) (tyH_b (i0 _ _ _ h1))) (tyH_t (tyH_u (by decide) (ty_pm (by decide))) (i2 _ _ _ h))
      · rw [rO_ok h]
        exact tyH_a tyH_r
    · have h : rK (rX T n f 1 d s) (rX T n f 4 d) = some (.inr s2) := h
      obtain ⟨s1, h1, h⟩ := rK_ok h
      exact tyH_t (i1 _ _ _ h1) (i4 _ _ _ h)
    · have h : (if rB T n s.1 < n ∧ T (rB T n s.1) = 43 then rK (rX T n f 1 d (rA (rB T n s.1 + 1) s)) (fun s1 => rX T n f 4 d (rU 100100 s1))
      else if rB T n s.1 < n ∧ T (rB T n s.1) = 45 then rK (rX T n f 1 d (rA (rB T n s.1 + 1) s)) (fun s1 => rX T n f 4 d (rU 100101 s1))
      else rO (rA (rB T n s.1) s)) = some (.inr s2) := h
      show tyH (fun S => false :: S) (fun S => false :: S) s s2
      split at h
      · obtain ⟨s1, h1, h⟩ := rK_ok h
        exact tyH_t (tyH_S (fun S => false :: S) (tyH_b (i1 _ _ _ h1))) (tyH_t (tyH_u (by decide) (ty_pm (by decide))) (i4 _ _ _ h))
      · split at h
        · obtain ⟨s1, h1, h⟩ := rK_ok h
          exact tyH_t (tyH_S (fun S => false :: S) (tyH_b (i1 _ _ _ h1))) (tyH_t (tyH_u (by decide) (ty_pm (by decide))) (i4 _ _ _ h))
        · rw [rO_ok h]
          exact tyH_a tyH_r
    · have h : rK (rX T n f 3 d s) (fun s1 => match rCm T n (rB T n s1.1) with
        | none => rF (rB T n s1.1) 0
        | some q => rK (rC (rB T n s1.1) s1) (fun s2 => rK (rX T n f 3 d (rA q.2 s2)) (fun s3 => rO (rU q.1 s3)))) = some (.inr s2) := h
      show tyH (fun S => S) (fun S => true :: S) s s2
      obtain ⟨s1, h1, h⟩ := rK_ok h
      cases hq : rCm T n (rB T n s1.1) with
      | none => simp only [hq] at h; exact (rF_no h).elim
      | some q =>
        simp only [hq] at h
        obtain ⟨s3, h3, h⟩ := rK_ok h
        obtain ⟨k3, rfl⟩ := rC_ok h3
        obtain ⟨s4, h4, h⟩ := rK_ok h
        rw [rO_ok h]
        have := rCm_le hq
        exact tyH_t (i3 _ _ _ h1) (tyH_t (tyH_c k3) (tyH_t (tyH_S (fun S => false :: S) (tyH_b (i3 _ _ _ h4))) (tyH_u (by omega) (ty_cm this))))
    · have h : (if rW T n (rB T n s.1) (rWd 19) = true then (if d = 10 then rF (rB T n s.1) 2 else rK (rX T n f 6 (d + 1) (rA (rB T n s.1 + 3) s)) (fun s1 => rO (rU 100110 s1)))
      else if rB T n s.1 < n ∧ T (rB T n s.1) = 91 then (if d = 10 then rF (rB T n s.1) 2 else rK (rX T n f 9 (d + 1) (rA (rB T n s.1 + 1) s)) (rT T n 93))
      else rX T n f 5 d (rA (rB T n s.1) s)) = some (.inr s2) := h
      show tyH (fun S => S) (fun S => true :: S) s s2
      split at h
      · split at h
        · exact (rF_no h).elim
        · obtain ⟨s1, h1, h⟩ := rK_ok h
          rw [rO_ok h]
          exact tyH_t (tyH_b (i6 _ _ _ h1)) (tyH_u (by decide) ty_no)
      · split at h
        · split at h
          · exact (rF_no h).elim
          · obtain ⟨s1, h1, h⟩ := rK_ok h
            obtain ⟨-, rfl⟩ := rTon h
            exact tyH_a (tyH_b (i9 _ _ _ h1))
        · exact tyH_b (i5 _ _ _ h)
    · have h : rK (rX T n f 6 d s) (rX T n f 8 d) = some (.inr s2) := h
      obtain ⟨s1, h1, h⟩ := rK_ok h
      exact tyH_t (i6 _ _ _ h1) (i8 _ _ _ h)
    · have h : (if rW T n (rB T n s.1) (rWd 18) = true then rK (rX T n f 6 d (rA (rB T n s.1 + 3) s)) (fun s1 => rX T n f 8 d (rU 100109 s1)) else rO (rA (rB T n s.1) s)) = some (.inr s2) := h
      show tyH (fun S => true :: S) (fun S => true :: S) s s2
      split at h
      · obtain ⟨s1, h1, h⟩ := rK_ok h
        exact tyH_t (tyH_S (fun S => true :: S) (tyH_b (i6 _ _ _ h1))) (tyH_t (tyH_u (by decide) (ty_ao (by decide))) (i8 _ _ _ h))
      · rw [rO_ok h]
        exact tyH_a tyH_r
    · have h : rK (rX T n f 7 d s) (rX T n f 10 d) = some (.inr s2) := h
      obtain ⟨s1, h1, h⟩ := rK_ok h
      exact tyH_t (i7 _ _ _ h1) (i10 _ _ _ h)
    · have h : (if rW T n (rB T n s.1) (rWd 17) = true then rK (rX T n f 7 d (rA (rB T n s.1 + 2) s)) (fun s1 => rX T n f 10 d (rU 100108 s1)) else rO (rA (rB T n s.1) s)) = some (.inr s2) := h
      show tyH (fun S => true :: S) (fun S => true :: S) s s2
      split at h
      · obtain ⟨s1, h1, h⟩ := rK_ok h
        exact tyH_t (tyH_S (fun S => true :: S) (tyH_b (i7 _ _ _ h1))) (tyH_t (tyH_u (by decide) (ty_ao (by decide))) (i10 _ _ _ h))
      · rw [rO_ok h]
        exact tyH_a tyH_r
theorem pE_ty {T : Nat → Int32} {n m d : Nat} {s s2 : rS} (hm : m ≤ 10) (h : pE T n m d s (.inr s2)) : tyH (mIn m) (mOu m) s s2 := by
  obtain ⟨N, h⟩ := h
  exact rX_ty N m d s s2 hm (h N (Nat.le_refl _))
/-- a clause and the codes that it stands over -/
noncomputable def rOk (cs : List Nat) (c : rCt) : Prop := ∃ p e1 e2 q, cs = p ++ (e1 ++ (e2 ++ q)) ∧ c.2.1 = p.length ∧ c.2.2.1 = p.length + e1.length ∧ c.2.2.2 = p.length + e1.length + e2.length ∧ (c.1 ≠ 15 → tyL [] e1 = some [false]) ∧ (e2 = [] ∨ tyL [] e2 = some [true])
theorem rOk_m {cs e : List Nat} {c : rCt} (h : rOk cs c) : rOk (cs ++ e) c := by
  obtain ⟨p, e1, e2, q, h1, h2⟩ := h
  exact ⟨p, e1, e2, q ++ e, by rw [h1, List.append_assoc, List.append_assoc, List.append_assoc], h2⟩
noncomputable def rOi (s : rS) : Prop := nVl s.2.2 ≤ s.2.1 ∧ s.2.1 ≤ 80
theorem rOi_h {A B : List Bool → List Bool} {s s2 : rS} (h : tyH A B s s2) (i : rOi s) : rOi s2 := by
  obtain ⟨e, a1, a2, a3, -⟩ := h
  refine ⟨?_, a3 i.2⟩
  rw [a1, nVl_app]
  have := i.1
  omega
noncomputable def rOj (s : rS) (x : rS × rCt) : Prop := (∃ e, x.1.2.2 = s.2.2 ++ e) ∧ rOk x.1.2.2 x.2 ∧ (rOi s → rOi x.1)
theorem rCl3_ok {T : Nat → Int32} {n k th : Nat} {s s2 : rS} {e1 : List Nat} {x : rS × rCt} (hs : s2.2.2 = s.2.2 ++ e1) (hi : rOi s → rOi s2) (h1 : th ≠ 15 → tyL [] e1 = some [false]) (h : rCl3 T n k th s.2.2.length s2 (.inr x)) : rOj s x := by
  rcases h with ⟨-, ⟨e, -, h⟩ | ⟨s3, h, h9⟩⟩ | ⟨-, -, h⟩ | ⟨-, -, h9⟩
  · cases h
  · cases h9
    have ht := pE_ty (by decide) h
    obtain ⟨e2, b1, b2, b3, b4⟩ := ht
    have b1 : s3.2.2 = s2.2.2 ++ e2 := b1
    have b4 : tyL [] e2 = some [true] := b4 []
    refine ⟨⟨e1 ++ e2, by show s3.2.2 = _; rw [b1, hs, List.append_assoc]⟩, ⟨s.2.2, e1, e2, [], ?_, rfl, ?_, ?_, h1, Or.inr b4⟩, fun z => rOi_h (pE_ty (by decide) h) (hi z)⟩
    · show s3.2.2 = _
      rw [b1, hs, List.append_nil, List.append_assoc]
    · show s2.2.2.length = _
      rw [hs, List.length_append]
    · show s3.2.2.length = _
      rw [b1, hs, List.length_append, List.length_append]
  · cases h
  · cases h9
    refine ⟨⟨e1, hs⟩, ⟨s.2.2, e1, [], [], ?_, rfl, ?_, ?_, h1, Or.inl rfl⟩, hi⟩
    · show s2.2.2 = _
      rw [hs, List.append_nil, List.append_nil]
    · show s2.2.2.length = _
      rw [hs, List.length_append]
    · show s2.2.2.length = _
      rw [hs, List.length_append]
      rfl
theorem rCl2_ok {T : Nat → Int32} {n k th : Nat} {s : rS} {x : rS × rCt} (hk : k ≠ 15 → th ≠ 15) (hk2 : k = 15 → th = 15) (h : rCl2 T n k th s (.inr x)) : rOj s x := by
  rcases h with ⟨a, h⟩ | ⟨a, ⟨e, -, h⟩ | ⟨s2, h2, h⟩⟩
  · exact rCl3_ok (e1 := []) (List.append_nil _).symm id (fun z => absurd (hk2 a) z) h
  · cases h
  · have ht := pE_ty (by decide) h2
    have hi : rOi s → rOi s2 := rOi_h ht
    obtain ⟨e1, b1, b2, b3, b4⟩ := ht
    exact rCl3_ok b1 hi (fun _ => b4 []) h
theorem rCl_ok {T : Nat → Int32} {n c : Nat} {s : rS} {x : rS × rCt} (h : rCl T n c s (.inr x)) : rOj s x := by
  rcases h with ⟨-, h⟩ | ⟨k, -, -, -, ⟨-, h⟩ | ⟨-, h⟩⟩
  · cases h
  · cases h
  · rcases h with ⟨a, ⟨e, -, h⟩ | ⟨q, h1, h⟩⟩ | ⟨a, h⟩
    · cases h
    · have := rM_le h1
      have h := rCl2_ok (fun _ => by omega) (fun z => by omega) h
      exact h
    · have y := rCl2_ok (s := rA (rE T n (rB T n s.1)) s) id id h
      exact y
theorem rRu_ok {T : Nat → Int32} {n : Nat} : ∀ (f : Nat) (s : rS) (cl : List rCt) (x : rS × List rCt), rRu T n f s cl (.inr x) → rOi s → (∀ c ∈ cl, rOk s.2.2 c) → rOi x.1 ∧ ∀ c ∈ x.2, rOk x.1.2.2 c
  | 0, _, _, _, h, _, _ => h.elim
  | f + 1, s, cl, x, h, hi, hc => by
    rcases h with ⟨e, -, h⟩ | ⟨s1, c, h1, h⟩
    · cases h
    · obtain ⟨⟨e, a1⟩, a2, a3⟩ := rCl_ok h1
      have a1 : s1.2.2 = s.2.2 ++ e := a1
      have hc2 : ∀ c2 ∈ cl ++ [c], rOk s1.2.2 c2 := by
        intro c2 hm
        rcases List.mem_append.mp hm with z | z
        · rw [a1]; exact rOk_m (hc c2 z)
        · rcases List.mem_singleton.mp z with rfl
          exact a2
      rcases h with ⟨-, h⟩ | ⟨-, h⟩ | ⟨-, h⟩
      · cases h
        exact ⟨a3 hi, hc2⟩
      · exact rRu_ok f (rA _ s1) _ x h (a3 hi) hc2
      · cases h
/-! what codes are worth -/
noncomputable def b64 (p : Prop) [Decidable p] : Int64 := if p then 1 else 0
theorem b64_f (p : Prop) [Decidable p] : b64 p = 0 ∨ b64 p = 1 := by
  unfold b64
  by_cases h : p
  · rw [if_pos h]; exact Or.inr rfl
  · rw [if_neg h]; exact Or.inl rfl
theorem b64_1 {p : Prop} [Decidable p] (h : p) : b64 p = 1 := if_pos h
theorem b64_0 {p : Prop} [Decidable p] (h : ¬ p) : b64 p = 0 := if_neg h
noncomputable def vOf (W : Nat → Int64) (c : Nat) : Int64 := if 100000 ≤ c then W (c - 100000) else (Int32.ofNat c).toInt64
noncomputable def jo (c : Nat) (a b : Int64) : Int64 := if c = 100100 then a + b else if c = 100101 then a - b else if c = 100102 then a * b else if c = 100103 then b64 (a.toInt < b.toInt) else if c = 100104 then b64 (a.toInt ≤ b.toInt) else if c = 100105 then b64 (a = b) else if c = 100106 then b64 (b.toInt ≤ a.toInt) else if c = 100108 then a ||| b else if c = 100109 then a &&& b else b64 (b.toInt < a.toInt)
noncomputable def jp (c : Nat) (a b : Int64) : Int64 := if c = 100108 then b64 (a ≠ 0 ∨ b ≠ 0) else if c = 100109 then b64 (a ≠ 0 ∧ b ≠ 0) else jo c a b
theorem jp_o {c : Nat} {a b : Int64} (h1 : c ≠ 100108) (h2 : c ≠ 100109) : jp c a b = jo c a b := by
  unfold jp
  rw [if_neg h1, if_neg h2]
theorem jp_8 {a b : Int64} : jp 100108 a b = b64 (a ≠ 0 ∨ b ≠ 0) := by
  unfold jp
  rw [if_pos rfl]
theorem jp_9 {a b : Int64} : jp 100109 a b = b64 (a ≠ 0 ∧ b ≠ 0) := by
  unfold jp
  rw [if_neg (by decide), if_pos rfl]
theorem jo_8 {a b : Int64} : jo 100108 a b = a ||| b := by
  unfold jo
  rw [if_neg (by decide), if_neg (by decide), if_neg (by decide), if_neg (by decide), if_neg (by decide), if_neg (by decide), if_neg (by decide), if_pos rfl]
theorem jo_9 {a b : Int64} : jo 100109 a b = a &&& b := by
  unfold jo
  rw [if_neg (by decide), if_neg (by decide), if_neg (by decide), if_neg (by decide), if_neg (by decide), if_neg (by decide), if_neg (by decide), if_neg (by decide), if_pos rfl]
theorem jo_f {c : Nat} {a b : Int64} (h : 100103 ≤ c ∧ c < 100108) : jo c a b = 0 ∨ jo c a b = 1 := by
  unfold jo
  rw [if_neg (by omega), if_neg (by omega), if_neg (by omega)]
  repeat' split
  all_goals first | exact b64_f _ | (exfalso; omega)
noncomputable def ev1 (W : Nat → Int64) (c : Nat) (X : List Int64) : List Int64 :=
  if c < 100100 then vOf W c :: X
  else if c = 100110 then (match X with
    | x :: r => (1 - x) :: r
    | [] => [])
  else (match X with
    | b :: a :: r => jo c a b :: r
    | X => X)
noncomputable def et1 (W : Nat → Int64) (c : Nat) (X : List Int64) : List Int64 :=
  if c < 100100 then vOf W c :: X
  else if c = 100110 then (match X with
    | x :: r => b64 (x = 0) :: r
    | [] => [])
  else (match X with
    | b :: a :: r => jp c a b :: r
    | X => X)
noncomputable def ev (W : Nat → Int64) : List Nat → List Int64 → List Int64
  | [], X => X
  | c :: e, X => ev W e (ev1 W c X)
noncomputable def et (W : Nat → Int64) : List Nat → List Int64 → List Int64
  | [], X => X
  | c :: e, X => et W e (et1 W c X)
noncomputable def okS : List Bool → List Int64 → Prop
  | [], [] => True
  | t :: S, x :: r => (t = true → x = 0 ∨ x = 1) ∧ okS S r
  | _, _ => False
theorem okS_1 {t : Bool} {S : List Bool} {X : List Int64} (k : okS (t :: S) X) : ∃ x r, X = x :: r ∧ (t = true → x = 0 ∨ x = 1) ∧ okS S r := by
  cases X with
  | nil => exact False.elim k
  | cons x r => exact ⟨x, r, rfl, k.1, k.2⟩
theorem okS_2 {t u : Bool} {S : List Bool} {X : List Int64} (k : okS (t :: u :: S) X) : ∃ b a r, X = b :: a :: r ∧ (t = true → b = 0 ∨ b = 1) ∧ (u = true → a = 0 ∨ a = 1) ∧ okS S r := by
  obtain ⟨b, r, rfl, h1, h2⟩ := okS_1 k
  obtain ⟨a, r, rfl, h3, h4⟩ := okS_1 h2
  exact ⟨b, a, r, rfl, h1, h3, h4⟩
theorem ev_v {W : Nat → Int64} {c : Nat} {X : List Int64} (hc : c < 100100) : ev1 W c X = vOf W c :: X := by
  unfold ev1
  rw [if_pos hc]
theorem ev_n {W : Nat → Int64} {x : Int64} {X : List Int64} : ev1 W 100110 (x :: X) = (1 - x) :: X := rfl
theorem ev_j {W : Nat → Int64} {c : Nat} {a b : Int64} {X : List Int64} (h1 : ¬ c < 100100) (h2 : c ≠ 100110) : ev1 W c (b :: a :: X) = jo c a b :: X := by
  unfold ev1
  rw [if_neg h1, if_neg h2]
theorem et_v {W : Nat → Int64} {c : Nat} {X : List Int64} (hc : c < 100100) : et1 W c X = vOf W c :: X := by
  unfold et1
  rw [if_pos hc]
theorem et_n {W : Nat → Int64} {x : Int64} {X : List Int64} : et1 W 100110 (x :: X) = b64 (x = 0) :: X := rfl
theorem et_j {W : Nat → Int64} {c : Nat} {a b : Int64} {X : List Int64} (h1 : ¬ c < 100100) (h2 : c ≠ 100110) : et1 W c (b :: a :: X) = jp c a b :: X := by
  unfold et1
  rw [if_neg h1, if_neg h2]
/-- a step on a stack of its types: what is done, and what it needs -/
theorem ev1_ty {W : Nat → Int64} {c : Nat} {S S1 : List Bool} {X : List Int64} (h : tyS S c = some S1) (k : okS S X) : ev1 W c X = et1 W c X ∧ okS S1 (ev1 W c X) ∧ ((c < 100012 ∧ (ev1 W c X).length = X.length + 1) ∨ (c = 100110 ∧ ∃ x r, X = x :: r) ∨ (100100 ≤ c ∧ c < 100110 ∧ ∃ b a r, X = b :: a :: r)) := by
  unfold tyS at h
  split at h
  · rename_i h1
    cases h
    rw [ev_v (by omega), et_v (by omega)]
    exact ⟨rfl, ⟨(fun z => by cases z), k⟩, Or.inl ⟨h1, rfl⟩⟩
  · split at h
    · rename_i h1 h2
      subst h2
      match S, h, k with
      | true :: S, h, k =>
        cases h
        obtain ⟨x, r, rfl, hx, hr⟩ := okS_1 k
        rw [ev_n, et_n]
        refine ⟨?_, ⟨fun _ => ?_, hr⟩, Or.inr (Or.inl ⟨rfl, x, r, rfl⟩)⟩
        · rcases hx rfl with rfl | rfl
          · rw [b64_1 rfl]; rfl
          · rw [b64_0 (by decide)]; rfl
        · rcases hx rfl with rfl | rfl
          · exact Or.inr rfl
          · exact Or.inl rfl
    · split at h
      · rename_i h1 h2 h3
        match S, h, k with
        | true :: true :: S, h, k =>
          cases h
          obtain ⟨b, a, r, rfl, hb, ha, hr⟩ := okS_2 k
          rw [ev_j (by omega) h2, et_j (by omega) h2]
          have e : jo c a b = jp c a b ∧ (jo c a b = 0 ∨ jo c a b = 1) := by
            rcases h3 with rfl | rfl
            · rw [jo_8, jp_8]
              rcases hb rfl with rfl | rfl <;> rcases ha rfl with rfl | rfl <;> decide
            · rw [jo_9, jp_9]
              rcases hb rfl with rfl | rfl <;> rcases ha rfl with rfl | rfl <;> decide
          exact ⟨by rw [e.1], ⟨fun _ => e.2, hr⟩, Or.inr (Or.inr ⟨by omega, by omega, b, a, r, rfl⟩)⟩
      · split at h
        · rename_i h1 h2 h3 h4
          match S, h, k with
          | false :: false :: S, h, k =>
            cases h
            obtain ⟨b, a, r, rfl, hb, ha, hr⟩ := okS_2 k
            rw [ev_j (by omega) h2, et_j (by omega) h2]
            have e : jo c a b = jp c a b := (jp_o (by omega) (by omega)).symm
            exact ⟨by rw [e], ⟨(fun z => by cases z), hr⟩, Or.inr (Or.inr ⟨by omega, by omega, b, a, r, rfl⟩)⟩
        · split at h
          · rename_i h1 h2 h3 h4 h5
            match S, h, k with
            | false :: false :: S, h, k =>
              cases h
              obtain ⟨b, a, r, rfl, hb, ha, hr⟩ := okS_2 k
              rw [ev_j (by omega) h2, et_j (by omega) h2]
              have e : jo c a b = jp c a b ∧ (jo c a b = 0 ∨ jo c a b = 1) := ⟨(jp_o (by omega) (by omega)).symm, jo_f h5⟩
              exact ⟨by rw [e.1], ⟨fun _ => e.2, hr⟩, Or.inr (Or.inr ⟨by omega, by omega, b, a, r, rfl⟩)⟩
          · cases h
theorem ev_ty {W : Nat → Int64} {e : List Nat} {S S1 : List Bool} {X : List Int64} (h : tyL S e = some S1) (k : okS S X) : ev W e X = et W e X ∧ okS S1 (ev W e X) := by
  induction e generalizing S X with
  | nil =>
    have h : some S = some S1 := h
    cases h
    exact ⟨rfl, k⟩
  | cons c e ih =>
    have h : (match tyS S c with | none => none | some S1 => tyL S1 e) = some S1 := h
    cases hc : tyS S c with
    | none => rw [hc] at h; cases h
    | some S3 =>
      rw [hc] at h
      obtain ⟨a1, a2, -⟩ := ev1_ty hc k
      obtain ⟨b1, b2⟩ := ih h a2
      refine ⟨?_, b2⟩
      show ev W e (ev1 W c X) = et W e (et1 W c X)
      rw [b1, a1]
/-- what a clause's codes are worth -/
noncomputable def wv (W : Nat → Int64) (e : List Nat) : Int64 := (ev W e []).headD 0
theorem ev_one {W : Nat → Int64} {e : List Nat} {t : Bool} (h : tyL [] e = some [t]) : ev W e [] = [wv W e] ∧ et W e [] = [wv W e] := by
  obtain ⟨a, k⟩ := ev_ty (W := W) (X := []) h trivial
  obtain ⟨x, r, e1, -, k2⟩ := okS_1 k
  cases r with
  | cons y r => exact False.elim k2
  | nil =>
    have : wv W e = x := by unfold wv; rw [e1]; rfl
    rw [this, ← a, e1]
    exact ⟨rfl, rfl⟩
/-- a stack in an array -/
noncomputable def stk (g : Nat → Int64) : List Int64 → Prop
  | [] => True
  | x :: r => g r.length = x ∧ stk g r
theorem stk_n {g g2 : Nat → Int64} {X : List Int64} (k : stk g X) (h : ∀ i, i < X.length → g2 i = g i) : stk g2 X := by
  induction X with
  | nil => trivial
  | cons x r ih =>
    refine ⟨?_, ih k.2 (fun i hi => h i (Nat.lt_succ_of_lt hi))⟩
    rw [h r.length (Nat.lt_succ_self _)]
    exact k.1
theorem stk_p {g : Nat → Int64} {X : List Int64} {x : Int64} {m : Nat} (k : stk g X) (hm : m = X.length) : stk (fun j => if j = m then x else g j) (x :: X) := by
  subst hm
  refine ⟨if_pos rfl, stk_n k (fun i hi => if_neg (by omega))⟩
/-- where the codes stand that are still to come -/
noncomputable def cdAt (f : Nat → Nat) (b : Nat) : List Nat → Prop
  | [] => True
  | c :: e => f b = c ∧ cdAt f (b + 1) e
theorem cdAt_of {f : Nat → Nat} {N : Nat} : ∀ {p e q : List Nat}, (List.range N).map f = p ++ (e ++ q) → cdAt f p.length e := by
  intro p e
  induction e generalizing p with
  | nil => intro q _; trivial
  | cons c e ih =>
    intro q h
    refine ⟨?_, ?_⟩
    · have hl : p.length < N := by
        have := congrArg List.length h
        rw [List.length_map, List.length_range, List.length_append, List.length_append, List.length_cons] at this
        omega
      have h2 : ((List.range N).map f)[p.length]? = (p ++ (c :: e ++ q))[p.length]? := congrArg (fun l => l[p.length]?) h
      rw [List.getElem?_append_right (Nat.le_refl _), Nat.sub_self, List.getElem?_map, List.getElem?_range hl] at h2
      exact Option.some.inj h2
    · have := ih (p := p ++ [c]) (q := q) (by rw [h, List.append_assoc]; rfl)
      rw [List.length_append] at this
      exact this
/-- where the class and the reference stand in the codes -/
noncomputable def evA (W : Nat → Int64) (f : Nat → Nat) (g : Nat → Int64) (F : List Int64) (b : Nat) (top : Nat) (e : List Nat) (X : List Int64) (S : List Bool) : Prop := (cdAt f b e) ∧ (stk g X) ∧ (∃ S1, tyL S e = some S1) ∧ (okS S X) ∧ (ev W e X = F) ∧ (top = X.length) ∧ (X.length + nVl e ≤ 80)
theorem evA.at_ {W : Nat → Int64} {f : Nat → Nat} {g : Nat → Int64} {F : List Int64} {b : Nat} {top : Nat} {e : List Nat} {X : List Int64} {S : List Bool} (k : evA W f g F b top e X S) : cdAt f b e := k.1
theorem evA.st {W : Nat → Int64} {f : Nat → Nat} {g : Nat → Int64} {F : List Int64} {b : Nat} {top : Nat} {e : List Nat} {X : List Int64} {S : List Bool} (k : evA W f g F b top e X S) : stk g X := k.2.1
theorem evA.ty {W : Nat → Int64} {f : Nat → Nat} {g : Nat → Int64} {F : List Int64} {b : Nat} {top : Nat} {e : List Nat} {X : List Int64} {S : List Bool} (k : evA W f g F b top e X S) : ∃ S1, tyL S e = some S1 := k.2.2.1
theorem evA.ok {W : Nat → Int64} {f : Nat → Nat} {g : Nat → Int64} {F : List Int64} {b : Nat} {top : Nat} {e : List Nat} {X : List Int64} {S : List Bool} (k : evA W f g F b top e X S) : okS S X := k.2.2.2.1
theorem evA.out {W : Nat → Int64} {f : Nat → Nat} {g : Nat → Int64} {F : List Int64} {b : Nat} {top : Nat} {e : List Nat} {X : List Int64} {S : List Bool} (k : evA W f g F b top e X S) : ev W e X = F := k.2.2.2.2.1
theorem evA.len {W : Nat → Int64} {f : Nat → Nat} {g : Nat → Int64} {F : List Int64} {b : Nat} {top : Nat} {e : List Nat} {X : List Int64} {S : List Bool} (k : evA W f g F b top e X S) : top = X.length := k.2.2.2.2.2.1
theorem evA.few {W : Nat → Int64} {f : Nat → Nat} {g : Nat → Int64} {F : List Int64} {b : Nat} {top : Nat} {e : List Nat} {X : List Int64} {S : List Bool} (k : evA W f g F b top e X S) : X.length + nVl e ≤ 80 := k.2.2.2.2.2.2
theorem tyL_c {S S1 : List Bool} {c : Nat} {e : List Nat} (h : tyL S (c :: e) = some S1) : ∃ S2, tyS S c = some S2 ∧ tyL S2 e = some S1 := by
  have h : (match tyS S c with | none => none | some S1 => tyL S1 e) = some S1 := h
  cases hc : tyS S c with
  | none => rw [hc] at h; cases h
  | some S3 => rw [hc] at h; exact ⟨S3, rfl, h⟩
section EVA
variable {W : Nat → Int64} {f : Nat → Nat} {g : Nat → Int64} {F X : List Int64} {b top c : Nat} {e : List Nat} {S : List Bool}
/-- a value -/
theorem evA_v (k : evA W f g F b top (c :: e) X S) (h : c < 100100) : top < 80 ∧ c < 100012 ∧ ∃ X2 S2, evA W f (fun j => if j = top then vOf W c else g j) F (b + 1) (top + 1) e X2 S2 := by
  obtain ⟨S1, h1⟩ := k.ty
  obtain ⟨S2, h2, h3⟩ := tyL_c h1
  obtain ⟨a1, a2, a3⟩ := ev1_ty (W := W) h2 k.ok
  have hf := k.few
  have hn : nVl (c :: e) = 1 + nVl e := by
    show (if c < 100100 then 1 else 0) + nVl e = _
    rw [if_pos h]
  have ho := k.out
  have ho : ev W e (ev1 W c X) = F := ho
  rw [ev_v h] at a2 ho
  have hl := k.len
  refine ⟨by omega, ?_, vOf W c :: X, S2, ⟨k.at_.2, stk_p k.st k.len, ⟨S1, h3⟩, a2, ho, by rw [hl]; rfl, by show X.length + 1 + nVl e ≤ 80; omega⟩⟩
  rcases a3 with a3 | a3 | a3
  · exact a3.1
  · omega
  · omega
theorem nVl_k (h : ¬ c < 100100) : nVl (c :: e) = nVl e := by
  show (if c < 100100 then 1 else 0) + nVl e = _
  rw [if_neg h, Nat.zero_add]
/-- not -/
theorem evA_n (k : evA W f g F b top (c :: e) X S) (h : c = 100110) : 0 < top ∧ 1 - g (top - 1) = b64 (g (top - 1) = 0) ∧ ∃ X2 S2, evA W f (fun j => if j = top - 1 then 1 - g (top - 1) else g j) F (b + 1) top e X2 S2 := by
  subst h
  obtain ⟨S1, h1⟩ := k.ty
  obtain ⟨S2, h2, h3⟩ := tyL_c h1
  obtain ⟨a1, a2, a3⟩ := ev1_ty (W := W) h2 k.ok
  have hf := k.few
  have ho := k.out
  have ho : ev W e (ev1 W 100110 X) = F := ho
  have hl := k.len
  have hs := k.st
  have hn := nVl_k (e := e) (c := 100110) (by decide)
  rcases a3 with ⟨a3, -⟩ | ⟨-, x, r, rfl⟩ | ⟨-, a3, -⟩
  · omega
  · rw [ev_n] at a2 ho a1
    rw [et_n] at a1
    have hl : top = r.length + 1 := hl
    have e1 : top - 1 = r.length := by omega
    have e2 : g (top - 1) = x := by rw [e1]; exact hs.1
    refine ⟨by omega, ?_, (1 - x) :: r, S2, ⟨k.at_.2, ?_, ⟨S1, h3⟩, a2, ho, hl, by rw [hn] at hf; exact hf⟩⟩
    · rw [e2]
      exact (List.cons.inj a1).1
    · rw [e2]
      exact stk_p hs.2 e1
  · omega
/-- two into one -/
theorem evA_j (k : evA W f g F b top (c :: e) X S) (h1 : ¬ c < 100100) (h2 : c ≠ 100110) : 1 < top ∧ 100100 ≤ c ∧ c < 100110 ∧ jo c (g (top - 2)) (g (top - 1)) = jp c (g (top - 2)) (g (top - 1)) ∧ ∃ X2 S2, evA W f (fun j => if j = top - 2 then jo c (g (top - 2)) (g (top - 1)) else g j) F (b + 1) (top - 1) e X2 S2 := by
  obtain ⟨S1, t1⟩ := k.ty
  obtain ⟨S2, t2, t3⟩ := tyL_c t1
  obtain ⟨a1, a2, a3⟩ := ev1_ty (W := W) t2 k.ok
  have hf := k.few
  have ho := k.out
  have ho : ev W e (ev1 W c X) = F := ho
  have hl := k.len
  have hs := k.st
  have hn := nVl_k (e := e) h1
  rcases a3 with ⟨a3, -⟩ | ⟨a3, -⟩ | ⟨a3, a4, y, x, r, rfl⟩
  · omega
  · omega
  · rw [ev_j h1 h2] at a2 ho a1
    rw [et_j h1 h2] at a1
    have hl : top = r.length + 1 + 1 := hl
    have hf : r.length + 1 + 1 + nVl (c :: e) ≤ 80 := hf
    have e1 : top - 1 = (x :: r).length := by show top - 1 = r.length + 1; omega
    have e3 : top - 2 = r.length := by omega
    have e2 : g (top - 1) = y := by rw [e1]; exact hs.1
    have e4 : g (top - 2) = x := by rw [e3]; exact hs.2.1
    rw [e2, e4]
    refine ⟨by omega, a3, a4, (List.cons.inj a1).1, jo c x y :: r, S2, ⟨k.at_.2, ?_, ⟨S1, t3⟩, a2, ho, by show top - 1 = r.length + 1; omega, by show r.length + 1 + nVl e ≤ 80; omega⟩⟩
    exact stk_p hs.2.2 e3
theorem evA_0 {t : Bool} (h : cdAt f b e) (ht : tyL [] e = some [t]) (hn : nVl e ≤ 80) : evA W f g [wv W e] b 0 e [] [] := ⟨h, trivial, ⟨_, ht⟩, trivial, (ev_one ht).1, rfl, by show 0 + nVl e ≤ 80; omega⟩
theorem evA_e {x : Int64} (k : evA W f g [x] b top [] X S) : top = 1 ∧ g 0 = x := by
  have ho : X = [x] := k.out
  have hs := k.st
  have hl := k.len
  rw [ho] at hs hl
  exact ⟨hl, hs.1⟩
end EVA
/-! arrays by their tags -/
section TAGV
variable {xs : Nat → Int32} {τ : List Nat} {h h2 : zH} {W : Nat → Nat → Bool}
theorem tkd_v {p t k nlo nhi : Nat} {lo hi : Int} {tg : Nat} (hB : zBs xs τ h) (ht : τ[p]? = some t) (hT : zTTy[t]? = some (.inr (k, nlo, nhi, (0, lo, hi, tg)))) : nlo ≤ tN h p ∧ tN h p ≤ nhi ∧ ∀ i, i < tN h p → lo ≤ (tA h p i).toInt ∧ (tA h p i).toInt ≤ hi := by
  obtain ⟨ct, c, a1, a2, a3⟩ := hB.1.2 _ _ ht
  rw [hT] at a1
  cases a1
  obtain ⟨N, x, rfl, h1, h2, f, rfl, h3⟩ := a3
  unfold tN tA
  rw [a2]
  exact ⟨h1, h2, h3⟩
theorem tkd_j {p t k nlo nhi : Nat} {lo hi : Int} {tg : Nat} (hB : zBs xs τ h) (ht : zTG[p]? = some t) (hT : zTTy[t]? = some (.inr (k, nlo, nhi, (1, lo, hi, tg)))) : nlo ≤ tN h p ∧ tN h p ≤ nhi := by
  obtain ⟨ct, c, a1, a2, a3⟩ := hB.1.2 _ _ (hB.2.1 _ _ ht)
  rw [hT] at a1
  cases a1
  obtain ⟨N, x, rfl, h1, h2, -⟩ := a3
  unfold tN
  rw [a2]
  exact ⟨h1, h2⟩
theorem tfr_v {p t : Nat} (hB : zBs xs τ h) (hf : yFr W τ h h2) (ht : τ[p]? = some t) (hW : W t 0 = false) : tA h2 p = tA h p ∧ tN h2 p = tN h p := by
  obtain ⟨ct, c, a1, a2, -⟩ := hB.1.2 _ _ ht
  obtain ⟨c2, b1, b2⟩ := hf _ _ _ ht a2
  unfold tA tN
  constructor
  · funext i
    rw [a2, b1]
    match c, c2, b2 with
    | .inr (x, fs), .inr (y, gs), b2 => rfl
    | .inl (k, N, x), .inl (k2, N2, y), b2 =>
      have := b2.2.2 hW
      subst this
      cases y with
      | inl f => rfl
      | inr y => rfl
  · rw [a2, b1]
    match c, c2, b2 with
    | .inr (x, fs), .inr (y, gs), b2 => rfl
    | .inl (k, N, x), .inl (k2, N2, y), b2 => exact b2.2.1.symm
theorem arr_tag {p q a t k nlo nhi tg : Nat} {lo hi : Int} (hB : zBs xs τ h) (ht : zTG[p]? = some t) (hT : zTTy[t]? = some (.inr (k, nlo, nhi, (2, lo, hi, tg)))) (hq : q < nlo) (hg : tg ≠ 0) (ha : tO h p q = some a) : τ[a]? = some tg := by
  obtain ⟨a1, a2, a3⟩ := tkd_o hB ht hT
  obtain ⟨-, -, y⟩ := a3 q (by omega)
  rw [ha] at y
  rcases y with y | y | y
  · exact absurd y hg
  · exact absurd y (by show ¬ ((a : Int) < 0); omega)
  · exact y
end TAGV
theorem zsbM {x y : Int32} {a b : Nat} (hx : x.toInt = a) (hy : y.toInt = b) (ha : a ≤ 1000000) (hb : b ≤ 1000000) : (x - y).toInt = (a : Int) - b := by
  rw [Int32.toInt_sub, hx, hy]
  exact Int.bmod_eq_of_le (by show (-2147483648 : Int) ≤ (a : Int) - b; omega) (by show (a : Int) - b < (2147483648 : Int); omega)
/-! a long array is written, the rest stays -/
noncomputable def mJs (p i : Nat) (x : Int64) (h h3 : zH) : Prop := tSh h3 ∧ tF h3 = tF h ∧ tA h3 = tA h ∧ tO h3 = tO h ∧ tN h3 = tN h ∧ tJ h3 = fun q j => if q = p ∧ j = i then x else tJ h q j
noncomputable def wFr (p : Nat) (h h2 : zH) : Prop := tSh h2 ∧ tF h2 = tF h ∧ tA h2 = tA h ∧ tO h2 = tO h ∧ tN h2 = tN h ∧ ∀ q, q ≠ p → tJ h2 q = tJ h q
section WFR
variable {h h1 h2 h3 : zH} {p i : Nat} {x : Int64}
theorem wFr_r (hs : tSh h) : wFr p h h := ⟨hs, rfl, rfl, rfl, rfl, fun _ _ => rfl⟩
theorem wFr_t (a : wFr p h h1) (k : wFr p h1 h2) : wFr p h h2 := ⟨k.1, k.2.1.trans a.2.1, k.2.2.1.trans a.2.2.1, k.2.2.2.1.trans a.2.2.2.1, k.2.2.2.2.1.trans a.2.2.2.2.1, fun q hq => (k.2.2.2.2.2 q hq).trans (a.2.2.2.2.2 q hq)⟩
theorem wFr_s (a : wFr p h h1) (k : mJs p i x h1 h3) : wFr p h h3 := wFr_t a ⟨k.1, k.2.1, k.2.2.1, k.2.2.2.1, k.2.2.2.2.1, fun q hq => by rw [k.2.2.2.2.2]; funext j; exact if_neg (fun z => hq z.1)⟩
theorem mJs_g {g : Nat → Int64} (k : mJs p i x h1 h3) (e : tJ h1 p = g) : tJ h3 p = fun j => if j = i then x else g j := by
  rw [k.2.2.2.2.2]
  funext j
  dsimp only
  rw [e]
  by_cases z : j = i
  · rw [if_pos ⟨rfl, z⟩, if_pos z]
  · rw [if_neg (fun y => z y.2), if_neg z]
theorem tG_lst {tt : zT} {G : zG} {cd : zK} {bc bs : Nat} {rt : Option FieldType} {M : zM} {Q : zQ} {Z : zX} {f : Bool} {pc : Nat} {L : zL} {st : List Value} {c n : Nat} {i : Int32} (hf : tInJ h p i) (hs : tSh h) (k : ∀ h3, mJs p i.toNatClampNeg x h h3 → tG tt G cd bc bs rt M Q Z f pc L st h3 c n) : tG tt G cd bc bs rt M Q Z f pc L st (tSJ h p i.toNatClampNeg x) c n := by
  obtain ⟨N, g, e, -⟩ := hf
  exact k _ ⟨tSh_SJ hs, tF_tSJ _ _ _ _, tA_tSJ _ _ _ _, tO_tSJ _ _ _ _, tN_tSJ _ _ _ _, tJ_tSJ ⟨_, _, _, e⟩ _ _⟩
end WFR
/-! a rule in the class's arrays and in the reference's -/
noncomputable def slc (cs : List Nat) (p q : Nat) : List Nat := (cs.drop p).take (q - p)
theorem slc_m {p e q : List Nat} : slc (p ++ (e ++ q)) p.length (p.length + e.length) = e := by
  unfold slc
  rw [List.drop_left, show p.length + e.length - p.length = e.length by omega, List.take_left]
noncomputable def rDt (h : zH) (a b K : Nat) (cs : List Nat) (cl : Nat → rCt) : Prop := ((List.range (tN h a)).map (fun i => (tA h a i).toNatClampNeg) = cs) ∧ (tN h a ≤ 400) ∧ (∀ i, i < tN h a → 0 ≤ (tA h a i).toInt) ∧ (tN h b = 4 * K) ∧ (K ≤ 12) ∧ (∀ i, i < K → (tA h b (4 * i)).toInt = ((cl i).1 : Int) ∧ (tA h b (4 * i + 1)).toInt = ((cl i).2.1 : Int) ∧ (tA h b (4 * i + 2)).toInt = ((cl i).2.2.1 : Int) ∧ (tA h b (4 * i + 3)).toInt = ((cl i).2.2.2 : Int)) ∧ (∀ i, i < K → rOk cs (cl i)) ∧ (nVl cs ≤ 80)
theorem rDt.arr {h : zH} {a b K : Nat} {cs : List Nat} {cl : Nat → rCt} (k : rDt h a b K cs cl) : (List.range (tN h a)).map (fun i => (tA h a i).toNatClampNeg) = cs := k.1
theorem rDt.big {h : zH} {a b K : Nat} {cs : List Nat} {cl : Nat → rCt} (k : rDt h a b K cs cl) : tN h a ≤ 400 := k.2.1
theorem rDt.pos {h : zH} {a b K : Nat} {cs : List Nat} {cl : Nat → rCt} (k : rDt h a b K cs cl) : ∀ i, i < tN h a → 0 ≤ (tA h a i).toInt := k.2.2.1
theorem rDt.len {h : zH} {a b K : Nat} {cs : List Nat} {cl : Nat → rCt} (k : rDt h a b K cs cl) : tN h b = 4 * K := k.2.2.2.1
theorem rDt.few {h : zH} {a b K : Nat} {cs : List Nat} {cl : Nat → rCt} (k : rDt h a b K cs cl) : K ≤ 12 := k.2.2.2.2.1
theorem rDt.row {h : zH} {a b K : Nat} {cs : List Nat} {cl : Nat → rCt} (k : rDt h a b K cs cl) : ∀ i, i < K → (tA h b (4 * i)).toInt = ((cl i).1 : Int) ∧ (tA h b (4 * i + 1)).toInt = ((cl i).2.1 : Int) ∧ (tA h b (4 * i + 2)).toInt = ((cl i).2.2.1 : Int) ∧ (tA h b (4 * i + 3)).toInt = ((cl i).2.2.2 : Int) := k.2.2.2.2.2.1
theorem rDt.ok {h : zH} {a b K : Nat} {cs : List Nat} {cl : Nat → rCt} (k : rDt h a b K cs cl) : ∀ i, i < K → rOk cs (cl i) := k.2.2.2.2.2.2.1
theorem rDt.nv {h : zH} {a b K : Nat} {cs : List Nat} {cl : Nat → rCt} (k : rDt h a b K cs cl) : nVl cs ≤ 80 := k.2.2.2.2.2.2.2
theorem rDt.frame {h h2 : zH} {a b K p : Nat} {cs : List Nat} {cl : Nat → rCt} (D : rDt h a b K cs cl) (k : wFr p h h2) : rDt h2 a b K cs cl := by
  obtain ⟨h1, h2, h3, h4, h5, h6, h7, h8⟩ := D
  have eN := k.2.2.2.2.1
  have eA := k.2.2.1
  exact ⟨by rw [eN, eA]; exact h1, by rw [eN]; exact h2, by rw [eN, eA]; exact h3, by rw [eN]; exact h4, h5, by rw [eA]; exact h6, h7, h8⟩
/-- a clause tells its thing -/
noncomputable def hit (W : Nat → Int64) (cs : List Nat) (c : rCt) (th : Nat) : Prop := c.1 = th ∧ (c.2.2.1 = c.2.2.2 ∨ wv W (slc cs c.2.2.1 c.2.2.2) ≠ 0)
noncomputable def fTr (W : Nat → Int64) (cs : List Nat) (cl : Nat → rCt) (K th : Nat) (ix : Nat → Nat) (w : Option Value) : Prop := (w = some (.int (-1)) ∧ ∀ i, i < K → ¬ hit W cs (cl i) th) ∨ ∃ i, i < K ∧ hit W cs (cl i) th ∧ (∀ j, j < i → ¬ hit W cs (cl j) th) ∧ ∃ x : Int32, w = some (.int x) ∧ x.toInt = (ix i : Int)
theorem nVl_m {p e q : List Nat} : nVl e ≤ nVl (p ++ (e ++ q)) := by
  rw [nVl_app, nVl_app]
  omega
/-- the test of a clause, the sum of a clause -/
theorem rOk_t {cs : List Nat} {c : rCt} (h : rOk cs c) (hn : nVl cs ≤ 80) (hne : c.2.2.1 ≠ c.2.2.2) : c.2.2.2 = c.2.2.1 + (slc cs c.2.2.1 c.2.2.2).length ∧ c.2.2.2 ≤ cs.length ∧ tyL [] (slc cs c.2.2.1 c.2.2.2) = some [true] ∧ nVl (slc cs c.2.2.1 c.2.2.2) ≤ 80 ∧ ∃ p q, p.length = c.2.2.1 ∧ cs = p ++ (slc cs c.2.2.1 c.2.2.2 ++ q) := by
  obtain ⟨p, e1, e2, q, h1, h2, h3, h4, -, h6⟩ := h
  have e : cs = (p ++ e1) ++ (e2 ++ q) := by rw [h1, List.append_assoc]
  have es : slc cs c.2.2.1 c.2.2.2 = e2 := by
    rw [e, h3, h4, ← List.length_append]
    exact slc_m
  rw [es]
  have hl := congrArg List.length e
  rw [List.length_append, List.length_append, List.length_append] at hl
  refine ⟨by omega, by omega, ?_, ?_, p ++ e1, q, by rw [List.length_append, h3], e⟩
  · rcases h6 with h6 | h6
    · rw [h6] at h4
      exact absurd (h3.trans h4.symm) hne
    · exact h6
  · have := nVl_m (p := p ++ e1) (e := e2) (q := q)
    rw [← e] at this
    omega
theorem rOk_s {cs : List Nat} {c : rCt} (h : rOk cs c) (hn : nVl cs ≤ 80) (hne : c.1 ≠ 15) : c.2.2.1 = c.2.1 + (slc cs c.2.1 c.2.2.1).length ∧ c.2.2.1 ≤ cs.length ∧ tyL [] (slc cs c.2.1 c.2.2.1) = some [false] ∧ nVl (slc cs c.2.1 c.2.2.1) ≤ 80 ∧ ∃ p q, p.length = c.2.1 ∧ cs = p ++ (slc cs c.2.1 c.2.2.1 ++ q) := by
  obtain ⟨p, e1, e2, q, h1, h2, h3, h4, h5, -⟩ := h
  have es : slc cs c.2.1 c.2.2.1 = e1 := by
    rw [h1, h2, h3]
    exact slc_m
  rw [es]
  have hl := congrArg List.length h1
  rw [List.length_append, List.length_append, List.length_append] at hl
  refine ⟨by omega, by omega, h5 hne, ?_, p, e2 ++ q, h2.symm, h1⟩
  have := nVl_m (p := p) (e := e1) (q := e2 ++ q)
  rw [← h1] at this
  omega
theorem cdAt_c {cs p e q : List Nat} {f : Nat → Nat} {N b : Nat} (ha : (List.range N).map f = cs) (hc : cs = p ++ (e ++ q)) (hb : p.length = b) : cdAt f b e := by
  rw [← hb]
  exact cdAt_of (ha.trans hc)
theorem cs_len {cs : List Nat} {f : Nat → Nat} {N : Nat} (ha : (List.range N).map f = cs) : cs.length = N := by rw [← ha, List.length_map, List.length_range]
/-- a rule's codes and clauses in the reference's arrays -/
noncomputable def rDm (h : zH) (q K : Nat) (cs : List Nat) (cl : Nat → rCt) : Prop := (∀ i, i < cs.length → mCode (tA h 133 (500 * q + i)).toNatClampNeg (tA h 134 (500 * q + i)).toNatClampNeg = (cs[i]?).getD 0) ∧ (cs.length ≤ 400) ∧ ((tA h 140 q).toInt = (K : Int)) ∧ (K ≤ 12) ∧ (∀ i, i < K → mRow h (12 * q + i) = cl i) ∧ (∀ i, i < K → rOk cs (cl i)) ∧ (nVl cs ≤ 80)
theorem rDm.cod {h : zH} {q K : Nat} {cs : List Nat} {cl : Nat → rCt} (k : rDm h q K cs cl) : ∀ i, i < cs.length → mCode (tA h 133 (500 * q + i)).toNatClampNeg (tA h 134 (500 * q + i)).toNatClampNeg = (cs[i]?).getD 0 := k.1
theorem rDm.big {h : zH} {q K : Nat} {cs : List Nat} {cl : Nat → rCt} (k : rDm h q K cs cl) : cs.length ≤ 400 := k.2.1
theorem rDm.cnt {h : zH} {q K : Nat} {cs : List Nat} {cl : Nat → rCt} (k : rDm h q K cs cl) : (tA h 140 q).toInt = (K : Int) := k.2.2.1
theorem rDm.few {h : zH} {q K : Nat} {cs : List Nat} {cl : Nat → rCt} (k : rDm h q K cs cl) : K ≤ 12 := k.2.2.2.1
theorem rDm.row {h : zH} {q K : Nat} {cs : List Nat} {cl : Nat → rCt} (k : rDm h q K cs cl) : ∀ i, i < K → mRow h (12 * q + i) = cl i := k.2.2.2.2.1
theorem rDm.ok {h : zH} {q K : Nat} {cs : List Nat} {cl : Nat → rCt} (k : rDm h q K cs cl) : ∀ i, i < K → rOk cs (cl i) := k.2.2.2.2.2.1
theorem rDm.nv {h : zH} {q K : Nat} {cs : List Nat} {cl : Nat → rCt} (k : rDm h q K cs cl) : nVl cs ≤ 80 := k.2.2.2.2.2.2
theorem rDm.frame {h h2 : zH} {q K p : Nat} {cs : List Nat} {cl : Nat → rCt} (D : rDm h q K cs cl) (k : wFr p h h2) : rDm h2 q K cs cl := by
  obtain ⟨h1, h2, h3, h4, h5, h6, h7⟩ := D
  have eA := k.2.2.1
  exact ⟨by rw [eA]; exact h1, h2, by rw [eA]; exact h3, h4, fun i hi => by rw [← h5 i hi]; unfold mRow; rw [eA], h6, h7⟩
theorem cdAt_g {cs e : List Nat} {f : Nat → Nat} : ∀ {p q : List Nat}, cs = p ++ (e ++ q) → (∀ i, i < cs.length → f i = (cs[i]?).getD 0) → cdAt f p.length e := by
  induction e with
  | nil => intro p q _ _; trivial
  | cons c e ih =>
    intro p q h hf
    refine ⟨?_, ?_⟩
    · have hl : p.length < cs.length := by
        rw [h, List.length_append, List.length_append, List.length_cons]
        omega
      rw [hf _ hl, h, List.getElem?_append_right (Nat.le_refl _), Nat.sub_self]
      rfl
    · have := ih (p := p ++ [c]) (q := q) (by rw [h, List.append_assoc]; rfl) hf
      rw [List.length_append] at this
      exact this
theorem cdAt_h {cs p e q : List Nat} {f : Nat → Nat} {b : Nat} (hb : p.length = b) (h : cs = p ++ (e ++ q)) (hf : ∀ i, i < cs.length → f i = (cs[i]?).getD 0) : cdAt f b e := by
  rw [← hb]
  exact cdAt_g h hf
/-- which thing a row tells -/
noncomputable def thc (a b : Nat) : Nat := if a = 0 ∧ b < 12 then b else 12 + a + 100 * b
theorem thc_i {a b c d : Nat} (ha : a ≤ 3) (hc : c ≤ 3) : thc a b = thc c d ↔ a = c ∧ b = d := by
  unfold thc
  split <;> split <;> omega
theorem mRow_1 {h : zH} {i : Nat} : (mRow h i).1 = thc (tA h 135 i).toNatClampNeg (tA h 136 i).toNatClampNeg := rfl
/-- a code that is a value, not, or a sign -/
theorem mC_v {s v : Nat} {c : Nat} (e : mCode s v = c) (h : c < 100012) (hv : v ≤ 99999) : (s = 0 ∧ c = v) ∨ (s = 1 ∧ c = 100000 + v ∧ v < 12) := by
  unfold mCode at e
  split at e
  · exact Or.inl ⟨by omega, e.symm⟩
  · split at e
    · split at e
      · exact Or.inr ⟨by omega, e.symm, by omega⟩
      · omega
    · exfalso
      repeat' (split at e)
      all_goals omega
theorem mC_n {s v : Nat} {c : Nat} (e : mCode s v = c) (h : c = 100110) (hv : v ≤ 99999) (hs : s ≤ 14) : s = 10 := by
  unfold mCode at e
  repeat' (split at e)
  all_goals omega
theorem mC_t {s v : Nat} (h : 2 ≤ s) : mCode s v = mCode s 0 := by
  unfold mCode
  rw [if_neg (show ¬ s = 0 by omega), if_neg (show ¬ s = 1 by omega), if_neg (show ¬ s = 0 by omega), if_neg (show ¬ s = 1 by omega)]
theorem mC_j {s v : Nat} {c : Nat} (e : mCode s v = c) (h1 : 100100 ≤ c) (h2 : c < 100110) (hv : v ≤ 99999) : 2 ≤ s ∧ s ≤ 12 ∧ s ≠ 10 ∧ c = mCode s 0 := by
  have h : 2 ≤ s ∧ s ≤ 12 ∧ s ≠ 10 := by
    unfold mCode at e
    repeat' (split at e)
    all_goals omega
  exact ⟨h.1, h.2.1, h.2.2, e.symm.trans (mC_t h.1)⟩
theorem zmul5 {y : Int32} {q : Nat} (hy : y.toInt = q) (hq : q < 10) : (500 * y).toInt = ((500 * q : Nat) : Int) := by
  rw [Int32.toInt_mul, hy, show (500 : Int32).toInt = 500 from rfl]
  exact Int.bmod_eq_of_le (by show (-2147483648 : Int) ≤ 500 * (q : Int); omega) (by show 500 * (q : Int) < (2147483648 : Int); omega)
theorem zmul12 {y : Int32} {q : Nat} (hy : y.toInt = q) (hq : q < 10) : (12 * y).toInt = ((12 * q : Nat) : Int) := by
  rw [Int32.toInt_mul, hy, show (12 : Int32).toInt = 12 from rfl]
  exact Int.bmod_eq_of_le (by show (-2147483648 : Int) ≤ 12 * (q : Int); omega) (by show 12 * (q : Int) < (2147483648 : Int); omega)
theorem vOf_n {W : Nat → Int64} {y : Int32} {c : Nat} (h : c < 100000) (hy : y.toInt = c) : vOf W c = y.toInt64 := by
  unfold vOf
  rw [if_neg (by omega)]
  have e : Int32.ofNat c = y := Int32.toInt_inj.mp ((yofN (by omega)).trans hy.symm)
  rw [e]
theorem vOf_w {W : Nat → Int64} {c : Nat} (h : 100000 ≤ c) : vOf W c = W (c - 100000) := if_pos h
theorem f_valueOf {G : zG} (hG : G.1 = zProg) {h : zH} {y : Int32} {c : Nat} (hs : tSh h) (h52 : tN h 52 = 12) (hy : y.toInt = c) (hc : c < 100012) : tC zTt G 69 [.ref 48, .int y] h (fun w h2 => w = some (.long (vOf (tJ h 52) c)) ∧ h2 = h) := by
  refine tC_in (by rw [hG]; rfl) (fun dp => ?_)
  have hd : (y - 100000).toInt = (c : Int) - 100000 := zsbM hy rfl (by omega) (by decide)
  have h12 : (Int32.ofNat (tN h 52)).toInt = 12 := by rw [h52]; rfl
  refine tw_iload rfl rfl ?_
  refine tw_push rfl ?_
  refine tw_isub rfl ?_
  refine tw_istore rfl ?_
  refine tw_iload rfl rfl ?_
  refine tw_if_lt rfl (fun q835 => ?_) (fun q835 => ?_)
  · try dsimp only [tvI_i, tvJ_j, tvR_r] at q835
    refine tw_iload rfl rfl ?_
    refine tw_i2l rfl ?_
    exact tw_lret rfl ⟨by rw [vOf_n (by omega) hy]; rfl, rfl⟩
  · try dsimp only [tvI_i, tvJ_j, tvR_r] at q835
    refine tw_iload rfl rfl ?_
    refine tw_aload rfl rfl ?_
    refine tw_getS rfl (hs_48_4 hs) ?_
    refine tw_alen rfl ?_
    refine tw_ic_ge rfl (fun q836 => ?_) (fun q836 => ?_)
    · try dsimp only [tvI_i, tvJ_j, tvR_r] at q836
      exfalso
      omega
    · try dsimp only [tvI_i, tvJ_j, tvR_r] at q836
      refine tw_aload rfl rfl ?_
      refine tw_getS rfl (hs_48_4 hs) ?_
      refine tw_iload rfl rfl ?_
      refine tw_lald rfl (fun f837 => ?_)
      refine tw_goto rfl ?_
      have e9 : (y - 100000).toNatClampNeg = c - 100000 := zof_cl (by omega)
      exact tw_lret rfl ⟨congrArg (fun z => some (Value.long z)) (show tJ h 52 (y - 100000).toNatClampNeg = _ from by rw [e9, vOf_w (by omega)]), rfl⟩
theorem f_join {G : zG} (hG : G.1 = zProg) {h : zH} {y : Int32} {c : Nat} {a b : Int64} (hy : y.toInt = c) (h1 : 100100 ≤ c) (h2 : c < 100110) : tC zTt G 70 [.int y, .long a, .long b] h (fun w h2 => w = some (.long (jo c a b)) ∧ h2 = h) := by
  refine tC_in (by rw [hG]; rfl) (fun dp => ?_)
  refine tw_iload rfl rfl ?_
  refine tw_table rfl (fun q838 => ?_) (fun t9 q838a q838b q838c => ?_)
  · try dsimp only [tvI_i, tvJ_j, tvR_r] at q838
    exfalso
    omega
  · have q838d : (tvI (.int y)).toInt = 100100 ∨ (tvI (.int y)).toInt = 100101 ∨ (tvI (.int y)).toInt = 100102 ∨ (tvI (.int y)).toInt = 100103 ∨ (tvI (.int y)).toInt = 100104 ∨ (tvI (.int y)).toInt = 100105 ∨ (tvI (.int y)).toInt = 100106 ∨ (tvI (.int y)).toInt = 100107 ∨ (tvI (.int y)).toInt = 100108 ∨ (tvI (.int y)).toInt = 100109 := by omega
    rcases q838d with q838 | q838 | q838 | q838 | q838 | q838 | q838 | q838 | q838 | q838
    · obtain rfl : t9 = 56 := by rw [q838] at q838c; exact Option.some.inj (q838c.symm.trans rfl)
      try dsimp only [tvI_i, tvJ_j, tvR_r] at q838
      refine tw_lload rfl rfl ?_
      refine tw_lload rfl rfl ?_
      refine tw_ladd rfl ?_
      obtain rfl : c = 100100 := by omega
      exact tw_lret rfl ⟨rfl, rfl⟩
    · obtain rfl : t9 = 60 := by rw [q838] at q838c; exact Option.some.inj (q838c.symm.trans rfl)
      try dsimp only [tvI_i, tvJ_j, tvR_r] at q838
      refine tw_lload rfl rfl ?_
      refine tw_lload rfl rfl ?_
      refine tw_lsub rfl ?_
      obtain rfl : c = 100101 := by omega
      exact tw_lret rfl ⟨rfl, rfl⟩
    · obtain rfl : t9 = 64 := by rw [q838] at q838c; exact Option.some.inj (q838c.symm.trans rfl)
      try dsimp only [tvI_i, tvJ_j, tvR_r] at q838
      refine tw_lload rfl rfl ?_
      refine tw_lload rfl rfl ?_
      refine tw_lmul rfl ?_
      obtain rfl : c = 100102 := by omega
      exact tw_lret rfl ⟨rfl, rfl⟩
    · obtain rfl : t9 = 76 := by rw [q838] at q838c; exact Option.some.inj (q838c.symm.trans rfl)
      try dsimp only [tvI_i, tvJ_j, tvR_r] at q838
      refine tw_lload rfl rfl ?_
      refine tw_lload rfl rfl ?_
      refine tw_lc_ge rfl rfl (fun q839 => ?_) (fun q839 => ?_)
      · try dsimp only [tvI_i, tvJ_j, tvR_r] at q839
        refine tw_push rfl ?_
        obtain rfl : c = 100103 := by omega
        exact tw_lret rfl ⟨congrArg (fun z => some (Value.long z)) (b64_0 (p := a.toInt < b.toInt) (by omega)).symm, rfl⟩
      · try dsimp only [tvI_i, tvJ_j, tvR_r] at q839
        refine tw_push rfl ?_
        refine tw_goto rfl ?_
        obtain rfl : c = 100103 := by omega
        exact tw_lret rfl ⟨congrArg (fun z => some (Value.long z)) (b64_1 (p := a.toInt < b.toInt) (by omega)).symm, rfl⟩
    · obtain rfl : t9 = 88 := by rw [q838] at q838c; exact Option.some.inj (q838c.symm.trans rfl)
      try dsimp only [tvI_i, tvJ_j, tvR_r] at q838
      refine tw_lload rfl rfl ?_
      refine tw_lload rfl rfl ?_
      refine tw_lc_gt rfl rfl (fun q840 => ?_) (fun q840 => ?_)
      · try dsimp only [tvI_i, tvJ_j, tvR_r] at q840
        refine tw_push rfl ?_
        obtain rfl : c = 100104 := by omega
        exact tw_lret rfl ⟨congrArg (fun z => some (Value.long z)) (b64_0 (p := a.toInt ≤ b.toInt) (by omega)).symm, rfl⟩
      · try dsimp only [tvI_i, tvJ_j, tvR_r] at q840
        refine tw_push rfl ?_
        refine tw_goto rfl ?_
        obtain rfl : c = 100104 := by omega
        exact tw_lret rfl ⟨congrArg (fun z => some (Value.long z)) (b64_1 (p := a.toInt ≤ b.toInt) (by omega)).symm, rfl⟩
    · obtain rfl : t9 = 100 := by rw [q838] at q838c; exact Option.some.inj (q838c.symm.trans rfl)
      try dsimp only [tvI_i, tvJ_j, tvR_r] at q838
      refine tw_lload rfl rfl ?_
      refine tw_lload rfl rfl ?_
      refine tw_lc_ne rfl rfl (fun q841 => ?_) (fun q841 => ?_)
      · try dsimp only [tvI_i, tvJ_j, tvR_r] at q841
        refine tw_push rfl ?_
        obtain rfl : c = 100105 := by omega
        exact tw_lret rfl ⟨congrArg (fun z => some (Value.long z)) (b64_0 (p := a = b) q841).symm, rfl⟩
      · try dsimp only [tvI_i, tvJ_j, tvR_r] at q841
        refine tw_push rfl ?_
        refine tw_goto rfl ?_
        obtain rfl : c = 100105 := by omega
        exact tw_lret rfl ⟨congrArg (fun z => some (Value.long z)) (b64_1 (p := a = b) q841).symm, rfl⟩
    · obtain rfl : t9 = 112 := by rw [q838] at q838c; exact Option.some.inj (q838c.symm.trans rfl)
      try dsimp only [tvI_i, tvJ_j, tvR_r] at q838
      refine tw_lload rfl rfl ?_
      refine tw_lload rfl rfl ?_
      refine tw_lc_lt rfl rfl (fun q842 => ?_) (fun q842 => ?_)
      · try dsimp only [tvI_i, tvJ_j, tvR_r] at q842
        refine tw_push rfl ?_
        obtain rfl : c = 100106 := by omega
        exact tw_lret rfl ⟨congrArg (fun z => some (Value.long z)) (b64_0 (p := b.toInt ≤ a.toInt) (by omega)).symm, rfl⟩
      · try dsimp only [tvI_i, tvJ_j, tvR_r] at q842
        refine tw_push rfl ?_
        refine tw_goto rfl ?_
        obtain rfl : c = 100106 := by omega
        exact tw_lret rfl ⟨congrArg (fun z => some (Value.long z)) (b64_1 (p := b.toInt ≤ a.toInt) (by omega)).symm, rfl⟩
    · obtain rfl : t9 = 124 := by rw [q838] at q838c; exact Option.some.inj (q838c.symm.trans rfl)
      try dsimp only [tvI_i, tvJ_j, tvR_r] at q838
      refine tw_lload rfl rfl ?_
      refine tw_lload rfl rfl ?_
      refine tw_lc_le rfl rfl (fun q843 => ?_) (fun q843 => ?_)
      · try dsimp only [tvI_i, tvJ_j, tvR_r] at q843
        refine tw_push rfl ?_
        obtain rfl : c = 100107 := by omega
        exact tw_lret rfl ⟨congrArg (fun z => some (Value.long z)) (b64_0 (p := b.toInt < a.toInt) (by omega)).symm, rfl⟩
      · try dsimp only [tvI_i, tvJ_j, tvR_r] at q843
        refine tw_push rfl ?_
        refine tw_goto rfl ?_
        obtain rfl : c = 100107 := by omega
        exact tw_lret rfl ⟨congrArg (fun z => some (Value.long z)) (b64_1 (p := b.toInt < a.toInt) (by omega)).symm, rfl⟩
    · obtain rfl : t9 = 68 := by rw [q838] at q838c; exact Option.some.inj (q838c.symm.trans rfl)
      try dsimp only [tvI_i, tvJ_j, tvR_r] at q838
      refine tw_lload rfl rfl ?_
      refine tw_lload rfl rfl ?_
      refine tw_lor rfl ?_
      obtain rfl : c = 100108 := by omega
      exact tw_lret rfl ⟨rfl, rfl⟩
    · obtain rfl : t9 = 72 := by rw [q838] at q838c; exact Option.some.inj (q838c.symm.trans rfl)
      try dsimp only [tvI_i, tvJ_j, tvR_r] at q838
      refine tw_lload rfl rfl ?_
      refine tw_lload rfl rfl ?_
      refine tw_land rfl ?_
      obtain rfl : c = 100109 := by omega
      exact tw_lret rfl ⟨rfl, rfl⟩
theorem zdecM {x : Int32} {a : Nat} (hx : x.toInt = a) (h : 1 ≤ a) (ha : a ≤ 1000000) : (x + (-1)).toInt = (a : Int) - 1 := by
  rw [Int32.toInt_add, hx, show (-1 : Int32).toInt = -1 from rfl]
  exact Int.bmod_eq_of_le (by show (-2147483648 : Int) ≤ (a : Int) + -1; omega) (by show (a : Int) + -1 < (2147483648 : Int); omega)
theorem f_work {G : zG} (hG : G.1 = zProg) {h : zH} {a b : Nat} {x y : Int32} {e : List Nat} {t : Bool} (hs : tSh h) (h52 : tN h 52 = 12) (h53 : tN h 53 = 80) (hx : x.toInt = b) (hy : y.toInt = ((b + e.length : Nat) : Int)) (hN : b + e.length ≤ tN h a ∧ tN h a ≤ 400) (hv : ∀ i, i < tN h a → 0 ≤ (tA h a i).toInt) (hc : cdAt (fun i => (tA h a i).toNatClampNeg) b e) (ht : tyL [] e = some [t]) (hn : nVl e ≤ 80) : tC zTt G 68 [.ref 48, .ref a, .int x, .int y] h (fun w h2 => w = some (.long (wv (tJ h 52) e)) ∧ wFr 53 h h2) := by
  refine tC_in (by rw [hG]; rfl) (fun dp => ?_)
  refine tw_push rfl ?_
  refine tw_istore rfl ?_
  refine tw_iload rfl rfl ?_
  refine tw_istore rfl ?_
  refine tG_loop (zW_mono zTt G dp) (zW_conj zTt G dp) (V := fun pc L st h9 _ _ => pc = 6 ∧ st = [] ∧ ∃ (h1 : zH) (k top : Nat) (z u : Int32) (e2 : List Nat) (X : List Int64) (S : List Bool) (l6 : Option Value), h1 = h9 ∧ wFr 53 h h1 ∧ z.toInt = k ∧ u.toInt = top ∧ k + e2.length = b + e.length ∧ evA (tJ h 52) (fun i => (tA h a i).toNatClampNeg) (tJ h1 53) [wv (tJ h 52) e] k top e2 X S ∧ L = [some (.ref 48), some (.ref a), some (.int x), some (.int y), some (.int u), some (.int z), l6]) ?_ (⟨rfl, rfl, h, b, 0, x, 0, e, [], [], _, rfl, wFr_r hs, hx, rfl, rfl, evA_0 hc ht hn, rfl⟩)
  rintro _ _ _ _ _ _ ⟨rfl, rfl, h1, k, top, z, u, e2, X, S, l6, rfl, hF, hz, hu, hke, hE, rfl⟩
  have k19 : (1 : Int32).toInt = 1 := rfl
  have k29 : (100100 : Int32).toInt = 100100 := rfl
  have h80 : (Int32.ofNat (tN h1 53)).toInt = 80 := by rw [hF.2.2.2.2.1, h53]; rfl
  have hla : (Int32.ofNat (tN h1 a)).toInt = tN h a := by rw [hF.2.2.2.2.1]; exact yofN (by omega)
  refine tw_iload rfl rfl ?_
  refine tw_iload rfl rfl ?_
  refine tw_ic_ge rfl (fun q844 => ?_) (fun q844 => ?_)
  · try dsimp only [tvI_i, tvJ_j, tvR_r] at q844
    refine tw_iload rfl rfl ?_
    refine tw_if_le rfl (fun q845 => ?_) (fun q845 => ?_)
    · try dsimp only [tvI_i, tvJ_j, tvR_r] at q845
      exfalso
      have e2n : e2 = [] := List.length_eq_zero_iff.mp (by omega)
      subst e2n
      have y1 := evA_e hE
      omega
    · try dsimp only [tvI_i, tvJ_j, tvR_r] at q845
      refine tw_aload rfl rfl ?_
      refine tw_getS rfl (hs_48_5 hF.1) ?_
      refine tw_push rfl ?_
      refine tw_lald rfl (fun f846 => ?_)
      refine tw_goto rfl ?_
      have e2n : e2 = [] := List.length_eq_zero_iff.mp (by omega)
      subst e2n
      have y1 := evA_e hE
      exact tw_lret rfl ⟨congrArg (fun z => some (Value.long z)) (show tJ h1 53 0 = _ from y1.2), hF⟩
  · try dsimp only [tvI_i, tvJ_j, tvR_r] at q844
    refine tw_iload rfl rfl ?_
    refine tw_aload rfl rfl ?_
    refine tw_alen rfl ?_
    refine tw_ic_ge rfl (fun q847 => ?_) (fun q847 => ?_)
    · try dsimp only [tvI_i, tvJ_j, tvR_r] at q847
      exfalso
      omega
    · try dsimp only [tvI_i, tvJ_j, tvR_r] at q847
      rcases e2 with _ | ⟨c, e3⟩
      · exfalso; have hke : k + 0 = b + e.length := hke; omega
      have hke : k + (e3.length + 1) = b + e.length := hke
      have hcl : (tA h a k).toNatClampNeg = c := hE.at_.1
      have hcv : (tA h1 a z.toNatClampNeg).toInt = (c : Int) := by rw [hF.2.2.1, zof_cl hz]; have y1 := hv k (by omega); rw [zclE] at hcl; omega
      have hc0 : (tA h1 a z.toNatClampNeg).toInt = (c : Int) := hcv
      have h79 : top ≤ 80 := by have y1 := hE.few; have y2 := hE.len; omega
      refine tw_aload rfl rfl ?_
      refine tw_iload rfl rfl ?_
      refine tw_iald rfl (fun f848 => ?_)
      refine tw_istore rfl ?_
      refine tw_iload rfl rfl ?_
      refine tw_push rfl ?_
      refine tw_ic_ge rfl (fun q849 => ?_) (fun q849 => ?_)
      · try dsimp only [tvI_i, tvJ_j, tvR_r] at q849
        refine tw_iload rfl rfl ?_
        refine tw_push rfl ?_
        refine tw_ic_ne rfl (fun q850 => ?_) (fun q850 => ?_)
        · try dsimp only [tvI_i, tvJ_j, tvR_r] at q850
          have q850i := zneq (Y := 100110) (by decide) q850
          refine tw_iload rfl rfl ?_
          refine tw_push rfl ?_
          refine tw_ic_le rfl (fun q851 => ?_) (fun q851 => ?_)
          · try dsimp only [tvI_i, tvJ_j, tvR_r] at q851
            exfalso
            have y1 := (evA_j hE (by omega) (by omega)).1
            omega
          · try dsimp only [tvI_i, tvJ_j, tvR_r] at q851
            obtain ⟨y0, y1, y2, -, X2, S2, E2⟩ := evA_j hE (by omega) (by omega)
            have hd1 : (u + (-1)).toInt = ((top - 1 : Nat) : Int) := (zdecM hu (by omega) (by omega)).trans (by omega)
            have hd2 : (u + (-1) - 1).toNatClampNeg = top - 2 := zof_cl ((zsbM (b := 1) hd1 rfl (by omega) (by decide)).trans (by omega))
            have hd3 : (u + (-1)).toNatClampNeg = top - 1 := zof_cl hd1
            refine tw_iinc rfl rfl ?_
            refine tw_aload rfl rfl ?_
            refine tw_getS rfl (hs_48_5 hF.1) ?_
            refine tw_iload rfl rfl ?_
            refine tw_push rfl ?_
            refine tw_isub rfl ?_
            refine tw_iload rfl rfl ?_
            refine tw_aload rfl rfl ?_
            refine tw_getS rfl (hs_48_5 hF.1) ?_
            refine tw_iload rfl rfl ?_
            refine tw_push rfl ?_
            refine tw_isub rfl ?_
            refine tw_lald rfl (fun f852 => ?_)
            refine tw_aload rfl rfl ?_
            refine tw_getS rfl (hs_48_5 hF.1) ?_
            refine tw_iload rfl rfl ?_
            refine tw_lald rfl (fun f853 => ?_)
            refine tw_stat3 rfl (f_join hG hcv (by omega) (by omega)) (fun w9 h9 p854 => ?_)
            obtain ⟨rfl, e9⟩ := p854
            obtain rfl := e9.symm
            refine tw_last rfl (fun f855 => ?_)
            refine tG_lst f855 hF.1 (fun h3 a3 => ?_)
            try dsimp only [tvI_i, tvJ_j, tvR_r] at a3
            have hF3 := wFr_s hF a3
            refine tw_iinc rfl rfl ?_
            refine tw_goto rfl ?_
            have hk1 : (z + 1).toInt = ((k + 1 : Nat) : Int) := zincN hz (by omega)
            have hkl : k + 1 + e3.length = b + e.length := by omega
            rw [hd2, hd3] at a3
            have E3 : evA (tJ h 52) (fun i => (tA h a i).toNatClampNeg) (tJ h3 53) [wv (tJ h 52) e] (k + 1) (top - 1) e3 X2 S2 := by rw [mJs_g a3 rfl]; exact E2
            exact tG_cut (zW_mono zTt G dp) (Or.inr ⟨rfl, rfl, h3, k + 1, top - 1, z + 1, u + (-1), e3, X2, S2, _, rfl, hF3, hk1, hd1, hkl, E3, rfl⟩)
        · try dsimp only [tvI_i, tvJ_j, tvR_r] at q850
          have q850i := zeqi (Y := 100110) (by decide) q850
          refine tw_iload rfl rfl ?_
          refine tw_if_le rfl (fun q856 => ?_) (fun q856 => ?_)
          · try dsimp only [tvI_i, tvJ_j, tvR_r] at q856
            exfalso
            have y1 := (evA_n hE (by omega)).1
            omega
          · try dsimp only [tvI_i, tvJ_j, tvR_r] at q856
            obtain ⟨y0, -, X2, S2, E2⟩ := evA_n hE (by omega)
            have hu1 : (u - 1).toNatClampNeg = top - 1 := zof_cl ((zsbM (b := 1) hu rfl (by omega) (by decide)).trans (by omega))
            refine tw_aload rfl rfl ?_
            refine tw_getS rfl (hs_48_5 hF.1) ?_
            refine tw_iload rfl rfl ?_
            refine tw_push rfl ?_
            refine tw_isub rfl ?_
            refine tw_push rfl ?_
            refine tw_aload rfl rfl ?_
            refine tw_getS rfl (hs_48_5 hF.1) ?_
            refine tw_iload rfl rfl ?_
            refine tw_push rfl ?_
            refine tw_isub rfl ?_
            refine tw_lald rfl (fun f857 => ?_)
            refine tw_lsub rfl ?_
            refine tw_last rfl (fun f858 => ?_)
            refine tG_lst f858 hF.1 (fun h3 a3 => ?_)
            try dsimp only [tvI_i, tvJ_j, tvR_r] at a3
            have hF3 := wFr_s hF a3
            refine tw_goto rfl ?_
            refine tw_iinc rfl rfl ?_
            refine tw_goto rfl ?_
            have hk1 : (z + 1).toInt = ((k + 1 : Nat) : Int) := zincN hz (by omega)
            have hkl : k + 1 + e3.length = b + e.length := by omega
            rw [hu1] at a3
            have E3 : evA (tJ h 52) (fun i => (tA h a i).toNatClampNeg) (tJ h3 53) [wv (tJ h 52) e] (k + 1) top e3 X2 S2 := by rw [mJs_g a3 rfl]; exact E2
            exact tG_cut (zW_mono zTt G dp) (Or.inr ⟨rfl, rfl, h3, k + 1, top, z + 1, u, e3, X2, S2, _, rfl, hF3, hk1, hu, hkl, E3, rfl⟩)
      · try dsimp only [tvI_i, tvJ_j, tvR_r] at q849
        refine tw_iload rfl rfl ?_
        refine tw_aload rfl rfl ?_
        refine tw_getS rfl (hs_48_5 hF.1) ?_
        refine tw_alen rfl ?_
        refine tw_ic_ge rfl (fun q859 => ?_) (fun q859 => ?_)
        · try dsimp only [tvI_i, tvJ_j, tvR_r] at q859
          exfalso
          have y1 := (evA_v hE (by omega)).1
          omega
        · try dsimp only [tvI_i, tvJ_j, tvR_r] at q859
          obtain ⟨y80, y12, X2, S2, E2⟩ := evA_v hE (by omega)
          refine tw_aload rfl rfl ?_
          refine tw_getS rfl (hs_48_5 hF.1) ?_
          refine tw_iload rfl rfl ?_
          refine tw_aload rfl rfl ?_
          refine tw_iload rfl rfl ?_
          refine tw_virt1 rfl (f_valueOf hG hF.1 (by rw [hF.2.2.2.2.1]; exact h52) hcv y12) (fun w9 h9 p860 => ?_)
          obtain ⟨rfl, e9⟩ := p860
          obtain rfl := e9.symm
          refine tw_last rfl (fun f861 => ?_)
          refine tG_lst f861 hF.1 (fun h3 a3 => ?_)
          try dsimp only [tvI_i, tvJ_j, tvR_r] at a3
          have hF3 := wFr_s hF a3
          refine tw_iinc rfl rfl ?_
          refine tw_goto rfl ?_
          refine tw_iinc rfl rfl ?_
          refine tw_goto rfl ?_
          have hk1 : (z + 1).toInt = ((k + 1 : Nat) : Int) := zincN hz (by omega)
          have hkl : k + 1 + e3.length = b + e.length := by omega
          rw [zof_cl hu, hF.2.2.2.2.2 52 (by decide)] at a3
          have E3 : evA (tJ h 52) (fun i => (tA h a i).toNatClampNeg) (tJ h3 53) [wv (tJ h 52) e] (k + 1) (top + 1) e3 X2 S2 := by rw [mJs_g a3 rfl]; exact E2
          exact tG_cut (zW_mono zTt G dp) (Or.inr ⟨rfl, rfl, h3, k + 1, top + 1, z + 1, u + 1, e3, X2, S2, _, rfl, hF3, hk1, zincN hu (by omega), hkl, E3, rfl⟩)
theorem f_firstTrue {G : zG} (hG : G.1 = zProg) {h : zH} {a b q K th : Nat} {y t : Int32} {cs : List Nat} {cl : Nat → rCt} (hs : tSh h) (h52 : tN h 52 = 12) (h53 : tN h 53 = 80) (D : rDt h a b K cs cl) (hy : y.toInt = q) (hq : (q : Int) < (tvI (tF h 48 3)).toInt) (h50 : tO h 50 q = some a) (h51 : tO h 51 q = some b) (ht : t.toInt = th) : tC zTt G 66 [.ref 48, .int y, .int t] h (fun w h2 => wFr 53 h h2 ∧ fTr (tJ h 52) cs cl K th (fun i => 4 * i) w) := by
  refine tC_in (by rw [hG]; rfl) (fun dp => ?_)
  have hyq : y.toNatClampNeg = q := zof_cl hy
  have o50 : ∀ h1, wFr 53 h h1 → zrf (tO h1 50 y.toNatClampNeg) = .ref a := fun h1 k => by rw [k.2.2.2.1, hyq, h50]; rfl
  have o51 : zrf (tO h 51 y.toNatClampNeg) = .ref b := by rw [hyq, h51]; rfl
  refine tw_iload rfl rfl ?_
  refine tw_if_lt rfl (fun q862 => ?_) (fun q862 => ?_)
  · try dsimp only [tvI_i, tvJ_j, tvR_r] at q862
    exfalso
    omega
  · try dsimp only [tvI_i, tvJ_j, tvR_r] at q862
    refine tw_iload rfl rfl ?_
    refine tw_aload rfl rfl ?_
    refine tw_getS rfl (hi_48_3 hs) ?_
    refine tw_ic_lt rfl (fun q863 => ?_) (fun q863 => ?_)
    · try dsimp only [tvI_i, tvJ_j, tvR_r] at q863
      refine tw_aload rfl rfl ?_
      refine tw_getS rfl (hs_48_2 hs) ?_
      refine tw_iload rfl rfl ?_
      refine tw_aaldS rfl (fun _ => o51) ?_
      refine tw_astore rfl ?_
      refine tw_push rfl ?_
      refine tw_istore rfl ?_
      refine tG_loop (zW_mono zTt G dp) (zW_conj zTt G dp) (V := fun pc L st h9 _ _ => pc = 24 ∧ st = [] ∧ ∃ (h1 : zH) (i : Nat) (x : Int32) (l5 : Option Value), h1 = h9 ∧ wFr 53 h h1 ∧ i ≤ K ∧ x.toInt = ((4 * i : Nat) : Int) ∧ (∀ j, j < i → ¬ hit (tJ h 52) cs (cl j) th) ∧ L = [some (.ref 48), some (.int y), some (.int t), some (.ref b), some (.int x), l5]) ?_ (⟨rfl, rfl, h, 0, 0, _, rfl, wFr_r hs, Nat.zero_le _, rfl, fun j hj => absurd hj (Nat.not_lt_zero _), rfl⟩)
      rintro _ _ _ _ _ _ ⟨rfl, rfl, h1, i, x, l5, rfl, hF, hiK, hx, hall, rfl⟩
      have hlb : (Int32.ofNat (tN h1 b)).toInt = ((4 * K : Nat) : Int) := by rw [hF.2.2.2.2.1, D.len]; exact yofN (by have := D.few; omega)
      have hx4 : (x + 4).toInt = ((4 * i + 4 : Nat) : Int) := zadN (b := 4) hx rfl (by have := D.few; omega) (by decide)
      refine tw_iload rfl rfl ?_
      refine tw_push rfl ?_
      refine tw_iadd rfl ?_
      refine tw_aload rfl rfl ?_
      refine tw_alen rfl ?_
      refine tw_ic_gt rfl (fun q865 => ?_) (fun q865 => ?_)
      · try dsimp only [tvI_i, tvJ_j, tvR_r] at q865
        refine tw_push rfl ?_
        exact tw_iret rfl ⟨hF, Or.inl ⟨rfl, fun i9 h9 => hall i9 (by have y2 := hlb; omega)⟩⟩
      · try dsimp only [tvI_i, tvJ_j, tvR_r] at q865
        have hi : i < K := by have y1 := hx4; have y2 := hlb; omega
        obtain ⟨d0, d1, d2, d3⟩ := D.row i hi
        have x0 : x.toNatClampNeg = 4 * i := zof_cl hx
        have x2 : (x + 2).toNatClampNeg = 4 * i + 2 := zof_cl (zadN (b := 2) hx rfl (by have := D.few; omega) (by decide))
        have x3 : (x + 3).toNatClampNeg = 4 * i + 3 := zof_cl (zadN (b := 3) hx rfl (by have := D.few; omega) (by decide))
        have eA := hF.2.2.1
        have v0 : (tA h1 b x.toNatClampNeg).toInt = ((cl i).1 : Int) := by rw [eA, x0]; exact d0
        have v2 : (tA h1 b (x + 2).toNatClampNeg).toInt = ((cl i).2.2.1 : Int) := by rw [eA, x2]; exact d2
        have v3 : (tA h1 b (x + 3).toNatClampNeg).toInt = ((cl i).2.2.2 : Int) := by rw [eA, x3]; exact d3
        refine tw_aload rfl rfl ?_
        refine tw_iload rfl rfl ?_
        refine tw_push rfl ?_
        refine tw_iadd rfl ?_
        refine tw_iald rfl (fun f866 => ?_)
        refine tw_aload rfl rfl ?_
        refine tw_iload rfl rfl ?_
        refine tw_push rfl ?_
        refine tw_iadd rfl ?_
        refine tw_iald rfl (fun f867 => ?_)
        refine tw_ic_ne rfl (fun q868 => ?_) (fun q868 => ?_)
        · try dsimp only [tvI_i, tvJ_j, tvR_r] at q868
          have q868i := zneq rfl q868
          refine tw_push rfl ?_
          refine tw_istore rfl ?_
          refine tw_aload rfl rfl ?_
          refine tw_iload rfl rfl ?_
          refine tw_iald rfl (fun f869 => ?_)
          refine tw_iload rfl rfl ?_
          refine tw_ic_ne rfl (fun q870 => ?_) (fun q870 => ?_)
          · try dsimp only [tvI_i, tvJ_j, tvR_r] at q870
            have q870i := zneq rfl q870
            refine tw_iinc rfl rfl ?_
            refine tw_goto rfl ?_
            have hx9 : (x + 4).toInt = ((4 * (i + 1) : Nat) : Int) := (zadN (b := 4) hx rfl (by have := D.few; omega) (by decide)).trans (by omega)
            have hno : ¬ hit (tJ h 52) cs (cl i) th := (fun z => q870i (by have y1 := z.1; omega))
            exact tG_cut (zW_mono zTt G dp) (Or.inr ⟨rfl, rfl, _, i + 1, x + 4, _, rfl, hF, by omega, hx9, fun j hj => (Classical.em (j = i)).elim (fun z => by rw [z]; exact hno) (fun z => hall j (by omega)), rfl⟩)
          · try dsimp only [tvI_i, tvJ_j, tvR_r] at q870
            have q870i := zeqi rfl q870
            refine tw_iload rfl rfl ?_
            refine tw_if_ne rfl (fun z => absurd z (by decide)) (fun _ => ?_)
            refine tw_aload rfl rfl ?_
            refine tw_aload rfl rfl ?_
            refine tw_getS rfl (hs_48_1 hF.1) ?_
            refine tw_iload rfl rfl ?_
            refine tw_aaldS rfl (fun _ => o50 _ hF) ?_
            refine tw_aload rfl rfl ?_
            refine tw_iload rfl rfl ?_
            refine tw_push rfl ?_
            refine tw_iadd rfl ?_
            refine tw_iald rfl (fun f872 => ?_)
            refine tw_aload rfl rfl ?_
            refine tw_iload rfl rfl ?_
            refine tw_push rfl ?_
            refine tw_iadd rfl ?_
            refine tw_iald rfl (fun f873 => ?_)
            obtain ⟨s1, s2, s3, s4, p, qq, s5, s6⟩ := rOk_t (D.ok i hi) D.nv (fun z => q868 (Int32.toInt_inj.mp (by omega)))
            refine tw_virt3 rfl (f_work hG hF.1 (by rw [hF.2.2.2.2.1]; exact h52) (by rw [hF.2.2.2.2.1]; exact h53) v2 (e := slc cs (cl i).2.2.1 (cl i).2.2.2) (t := true) (v3.trans (congrArg Nat.cast s1)) ⟨by rw [← s1, hF.2.2.2.2.1, ← cs_len D.arr]; exact s2, by rw [hF.2.2.2.2.1]; exact D.big⟩ (by rw [hF.2.2.2.2.1, hF.2.2.1]; exact D.pos) (by rw [hF.2.2.1]; exact cdAt_c D.arr s6 s5) s3 s4) (fun wp874 hp874 p874 => ?_)
            obtain ⟨rfl, Fp874⟩ := p874
            have hF2 := wFr_t hF Fp874
            rw [hF.2.2.2.2.2 52 (by decide)]
            refine tw_push rfl ?_
            refine tw_lc_eq rfl rfl (fun q875 => ?_) (fun q875 => ?_)
            · try dsimp only [tvI_i, tvJ_j, tvR_r] at q875
              refine tw_iinc rfl rfl ?_
              refine tw_goto rfl ?_
              have hx9 : (x + 4).toInt = ((4 * (i + 1) : Nat) : Int) := (zadN (b := 4) hx rfl (by have := D.few; omega) (by decide)).trans (by omega)
              have s0 : ¬ (cl i).2.2.1 = (cl i).2.2.2 := fun z => q868 (Int32.toInt_inj.mp (by omega))
              have hno : ¬ hit (tJ h 52) cs (cl i) th := (fun z => z.2.elim (fun y => s0 y) (fun y => y q875))
              exact tG_cut (zW_mono zTt G dp) (Or.inr ⟨rfl, rfl, _, i + 1, x + 4, _, rfl, hF2, by omega, hx9, fun j hj => (Classical.em (j = i)).elim (fun z => by rw [z]; exact hno) (fun z => hall j (by omega)), rfl⟩)
            · try dsimp only [tvI_i, tvJ_j, tvR_r] at q875
              refine tw_iload rfl rfl ?_
              exact tw_iret rfl ⟨hF2, Or.inr ⟨i, hi, ⟨by have y1 := q870i; omega, Or.inr q875⟩, hall, _, rfl, hx⟩⟩
        · try dsimp only [tvI_i, tvJ_j, tvR_r] at q868
          have q868i := zeqi rfl q868
          refine tw_push rfl ?_
          refine tw_goto rfl ?_
          refine tw_istore rfl ?_
          refine tw_aload rfl rfl ?_
          refine tw_iload rfl rfl ?_
          refine tw_iald rfl (fun f876 => ?_)
          refine tw_iload rfl rfl ?_
          refine tw_ic_ne rfl (fun q877 => ?_) (fun q877 => ?_)
          · try dsimp only [tvI_i, tvJ_j, tvR_r] at q877
            have q877i := zneq rfl q877
            refine tw_iinc rfl rfl ?_
            refine tw_goto rfl ?_
            have hx9 : (x + 4).toInt = ((4 * (i + 1) : Nat) : Int) := (zadN (b := 4) hx rfl (by have := D.few; omega) (by decide)).trans (by omega)
            have hno : ¬ hit (tJ h 52) cs (cl i) th := (fun z => q877i (by have y1 := z.1; omega))
            exact tG_cut (zW_mono zTt G dp) (Or.inr ⟨rfl, rfl, _, i + 1, x + 4, _, rfl, hF, by omega, hx9, fun j hj => (Classical.em (j = i)).elim (fun z => by rw [z]; exact hno) (fun z => hall j (by omega)), rfl⟩)
          · try dsimp only [tvI_i, tvJ_j, tvR_r] at q877
            have q877i := zeqi rfl q877
            refine tw_iload rfl rfl ?_
            refine tw_if_ne rfl (fun _ => ?_) (fun z => absurd z (by decide))
            refine tw_iload rfl rfl ?_
            exact tw_iret rfl ⟨hF, Or.inr ⟨i, hi, ⟨by have y1 := q877i; omega, Or.inl (by have y1 := q868i; omega)⟩, hall, _, rfl, hx⟩⟩
    · try dsimp only [tvI_i, tvJ_j, tvR_r] at q863
      exfalso
      omega
theorem f_sumOf {G : zG} (hG : G.1 = zProg) {h : zH} {a b q K i : Nat} {y x : Int32} {cs : List Nat} {cl : Nat → rCt} (hs : tSh h) (h52 : tN h 52 = 12) (h53 : tN h 53 = 80) (D : rDt h a b K cs cl) (hy : y.toInt = q) (h50 : tO h 50 q = some a) (h51 : tO h 51 q = some b) (hx : x.toInt = ((4 * i : Nat) : Int)) (hi : i < K) (h15 : (cl i).1 ≠ 15) : tC zTt G 67 [.ref 48, .int y, .int x] h (fun w h2 => w = some (.long (wv (tJ h 52) (slc cs (cl i).2.1 (cl i).2.2.1))) ∧ wFr 53 h h2) := by
  refine tC_in (by rw [hG]; rfl) (fun dp => ?_)
  have hyq : y.toNatClampNeg = q := zof_cl hy
  have o50 : zrf (tO h 50 y.toNatClampNeg) = .ref a := by rw [hyq, h50]; rfl
  have o51 : zrf (tO h 51 y.toNatClampNeg) = .ref b := by rw [hyq, h51]; rfl
  have hK := D.few
  obtain ⟨d0, d1, d2, d3⟩ := D.row i hi
  have x1 : (x + 1).toNatClampNeg = 4 * i + 1 := zof_cl (zadN (b := 1) hx rfl (by omega) (by decide))
  have x2 : (x + 2).toNatClampNeg = 4 * i + 2 := zof_cl (zadN (b := 2) hx rfl (by omega) (by decide))
  have v1 : (tA h b (x + 1).toNatClampNeg).toInt = ((cl i).2.1 : Int) := by rw [x1]; exact d1
  have v2 : (tA h b (x + 2).toNatClampNeg).toInt = ((cl i).2.2.1 : Int) := by rw [x2]; exact d2
  obtain ⟨s1, s2, s3, s4, p, qq, s5, s6⟩ := rOk_s (D.ok i hi) D.nv h15
  refine tw_aload rfl rfl ?_
  refine tw_aload rfl rfl ?_
  refine tw_getS rfl (hs_48_1 hs) ?_
  refine tw_iload rfl rfl ?_
  refine tw_aaldS rfl (fun _ => o50) ?_
  refine tw_aload rfl rfl ?_
  refine tw_getS rfl (hs_48_2 hs) ?_
  refine tw_iload rfl rfl ?_
  refine tw_aaldS rfl (fun _ => o51) ?_
  refine tw_iload rfl rfl ?_
  refine tw_push rfl ?_
  refine tw_iadd rfl ?_
  refine tw_iald rfl (fun f880 => ?_)
  refine tw_aload rfl rfl ?_
  refine tw_getS rfl (hs_48_2 hs) ?_
  refine tw_iload rfl rfl ?_
  refine tw_aaldS rfl (fun _ => o51) ?_
  refine tw_iload rfl rfl ?_
  refine tw_push rfl ?_
  refine tw_iadd rfl ?_
  refine tw_iald rfl (fun f882 => ?_)
  refine tw_virt3 rfl (f_work hG hs h52 h53 v1 (e := slc cs (cl i).2.1 (cl i).2.2.1) (t := false) (v2.trans (congrArg Nat.cast s1)) ⟨by rw [← s1, ← cs_len D.arr]; exact s2, D.big⟩ D.pos (cdAt_c D.arr s6 s5) s3 s4) (fun wp883 hp883 p883 => ?_)
  obtain ⟨rfl, Fp883⟩ := p883
  exact tw_lret rfl ⟨rfl, Fp883⟩
theorem g_truth1 {G : zG} (hG : G.1 = zProg) {h : zH} : tC zTt G 229 [.int 1] h (fun w h2 => w = some (.long 1) ∧ h2 = h) := by
  refine tC_in (by rw [hG]; rfl) (fun dp => ?_)
  refine tw_iload rfl rfl ?_
  refine tw_if_eq rfl (fun z => absurd z (by decide)) (fun _ => ?_)
  refine tw_push rfl ?_
  refine tw_goto rfl ?_
  exact tw_lret rfl ⟨rfl, rfl⟩
theorem g_truth0 {G : zG} (hG : G.1 = zProg) {h : zH} : tC zTt G 229 [.int 0] h (fun w h2 => w = some (.long 0) ∧ h2 = h) := by
  refine tC_in (by rw [hG]; rfl) (fun dp => ?_)
  refine tw_iload rfl rfl ?_
  refine tw_if_eq rfl (fun _ => ?_) (fun z => absurd z (by decide))
  refine tw_push rfl ?_
  exact tw_lret rfl ⟨rfl, rfl⟩
theorem g_two {G : zG} (hG : G.1 = zProg) {h : zH} {y : Int32} {s : Nat} {a b : Int64} (hy : y.toInt = s) (h1 : 2 ≤ s) (h2 : s ≤ 12) (h3 : s ≠ 10) : tC zTt G 230 [.int y, .long a, .long b] h (fun w h2 => w = some (.long (jp (mCode s 0) a b)) ∧ h2 = h) := by
  refine tC_in (by rw [hG]; rfl) (fun dp => ?_)
  refine tw_iload rfl rfl ?_
  refine tw_table rfl (fun q884 => ?_) (fun t9 q884a q884b q884c => ?_)
  · try dsimp only [tvI_i, tvJ_j, tvR_r] at q884
    refine tw_lload rfl rfl ?_
    refine tw_push rfl ?_
    refine tw_lc_ne rfl rfl (fun q885 => ?_) (fun q885 => ?_)
    · try dsimp only [tvI_i, tvJ_j, tvR_r] at q885
      refine tw_push rfl ?_
      refine tw_goto rfl ?_
      refine tw_stat1 rfl (g_truth1 hG) (fun w9 h9 p886 => ?_)
      obtain ⟨rfl, e9⟩ := p886
      obtain rfl := e9.symm
      obtain rfl : s = 12 := by omega
      exact tw_lret rfl ⟨congrArg (fun z => some (Value.long z)) (b64_1 (p := a ≠ 0 ∨ b ≠ 0) (Or.inl q885)).symm, rfl⟩
    · try dsimp only [tvI_i, tvJ_j, tvR_r] at q885
      refine tw_lload rfl rfl ?_
      refine tw_push rfl ?_
      refine tw_lc_eq rfl rfl (fun q887 => ?_) (fun q887 => ?_)
      · try dsimp only [tvI_i, tvJ_j, tvR_r] at q887
        refine tw_push rfl ?_
        refine tw_stat1 rfl (g_truth0 hG) (fun w9 h9 p888 => ?_)
        obtain ⟨rfl, e9⟩ := p888
        obtain rfl := e9.symm
        obtain rfl : s = 12 := by omega
        exact tw_lret rfl ⟨congrArg (fun z => some (Value.long z)) (b64_0 (p := a ≠ 0 ∨ b ≠ 0) (fun z => z.elim (fun y => y q885) (fun y => y q887))).symm, rfl⟩
      · try dsimp only [tvI_i, tvJ_j, tvR_r] at q887
        refine tw_push rfl ?_
        refine tw_goto rfl ?_
        refine tw_stat1 rfl (g_truth1 hG) (fun w9 h9 p889 => ?_)
        obtain ⟨rfl, e9⟩ := p889
        obtain rfl := e9.symm
        obtain rfl : s = 12 := by omega
        exact tw_lret rfl ⟨congrArg (fun z => some (Value.long z)) (b64_1 (p := a ≠ 0 ∨ b ≠ 0) (Or.inr q887)).symm, rfl⟩
  · have q884d : (tvI (.int y)).toInt = 2 ∨ (tvI (.int y)).toInt = 3 ∨ (tvI (.int y)).toInt = 4 ∨ (tvI (.int y)).toInt = 5 ∨ (tvI (.int y)).toInt = 6 ∨ (tvI (.int y)).toInt = 7 ∨ (tvI (.int y)).toInt = 8 ∨ (tvI (.int y)).toInt = 9 ∨ (tvI (.int y)).toInt = 10 ∨ (tvI (.int y)).toInt = 11 := by omega
    rcases q884d with q884 | q884 | q884 | q884 | q884 | q884 | q884 | q884 | q884 | q884
    · obtain rfl : t9 = 56 := by rw [q884] at q884c; exact Option.some.inj (q884c.symm.trans rfl)
      try dsimp only [tvI_i, tvJ_j, tvR_r] at q884
      refine tw_lload rfl rfl ?_
      refine tw_lload rfl rfl ?_
      refine tw_lmul rfl ?_
      obtain rfl : s = 2 := by omega
      exact tw_lret rfl ⟨rfl, rfl⟩
    · obtain rfl : t9 = 60 := by rw [q884] at q884c; exact Option.some.inj (q884c.symm.trans rfl)
      try dsimp only [tvI_i, tvJ_j, tvR_r] at q884
      refine tw_lload rfl rfl ?_
      refine tw_lload rfl rfl ?_
      refine tw_ladd rfl ?_
      obtain rfl : s = 3 := by omega
      exact tw_lret rfl ⟨rfl, rfl⟩
    · obtain rfl : t9 = 64 := by rw [q884] at q884c; exact Option.some.inj (q884c.symm.trans rfl)
      try dsimp only [tvI_i, tvJ_j, tvR_r] at q884
      refine tw_lload rfl rfl ?_
      refine tw_lload rfl rfl ?_
      refine tw_lsub rfl ?_
      obtain rfl : s = 4 := by omega
      exact tw_lret rfl ⟨rfl, rfl⟩
    · obtain rfl : t9 = 68 := by rw [q884] at q884c; exact Option.some.inj (q884c.symm.trans rfl)
      try dsimp only [tvI_i, tvJ_j, tvR_r] at q884
      refine tw_lload rfl rfl ?_
      refine tw_lload rfl rfl ?_
      refine tw_lc_ge rfl rfl (fun q890 => ?_) (fun q890 => ?_)
      · try dsimp only [tvI_i, tvJ_j, tvR_r] at q890
        refine tw_push rfl ?_
        refine tw_stat1 rfl (g_truth0 hG) (fun w9 h9 p891 => ?_)
        obtain ⟨rfl, e9⟩ := p891
        obtain rfl := e9.symm
        obtain rfl : s = 5 := by omega
        exact tw_lret rfl ⟨congrArg (fun z => some (Value.long z)) (b64_0 (p := a.toInt < b.toInt) (by omega)).symm, rfl⟩
      · try dsimp only [tvI_i, tvJ_j, tvR_r] at q890
        refine tw_push rfl ?_
        refine tw_goto rfl ?_
        refine tw_stat1 rfl (g_truth1 hG) (fun w9 h9 p892 => ?_)
        obtain ⟨rfl, e9⟩ := p892
        obtain rfl := e9.symm
        obtain rfl : s = 5 := by omega
        exact tw_lret rfl ⟨congrArg (fun z => some (Value.long z)) (b64_1 (p := a.toInt < b.toInt) (by omega)).symm, rfl⟩
    · obtain rfl : t9 = 83 := by rw [q884] at q884c; exact Option.some.inj (q884c.symm.trans rfl)
      try dsimp only [tvI_i, tvJ_j, tvR_r] at q884
      refine tw_lload rfl rfl ?_
      refine tw_lload rfl rfl ?_
      refine tw_lc_gt rfl rfl (fun q893 => ?_) (fun q893 => ?_)
      · try dsimp only [tvI_i, tvJ_j, tvR_r] at q893
        refine tw_push rfl ?_
        refine tw_stat1 rfl (g_truth0 hG) (fun w9 h9 p894 => ?_)
        obtain ⟨rfl, e9⟩ := p894
        obtain rfl := e9.symm
        obtain rfl : s = 6 := by omega
        exact tw_lret rfl ⟨congrArg (fun z => some (Value.long z)) (b64_0 (p := a.toInt ≤ b.toInt) (by omega)).symm, rfl⟩
      · try dsimp only [tvI_i, tvJ_j, tvR_r] at q893
        refine tw_push rfl ?_
        refine tw_goto rfl ?_
        refine tw_stat1 rfl (g_truth1 hG) (fun w9 h9 p895 => ?_)
        obtain ⟨rfl, e9⟩ := p895
        obtain rfl := e9.symm
        obtain rfl : s = 6 := by omega
        exact tw_lret rfl ⟨congrArg (fun z => some (Value.long z)) (b64_1 (p := a.toInt ≤ b.toInt) (by omega)).symm, rfl⟩
    · obtain rfl : t9 = 98 := by rw [q884] at q884c; exact Option.some.inj (q884c.symm.trans rfl)
      try dsimp only [tvI_i, tvJ_j, tvR_r] at q884
      refine tw_lload rfl rfl ?_
      refine tw_lload rfl rfl ?_
      refine tw_lc_ne rfl rfl (fun q896 => ?_) (fun q896 => ?_)
      · try dsimp only [tvI_i, tvJ_j, tvR_r] at q896
        refine tw_push rfl ?_
        refine tw_stat1 rfl (g_truth0 hG) (fun w9 h9 p897 => ?_)
        obtain ⟨rfl, e9⟩ := p897
        obtain rfl := e9.symm
        obtain rfl : s = 7 := by omega
        exact tw_lret rfl ⟨congrArg (fun z => some (Value.long z)) (b64_0 (p := a = b) q896).symm, rfl⟩
      · try dsimp only [tvI_i, tvJ_j, tvR_r] at q896
        refine tw_push rfl ?_
        refine tw_goto rfl ?_
        refine tw_stat1 rfl (g_truth1 hG) (fun w9 h9 p898 => ?_)
        obtain ⟨rfl, e9⟩ := p898
        obtain rfl := e9.symm
        obtain rfl : s = 7 := by omega
        exact tw_lret rfl ⟨congrArg (fun z => some (Value.long z)) (b64_1 (p := a = b) q896).symm, rfl⟩
    · obtain rfl : t9 = 113 := by rw [q884] at q884c; exact Option.some.inj (q884c.symm.trans rfl)
      try dsimp only [tvI_i, tvJ_j, tvR_r] at q884
      refine tw_lload rfl rfl ?_
      refine tw_lload rfl rfl ?_
      refine tw_lc_lt rfl rfl (fun q899 => ?_) (fun q899 => ?_)
      · try dsimp only [tvI_i, tvJ_j, tvR_r] at q899
        refine tw_push rfl ?_
        refine tw_stat1 rfl (g_truth0 hG) (fun w9 h9 p900 => ?_)
        obtain ⟨rfl, e9⟩ := p900
        obtain rfl := e9.symm
        obtain rfl : s = 8 := by omega
        exact tw_lret rfl ⟨congrArg (fun z => some (Value.long z)) (b64_0 (p := b.toInt ≤ a.toInt) (by omega)).symm, rfl⟩
      · try dsimp only [tvI_i, tvJ_j, tvR_r] at q899
        refine tw_push rfl ?_
        refine tw_goto rfl ?_
        refine tw_stat1 rfl (g_truth1 hG) (fun w9 h9 p901 => ?_)
        obtain ⟨rfl, e9⟩ := p901
        obtain rfl := e9.symm
        obtain rfl : s = 8 := by omega
        exact tw_lret rfl ⟨congrArg (fun z => some (Value.long z)) (b64_1 (p := b.toInt ≤ a.toInt) (by omega)).symm, rfl⟩
    · obtain rfl : t9 = 128 := by rw [q884] at q884c; exact Option.some.inj (q884c.symm.trans rfl)
      try dsimp only [tvI_i, tvJ_j, tvR_r] at q884
      refine tw_lload rfl rfl ?_
      refine tw_lload rfl rfl ?_
      refine tw_lc_le rfl rfl (fun q902 => ?_) (fun q902 => ?_)
      · try dsimp only [tvI_i, tvJ_j, tvR_r] at q902
        refine tw_push rfl ?_
        refine tw_stat1 rfl (g_truth0 hG) (fun w9 h9 p903 => ?_)
        obtain ⟨rfl, e9⟩ := p903
        obtain rfl := e9.symm
        obtain rfl : s = 9 := by omega
        exact tw_lret rfl ⟨congrArg (fun z => some (Value.long z)) (b64_0 (p := b.toInt < a.toInt) (by omega)).symm, rfl⟩
      · try dsimp only [tvI_i, tvJ_j, tvR_r] at q902
        refine tw_push rfl ?_
        refine tw_goto rfl ?_
        refine tw_stat1 rfl (g_truth1 hG) (fun w9 h9 p904 => ?_)
        obtain ⟨rfl, e9⟩ := p904
        obtain rfl := e9.symm
        obtain rfl : s = 9 := by omega
        exact tw_lret rfl ⟨congrArg (fun z => some (Value.long z)) (b64_1 (p := b.toInt < a.toInt) (by omega)).symm, rfl⟩
    · obtain rfl : t9 = 164 := by rw [q884] at q884c; exact Option.some.inj (q884c.symm.trans rfl)
      try dsimp only [tvI_i, tvJ_j, tvR_r] at q884
      exfalso
      omega
    · obtain rfl : t9 = 143 := by rw [q884] at q884c; exact Option.some.inj (q884c.symm.trans rfl)
      try dsimp only [tvI_i, tvJ_j, tvR_r] at q884
      refine tw_lload rfl rfl ?_
      refine tw_push rfl ?_
      refine tw_lc_eq rfl rfl (fun q905 => ?_) (fun q905 => ?_)
      · try dsimp only [tvI_i, tvJ_j, tvR_r] at q905
        refine tw_push rfl ?_
        refine tw_stat1 rfl (g_truth0 hG) (fun w9 h9 p906 => ?_)
        obtain ⟨rfl, e9⟩ := p906
        obtain rfl := e9.symm
        obtain rfl : s = 11 := by omega
        exact tw_lret rfl ⟨congrArg (fun z => some (Value.long z)) (b64_0 (p := a ≠ 0 ∧ b ≠ 0) (fun z => z.1 q905)).symm, rfl⟩
      · try dsimp only [tvI_i, tvJ_j, tvR_r] at q905
        refine tw_lload rfl rfl ?_
        refine tw_push rfl ?_
        refine tw_lc_eq rfl rfl (fun q907 => ?_) (fun q907 => ?_)
        · try dsimp only [tvI_i, tvJ_j, tvR_r] at q907
          refine tw_push rfl ?_
          refine tw_stat1 rfl (g_truth0 hG) (fun w9 h9 p908 => ?_)
          obtain ⟨rfl, e9⟩ := p908
          obtain rfl := e9.symm
          obtain rfl : s = 11 := by omega
          exact tw_lret rfl ⟨congrArg (fun z => some (Value.long z)) (b64_0 (p := a ≠ 0 ∧ b ≠ 0) (fun z => z.2 q907)).symm, rfl⟩
        · try dsimp only [tvI_i, tvJ_j, tvR_r] at q907
          refine tw_push rfl ?_
          refine tw_goto rfl ?_
          refine tw_stat1 rfl (g_truth1 hG) (fun w9 h9 p909 => ?_)
          obtain ⟨rfl, e9⟩ := p909
          obtain rfl := e9.symm
          obtain rfl : s = 11 := by omega
          exact tw_lret rfl ⟨congrArg (fun z => some (Value.long z)) (b64_1 (p := a ≠ 0 ∧ b ≠ 0) ⟨q905, q907⟩).symm, rfl⟩
theorem mC_o {s v c : Nat} (e : mCode s v = c) (h : s ≠ 0 ∧ s ≠ 1 ∧ s ≠ 10) : 100100 ≤ c ∧ c ≠ 100110 := by
  unfold mCode at e
  repeat' (split at e)
  all_goals omega
theorem g_answer {G : zG} (hG : G.1 = zProg) {h : zH} {q b : Nat} {y x1 x2 : Int32} {e : List Nat} {t : Bool} (hs : tSh h) (hy : y.toInt = q) (hq : q < 10) (hx1 : x1.toInt = b) (hx2 : x2.toInt = ((b + e.length : Nat) : Int)) (hN : b + e.length ≤ 400) (h133 : ∀ i, i < 5000 → 0 ≤ (tA h 133 i).toInt ∧ (tA h 133 i).toInt ≤ 14) (h134 : ∀ i, i < 5000 → 0 ≤ (tA h 134 i).toInt ∧ (tA h 134 i).toInt ≤ 99999) (hc : cdAt (fun i => mCode (tA h 133 (500 * q + i)).toNatClampNeg (tA h 134 (500 * q + i)).toNatClampNeg) b e) (ht : tyL [] e = some [t]) (hn : nVl e ≤ 80) : tC zTt G 231 [.ref 111, .int y, .int x1, .int x2] h (fun w h2 => w = some (.long (wv (tJ h 143) e)) ∧ wFr 144 h h2) := by
  refine tC_in (by rw [hG]; rfl) (fun dp => ?_)
  have m5 : (500 * y).toInt = ((500 * q : Nat) : Int) := zmul5 hy hq
  refine tw_push rfl ?_
  refine tw_istore rfl ?_
  refine tw_push rfl ?_
  refine tw_iload rfl rfl ?_
  refine tw_imul rfl ?_
  refine tw_iload rfl rfl ?_
  refine tw_iadd rfl ?_
  refine tw_istore rfl ?_
  refine tG_loop (zW_mono zTt G dp) (zW_conj zTt G dp) (V := fun pc L st h9 _ _ => pc = 12 ∧ st = [] ∧ ∃ (h1 : zH) (k top : Nat) (z u : Int32) (e2 : List Nat) (X : List Int64) (S : List Bool), h1 = h9 ∧ wFr 144 h h1 ∧ z.toInt = ((500 * q + k : Nat) : Int) ∧ u.toInt = top ∧ k + e2.length = b + e.length ∧ evA (tJ h 143) (fun i => mCode (tA h 133 (500 * q + i)).toNatClampNeg (tA h 134 (500 * q + i)).toNatClampNeg) (tJ h1 144) [wv (tJ h 143) e] k top e2 X S ∧ L = [some (.ref 111), some (.int y), some (.int x1), some (.int x2), some (.int u), some (.int z)]) ?_ (⟨rfl, rfl, h, b, 0, _, 0, e, [], [], rfl, wFr_r hs, zadN m5 hx1 (by omega) (by omega), rfl, rfl, evA_0 hc ht hn, rfl⟩)
  rintro _ _ _ _ _ _ ⟨rfl, rfl, h1, k, top, z, u, e2, X, S, rfl, hF, hz, hu, hke, hE, rfl⟩
  have hto : (500 * y + x2).toInt = ((500 * q + (b + e.length) : Nat) : Int) := zadN m5 hx2 (by omega) (by omega)
  refine tw_iload rfl rfl ?_
  refine tw_push rfl ?_
  refine tw_iload rfl rfl ?_
  refine tw_imul rfl ?_
  refine tw_iload rfl rfl ?_
  refine tw_iadd rfl ?_
  refine tw_ic_ge rfl (fun q910 => ?_) (fun q910 => ?_)
  · try dsimp only [tvI_i, tvJ_j, tvR_r] at q910
    refine tw_aload rfl rfl ?_
    refine tw_getS rfl (hs_111_49 hF.1) ?_
    refine tw_push rfl ?_
    refine tw_lald rfl (fun f911 => ?_)
    have e2n : e2 = [] := List.length_eq_zero_iff.mp (by omega)
    subst e2n
    have y1 := evA_e hE
    exact tw_lret rfl ⟨congrArg (fun z => some (Value.long z)) (show tJ h1 144 0 = _ from y1.2), hF⟩
  · try dsimp only [tvI_i, tvJ_j, tvR_r] at q910
    rcases e2 with _ | ⟨c, e3⟩
    · exfalso; have hke : k + 0 = b + e.length := hke; omega
    have hke : k + (e3.length + 1) = b + e.length := hke
    have hcl : mCode (tA h 133 (500 * q + k)).toNatClampNeg (tA h 134 (500 * q + k)).toNatClampNeg = c := hE.at_.1
    have b1 := h133 (500 * q + k) (by omega)
    have b2 := h134 (500 * q + k) (by omega)
    have zz : z.toNatClampNeg = 500 * q + k := zof_cl hz
    have e1 : tA h1 133 z.toNatClampNeg = tA h 133 (500 * q + k) := by rw [hF.2.2.1, zz]
    have e4 : tA h1 134 z.toNatClampNeg = tA h 134 (500 * q + k) := by rw [hF.2.2.1, zz]
    have hs0 : (tA h1 133 z.toNatClampNeg).toInt = (((tA h 133 (500 * q + k)).toNatClampNeg : Nat) : Int) := by rw [e1]; exact (zclx b1.1).symm
    have hv9 : (tA h 134 (500 * q + k)).toNatClampNeg ≤ 99999 := by rw [zclE]; omega
    have h79 : top ≤ 80 := by have y1 := hE.few; have y2 := hE.len; omega
    have hval : (tA h1 134 z.toNatClampNeg).toInt = (((tA h 134 (500 * q + k)).toNatClampNeg : Nat) : Int) := by rw [e4]; exact (zclx b2.1).symm
    refine tw_aload rfl rfl ?_
    refine tw_getS rfl (hs_111_36 hF.1) ?_
    refine tw_iload rfl rfl ?_
    refine tw_iald rfl (fun f912 => ?_)
    refine tw_if_ne rfl (fun q913 => ?_) (fun q913 => ?_)
    · try dsimp only [tvI_i, tvJ_j, tvR_r] at q913
      have q913i := zneq (Y := 0) (by decide) q913
      refine tw_aload rfl rfl ?_
      refine tw_getS rfl (hs_111_36 hF.1) ?_
      refine tw_iload rfl rfl ?_
      refine tw_iald rfl (fun f914 => ?_)
      refine tw_push rfl ?_
      refine tw_ic_ne rfl (fun q915 => ?_) (fun q915 => ?_)
      · try dsimp only [tvI_i, tvJ_j, tvR_r] at q915
        have q915i := zneq (Y := 1) (by decide) q915
        refine tw_aload rfl rfl ?_
        refine tw_getS rfl (hs_111_36 hF.1) ?_
        refine tw_iload rfl rfl ?_
        refine tw_iald rfl (fun f916 => ?_)
        refine tw_push rfl ?_
        refine tw_ic_ne rfl (fun q917 => ?_) (fun q917 => ?_)
        · try dsimp only [tvI_i, tvJ_j, tvR_r] at q917
          have q917i := zneq (Y := 10) (by decide) q917
          have hsn : (tA h 133 (500 * q + k)).toNatClampNeg ≠ 0 ∧ (tA h 133 (500 * q + k)).toNatClampNeg ≠ 1 ∧ (tA h 133 (500 * q + k)).toNatClampNeg ≠ 10 := by have z1 := q913i; have z2 := q915i; have z3 := q917i; omega
          have hcj := mC_o hcl hsn
          obtain ⟨y0, y1, y2, ye, X2, S2, E2⟩ := evA_j hE (by omega) (by omega)
          obtain ⟨y3, y4, y5, y6⟩ := mC_j hcl y1 y2 hv9
          have hu1 : (u - 1).toNatClampNeg = top - 1 := zof_cl ((zsbM (b := 1) hu rfl (by omega) (by decide)).trans (by omega))
          have hu2 : (u - 2).toNatClampNeg = top - 2 := zof_cl ((zsbM (b := 2) hu rfl (by omega) (by decide)).trans (by omega))
          refine tw_aload rfl rfl ?_
          refine tw_getS rfl (hs_111_49 hF.1) ?_
          refine tw_iload rfl rfl ?_
          refine tw_push rfl ?_
          refine tw_isub rfl ?_
          refine tw_aload rfl rfl ?_
          refine tw_getS rfl (hs_111_36 hF.1) ?_
          refine tw_iload rfl rfl ?_
          refine tw_iald rfl (fun f918 => ?_)
          refine tw_aload rfl rfl ?_
          refine tw_getS rfl (hs_111_49 hF.1) ?_
          refine tw_iload rfl rfl ?_
          refine tw_push rfl ?_
          refine tw_isub rfl ?_
          refine tw_lald rfl (fun f919 => ?_)
          refine tw_aload rfl rfl ?_
          refine tw_getS rfl (hs_111_49 hF.1) ?_
          refine tw_iload rfl rfl ?_
          refine tw_push rfl ?_
          refine tw_isub rfl ?_
          refine tw_lald rfl (fun f920 => ?_)
          refine tw_stat3 rfl (g_two hG hs0 y3 y4 y5) (fun w9 h9 p921 => ?_)
          obtain ⟨rfl, e9⟩ := p921
          obtain rfl := e9.symm
          refine tw_last rfl (fun f922 => ?_)
          refine tG_lst f922 hF.1 (fun h3 a3 => ?_)
          try dsimp only [tvI_i, tvJ_j, tvR_r] at a3
          have hF3 := wFr_s hF a3
          refine tw_iinc rfl rfl ?_
          refine tw_iinc rfl rfl ?_
          refine tw_goto rfl ?_
          have hk1 : (z + 1).toInt = ((500 * q + (k + 1) : Nat) : Int) := (zincN hz (by omega)).trans (by omega)
          have hkl : k + 1 + e3.length = b + e.length := by omega
          rw [hu1, hu2] at a3
          rw [← y6, ← ye] at a3
          have E3 : evA (tJ h 143) (fun i => mCode (tA h 133 (500 * q + i)).toNatClampNeg (tA h 134 (500 * q + i)).toNatClampNeg) (tJ h3 144) [wv (tJ h 143) e] (k + 1) (top - 1) e3 X2 S2 := by rw [mJs_g a3 rfl]; exact E2
          have hd1 : (u + (-1)).toInt = ((top - 1 : Nat) : Int) := (zdecM hu (by omega) (by omega)).trans (by omega)
          exact tG_cut (zW_mono zTt G dp) (Or.inr ⟨rfl, rfl, h3, k + 1, top - 1, z + 1, u + (-1), e3, X2, S2, rfl, hF3, hk1, hd1, hkl, E3, rfl⟩)
        · try dsimp only [tvI_i, tvJ_j, tvR_r] at q917
          have q917i := zeqi (Y := 10) (by decide) q917
          have hs9 : (tA h 133 (500 * q + k)).toNatClampNeg = 10 := by have y0 := q917i; omega
          have hc9 : c = 100110 := by rw [hs9] at hcl; exact hcl.symm
          obtain ⟨y0, ye, X2, S2, E2⟩ := evA_n hE hc9
          have hu1 : (u - 1).toNatClampNeg = top - 1 := zof_cl ((zsbM (b := 1) hu rfl (by omega) (by decide)).trans (by omega))
          refine tw_aload rfl rfl ?_
          refine tw_getS rfl (hs_111_49 hF.1) ?_
          refine tw_iload rfl rfl ?_
          refine tw_push rfl ?_
          refine tw_isub rfl ?_
          refine tw_aload rfl rfl ?_
          refine tw_getS rfl (hs_111_49 hF.1) ?_
          refine tw_iload rfl rfl ?_
          refine tw_push rfl ?_
          refine tw_isub rfl ?_
          refine tw_lald rfl (fun f923 => ?_)
          refine tw_push rfl ?_
          refine tw_lc_ne rfl rfl (fun q924 => ?_) (fun q924 => ?_)
          · try dsimp only [tvI_i, tvJ_j, tvR_r] at q924
            refine tw_push rfl ?_
            refine tw_stat1 rfl (g_truth0 hG) (fun w9 h9 p925 => ?_)
            obtain ⟨rfl, e9⟩ := p925
            obtain rfl := e9.symm
            refine tw_last rfl (fun f926 => ?_)
            refine tG_lst f926 hF.1 (fun h3 a3 => ?_)
            try dsimp only [tvI_i, tvJ_j, tvR_r] at a3
            have hF3 := wFr_s hF a3
            refine tw_goto rfl ?_
            refine tw_iinc rfl rfl ?_
            refine tw_goto rfl ?_
            have hk1 : (z + 1).toInt = ((500 * q + (k + 1) : Nat) : Int) := (zincN hz (by omega)).trans (by omega)
            have hkl : k + 1 + e3.length = b + e.length := by omega
            rw [hu1] at a3 q924
            have a3 : mJs 144 (top - 1) (1 - tJ h1 144 (top - 1)) h1 h3 := by rw [ye, b64_0 q924]; exact a3
            have E3 : evA (tJ h 143) (fun i => mCode (tA h 133 (500 * q + i)).toNatClampNeg (tA h 134 (500 * q + i)).toNatClampNeg) (tJ h3 144) [wv (tJ h 143) e] (k + 1) top e3 X2 S2 := by rw [mJs_g a3 rfl]; exact E2
            exact tG_cut (zW_mono zTt G dp) (Or.inr ⟨rfl, rfl, h3, k + 1, top, z + 1, u, e3, X2, S2, rfl, hF3, hk1, hu, hkl, E3, rfl⟩)
          · try dsimp only [tvI_i, tvJ_j, tvR_r] at q924
            refine tw_push rfl ?_
            refine tw_goto rfl ?_
            refine tw_stat1 rfl (g_truth1 hG) (fun w9 h9 p927 => ?_)
            obtain ⟨rfl, e9⟩ := p927
            obtain rfl := e9.symm
            refine tw_last rfl (fun f928 => ?_)
            refine tG_lst f928 hF.1 (fun h3 a3 => ?_)
            try dsimp only [tvI_i, tvJ_j, tvR_r] at a3
            have hF3 := wFr_s hF a3
            refine tw_goto rfl ?_
            refine tw_iinc rfl rfl ?_
            refine tw_goto rfl ?_
            have hk1 : (z + 1).toInt = ((500 * q + (k + 1) : Nat) : Int) := (zincN hz (by omega)).trans (by omega)
            have hkl : k + 1 + e3.length = b + e.length := by omega
            rw [hu1] at a3 q924
            have a3 : mJs 144 (top - 1) (1 - tJ h1 144 (top - 1)) h1 h3 := by rw [ye, b64_1 q924]; exact a3
            have E3 : evA (tJ h 143) (fun i => mCode (tA h 133 (500 * q + i)).toNatClampNeg (tA h 134 (500 * q + i)).toNatClampNeg) (tJ h3 144) [wv (tJ h 143) e] (k + 1) top e3 X2 S2 := by rw [mJs_g a3 rfl]; exact E2
            exact tG_cut (zW_mono zTt G dp) (Or.inr ⟨rfl, rfl, h3, k + 1, top, z + 1, u, e3, X2, S2, rfl, hF3, hk1, hu, hkl, E3, rfl⟩)
      · try dsimp only [tvI_i, tvJ_j, tvR_r] at q915
        have q915i := zeqi (Y := 1) (by decide) q915
        have hs9 : (tA h 133 (500 * q + k)).toNatClampNeg = 1 := by have y0 := q915i; omega
        have hc8 : (if (tA h 134 (500 * q + k)).toNatClampNeg < 12 then 100000 + (tA h 134 (500 * q + k)).toNatClampNeg else 200000 + (tA h 134 (500 * q + k)).toNatClampNeg) = c := by rw [hs9] at hcl; exact hcl
        have hc7 : (tA h 134 (500 * q + k)).toNatClampNeg < 12 := by
          refine Classical.byContradiction (fun y => ?_)
          rw [if_neg y] at hc8
          have y2 := (evA_j hE (by omega) (by omega)).2.2.1
          omega
        rw [if_pos hc7] at hc8
        obtain ⟨y80, y12, X2, S2, E2⟩ := evA_v hE (by omega)
        refine tw_aload rfl rfl ?_
        refine tw_getS rfl (hs_111_49 hF.1) ?_
        refine tw_iload rfl rfl ?_
        refine tw_aload rfl rfl ?_
        refine tw_getS rfl (hs_111_48 hF.1) ?_
        refine tw_aload rfl rfl ?_
        refine tw_getS rfl (hs_111_37 hF.1) ?_
        refine tw_iload rfl rfl ?_
        refine tw_iald rfl (fun f929 => ?_)
        refine tw_lald rfl (fun f930 => ?_)
        refine tw_last rfl (fun f931 => ?_)
        refine tG_lst f931 hF.1 (fun h3 a3 => ?_)
        try dsimp only [tvI_i, tvJ_j, tvR_r] at a3
        have hF3 := wFr_s hF a3
        refine tw_iinc rfl rfl ?_
        refine tw_goto rfl ?_
        refine tw_iinc rfl rfl ?_
        refine tw_goto rfl ?_
        have hk1 : (z + 1).toInt = ((500 * q + (k + 1) : Nat) : Int) := (zincN hz (by omega)).trans (by omega)
        have hkl : k + 1 + e3.length = b + e.length := by omega
        rw [zof_cl hu, hF.2.2.2.2.2 143 (by decide), e4, show (tA h 134 (500 * q + k)).toNatClampNeg = c - 100000 by omega, ← vOf_w (W := (tJ h 143)) (by omega)] at a3
        have E3 : evA (tJ h 143) (fun i => mCode (tA h 133 (500 * q + i)).toNatClampNeg (tA h 134 (500 * q + i)).toNatClampNeg) (tJ h3 144) [wv (tJ h 143) e] (k + 1) (top + 1) e3 X2 S2 := by rw [mJs_g a3 rfl]; exact E2
        exact tG_cut (zW_mono zTt G dp) (Or.inr ⟨rfl, rfl, h3, k + 1, top + 1, z + 1, u + 1, e3, X2, S2, rfl, hF3, hk1, zincN hu (by omega), hkl, E3, rfl⟩)
    · try dsimp only [tvI_i, tvJ_j, tvR_r] at q913
      have q913i := zeqi (Y := 0) (by decide) q913
      have hs9 : (tA h 133 (500 * q + k)).toNatClampNeg = 0 := by have y0 := q913i; omega
      have hc9 : c = (tA h 134 (500 * q + k)).toNatClampNeg := by rw [hs9] at hcl; exact hcl.symm
      obtain ⟨y80, y12, X2, S2, E2⟩ := evA_v hE (by omega)
      refine tw_aload rfl rfl ?_
      refine tw_getS rfl (hs_111_49 hF.1) ?_
      refine tw_iload rfl rfl ?_
      refine tw_aload rfl rfl ?_
      refine tw_getS rfl (hs_111_37 hF.1) ?_
      refine tw_iload rfl rfl ?_
      refine tw_iald rfl (fun f932 => ?_)
      refine tw_i2l rfl ?_
      refine tw_last rfl (fun f933 => ?_)
      refine tG_lst f933 hF.1 (fun h3 a3 => ?_)
      try dsimp only [tvI_i, tvJ_j, tvR_r] at a3
      have hF3 := wFr_s hF a3
      refine tw_iinc rfl rfl ?_
      refine tw_goto rfl ?_
      refine tw_iinc rfl rfl ?_
      refine tw_goto rfl ?_
      have hk1 : (z + 1).toInt = ((500 * q + (k + 1) : Nat) : Int) := (zincN hz (by omega)).trans (by omega)
      have hkl : k + 1 + e3.length = b + e.length := by omega
      rw [zof_cl hu, ← vOf_n (W := (tJ h 143)) (c := c) (by omega) (by rw [hval, hc9])] at a3
      have E3 : evA (tJ h 143) (fun i => mCode (tA h 133 (500 * q + i)).toNatClampNeg (tA h 134 (500 * q + i)).toNatClampNeg) (tJ h3 144) [wv (tJ h 143) e] (k + 1) (top + 1) e3 X2 S2 := by rw [mJs_g a3 rfl]; exact E2
      exact tG_cut (zW_mono zTt G dp) (Or.inr ⟨rfl, rfl, h3, k + 1, top + 1, z + 1, u + 1, e3, X2, S2, rfl, hF3, hk1, zincN hu (by omega), hkl, E3, rfl⟩)
theorem g_tells {G : zG} (hG : G.1 = zProg) {h : zH} {q K kd t0 : Nat} {y k9 t9 : Int32} {cs : List Nat} {cl : Nat → rCt} (hs : tSh h) (D : rDm h q K cs cl) (hy : y.toInt = q) (hq : q < 10) (hk9 : k9.toInt = kd) (hkd : kd ≤ 3) (ht9 : t9.toInt = t0) (h133 : ∀ i, i < 5000 → 0 ≤ (tA h 133 i).toInt ∧ (tA h 133 i).toInt ≤ 14) (h134 : ∀ i, i < 5000 → 0 ≤ (tA h 134 i).toInt ∧ (tA h 134 i).toInt ≤ 99999) (h135 : ∀ i, i < 120 → 0 ≤ (tA h 135 i).toInt ∧ (tA h 135 i).toInt ≤ 3) (h136 : ∀ i, i < 120 → 0 ≤ (tA h 136 i).toInt ∧ (tA h 136 i).toInt ≤ 99999) (h138 : ∀ i, i < 120 → 0 ≤ (tA h 138 i).toInt ∧ (tA h 138 i).toInt ≤ 410) (h139 : ∀ i, i < 120 → 0 ≤ (tA h 139 i).toInt ∧ (tA h 139 i).toInt ≤ 410) : tC zTt G 232 [.ref 111, .int y, .int k9, .int t9] h (fun w h2 => wFr 144 h h2 ∧ fTr (tJ h 143) cs cl K (thc kd t0) (fun i => 12 * q + i) w) := by
  refine tC_in (by rw [hG]; rfl) (fun dp => ?_)
  have m12 : (12 * y).toInt = ((12 * q : Nat) : Int) := zmul12 hy hq
  have hyq : y.toNatClampNeg = q := zof_cl hy
  have hK12 := D.few
  refine tw_push rfl ?_
  refine tw_istore rfl ?_
  refine tG_loop (zW_mono zTt G dp) (zW_conj zTt G dp) (V := fun pc L st h9 _ _ => pc = 3 ∧ st = [] ∧ ∃ (h1 : zH) (i : Nat) (x : Int32) (l5 l6 : Option Value), h1 = h9 ∧ wFr 144 h h1 ∧ i ≤ K ∧ x.toInt = (i : Int) ∧ (∀ j, j < i → ¬ hit (tJ h 143) cs (cl j) (thc kd t0)) ∧ L = [some (.ref 111), some (.int y), some (.int k9), some (.int t9), some (.int x), l5, l6]) ?_ (⟨rfl, rfl, h, 0, 0, _, _, rfl, wFr_r hs, Nat.zero_le _, rfl, fun j hj => absurd hj (Nat.not_lt_zero _), rfl⟩)
  rintro _ _ _ _ _ _ ⟨rfl, rfl, h1, i, x, l5, l6, rfl, hF, hiK, hx, hall, rfl⟩
  have hcK : (tA h1 140 y.toNatClampNeg).toInt = (K : Int) := by rw [hF.2.2.1, hyq]; exact D.cnt
  refine tw_iload rfl rfl ?_
  refine tw_aload rfl rfl ?_
  refine tw_getS rfl (hs_111_43 hF.1) ?_
  refine tw_iload rfl rfl ?_
  refine tw_iald rfl (fun f934 => ?_)
  refine tw_ic_ge rfl (fun q935 => ?_) (fun q935 => ?_)
  · try dsimp only [tvI_i, tvJ_j, tvR_r] at q935
    refine tw_push rfl ?_
    exact tw_iret rfl ⟨hF, Or.inl ⟨rfl, fun i9 h9 => hall i9 (by have y2 := hcK; omega)⟩⟩
  · try dsimp only [tvI_i, tvJ_j, tvR_r] at q935
    have eA := hF.2.2.1
    have hi : i < K := by have y1 := hcK; omega
    have hrow : (12 * y + x).toInt = ((12 * q + i : Nat) : Int) := zadN m12 hx (by omega) (by omega)
    have zz : (12 * y + x).toNatClampNeg = 12 * q + i := zof_cl hrow
    have hr := D.row i hi
    have c1 := h135 (12 * q + i) (by omega)
    have c2 := h136 (12 * q + i) (by omega)
    have c3 : ((cl i).1, (cl i).2.1, (cl i).2.2.1, (cl i).2.2.2) = (thc (tA h 135 (12 * q + i)).toNatClampNeg (tA h 136 (12 * q + i)).toNatClampNeg, (tA h 137 (12 * q + i)).toNatClampNeg, (tA h 138 (12 * q + i)).toNatClampNeg, (tA h 139 (12 * q + i)).toNatClampNeg) := by rw [← hr]; rfl
    have c4 := congrArg (fun z : rCt => z.1) c3
    have c6 := congrArg (fun z : rCt => z.2.2.1) c3
    have c7 := congrArg (fun z : rCt => z.2.2.2) c3
    dsimp only at c4 c6 c7
    have w1 : tA h1 135 (12 * y + x).toNatClampNeg = tA h 135 (12 * q + i) := by rw [eA, zz]
    have w2 : tA h1 136 (12 * y + x).toNatClampNeg = tA h 136 (12 * q + i) := by rw [eA, zz]
    have w3 : (tA h1 138 (12 * y + x).toNatClampNeg).toInt = ((cl i).2.2.1 : Int) := by rw [eA, zz, c6]; exact (zclx (h138 (12 * q + i) (by omega)).1).symm
    have w4 : (tA h1 139 (12 * y + x).toNatClampNeg).toInt = ((cl i).2.2.2 : Int) := by rw [eA, zz, c7]; exact (zclx (h139 (12 * q + i) (by omega)).1).symm
    have hth : (cl i).1 = thc kd t0 ↔ tA h1 135 (12 * y + x).toNatClampNeg = k9 ∧ tA h1 136 (12 * y + x).toNatClampNeg = t9 := by
      rw [c4, thc_i (by rw [zclE]; omega) hkd, w1, w2]
      constructor
      · rintro ⟨u1, u2⟩
        exact ⟨Int32.toInt_inj.mp (by rw [hk9, ← u1]; exact (zclx c1.1).symm), Int32.toInt_inj.mp (by rw [ht9, ← u2]; exact (zclx c2.1).symm)⟩
      · rintro ⟨u1, u2⟩
        exact ⟨by rw [u1]; exact zof_cl hk9, by rw [u2]; exact zof_cl ht9⟩
    refine tw_push rfl ?_
    refine tw_iload rfl rfl ?_
    refine tw_imul rfl ?_
    refine tw_iload rfl rfl ?_
    refine tw_iadd rfl ?_
    refine tw_istore rfl ?_
    refine tw_aload rfl rfl ?_
    refine tw_getS rfl (hs_111_38 hF.1) ?_
    refine tw_iload rfl rfl ?_
    refine tw_iald rfl (fun f936 => ?_)
    refine tw_iload rfl rfl ?_
    refine tw_ic_ne rfl (fun q937 => ?_) (fun q937 => ?_)
    · try dsimp only [tvI_i, tvJ_j, tvR_r] at q937
      have q937i := zneq rfl q937
      refine tw_push rfl ?_
      refine tw_istore rfl ?_
      refine tw_iload rfl rfl ?_
      refine tw_if_eq rfl (fun _ => ?_) (fun z => absurd z (by decide))
      refine tw_iinc rfl rfl ?_
      refine tw_goto rfl ?_
      have hx9 : (x + 1).toInt = ((i + 1 : Nat) : Int) := zincN hx (by omega)
      have hno : ¬ hit (tJ h 143) cs (cl i) (thc kd t0) := (fun z => q937 (hth.mp z.1).1)
      exact tG_cut (zW_mono zTt G dp) (Or.inr ⟨rfl, rfl, _, i + 1, x + 1, _, _, rfl, hF, by omega, hx9, fun j hj => (Classical.em (j = i)).elim (fun z => by rw [z]; exact hno) (fun z => hall j (by omega)), rfl⟩)
    · try dsimp only [tvI_i, tvJ_j, tvR_r] at q937
      have q937i := zeqi rfl q937
      refine tw_aload rfl rfl ?_
      refine tw_getS rfl (hs_111_39 hF.1) ?_
      refine tw_iload rfl rfl ?_
      refine tw_iald rfl (fun f938 => ?_)
      refine tw_iload rfl rfl ?_
      refine tw_ic_ne rfl (fun q939 => ?_) (fun q939 => ?_)
      · try dsimp only [tvI_i, tvJ_j, tvR_r] at q939
        have q939i := zneq rfl q939
        refine tw_push rfl ?_
        refine tw_istore rfl ?_
        refine tw_iload rfl rfl ?_
        refine tw_if_eq rfl (fun _ => ?_) (fun z => absurd z (by decide))
        refine tw_iinc rfl rfl ?_
        refine tw_goto rfl ?_
        have hx9 : (x + 1).toInt = ((i + 1 : Nat) : Int) := zincN hx (by omega)
        have hno : ¬ hit (tJ h 143) cs (cl i) (thc kd t0) := (fun z => q939 (hth.mp z.1).2)
        exact tG_cut (zW_mono zTt G dp) (Or.inr ⟨rfl, rfl, _, i + 1, x + 1, _, _, rfl, hF, by omega, hx9, fun j hj => (Classical.em (j = i)).elim (fun z => by rw [z]; exact hno) (fun z => hall j (by omega)), rfl⟩)
      · try dsimp only [tvI_i, tvJ_j, tvR_r] at q939
        have q939i := zeqi rfl q939
        refine tw_push rfl ?_
        refine tw_goto rfl ?_
        refine tw_istore rfl ?_
        refine tw_iload rfl rfl ?_
        refine tw_if_eq rfl (fun z => absurd z (by decide)) (fun _ => ?_)
        refine tw_aload rfl rfl ?_
        refine tw_getS rfl (hs_111_41 hF.1) ?_
        refine tw_iload rfl rfl ?_
        refine tw_iald rfl (fun f940 => ?_)
        refine tw_aload rfl rfl ?_
        refine tw_getS rfl (hs_111_42 hF.1) ?_
        refine tw_iload rfl rfl ?_
        refine tw_iald rfl (fun f941 => ?_)
        refine tw_ic_eq rfl (fun q942 => ?_) (fun q942 => ?_)
        · try dsimp only [tvI_i, tvJ_j, tvR_r] at q942
          have q942i := zeqi rfl q942
          refine tw_iload rfl rfl ?_
          exact tw_iret rfl ⟨hF, Or.inr ⟨i, hi, ⟨(hth.mpr ⟨q937, q939⟩), Or.inl (by have y1 := q942i; omega)⟩, hall, _, rfl, hrow⟩⟩
        · try dsimp only [tvI_i, tvJ_j, tvR_r] at q942
          have q942i := zneq rfl q942
          refine tw_aload rfl rfl ?_
          refine tw_iload rfl rfl ?_
          refine tw_aload rfl rfl ?_
          refine tw_getS rfl (hs_111_41 hF.1) ?_
          refine tw_iload rfl rfl ?_
          refine tw_iald rfl (fun f943 => ?_)
          refine tw_aload rfl rfl ?_
          refine tw_getS rfl (hs_111_42 hF.1) ?_
          refine tw_iload rfl rfl ?_
          refine tw_iald rfl (fun f944 => ?_)
          obtain ⟨s1, s2, s3, s4, p, qq, s5, s6⟩ := rOk_t (D.ok i hi) D.nv (fun z => q942 (Int32.toInt_inj.mp (by omega)))
          refine tw_virt3 rfl (g_answer hG hF.1 hy hq w3 (e := slc cs (cl i).2.2.1 (cl i).2.2.2) (t := true) (w4.trans (congrArg Nat.cast s1)) (by rw [← s1]; have := D.big; omega) (by rw [hF.2.2.1]; exact h133) (by rw [hF.2.2.1]; exact h134) (by rw [hF.2.2.1]; exact cdAt_h s5 s6 D.cod) s3 s4) (fun wp945 hp945 p945 => ?_)
          obtain ⟨rfl, Fp945⟩ := p945
          have hF2 := wFr_t hF Fp945
          rw [hF.2.2.2.2.2 143 (by decide)]
          refine tw_push rfl ?_
          refine tw_lc_eq rfl rfl (fun q946 => ?_) (fun q946 => ?_)
          · try dsimp only [tvI_i, tvJ_j, tvR_r] at q946
            refine tw_iinc rfl rfl ?_
            refine tw_goto rfl ?_
            have hx9 : (x + 1).toInt = ((i + 1 : Nat) : Int) := zincN hx (by omega)
            have s0 : ¬ (cl i).2.2.1 = (cl i).2.2.2 := fun z => q942 (Int32.toInt_inj.mp (by omega))
            have hno : ¬ hit (tJ h 143) cs (cl i) (thc kd t0) := (fun z => z.2.elim (fun y => s0 y) (fun y => y q946))
            exact tG_cut (zW_mono zTt G dp) (Or.inr ⟨rfl, rfl, _, i + 1, x + 1, _, _, rfl, hF2, by omega, hx9, fun j hj => (Classical.em (j = i)).elim (fun z => by rw [z]; exact hno) (fun z => hall j (by omega)), rfl⟩)
          · try dsimp only [tvI_i, tvJ_j, tvR_r] at q946
            refine tw_iload rfl rfl ?_
            exact tw_iret rfl ⟨hF2, Or.inr ⟨i, hi, ⟨(hth.mpr ⟨q937, q939⟩), Or.inr q946⟩, hall, _, rfl, hrow⟩⟩
/-! a rule as it is kept, in the class and in the reference -/
noncomputable def cQd (h : zH) (b i : Nat) : rCt := ((tA h b (4 * i)).toNatClampNeg, (tA h b (4 * i + 1)).toNatClampNeg, (tA h b (4 * i + 2)).toNatClampNeg, (tA h b (4 * i + 3)).toNatClampNeg)
