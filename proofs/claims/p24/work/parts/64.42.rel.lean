theorem g_closesRound {G : zG} (hG : G.1 = zProg) (hX : G.2.1 = ztx) {h : zH} {T : Nat → Int32} {n : Nat} (hs : tSh h) (hp : mP h) (hT : tA h 132 = T) (hN : mn h = n) {c : Int32} (hc : sgm T n (ms h).1 c) (hhd : (mSk h).headD 0 = 50) (hD : mD h) : tC zTt G 218 [.ref 111, .int c] h (fun w h2 => w = none ∧ mFr h h2 ∧ ((((ms h).1 < n ∧ T (ms h).1 = 41) ∧ mP h2 ∧ ms h2 = rA ((ms h).1 + 1) (ms h) ∧ mSk h2 = (mSk h).tail ∧ mD h2) ∨ (¬ ((ms h).1 < n ∧ T (ms h).1 = 41) ∧ mFt h2 (1 + 8 * (ms h).1 + 0) ∧ mZp h2))) := by
  refine tC_in (by rw [hG]; rfl) (fun dp => ?_)
  have g0 := mFr_r hs
  have hpn : (ms h).1 ≤ n := mPle hp hN
  have hn4 : n ≤ 400 := by have a := mNl hp hN; have b := hp.2.1; omega
  refine tw_iload rfl rfl ?_
  refine tw_push rfl ?_
  refine tw_ic_eq rfl (fun q633 => ?_) (fun q633 => ?_)
  · try dsimp only [tvI_i, tvJ_j, tvR_r] at q633
    have q633i := zeqi (Y := 41) (by decide) q633
    refine tw_aload rfl rfl ?_
    refine tw_dup rfl ?_
    refine tw_getS rfl (hi_111_28 hs) ?_
    refine tw_push rfl ?_
    refine tw_iadd rfl ?_
    refine tw_put rfl (fun f634 => ?_)
    refine tG_setm f634 (hw_111_28 f634 (g0).1) (fun hf634 ef634 => ?_)
    try dsimp only [tvI_i] at ef634
    have gf634 := mFr_s g0 ef634 (by unfold mFs; omega)
    have w9 := (sgm_k hc 41 (by decide)).mp q633
    obtain ⟨pf634, sf634, tf634⟩ := mTo hp ((mFr_n g0).trans hN) ef634 (v := (ms h).1 + 1) (zp1 (mPl hp) (by omega)) w9.1
    refine tw_aload rfl rfl ?_
    refine tw_dup rfl ?_
    refine tw_getS rfl (hi_111_34 (gf634).1) ?_
    refine tw_push rfl ?_
    refine tw_isub rfl ?_
    refine tw_put rfl (fun f635 => ?_)
    refine tG_setm f635 (hw_111_34 f635 (gf634).1) (fun hf635 ef635 => ?_)
    try dsimp only [tvI_i] at ef635
    have gf635 := mFr_s gf634 ef635 (by unfold mFs; omega)
    have hst : mSk hf634 = 50 :: (mSk h).tail := tf634.trans (mhead (k := 49) hhd)
    obtain ⟨pf635, tf635, sf635, df635⟩ := mSk_pop pf634 (by rw [hst]; exact List.cons_ne_nil _ _) ef635
    rw [hst] at tf635
    have tf635 : mSk hf635 = (mSk h).tail := tf635
    refine tw_aload rfl rfl ?_
    refine tw_dup rfl ?_
    refine tw_getS rfl (hi_111_32 (gf635).1) ?_
    refine tw_push rfl ?_
    refine tw_isub rfl ?_
    refine tw_put rfl (fun f636 => ?_)
    refine tG_setm f636 (hw_111_32 f636 (gf635).1) (fun hf636 ef636 => ?_)
    try dsimp only [tvI_i] at ef636
    have gf636 := mFr_s gf635 ef636 (by unfold mFs; omega)
    have hdf636 : (tvI (tF hf635 111 32)).toInt = ((mDp (mSk hf635) + 1 : Nat) : Int) := by
      rw [df635, mI_o ef634 (by decide)]
      refine (show (tvI (tF h 111 32)).toInt = (mDp (mSk h) : Int) from hD).trans ?_
      rw [tf635]
      exact congrArg (fun z : Nat => (z : Int)) ((congrArg mDp (mhead (k := 49) hhd)).trans (mDp_c (by decide)))
    obtain ⟨pf636, tf636, sf636, ddf636⟩ := mDn pf635 ef636 hdf636 rfl
    exact tw_vret rfl ⟨rfl, gf636, Or.inl ⟨w9, pf636, by rw [sf636, sf635, sf634], by rw [tf636, tf635], ddf636⟩⟩
  · try dsimp only [tvI_i, tvJ_j, tvR_r] at q633
    have q633i := zneq (Y := 41) (by decide) q633
    refine tw_aload rfl rfl ?_
    refine tw_push rfl ?_
    refine tw_aload rfl rfl ?_
    refine tw_getS rfl (hi_111_28 hs) ?_
    refine tw_virt2 rfl (g_fails hG hX (g0).1 hp ((mFr_T g0).trans hT) ((mFr_n g0).trans hN) (w := 0) (b := (ms h).1) rfl (by decide) (mPl hp) (by omega)) (fun wp637 hp637 p637 => ?_)
    obtain ⟨rfl, gp637, Fp637, ip637, jp637⟩ := p637
    have ggp637 := mFr_t g0 gp637
    refine tw_aload rfl rfl ?_
    refine tw_dup rfl ?_
    refine tw_getS rfl (hi_111_28 ggp637.1) ?_
    refine tw_push rfl ?_
    refine tw_iadd rfl ?_
    refine tw_put rfl (fun f638 => ?_)
    refine tG_setm f638 (hw_111_28 f638 (ggp637).1) (fun hf638 ef638 => ?_)
    try dsimp only [tvI_i] at ef638
    have gf638 := mFr_s ggp637 ef638 (by unfold mFs; omega)
    have zf638 := mFt_s Fp637 ef638 (by decide)
    have yf638 : (tvI (tF hp637 111 28)).toInt = (((ms h).1 : Nat) : Int) := by rw [ip637]; exact mPl hp
    have Zf638 : mZp hf638 := mZ_of ggp637 hp ef638 (zp1 yf638 (by omega)) (by omega)
    refine tw_aload rfl rfl ?_
    refine tw_dup rfl ?_
    refine tw_getS rfl (hi_111_34 (gf638).1) ?_
    refine tw_push rfl ?_
    refine tw_isub rfl ?_
    refine tw_put rfl (fun f639 => ?_)
    refine tG_setm f639 (hw_111_34 f639 (gf638).1) (fun hf639 ef639 => ?_)
    try dsimp only [tvI_i] at ef639
    have gf639 := mFr_s gf638 ef639 (by unfold mFs; omega)
    have zf639 := mFt_s zf638 ef639 (by decide)
    have Zf639 : mZp hf639 := mZp_o Zf638 ef639 (by decide)
    refine tw_aload rfl rfl ?_
    refine tw_dup rfl ?_
    refine tw_getS rfl (hi_111_32 (gf639).1) ?_
    refine tw_push rfl ?_
    refine tw_isub rfl ?_
    refine tw_put rfl (fun f640 => ?_)
    refine tG_setm f640 (hw_111_32 f640 (gf639).1) (fun hf640 ef640 => ?_)
    try dsimp only [tvI_i] at ef640
    have gf640 := mFr_s gf639 ef640 (by unfold mFs; omega)
    have zf640 := mFt_s zf639 ef640 (by decide)
    have Zf640 : mZp hf640 := mZp_o Zf639 ef640 (by decide)
    exact tw_vret rfl ⟨rfl, gf640, Or.inr ⟨fun z => q633 ((sgm_k hc 41 (by decide)).mpr z), zf640, Zf640⟩⟩
theorem mDp_T : ∀ (S o : List Nat), mDp (mT S o).1 = mDp S
  | [], _ => rfl
  | x :: r, o => by
    unfold mT
    by_cases z : x = 102
    · rw [if_pos z, mDp_T r, z, mDp_e (by decide)]
    · rw [if_neg z]
theorem mDp_P : ∀ (S o : List Nat), mDp (mPm S o).1 = mDp S
  | [], _ => rfl
  | x :: r, o => by
    unfold mPm
    by_cases z : x = 103
    · rw [if_pos z, mDp_P r, z, mDp_e (by decide)]
    · rw [if_neg z]
      by_cases y : x = 104
      · rw [if_pos y, mDp_P r, y, mDp_e (by decide)]
      · rw [if_neg y]
theorem mDp_S (S o : List Nat) : mDp (mS S o).1 = mDp S := (mDp_P _ _).trans (mDp_T _ _)
theorem mDp_A : ∀ (S o : List Nat), mDp (mA S o).1 = mDp S
  | [], _ => rfl
  | x :: r, o => by
    unfold mA
    by_cases z : x = 11
    · rw [if_pos z, mDp_A r, z, mDp_e (by decide)]
    · rw [if_neg z]
theorem mDp_O1 : ∀ (S o : List Nat), mDp (mO1 S o).1 = mDp S
  | [], _ => rfl
  | x :: r, o => by
    unfold mO1
    by_cases z : x = 12
    · rw [if_pos z, mDp_O1 r, z, mDp_e (by decide)]
    · rw [if_neg z]
theorem mDp_O (S o : List Nat) : mDp (mO S o).1 = mDp S := (mDp_O1 _ _).trans (mDp_A _ _)
theorem mD_m {h h2 : zH} (d : mD h) (a : mDp (mSk h2) = mDp (mSk h)) (b : tF h2 111 32 = tF h 111 32) : mD h2 := by
  unfold mD
  rw [a, b]
  exact d
theorem mfst {α β : Type} {x : α} {y : β} {p : α × β} (h : (x, y) = p) : x = p.1 := congrArg Prod.fst h
theorem mA1 {h1 h2 : zH} {b : Nat} {s : rS} (e : ms h1 = rA b s) (a : (ms h2).1 = (ms h1).1) : (ms h2).1 = b := by
  rw [a, e]
  rfl
theorem mA2 {h1 h2 : zH} {b y0 : Nat} {s : rS} (e : ms h1 = rA b s) (c : (ms h2).2.1 = (ms h1).2.1) (y : s.2.1 = y0) : (ms h2).2.1 = y0 := by
  rw [c, e]
  exact y
theorem mA3 {h1 h2 : zH} {b y0 : Nat} {s : rS} {z : List Nat} (e : ms h1 = rA b s) (a : (ms h2).1 = (ms h1).1) (c : (ms h2).2.1 = (ms h1).2.1) (y : s.2.1 = y0) (k : (ms h2).2.2 = z) : ms h2 = (b, y0, z) :=
  Prod.ext (mA1 e a) (Prod.ext (mA2 e c y) k)
theorem mA6 {b y0 : Nat} {s : rS} {z : List Nat} (y : s.2.1 = y0) (k : s.2.2 = z) : rA b s = (b, y0, z) := by
  rw [← y, ← k]
  rfl
theorem mA4 {h1 h2 h3 : zH} {b y0 : Nat} {s : rS} {z : List Nat} (g : ms h3 = rA ((ms h2).1 + 1) (ms h2)) (e : ms h1 = rA b s) (a : (ms h2).1 = (ms h1).1) (c : (ms h2).2.1 = (ms h1).2.1) (y : s.2.1 = y0) (k : (ms h2).2.2 = z) : ms h3 = (b + 1, y0, z) := by
  rw [g, mA1 e a]
  exact mA6 (mA2 e c y) k
theorem cm_d {q : Nat} {x : Int32} (h1 : 100103 ≤ q) (hx : x.toInt + 100098 = (q : Int)) : ∃ d, q = 100103 + d ∧ x.toInt = ((d + 5 : Nat) : Int) := ⟨q - 100103, by omega, by omega⟩
theorem cm_x {q : Nat} {x : Int32} (h1 : 100103 ≤ q) (h2 : q ≤ 100107) (hx : x.toInt + 100098 = (q : Int)) : (200 + x).toNatClampNeg = q - 99898 := by
  obtain ⟨d, rfl, h⟩ := cm_d h1 hx
  rw [zof_cl (zadN (x := 200) (a := 200) rfl h (by omega) (by omega))]
  omega
theorem cm_0 {q : Nat} {x : Int32} (h1 : 100103 ≤ q) (h2 : q ≤ 100107) (hx : x.toInt + 100098 = (q : Int)) : 0 ≤ (200 + x).toInt := by
  obtain ⟨d, rfl, h⟩ := cm_d h1 hx
  rw [zadN (x := 200) (a := 200) rfl h (by omega) (by omega)]
  omega
theorem cm_z {q : Nat} {x : Int32} (h1 : 100103 ≤ q) (hx : x.toInt + 100098 = (q : Int)) (h : x = 0) : False := by
  obtain ⟨d, -, h4⟩ := cm_d h1 hx
  rw [h] at h4
  have h5 : (0 : Int) = ((d + 5 : Nat) : Int) := h4
  omega
theorem msnd {α β : Type} {x : α} {y : β} {p : α × β} (h : (x, y) = p) : y = p.2 := congrArg Prod.snd h
theorem mDp_tl {S : List Nat} (h : 205 ≤ S.headD 0 ∧ S.headD 0 ≤ 209) : mDp S.tail = mDp S := by
  cases S with
  | nil => exact absurd h.1 (by decide)
  | cons x r =>
    have h : 205 ≤ x ∧ x ≤ 209 := h
    exact (mDp_e (by omega)).symm
theorem g_behindValue {G : zG} (hG : G.1 = zProg) (hX : G.2.1 = ztx) {h : zH} {T : Nat → Int32} {n : Nat} (hs : tSh h) (hp : mP h) (hT : tA h 132 = T) (hN : mn h = n) (hD : mD h) (hd : mDp (mSk h) ≤ 1000) {tst : Bool} (hts : ¬ tvI (tF h 111 47) = 0 ↔ tst = true) (h46s : tvI (tF h 111 46) = 2) : tC zTt G 217 [.ref 111] h (fun w h2 => w = none ∧ mFq h h2 ∧ mOut (mS2 T n tst (mSk h) (ms h)) h2) := by
  refine tC_in (by rw [hG]; rfl) (fun dp => ?_)
  have g0 := mFr_r hs
  have hpn : (ms h).1 ≤ n := mPle hp hN
  have hn4 : n ≤ 400 := by have a := mNl hp hN; have b := hp.2.1; omega
  refine tw_aload rfl rfl ?_
  refine tw_virt0 rfl (g_blanks hG hX (g0).1 hp ((mFr_T g0).trans hT) ((mFr_n g0).trans hN)) (fun wp641 hp641 p641 => ?_)
  obtain ⟨rfl, gp641, pp641e, sp641, tp641, dp641⟩ := p641
  have ggp641 := mFr_t g0 gp641
  refine tw_aload rfl rfl ?_
  refine tw_virt0 rfl (g_sign hG hX (ggp641).1 ((mFr_T ggp641).trans hT) ((mFr_n ggp641).trans hN) ⟨pp641e.2.1.1, by have := pp641e.2.1; omega⟩) (fun wp642 hp642 p642 => ?_)
  obtain ⟨⟨cp642, rfl, kp642⟩, rfl⟩ := p642
  refine tw_istore rfl ?_
  refine tw_iload rfl rfl ?_
  refine tw_push rfl ?_
  refine tw_ic_ne rfl (fun q643 => ?_) (fun q643 => ?_)
  · try dsimp only [tvI_i, tvJ_j, tvR_r] at q643
    have q643i := zneq (Y := 42) (by decide) q643
    refine tw_iload rfl rfl ?_
    refine tw_push rfl ?_
    refine tw_ic_eq rfl (fun q644 => ?_) (fun q644 => ?_)
    · try dsimp only [tvI_i, tvJ_j, tvR_r] at q644
      have q644i := zeqi (Y := 43) (by decide) q644
      refine tw_aload rfl rfl ?_
      refine tw_virt0 rfl (g_makesSums hG hX (ggp641).1 pp641e ((mFr_T ggp641).trans hT) ((mFr_n ggp641).trans hN)) (fun wp645 hp645 p645 => ?_)
      obtain ⟨rfl, gp645, pp645e, ap645, bp645, mp645, dp645⟩ := p645
      have ggp645 := mFr_t ggp641 gp645
      refine tw_aload rfl rfl ?_
      refine tw_push rfl ?_
      refine tw_iload rfl rfl ?_
      refine tw_push rfl ?_
      refine tw_ic_ne rfl (fun q646 => ?_) (fun q646 => ?_)
      · try dsimp only [tvI_i, tvJ_j, tvR_r] at q646
        have q646i := zneq (Y := 43) (by decide) q646
        exact absurd q644 q646
      · try dsimp only [tvI_i, tvJ_j, tvR_r] at q646
        have q646i := zeqi (Y := 43) (by decide) q646
        refine tw_push rfl ?_
        refine tw_goto rfl ?_
        refine tw_iadd rfl ?_
        refine tw_virt1 rfl (g_opens hG hX (ggp645).1 pp645e ((mFr_T ggp645).trans hT) ((mFr_n ggp645).trans hN) (by decide)) (fun wp647 hp647 p647 => ?_)
        obtain ⟨rfl, gp647, pp647e, tp647, sp647, dp647⟩ := p647
        have ggp647 := mFr_t ggp645 gp647
        refine tw_aload rfl rfl ?_
        refine tw_dup rfl ?_
        refine tw_getS rfl (hi_111_28 ggp647.1) ?_
        refine tw_push rfl ?_
        refine tw_iadd rfl ?_
        refine tw_put rfl (fun f648 => ?_)
        refine tG_setm f648 (hw_111_28 f648 (ggp647).1) (fun hf648 ef648 => ?_)
        try dsimp only [tvI_i] at ef648
        have gf648 := mFr_s ggp647 ef648 (by unfold mFs; omega)
        have hk42 : cp642 = 42 ↔ ((rB T n (ms h).1) < n ∧ T (rB T n (ms h).1) = 42) := by have y := sgm_k kp642 42 (by decide); rw [sp641] at y; exact y
        have hs42 : ¬ ((rB T n (ms h).1) < n ∧ T (rB T n (ms h).1) = 42) := fun z => q643 (hk42.mpr z)
        have hk43 : cp642 = 43 ↔ ((rB T n (ms h).1) < n ∧ T (rB T n (ms h).1) = 43) := by have y := sgm_k kp642 43 (by decide); rw [sp641] at y; exact y
        have hs43 := hk43.mp q644
        have hmsf648 : ms hp647 = ((rB T n (ms h).1), (ms h).2.1, (ms hp645).2.2) := (sp647).trans (mA3 sp641 ap645 bp645 rfl rfl)
        obtain ⟨pf648, sf648, tf648⟩ := mTo pp647e ((mFr_n ggp647).trans hN) ef648 (v := (rB T n (ms h).1) + 1) (zp1 (by rw [mPl pp647e, hmsf648]) (by have := rB_le (T := T) hpn; omega)) hs43.1
        rw [hmsf648] at sf648
        refine tw_aload rfl rfl ?_
        refine tw_push rfl ?_
        refine tw_put rfl (fun f649 => ?_)
        refine tG_setm f649 (hw_111_46 f649 (gf648).1) (fun hf649 ef649 => ?_)
        try dsimp only [tvI_i] at ef649
        have gf649 := mFq_s (mFq_f gf648) ef649 (Or.inr rfl)
        obtain ⟨pf649, sf649, tf649⟩ := mSte pf648 ef649
        refine tw_goto rfl ?_
        have hmb : (mSk hp645, (ms hp645).2.2) = mS (mSk h) (ms h).2.2 := by rw [mp645, tp641, sp641]; rfl
        have hsk : mSk hf649 = 103 :: (mS (mSk h) (ms h).2.2).1 := by rw [tf649, tf648, tp647, ← mfst hmb]; rfl
        have hdd : mD hf649 := mD_m hD (by rw [hsk, mDp_e (by decide)]; exact mDp_S _ _) ((mI_o ef649 (by decide)).trans ((mI_o ef648 (by decide)).trans (dp647.trans (dp645.trans dp641))))
        exact tw_vret rfl ⟨rfl, gf649, mOut_r (by unfold mS2; rw [if_neg hs42, if_pos hs43]) pf649 hdd (by unfold mst; rw [mI_x ef649, hsk, sf649, sf648, msnd hmb]; rfl)⟩
    · try dsimp only [tvI_i, tvJ_j, tvR_r] at q644
      have q644i := zneq (Y := 43) (by decide) q644
      refine tw_iload rfl rfl ?_
      refine tw_push rfl ?_
      refine tw_ic_ne rfl (fun q650 => ?_) (fun q650 => ?_)
      · try dsimp only [tvI_i, tvJ_j, tvR_r] at q650
        have q650i := zneq (Y := 45) (by decide) q650
        refine tw_aload rfl rfl ?_
        refine tw_virt0 rfl (g_makesSums hG hX (ggp641).1 pp641e ((mFr_T ggp641).trans hT) ((mFr_n ggp641).trans hN)) (fun wp651 hp651 p651 => ?_)
        obtain ⟨rfl, gp651, pp651e, ap651, bp651, mp651, dp651⟩ := p651
        have ggp651 := mFr_t ggp641 gp651
        refine tw_aload rfl rfl ?_
        refine tw_virt0 rfl (g_top hG hX (ggp651).1 pp651e ((mFr_T ggp651).trans hT) ((mFr_n ggp651).trans hN)) (fun wp652 hp652 p652 => ?_)
        obtain ⟨⟨cp652, rfl, Tp652⟩, rfl⟩ := p652
        refine tw_push rfl ?_
        refine tw_ic_ne rfl (fun q653 => ?_) (fun q653 => ?_)
        · try dsimp only [tvI_i, tvJ_j, tvR_r] at q653
          have q653i := zneq (Y := 50) (by decide) q653
          refine tw_aload rfl rfl ?_
          refine tw_getS rfl (hi_111_47 (ggp651).1) ?_
          refine tw_if_eq rfl (fun q654 => ?_) (fun q654 => ?_)
          · try dsimp only [tvI_i, tvJ_j, tvR_r] at q654
            have q654i := zeqi (Y := 0) (by decide) q654
            refine tw_aload rfl rfl ?_
            refine tw_getS rfl (hi_111_47 (ggp651).1) ?_
            refine tw_if_eq rfl (fun q655 => ?_) (fun q655 => ?_)
            · try dsimp only [tvI_i, tvJ_j, tvR_r] at q655
              have q655i := zeqi (Y := 0) (by decide) q655
              refine tw_aload rfl rfl ?_
              refine tw_push rfl ?_
              refine tw_put rfl (fun f656 => ?_)
              refine tG_setm f656 (hw_111_46 f656 (ggp651).1) (fun hf656 ef656 => ?_)
              try dsimp only [tvI_i] at ef656
              have gf656 := mFq_s (mFq_f ggp651) ef656 (Or.inr rfl)
              obtain ⟨pf656, sf656, tf656⟩ := mSte pp651e ef656
              have hk42 : cp642 = 42 ↔ ((rB T n (ms h).1) < n ∧ T (rB T n (ms h).1) = 42) := by have y := sgm_k kp642 42 (by decide); rw [sp641] at y; exact y
              have hs42 : ¬ ((rB T n (ms h).1) < n ∧ T (rB T n (ms h).1) = 42) := fun z => q643 (hk42.mpr z)
              have hk43 : cp642 = 43 ↔ ((rB T n (ms h).1) < n ∧ T (rB T n (ms h).1) = 43) := by have y := sgm_k kp642 43 (by decide); rw [sp641] at y; exact y
              have hs43 : ¬ ((rB T n (ms h).1) < n ∧ T (rB T n (ms h).1) = 43) := fun z => q644 (hk43.mpr z)
              have hk45 : cp642 = 45 ↔ ((rB T n (ms h).1) < n ∧ T (rB T n (ms h).1) = 45) := by have y := sgm_k kp642 45 (by decide); rw [sp641] at y; exact y
              have hs45 : ¬ ((rB T n (ms h).1) < n ∧ T (rB T n (ms h).1) = 45) := fun z => q650 (hk45.mpr z)
              have ht50 := tpm_k Tp652 (k := 50) (K := 50) rfl (by decide)
              have hn50 : ¬ (mSk hp651).headD 0 = 50 := fun z => q653 (ht50.mpr z)
              have hin : tvI (tF h 111 47) = 0 := by have z := q654; rw [mFr_47 ggp651] at z; exact z
              have hmb : (mSk hp651, (ms hp651).2.2) = mS (mSk h) (ms h).2.2 := by rw [mp651, tp641, sp641]; rfl
              have hms : ms hf656 = ((rB T n (ms h).1), (ms h).2.1, (mS (mSk h) (ms h).2.2).2) := (sf656).trans (mA3 sp641 ap651 bp651 rfl (msnd hmb))
              have hsk : mSk hf656 = (mS (mSk h) (ms h).2.2).1 := by rw [tf656, mfst hmb]
              have hdd : mD hf656 := mD_m hD (by rw [hsk]; exact mDp_S _ _) ((mI_o ef656 (by decide)).trans (dp651.trans dp641))
              exact tw_vret rfl ⟨rfl, gf656, mOut_r (by unfold mS2; rw [if_neg hs42, if_neg hs43, if_neg hs45, if_neg (show ¬ (mS (mSk h) (ms h).2.2).1.headD 0 = 50 from by rw [← mfst hmb]; exact hn50), if_neg (fun z => hts.mpr z hin)]) pf656 hdd (by unfold mst; rw [mI_x ef656, hsk, hms]; rfl)⟩
            · try dsimp only [tvI_i, tvJ_j, tvR_r] at q655
              have q655i := zneq (Y := 0) (by decide) q655
              exact absurd q654 q655
          · try dsimp only [tvI_i, tvJ_j, tvR_r] at q654
            have q654i := zneq (Y := 0) (by decide) q654
            refine tw_aload rfl rfl ?_
            refine tw_virt0 rfl (g_top hG hX (ggp651).1 pp651e ((mFr_T ggp651).trans hT) ((mFr_n ggp651).trans hN)) (fun wp657 hp657 p657 => ?_)
            obtain ⟨⟨cp657, rfl, Tp657⟩, rfl⟩ := p657
            refine tw_push rfl ?_
            refine tw_ic_lt rfl (fun q658 => ?_) (fun q658 => ?_)
            · try dsimp only [tvI_i, tvJ_j, tvR_r] at q658
              refine tw_aload rfl rfl ?_
              refine tw_virt0 rfl (g_compares hG hX (ggp651).1 pp651e ((mFr_T ggp651).trans hT) ((mFr_n ggp651).trans hN)) (fun w9 hp659 p659 => ?_)
              obtain ⟨gp659, ⟨np659, rfl, e9⟩ | ⟨vp659, np659, ⟨mp659, ⟨xp659, rfl, yp659⟩, pp659e, sp659, tp659, dp659⟩ | ⟨mp659, xp659, rfl, x5p659, x9p659, Fp659, Zp659⟩⟩⟩ := p659
              · have ggp659 := mFr_t ggp651 gp659
                obtain rfl := e9.symm
                have pp659e := pp651e
                refine tw_istore rfl ?_
                refine tw_iload rfl rfl ?_
                refine tw_if_ne rfl (fun z => absurd z (by decide)) (fun _ => ?_)
                refine tw_aload rfl rfl ?_
                refine tw_push rfl ?_
                refine tw_aload rfl rfl ?_
                refine tw_getS rfl (hi_111_28 ggp659.1) ?_
                refine tw_virt2 rfl (g_fails hG hX (ggp659).1 pp659e ((mFr_T ggp659).trans hT) ((mFr_n ggp659).trans hN) (w := 0) (b := (rB T n (ms h).1)) rfl (by decide) ((mPl pp659e).trans (by rw [(show (ms hp651).1 = (rB T n (ms h).1) from by rw [ap651, sp641]; rfl)])) (by have := rB_le (T := T) hpn; omega)) (fun wp660 hp660 p660 => ?_)
                obtain ⟨rfl, gp660, Fp660, ip660, jp660⟩ := p660
                have ggp660 := mFr_t ggp659 gp660
                refine tw_aload rfl rfl ?_
                refine tw_push rfl ?_
                refine tw_iload rfl rfl ?_
                refine tw_iadd rfl ?_
                refine tw_virt1 rfl (z_opens hG hX (ggp660).1 Fp660 ((mFr_T ggp660).trans hT) ((mFr_n ggp660).trans hN)) (fun wp661 hp661 p661 => ?_)
                obtain ⟨rfl, gp661, Fp661, ip661, jp661⟩ := p661
                have ggp661 := mFr_t ggp660 gp661
                refine tw_aload rfl rfl ?_
                refine tw_push rfl ?_
                refine tw_put rfl (fun f662 => ?_)
                refine tG_setm f662 (hw_111_46 f662 (ggp661).1) (fun hf662 ef662 => ?_)
                try dsimp only [tvI_i] at ef662
                have gf662 := mFq_s (mFq_f ggp661) ef662 (Or.inr rfl)
                have zf662 := mFt_s Fp661 ef662 (by decide)
                refine tw_goto rfl ?_
                have hk42 : cp642 = 42 ↔ ((rB T n (ms h).1) < n ∧ T (rB T n (ms h).1) = 42) := by have y := sgm_k kp642 42 (by decide); rw [sp641] at y; exact y
                have hs42 : ¬ ((rB T n (ms h).1) < n ∧ T (rB T n (ms h).1) = 42) := fun z => q643 (hk42.mpr z)
                have hk43 : cp642 = 43 ↔ ((rB T n (ms h).1) < n ∧ T (rB T n (ms h).1) = 43) := by have y := sgm_k kp642 43 (by decide); rw [sp641] at y; exact y
                have hs43 : ¬ ((rB T n (ms h).1) < n ∧ T (rB T n (ms h).1) = 43) := fun z => q644 (hk43.mpr z)
                have hk45 : cp642 = 45 ↔ ((rB T n (ms h).1) < n ∧ T (rB T n (ms h).1) = 45) := by have y := sgm_k kp642 45 (by decide); rw [sp641] at y; exact y
                have hs45 : ¬ ((rB T n (ms h).1) < n ∧ T (rB T n (ms h).1) = 45) := fun z => q650 (hk45.mpr z)
                have ht50 := tpm_k Tp652 (k := 50) (K := 50) rfl (by decide)
                have hn50 : ¬ (mSk hp651).headD 0 = 50 := fun z => q653 (ht50.mpr z)
                have hin : ¬ tvI (tF h 111 47) = 0 := by have z := q654; rw [mFr_47 ggp651] at z; exact z
                have c2059 : (205 : Int32).toInt = 205 := rfl
                have c2099 : (209 : Int32).toInt = 209 := rfl
                have hcmp : ¬ (205 ≤ (mSk hp651).headD 0 ∧ (mSk hp651).headD 0 ≤ 209) := by have z := tpm_e Tp657; have z2 := q658; omega
                have hmb : (mSk hp651, (ms hp651).2.2) = mS (mSk h) (ms h).2.2 := by rw [mp651, tp641, sp641]; rfl
                have hr9 : rCm T n (rB T n (ms h).1) = none := by have z := np659; rw [ap651, sp641] at z; exact z
                have hZ : mZp hf662 := mZp_o (mZp_k (mZp_k (mZp_p pp659e) ip660 jp660) ip661 jp661) ef662 (by decide)
                exact tw_vret rfl ⟨rfl, gf662, mOut_l (by unfold mS2; rw [if_neg hs42, if_neg hs43, if_neg hs45, if_neg (show ¬ (mS (mSk h) (ms h).2.2).1.headD 0 = 50 from by rw [← mfst hmb]; exact hn50), if_pos (show tst = true from hts.mp hin), if_neg (show ¬ (205 ≤ (mS (mSk h) (ms h).2.2).1.headD 0 ∧ (mS (mSk h) (ms h).2.2).1.headD 0 ≤ 209) from by rw [← mfst hmb]; exact hcmp), hr9]) zf662 hZ⟩
              · have ggp659 := mFr_t ggp651 gp659
                refine tw_istore rfl ?_
                refine tw_iload rfl rfl ?_
                refine tw_if_ne rfl (fun q663 => ?_) (fun q663 => ?_)
                · try dsimp only [tvI_i, tvJ_j, tvR_r] at q663
                  have q663i := zneq (Y := 0) (by decide) q663
                  refine tw_aload rfl rfl ?_
                  refine tw_push rfl ?_
                  refine tw_iload rfl rfl ?_
                  refine tw_iadd rfl ?_
                  refine tw_virt1 rfl (g_opens hG hX (ggp659).1 pp659e ((mFr_T ggp659).trans hT) ((mFr_n ggp659).trans hN) (cm_0 (rCm_r np659).1 (rCm_r np659).2.1 yp659)) (fun wp664 hp664 p664 => ?_)
                  obtain ⟨rfl, gp664, pp664e, tp664, sp664, dp664⟩ := p664
                  have ggp664 := mFr_t ggp659 gp664
                  refine tw_aload rfl rfl ?_
                  refine tw_push rfl ?_
                  refine tw_put rfl (fun f665 => ?_)
                  refine tG_setm f665 (hw_111_46 f665 (ggp664).1) (fun hf665 ef665 => ?_)
                  try dsimp only [tvI_i] at ef665
                  have gf665 := mFq_s (mFq_f ggp664) ef665 (Or.inr rfl)
                  obtain ⟨pf665, sf665, tf665⟩ := mSte pp664e ef665
                  refine tw_goto rfl ?_
                  have hk42 : cp642 = 42 ↔ ((rB T n (ms h).1) < n ∧ T (rB T n (ms h).1) = 42) := by have y := sgm_k kp642 42 (by decide); rw [sp641] at y; exact y
                  have hs42 : ¬ ((rB T n (ms h).1) < n ∧ T (rB T n (ms h).1) = 42) := fun z => q643 (hk42.mpr z)
                  have hk43 : cp642 = 43 ↔ ((rB T n (ms h).1) < n ∧ T (rB T n (ms h).1) = 43) := by have y := sgm_k kp642 43 (by decide); rw [sp641] at y; exact y
                  have hs43 : ¬ ((rB T n (ms h).1) < n ∧ T (rB T n (ms h).1) = 43) := fun z => q644 (hk43.mpr z)
                  have hk45 : cp642 = 45 ↔ ((rB T n (ms h).1) < n ∧ T (rB T n (ms h).1) = 45) := by have y := sgm_k kp642 45 (by decide); rw [sp641] at y; exact y
                  have hs45 : ¬ ((rB T n (ms h).1) < n ∧ T (rB T n (ms h).1) = 45) := fun z => q650 (hk45.mpr z)
                  have ht50 := tpm_k Tp652 (k := 50) (K := 50) rfl (by decide)
                  have hn50 : ¬ (mSk hp651).headD 0 = 50 := fun z => q653 (ht50.mpr z)
                  have hin : ¬ tvI (tF h 111 47) = 0 := by have z := q654; rw [mFr_47 ggp651] at z; exact z
                  have c2059 : (205 : Int32).toInt = 205 := rfl
                  have c2099 : (209 : Int32).toInt = 209 := rfl
                  have hcmp : ¬ (205 ≤ (mSk hp651).headD 0 ∧ (mSk hp651).headD 0 ≤ 209) := by have z := tpm_e Tp657; have z2 := q658; omega
                  have hmb : (mSk hp651, (ms hp651).2.2) = mS (mSk h) (ms h).2.2 := by rw [mp651, tp641, sp641]; rfl
                  have hr9 : rCm T n (rB T n (ms h).1) = some vp659 := by have z := np659; rw [ap651, sp641] at z; exact z
                  have h80 : (ms h).2.1 ≠ 80 := by have z := mp659; rw [bp651, sp641] at z; exact z
                  have hv1 := (rCm_r hr9).1
                  have hv2 := (rCm_r hr9).2.1
                  have hx := cm_x hv1 hv2 yp659
                  have hsk : mSk hf665 = (vp659.1 - 99898) :: (mS (mSk h) (ms h).2.2).1 := by rw [tf665, tp664]; show (200 + xp659).toNatClampNeg :: mSk hp659 = _; rw [hx, tp659, mfst hmb]
                  have hms : ms hf665 = (vp659.2, (ms h).2.1 + 1, (mS (mSk h) (ms h).2.2).2) := by rw [sf665, sp664, sp659]; exact Prod.ext rfl (Prod.ext (by show (ms hp651).2.1 + 1 = _; rw [bp651, sp641]; rfl) (by have z := msnd hmb; exact z))
                  have hdd : mD hf665 := mD_m hD (by rw [hsk, mDp_e (by omega)]; exact mDp_S _ _) ((mI_o ef665 (by decide)).trans (dp664.trans (dp659.trans (dp651.trans dp641))))
                  exact tw_vret rfl ⟨rfl, gf665, mOut_r (by unfold mS2; rw [if_neg hs42, if_neg hs43, if_neg hs45, if_neg (show ¬ (mS (mSk h) (ms h).2.2).1.headD 0 = 50 from by rw [← mfst hmb]; exact hn50), if_pos (show tst = true from hts.mp hin), if_neg (show ¬ (205 ≤ (mS (mSk h) (ms h).2.2).1.headD 0 ∧ (mS (mSk h) (ms h).2.2).1.headD 0 ≤ 209) from by rw [← mfst hmb]; exact hcmp), hr9]; (try dsimp only); rw [if_neg h80]) pf665 hdd (by unfold mst; rw [mI_x ef665, hsk, hms]; rfl)⟩
                · try dsimp only [tvI_i, tvJ_j, tvR_r] at q663
                  have q663i := zeqi (Y := 0) (by decide) q663
                  exact (cm_z (rCm_r np659).1 yp659 q663).elim
              · have ggp659 := mFr_t ggp651 gp659
                refine tw_istore rfl ?_
                refine tw_iload rfl rfl ?_
                refine tw_if_ne rfl (fun q666 => ?_) (fun q666 => ?_)
                · try dsimp only [tvI_i, tvJ_j, tvR_r] at q666
                  have q666i := zneq (Y := 0) (by decide) q666
                  refine tw_aload rfl rfl ?_
                  refine tw_push rfl ?_
                  refine tw_iload rfl rfl ?_
                  refine tw_iadd rfl ?_
                  refine tw_virt1 rfl (z_opens hG hX (ggp659).1 Fp659 ((mFr_T ggp659).trans hT) ((mFr_n ggp659).trans hN)) (fun wp667 hp667 p667 => ?_)
                  obtain ⟨rfl, gp667, Fp667, ip667, jp667⟩ := p667
                  have ggp667 := mFr_t ggp659 gp667
                  refine tw_aload rfl rfl ?_
                  refine tw_push rfl ?_
                  refine tw_put rfl (fun f668 => ?_)
                  refine tG_setm f668 (hw_111_46 f668 (ggp667).1) (fun hf668 ef668 => ?_)
                  try dsimp only [tvI_i] at ef668
                  have gf668 := mFq_s (mFq_f ggp667) ef668 (Or.inr rfl)
                  have zf668 := mFt_s Fp667 ef668 (by decide)
                  refine tw_goto rfl ?_
                  have hk42 : cp642 = 42 ↔ ((rB T n (ms h).1) < n ∧ T (rB T n (ms h).1) = 42) := by have y := sgm_k kp642 42 (by decide); rw [sp641] at y; exact y
                  have hs42 : ¬ ((rB T n (ms h).1) < n ∧ T (rB T n (ms h).1) = 42) := fun z => q643 (hk42.mpr z)
                  have hk43 : cp642 = 43 ↔ ((rB T n (ms h).1) < n ∧ T (rB T n (ms h).1) = 43) := by have y := sgm_k kp642 43 (by decide); rw [sp641] at y; exact y
                  have hs43 : ¬ ((rB T n (ms h).1) < n ∧ T (rB T n (ms h).1) = 43) := fun z => q644 (hk43.mpr z)
                  have hk45 : cp642 = 45 ↔ ((rB T n (ms h).1) < n ∧ T (rB T n (ms h).1) = 45) := by have y := sgm_k kp642 45 (by decide); rw [sp641] at y; exact y
                  have hs45 : ¬ ((rB T n (ms h).1) < n ∧ T (rB T n (ms h).1) = 45) := fun z => q650 (hk45.mpr z)
                  have ht50 := tpm_k Tp652 (k := 50) (K := 50) rfl (by decide)
                  have hn50 : ¬ (mSk hp651).headD 0 = 50 := fun z => q653 (ht50.mpr z)
                  have hin : ¬ tvI (tF h 111 47) = 0 := by have z := q654; rw [mFr_47 ggp651] at z; exact z
                  have c2059 : (205 : Int32).toInt = 205 := rfl
                  have c2099 : (209 : Int32).toInt = 209 := rfl
                  have hcmp : ¬ (205 ≤ (mSk hp651).headD 0 ∧ (mSk hp651).headD 0 ≤ 209) := by have z := tpm_e Tp657; have z2 := q658; omega
                  have hmb : (mSk hp651, (ms hp651).2.2) = mS (mSk h) (ms h).2.2 := by rw [mp651, tp641, sp641]; rfl
                  have hr9 : rCm T n (rB T n (ms h).1) = some vp659 := by have z := np659; rw [ap651, sp641] at z; exact z
                  have h80 : (ms h).2.1 = 80 := by have z := mp659; rw [bp651, sp641] at z; exact z
                  have hF : mFt hf668 (1 + 8 * (rB T n (ms h).1) + 3) := by have z := zf668; rw [ap651, sp641] at z; exact z
                  have hZ : mZp hf668 := mZp_o (mZp_k Zp659 ip667 jp667) ef668 (by decide)
                  exact tw_vret rfl ⟨rfl, gf668, mOut_l (by unfold mS2; rw [if_neg hs42, if_neg hs43, if_neg hs45, if_neg (show ¬ (mS (mSk h) (ms h).2.2).1.headD 0 = 50 from by rw [← mfst hmb]; exact hn50), if_pos (show tst = true from hts.mp hin), if_neg (show ¬ (205 ≤ (mS (mSk h) (ms h).2.2).1.headD 0 ∧ (mS (mSk h) (ms h).2.2).1.headD 0 ≤ 209) from by rw [← mfst hmb]; exact hcmp), hr9]; (try dsimp only); rw [if_pos h80]) hF hZ⟩
                · try dsimp only [tvI_i, tvJ_j, tvR_r] at q666
                  have q666i := zeqi (Y := 0) (by decide) q666
                  have hv4 : xp659.toInt = 0 := congrArg Int32.toInt q666
                  exfalso
                  omega
            · try dsimp only [tvI_i, tvJ_j, tvR_r] at q658
              refine tw_aload rfl rfl ?_
              refine tw_virt0 rfl (g_top hG hX (ggp651).1 pp651e ((mFr_T ggp651).trans hT) ((mFr_n ggp651).trans hN)) (fun wp669 hp669 p669 => ?_)
              obtain ⟨⟨cp669, rfl, Tp669⟩, rfl⟩ := p669
              refine tw_push rfl ?_
              refine tw_ic_le rfl (fun q670 => ?_) (fun q670 => ?_)
              · try dsimp only [tvI_i, tvJ_j, tvR_r] at q670
                refine tw_aload rfl rfl ?_
                refine tw_getS rfl (hi_111_47 (ggp651).1) ?_
                refine tw_if_eq rfl (fun q671 => ?_) (fun q671 => ?_)
                · try dsimp only [tvI_i, tvJ_j, tvR_r] at q671
                  have q671i := zeqi (Y := 0) (by decide) q671
                  exact absurd q671 q654
                · try dsimp only [tvI_i, tvJ_j, tvR_r] at q671
                  have q671i := zneq (Y := 0) (by decide) q671
                  refine tw_aload rfl rfl ?_
                  refine tw_aload rfl rfl ?_
                  refine tw_virt0 rfl (g_top hG hX (ggp651).1 pp651e ((mFr_T ggp651).trans hT) ((mFr_n ggp651).trans hN)) (fun wp672 hp672 p672 => ?_)
                  obtain ⟨⟨cp672, rfl, Tp672⟩, rfl⟩ := p672
                  refine tw_push rfl ?_
                  refine tw_isub rfl ?_
                  refine tw_push rfl ?_
                  have hk42 : cp642 = 42 ↔ ((rB T n (ms h).1) < n ∧ T (rB T n (ms h).1) = 42) := by have y := sgm_k kp642 42 (by decide); rw [sp641] at y; exact y
                  have hs42 : ¬ ((rB T n (ms h).1) < n ∧ T (rB T n (ms h).1) = 42) := fun z => q643 (hk42.mpr z)
                  have hk43 : cp642 = 43 ↔ ((rB T n (ms h).1) < n ∧ T (rB T n (ms h).1) = 43) := by have y := sgm_k kp642 43 (by decide); rw [sp641] at y; exact y
                  have hs43 : ¬ ((rB T n (ms h).1) < n ∧ T (rB T n (ms h).1) = 43) := fun z => q644 (hk43.mpr z)
                  have hk45 : cp642 = 45 ↔ ((rB T n (ms h).1) < n ∧ T (rB T n (ms h).1) = 45) := by have y := sgm_k kp642 45 (by decide); rw [sp641] at y; exact y
                  have hs45 : ¬ ((rB T n (ms h).1) < n ∧ T (rB T n (ms h).1) = 45) := fun z => q650 (hk45.mpr z)
                  have ht50 := tpm_k Tp652 (k := 50) (K := 50) rfl (by decide)
                  have hn50 : ¬ (mSk hp651).headD 0 = 50 := fun z => q653 (ht50.mpr z)
                  have hin : ¬ tvI (tF h 111 47) = 0 := by have z := q654; rw [mFr_47 ggp651] at z; exact z
                  have c2059 : (205 : Int32).toInt = 205 := rfl
                  have c2099 : (209 : Int32).toInt = 209 := rfl
                  have hcmp : (205 ≤ (mSk hp651).headD 0 ∧ (mSk hp651).headD 0 ≤ 209) := by have z := tpm_e Tp657; have z1 := tpm_e Tp669; have z2 := q658; have z3 := q670; omega
                  have hc200 : (cp672 - 200).toInt = (((mSk hp651).headD 0 - 200 : Nat) : Int) := by have z := tpm_e Tp672; have z2 := hcmp; rw [zsb (x := cp672) (y := 200) (a := (mSk hp651).headD 0) (b := 200) (by omega) rfl (by omega) (by omega)]; omega
                  have hne : mSk hp651 ≠ [] := fun z => by rw [z] at hcmp; exact absurd hcmp.1 (by decide)
                  refine tw_virt2 rfl (g_entry hG hX (ggp651).1 pp651e ((mFr_T ggp651).trans hT) ((mFr_n ggp651).trans hN) ⟨by show 0 ≤ (cp672 - 200).toInt; rw [hc200]; omega, by decide⟩) (fun wp673 hp673 p673 => ?_)
                  obtain ⟨rfl, gp673, pp673e, sp673, tp673, dp673⟩ := p673
                  have ggp673 := mFr_t ggp651 gp673
                  refine tw_aload rfl rfl ?_
                  refine tw_dup rfl ?_
                  refine tw_getS rfl (hi_111_34 ggp673.1) ?_
                  refine tw_push rfl ?_
                  refine tw_isub rfl ?_
                  refine tw_put rfl (fun f674 => ?_)
                  refine tG_setm f674 (hw_111_34 f674 (ggp673).1) (fun hf674 ef674 => ?_)
                  try dsimp only [tvI_i] at ef674
                  have gf674 := mFr_s ggp673 ef674 (by unfold mFs; omega)
                  obtain ⟨pf674, tf674, sf674, df674⟩ := mSk_pop pp673e (by rw [tp673]; exact hne) ef674
                  refine tw_aload rfl rfl ?_
                  refine tw_push rfl ?_
                  refine tw_put rfl (fun f675 => ?_)
                  refine tG_setm f675 (hw_111_46 f675 (gf674).1) (fun hf675 ef675 => ?_)
                  try dsimp only [tvI_i] at ef675
                  have gf675 := mFq_s (mFq_f gf674) ef675 (Or.inr rfl)
                  obtain ⟨pf675, sf675, tf675⟩ := mSte pf674 ef675
                  refine tw_goto rfl ?_
                  have hmb : (mSk hp651, (ms hp651).2.2) = mS (mSk h) (ms h).2.2 := by rw [mp651, tp641, sp641]; rfl
                  have hx : mCode (cp672 - 200).toNatClampNeg 0 = (mS (mSk h) (ms h).2.2).1.headD 0 + 99898 := by rw [zof_cl hc200, ← mfst hmb]; have z := hcmp; unfold mCode; rw [if_neg (by omega), if_neg (by omega), if_neg (by omega), if_neg (by omega), if_neg (by omega), if_neg (by omega), if_neg (by omega), if_neg (by omega)]; omega
                  have hsk : mSk hf675 = (mS (mSk h) (ms h).2.2).1.tail := by rw [tf675, tf674, tp673, mfst hmb]
                  have hms : ms hf675 = ((rB T n (ms h).1), (ms h).2.1, (mS (mSk h) (ms h).2.2).2 ++ [(mS (mSk h) (ms h).2.2).1.headD 0 + 99898]) := by rw [sf675, sf674, sp673]; exact Prod.ext (mA1 sp641 ap651) (Prod.ext (mA2 sp641 bp651 rfl) (by show (ms hp651).2.2 ++ [mCode (cp672 - 200).toNatClampNeg 0] = _; rw [hx, msnd hmb]))
                  have hdd : mD hf675 := mD_m hD (by rw [hsk, ← mDp_S (mSk h) (ms h).2.2]; have z := hcmp; rw [mfst hmb] at z; exact mDp_tl z) ((mI_o ef675 (by decide)).trans (df674.trans (dp673.trans (dp651.trans dp641))))
                  exact tw_vret rfl ⟨rfl, gf675, mOut_r (by unfold mS2; rw [if_neg hs42, if_neg hs43, if_neg hs45, if_neg (show ¬ (mS (mSk h) (ms h).2.2).1.headD 0 = 50 from by rw [← mfst hmb]; exact hn50), if_pos (show tst = true from hts.mp hin), if_pos (show 205 ≤ (mS (mSk h) (ms h).2.2).1.headD 0 ∧ (mS (mSk h) (ms h).2.2).1.headD 0 ≤ 209 from by rw [← mfst hmb]; exact hcmp)]) pf675 hdd (by unfold mst; rw [mI_x ef675, hsk, hms]; rfl)⟩
              · try dsimp only [tvI_i, tvJ_j, tvR_r] at q670
                refine tw_aload rfl rfl ?_
                refine tw_virt0 rfl (g_compares hG hX (ggp651).1 pp651e ((mFr_T ggp651).trans hT) ((mFr_n ggp651).trans hN)) (fun w9 hp676 p676 => ?_)
                obtain ⟨gp676, ⟨np676, rfl, e9⟩ | ⟨vp676, np676, ⟨mp676, ⟨xp676, rfl, yp676⟩, pp676e, sp676, tp676, dp676⟩ | ⟨mp676, xp676, rfl, x5p676, x9p676, Fp676, Zp676⟩⟩⟩ := p676
                · have ggp676 := mFr_t ggp651 gp676
                  obtain rfl := e9.symm
                  have pp676e := pp651e
                  refine tw_istore rfl ?_
                  refine tw_iload rfl rfl ?_
                  refine tw_if_ne rfl (fun z => absurd z (by decide)) (fun _ => ?_)
                  refine tw_aload rfl rfl ?_
                  refine tw_push rfl ?_
                  refine tw_aload rfl rfl ?_
                  refine tw_getS rfl (hi_111_28 ggp676.1) ?_
                  refine tw_virt2 rfl (g_fails hG hX (ggp676).1 pp676e ((mFr_T ggp676).trans hT) ((mFr_n ggp676).trans hN) (w := 0) (b := (rB T n (ms h).1)) rfl (by decide) ((mPl pp676e).trans (by rw [(show (ms hp651).1 = (rB T n (ms h).1) from by rw [ap651, sp641]; rfl)])) (by have := rB_le (T := T) hpn; omega)) (fun wp677 hp677 p677 => ?_)
                  obtain ⟨rfl, gp677, Fp677, ip677, jp677⟩ := p677
                  have ggp677 := mFr_t ggp676 gp677
                  refine tw_aload rfl rfl ?_
                  refine tw_push rfl ?_
                  refine tw_iload rfl rfl ?_
                  refine tw_iadd rfl ?_
                  refine tw_virt1 rfl (z_opens hG hX (ggp677).1 Fp677 ((mFr_T ggp677).trans hT) ((mFr_n ggp677).trans hN)) (fun wp678 hp678 p678 => ?_)
                  obtain ⟨rfl, gp678, Fp678, ip678, jp678⟩ := p678
                  have ggp678 := mFr_t ggp677 gp678
                  refine tw_aload rfl rfl ?_
                  refine tw_push rfl ?_
                  refine tw_put rfl (fun f679 => ?_)
                  refine tG_setm f679 (hw_111_46 f679 (ggp678).1) (fun hf679 ef679 => ?_)
                  try dsimp only [tvI_i] at ef679
                  have gf679 := mFq_s (mFq_f ggp678) ef679 (Or.inr rfl)
                  have zf679 := mFt_s Fp678 ef679 (by decide)
                  refine tw_goto rfl ?_
                  have hk42 : cp642 = 42 ↔ ((rB T n (ms h).1) < n ∧ T (rB T n (ms h).1) = 42) := by have y := sgm_k kp642 42 (by decide); rw [sp641] at y; exact y
                  have hs42 : ¬ ((rB T n (ms h).1) < n ∧ T (rB T n (ms h).1) = 42) := fun z => q643 (hk42.mpr z)
                  have hk43 : cp642 = 43 ↔ ((rB T n (ms h).1) < n ∧ T (rB T n (ms h).1) = 43) := by have y := sgm_k kp642 43 (by decide); rw [sp641] at y; exact y
                  have hs43 : ¬ ((rB T n (ms h).1) < n ∧ T (rB T n (ms h).1) = 43) := fun z => q644 (hk43.mpr z)
                  have hk45 : cp642 = 45 ↔ ((rB T n (ms h).1) < n ∧ T (rB T n (ms h).1) = 45) := by have y := sgm_k kp642 45 (by decide); rw [sp641] at y; exact y
                  have hs45 : ¬ ((rB T n (ms h).1) < n ∧ T (rB T n (ms h).1) = 45) := fun z => q650 (hk45.mpr z)
                  have ht50 := tpm_k Tp652 (k := 50) (K := 50) rfl (by decide)
                  have hn50 : ¬ (mSk hp651).headD 0 = 50 := fun z => q653 (ht50.mpr z)
                  have hin : ¬ tvI (tF h 111 47) = 0 := by have z := q654; rw [mFr_47 ggp651] at z; exact z
                  have c2059 : (205 : Int32).toInt = 205 := rfl
                  have c2099 : (209 : Int32).toInt = 209 := rfl
                  have hcmp : ¬ (205 ≤ (mSk hp651).headD 0 ∧ (mSk hp651).headD 0 ≤ 209) := by have z := tpm_e Tp657; have z1 := tpm_e Tp669; have z2 := q658; have z3 := q670; omega
                  have hmb : (mSk hp651, (ms hp651).2.2) = mS (mSk h) (ms h).2.2 := by rw [mp651, tp641, sp641]; rfl
                  have hr9 : rCm T n (rB T n (ms h).1) = none := by have z := np676; rw [ap651, sp641] at z; exact z
                  have hZ : mZp hf679 := mZp_o (mZp_k (mZp_k (mZp_p pp676e) ip677 jp677) ip678 jp678) ef679 (by decide)
                  exact tw_vret rfl ⟨rfl, gf679, mOut_l (by unfold mS2; rw [if_neg hs42, if_neg hs43, if_neg hs45, if_neg (show ¬ (mS (mSk h) (ms h).2.2).1.headD 0 = 50 from by rw [← mfst hmb]; exact hn50), if_pos (show tst = true from hts.mp hin), if_neg (show ¬ (205 ≤ (mS (mSk h) (ms h).2.2).1.headD 0 ∧ (mS (mSk h) (ms h).2.2).1.headD 0 ≤ 209) from by rw [← mfst hmb]; exact hcmp), hr9]) zf679 hZ⟩
                · have ggp676 := mFr_t ggp651 gp676
                  refine tw_istore rfl ?_
                  refine tw_iload rfl rfl ?_
                  refine tw_if_ne rfl (fun q680 => ?_) (fun q680 => ?_)
                  · try dsimp only [tvI_i, tvJ_j, tvR_r] at q680
                    have q680i := zneq (Y := 0) (by decide) q680
                    refine tw_aload rfl rfl ?_
                    refine tw_push rfl ?_
                    refine tw_iload rfl rfl ?_
                    refine tw_iadd rfl ?_
                    refine tw_virt1 rfl (g_opens hG hX (ggp676).1 pp676e ((mFr_T ggp676).trans hT) ((mFr_n ggp676).trans hN) (cm_0 (rCm_r np676).1 (rCm_r np676).2.1 yp676)) (fun wp681 hp681 p681 => ?_)
                    obtain ⟨rfl, gp681, pp681e, tp681, sp681, dp681⟩ := p681
                    have ggp681 := mFr_t ggp676 gp681
                    refine tw_aload rfl rfl ?_
                    refine tw_push rfl ?_
                    refine tw_put rfl (fun f682 => ?_)
                    refine tG_setm f682 (hw_111_46 f682 (ggp681).1) (fun hf682 ef682 => ?_)
                    try dsimp only [tvI_i] at ef682
                    have gf682 := mFq_s (mFq_f ggp681) ef682 (Or.inr rfl)
                    obtain ⟨pf682, sf682, tf682⟩ := mSte pp681e ef682
                    refine tw_goto rfl ?_
                    have hk42 : cp642 = 42 ↔ ((rB T n (ms h).1) < n ∧ T (rB T n (ms h).1) = 42) := by have y := sgm_k kp642 42 (by decide); rw [sp641] at y; exact y
                    have hs42 : ¬ ((rB T n (ms h).1) < n ∧ T (rB T n (ms h).1) = 42) := fun z => q643 (hk42.mpr z)
                    have hk43 : cp642 = 43 ↔ ((rB T n (ms h).1) < n ∧ T (rB T n (ms h).1) = 43) := by have y := sgm_k kp642 43 (by decide); rw [sp641] at y; exact y
                    have hs43 : ¬ ((rB T n (ms h).1) < n ∧ T (rB T n (ms h).1) = 43) := fun z => q644 (hk43.mpr z)
                    have hk45 : cp642 = 45 ↔ ((rB T n (ms h).1) < n ∧ T (rB T n (ms h).1) = 45) := by have y := sgm_k kp642 45 (by decide); rw [sp641] at y; exact y
                    have hs45 : ¬ ((rB T n (ms h).1) < n ∧ T (rB T n (ms h).1) = 45) := fun z => q650 (hk45.mpr z)
                    have ht50 := tpm_k Tp652 (k := 50) (K := 50) rfl (by decide)
                    have hn50 : ¬ (mSk hp651).headD 0 = 50 := fun z => q653 (ht50.mpr z)
                    have hin : ¬ tvI (tF h 111 47) = 0 := by have z := q654; rw [mFr_47 ggp651] at z; exact z
                    have c2059 : (205 : Int32).toInt = 205 := rfl
                    have c2099 : (209 : Int32).toInt = 209 := rfl
                    have hcmp : ¬ (205 ≤ (mSk hp651).headD 0 ∧ (mSk hp651).headD 0 ≤ 209) := by have z := tpm_e Tp657; have z1 := tpm_e Tp669; have z2 := q658; have z3 := q670; omega
                    have hmb : (mSk hp651, (ms hp651).2.2) = mS (mSk h) (ms h).2.2 := by rw [mp651, tp641, sp641]; rfl
                    have hr9 : rCm T n (rB T n (ms h).1) = some vp676 := by have z := np676; rw [ap651, sp641] at z; exact z
                    have h80 : (ms h).2.1 ≠ 80 := by have z := mp676; rw [bp651, sp641] at z; exact z
                    have hv1 := (rCm_r hr9).1
                    have hv2 := (rCm_r hr9).2.1
                    have hx := cm_x hv1 hv2 yp676
                    have hsk : mSk hf682 = (vp676.1 - 99898) :: (mS (mSk h) (ms h).2.2).1 := by rw [tf682, tp681]; show (200 + xp676).toNatClampNeg :: mSk hp676 = _; rw [hx, tp676, mfst hmb]
                    have hms : ms hf682 = (vp676.2, (ms h).2.1 + 1, (mS (mSk h) (ms h).2.2).2) := by rw [sf682, sp681, sp676]; exact Prod.ext rfl (Prod.ext (by show (ms hp651).2.1 + 1 = _; rw [bp651, sp641]; rfl) (by have z := msnd hmb; exact z))
                    have hdd : mD hf682 := mD_m hD (by rw [hsk, mDp_e (by omega)]; exact mDp_S _ _) ((mI_o ef682 (by decide)).trans (dp681.trans (dp676.trans (dp651.trans dp641))))
                    exact tw_vret rfl ⟨rfl, gf682, mOut_r (by unfold mS2; rw [if_neg hs42, if_neg hs43, if_neg hs45, if_neg (show ¬ (mS (mSk h) (ms h).2.2).1.headD 0 = 50 from by rw [← mfst hmb]; exact hn50), if_pos (show tst = true from hts.mp hin), if_neg (show ¬ (205 ≤ (mS (mSk h) (ms h).2.2).1.headD 0 ∧ (mS (mSk h) (ms h).2.2).1.headD 0 ≤ 209) from by rw [← mfst hmb]; exact hcmp), hr9]; (try dsimp only); rw [if_neg h80]) pf682 hdd (by unfold mst; rw [mI_x ef682, hsk, hms]; rfl)⟩
                  · try dsimp only [tvI_i, tvJ_j, tvR_r] at q680
                    have q680i := zeqi (Y := 0) (by decide) q680
                    exact (cm_z (rCm_r np676).1 yp676 q680).elim
                · have ggp676 := mFr_t ggp651 gp676
                  refine tw_istore rfl ?_
                  refine tw_iload rfl rfl ?_
                  refine tw_if_ne rfl (fun q683 => ?_) (fun q683 => ?_)
                  · try dsimp only [tvI_i, tvJ_j, tvR_r] at q683
                    have q683i := zneq (Y := 0) (by decide) q683
                    refine tw_aload rfl rfl ?_
                    refine tw_push rfl ?_
                    refine tw_iload rfl rfl ?_
                    refine tw_iadd rfl ?_
                    refine tw_virt1 rfl (z_opens hG hX (ggp676).1 Fp676 ((mFr_T ggp676).trans hT) ((mFr_n ggp676).trans hN)) (fun wp684 hp684 p684 => ?_)
                    obtain ⟨rfl, gp684, Fp684, ip684, jp684⟩ := p684
                    have ggp684 := mFr_t ggp676 gp684
                    refine tw_aload rfl rfl ?_
                    refine tw_push rfl ?_
                    refine tw_put rfl (fun f685 => ?_)
                    refine tG_setm f685 (hw_111_46 f685 (ggp684).1) (fun hf685 ef685 => ?_)
                    try dsimp only [tvI_i] at ef685
                    have gf685 := mFq_s (mFq_f ggp684) ef685 (Or.inr rfl)
                    have zf685 := mFt_s Fp684 ef685 (by decide)
                    refine tw_goto rfl ?_
                    have hk42 : cp642 = 42 ↔ ((rB T n (ms h).1) < n ∧ T (rB T n (ms h).1) = 42) := by have y := sgm_k kp642 42 (by decide); rw [sp641] at y; exact y
                    have hs42 : ¬ ((rB T n (ms h).1) < n ∧ T (rB T n (ms h).1) = 42) := fun z => q643 (hk42.mpr z)
                    have hk43 : cp642 = 43 ↔ ((rB T n (ms h).1) < n ∧ T (rB T n (ms h).1) = 43) := by have y := sgm_k kp642 43 (by decide); rw [sp641] at y; exact y
                    have hs43 : ¬ ((rB T n (ms h).1) < n ∧ T (rB T n (ms h).1) = 43) := fun z => q644 (hk43.mpr z)
                    have hk45 : cp642 = 45 ↔ ((rB T n (ms h).1) < n ∧ T (rB T n (ms h).1) = 45) := by have y := sgm_k kp642 45 (by decide); rw [sp641] at y; exact y
                    have hs45 : ¬ ((rB T n (ms h).1) < n ∧ T (rB T n (ms h).1) = 45) := fun z => q650 (hk45.mpr z)
                    have ht50 := tpm_k Tp652 (k := 50) (K := 50) rfl (by decide)
                    have hn50 : ¬ (mSk hp651).headD 0 = 50 := fun z => q653 (ht50.mpr z)
                    have hin : ¬ tvI (tF h 111 47) = 0 := by have z := q654; rw [mFr_47 ggp651] at z; exact z
                    have c2059 : (205 : Int32).toInt = 205 := rfl
                    have c2099 : (209 : Int32).toInt = 209 := rfl
                    have hcmp : ¬ (205 ≤ (mSk hp651).headD 0 ∧ (mSk hp651).headD 0 ≤ 209) := by have z := tpm_e Tp657; have z1 := tpm_e Tp669; have z2 := q658; have z3 := q670; omega
                    have hmb : (mSk hp651, (ms hp651).2.2) = mS (mSk h) (ms h).2.2 := by rw [mp651, tp641, sp641]; rfl
                    have hr9 : rCm T n (rB T n (ms h).1) = some vp676 := by have z := np676; rw [ap651, sp641] at z; exact z
                    have h80 : (ms h).2.1 = 80 := by have z := mp676; rw [bp651, sp641] at z; exact z
                    have hF : mFt hf685 (1 + 8 * (rB T n (ms h).1) + 3) := by have z := zf685; rw [ap651, sp641] at z; exact z
                    have hZ : mZp hf685 := mZp_o (mZp_k Zp676 ip684 jp684) ef685 (by decide)
                    exact tw_vret rfl ⟨rfl, gf685, mOut_l (by unfold mS2; rw [if_neg hs42, if_neg hs43, if_neg hs45, if_neg (show ¬ (mS (mSk h) (ms h).2.2).1.headD 0 = 50 from by rw [← mfst hmb]; exact hn50), if_pos (show tst = true from hts.mp hin), if_neg (show ¬ (205 ≤ (mS (mSk h) (ms h).2.2).1.headD 0 ∧ (mS (mSk h) (ms h).2.2).1.headD 0 ≤ 209) from by rw [← mfst hmb]; exact hcmp), hr9]; (try dsimp only); rw [if_pos h80]) hF hZ⟩
                  · try dsimp only [tvI_i, tvJ_j, tvR_r] at q683
                    have q683i := zeqi (Y := 0) (by decide) q683
                    have hv4 : xp676.toInt = 0 := congrArg Int32.toInt q683
                    exfalso
                    omega
        · try dsimp only [tvI_i, tvJ_j, tvR_r] at q653
          have q653i := zeqi (Y := 50) (by decide) q653
          refine tw_aload rfl rfl ?_
          refine tw_iload rfl rfl ?_
          have hk42 : cp642 = 42 ↔ ((rB T n (ms h).1) < n ∧ T (rB T n (ms h).1) = 42) := by have y := sgm_k kp642 42 (by decide); rw [sp641] at y; exact y
          have hs42 : ¬ ((rB T n (ms h).1) < n ∧ T (rB T n (ms h).1) = 42) := fun z => q643 (hk42.mpr z)
          have hk43 : cp642 = 43 ↔ ((rB T n (ms h).1) < n ∧ T (rB T n (ms h).1) = 43) := by have y := sgm_k kp642 43 (by decide); rw [sp641] at y; exact y
          have hs43 : ¬ ((rB T n (ms h).1) < n ∧ T (rB T n (ms h).1) = 43) := fun z => q644 (hk43.mpr z)
          have hk45 : cp642 = 45 ↔ ((rB T n (ms h).1) < n ∧ T (rB T n (ms h).1) = 45) := by have y := sgm_k kp642 45 (by decide); rw [sp641] at y; exact y
          have hs45 : ¬ ((rB T n (ms h).1) < n ∧ T (rB T n (ms h).1) = 45) := fun z => q650 (hk45.mpr z)
          have ht50 := tpm_k Tp652 (k := 50) (K := 50) rfl (by decide)
          have hn50 : (mSk hp651).headD 0 = 50 := ht50.mp q653
          have hDm : mD hp651 := mD_m hD (by rw [mfst mp651, tp641, show (ms hp641).2.2 = (ms h).2.2 by rw [sp641]; rfl]; exact mDp_S _ _) (dp651.trans dp641)
          have hcl9 : sgm T n (ms hp651).1 cp642 := by rw [ap651]; exact kp642
          refine tw_virt1 rfl (g_closesRound hG hX (ggp651).1 pp651e ((mFr_T ggp651).trans hT) ((mFr_n ggp651).trans hN) hcl9 hn50 hDm) (fun w9 hp686 p686 => ?_)
          obtain ⟨rfl, gp686, ⟨wp686, pp686e, sp686, tp686, ddp686⟩ | ⟨wp686, Fp686, Zp686⟩⟩ := p686
          · have ggp686 := mFr_t ggp651 gp686
            refine tw_goto rfl ?_
            have hmb : (mSk hp651, (ms hp651).2.2) = mS (mSk h) (ms h).2.2 := by rw [mp651, tp641, sp641]; rfl
            have w9 : ((rB T n (ms h).1) < n ∧ T (rB T n (ms h).1) = 41) := by have z := wp686; rw [ap651, sp641] at z; exact z
            have hms : ms hp686 = ((rB T n (ms h).1) + 1, (ms h).2.1, (mS (mSk h) (ms h).2.2).2) := mA4 sp686 sp641 ap651 bp651 rfl (msnd hmb)
            have h46 : stN (tvI (tF hp686 111 46)) = 2 := by rw [mFr_46 ggp686, h46s]; rfl
            exact tw_vret rfl ⟨rfl, mFq_f ggp686, mOut_r (by unfold mS2; rw [if_neg hs42, if_neg hs43, if_neg hs45, if_pos (show (mS (mSk h) (ms h).2.2).1.headD 0 = 50 from by rw [← mfst hmb]; exact hn50), if_pos w9]) pp686e ddp686 (by unfold mst; rw [h46, hms, tp686, mfst hmb])⟩
          · have ggp686 := mFr_t ggp651 gp686
            refine tw_goto rfl ?_
            have hmb : (mSk hp651, (ms hp651).2.2) = mS (mSk h) (ms h).2.2 := by rw [mp651, tp641, sp641]; rfl
            have w9 : ¬ ((rB T n (ms h).1) < n ∧ T (rB T n (ms h).1) = 41) := by have z := wp686; rw [ap651, sp641] at z; exact z
            have hpl : (ms hp651).1 = (rB T n (ms h).1) := by rw [ap651, sp641]; rfl
            have hF := Fp686
            rw [hpl] at hF
            exact tw_vret rfl ⟨rfl, mFq_f ggp686, mOut_l (by unfold mS2; rw [if_neg hs42, if_neg hs43, if_neg hs45, if_pos (show (mS (mSk h) (ms h).2.2).1.headD 0 = 50 from by rw [← mfst hmb]; exact hn50), if_neg w9]) hF Zp686⟩
      · try dsimp only [tvI_i, tvJ_j, tvR_r] at q650
        have q650i := zeqi (Y := 45) (by decide) q650
        refine tw_aload rfl rfl ?_
        refine tw_virt0 rfl (g_makesSums hG hX (ggp641).1 pp641e ((mFr_T ggp641).trans hT) ((mFr_n ggp641).trans hN)) (fun wp687 hp687 p687 => ?_)
        obtain ⟨rfl, gp687, pp687e, ap687, bp687, mp687, dp687⟩ := p687
        have ggp687 := mFr_t ggp641 gp687
        refine tw_aload rfl rfl ?_
        refine tw_push rfl ?_
        refine tw_iload rfl rfl ?_
        refine tw_push rfl ?_
        refine tw_ic_ne rfl (fun q688 => ?_) (fun q688 => ?_)
        · try dsimp only [tvI_i, tvJ_j, tvR_r] at q688
          have q688i := zneq (Y := 43) (by decide) q688
          refine tw_push rfl ?_
          refine tw_iadd rfl ?_
          refine tw_virt1 rfl (g_opens hG hX (ggp687).1 pp687e ((mFr_T ggp687).trans hT) ((mFr_n ggp687).trans hN) (by decide)) (fun wp689 hp689 p689 => ?_)
          obtain ⟨rfl, gp689, pp689e, tp689, sp689, dp689⟩ := p689
          have ggp689 := mFr_t ggp687 gp689
          refine tw_aload rfl rfl ?_
          refine tw_dup rfl ?_
          refine tw_getS rfl (hi_111_28 ggp689.1) ?_
          refine tw_push rfl ?_
          refine tw_iadd rfl ?_
          refine tw_put rfl (fun f690 => ?_)
          refine tG_setm f690 (hw_111_28 f690 (ggp689).1) (fun hf690 ef690 => ?_)
          try dsimp only [tvI_i] at ef690
          have gf690 := mFr_s ggp689 ef690 (by unfold mFs; omega)
          have hk42 : cp642 = 42 ↔ ((rB T n (ms h).1) < n ∧ T (rB T n (ms h).1) = 42) := by have y := sgm_k kp642 42 (by decide); rw [sp641] at y; exact y
          have hs42 : ¬ ((rB T n (ms h).1) < n ∧ T (rB T n (ms h).1) = 42) := fun z => q643 (hk42.mpr z)
          have hk43 : cp642 = 43 ↔ ((rB T n (ms h).1) < n ∧ T (rB T n (ms h).1) = 43) := by have y := sgm_k kp642 43 (by decide); rw [sp641] at y; exact y
          have hs43 : ¬ ((rB T n (ms h).1) < n ∧ T (rB T n (ms h).1) = 43) := fun z => q644 (hk43.mpr z)
          have hk45 : cp642 = 45 ↔ ((rB T n (ms h).1) < n ∧ T (rB T n (ms h).1) = 45) := by have y := sgm_k kp642 45 (by decide); rw [sp641] at y; exact y
          have hs45 := hk45.mp q650
          have hmsf690 : ms hp689 = ((rB T n (ms h).1), (ms h).2.1, (ms hp687).2.2) := (sp689).trans (mA3 sp641 ap687 bp687 rfl rfl)
          obtain ⟨pf690, sf690, tf690⟩ := mTo pp689e ((mFr_n ggp689).trans hN) ef690 (v := (rB T n (ms h).1) + 1) (zp1 (by rw [mPl pp689e, hmsf690]) (by have := rB_le (T := T) hpn; omega)) hs45.1
          rw [hmsf690] at sf690
          refine tw_aload rfl rfl ?_
          refine tw_push rfl ?_
          refine tw_put rfl (fun f691 => ?_)
          refine tG_setm f691 (hw_111_46 f691 (gf690).1) (fun hf691 ef691 => ?_)
          try dsimp only [tvI_i] at ef691
          have gf691 := mFq_s (mFq_f gf690) ef691 (Or.inr rfl)
          obtain ⟨pf691, sf691, tf691⟩ := mSte pf690 ef691
          refine tw_goto rfl ?_
          have hmb : (mSk hp687, (ms hp687).2.2) = mS (mSk h) (ms h).2.2 := by rw [mp687, tp641, sp641]; rfl
          have hsk : mSk hf691 = 104 :: (mS (mSk h) (ms h).2.2).1 := by rw [tf691, tf690, tp689, ← mfst hmb]; rfl
          have hdd : mD hf691 := mD_m hD (by rw [hsk, mDp_e (by decide)]; exact mDp_S _ _) ((mI_o ef691 (by decide)).trans ((mI_o ef690 (by decide)).trans (dp689.trans (dp687.trans dp641))))
          exact tw_vret rfl ⟨rfl, gf691, mOut_r (by unfold mS2; rw [if_neg hs42, if_neg hs43, if_pos hs45]) pf691 hdd (by unfold mst; rw [mI_x ef691, hsk, sf691, sf690, msnd hmb]; rfl)⟩
        · try dsimp only [tvI_i, tvJ_j, tvR_r] at q688
          have q688i := zeqi (Y := 43) (by decide) q688
          exact absurd q688 q644
  · try dsimp only [tvI_i, tvJ_j, tvR_r] at q643
    have q643i := zeqi (Y := 42) (by decide) q643
    refine tw_aload rfl rfl ?_
    refine tw_virt0 rfl (g_makesProducts hG hX (ggp641).1 pp641e ((mFr_T ggp641).trans hT) ((mFr_n ggp641).trans hN)) (fun wp692 hp692 p692 => ?_)
    obtain ⟨rfl, gp692, pp692e, ap692, bp692, mp692, dp692⟩ := p692
    have ggp692 := mFr_t ggp641 gp692
    refine tw_aload rfl rfl ?_
    refine tw_push rfl ?_
    refine tw_virt1 rfl (g_opens hG hX (ggp692).1 pp692e ((mFr_T ggp692).trans hT) ((mFr_n ggp692).trans hN) (by decide)) (fun wp693 hp693 p693 => ?_)
    obtain ⟨rfl, gp693, pp693e, tp693, sp693, dp693⟩ := p693
    have ggp693 := mFr_t ggp692 gp693
    refine tw_aload rfl rfl ?_
    refine tw_dup rfl ?_
    refine tw_getS rfl (hi_111_28 ggp693.1) ?_
    refine tw_push rfl ?_
    refine tw_iadd rfl ?_
    refine tw_put rfl (fun f694 => ?_)
    refine tG_setm f694 (hw_111_28 f694 (ggp693).1) (fun hf694 ef694 => ?_)
    try dsimp only [tvI_i] at ef694
    have gf694 := mFr_s ggp693 ef694 (by unfold mFs; omega)
    have hk42 : cp642 = 42 ↔ ((rB T n (ms h).1) < n ∧ T (rB T n (ms h).1) = 42) := by have y := sgm_k kp642 42 (by decide); rw [sp641] at y; exact y
    have hs42 := hk42.mp q643
    have hmsf694 : ms hp693 = ((rB T n (ms h).1), (ms h).2.1, (ms hp692).2.2) := (sp693).trans (mA3 sp641 ap692 bp692 rfl rfl)
    obtain ⟨pf694, sf694, tf694⟩ := mTo pp693e ((mFr_n ggp693).trans hN) ef694 (v := (rB T n (ms h).1) + 1) (zp1 (by rw [mPl pp693e, hmsf694]) (by have := rB_le (T := T) hpn; omega)) hs42.1
    rw [hmsf694] at sf694
    refine tw_aload rfl rfl ?_
    refine tw_push rfl ?_
    refine tw_put rfl (fun f695 => ?_)
    refine tG_setm f695 (hw_111_46 f695 (gf694).1) (fun hf695 ef695 => ?_)
    try dsimp only [tvI_i] at ef695
    have gf695 := mFq_s (mFq_f gf694) ef695 (Or.inr rfl)
    obtain ⟨pf695, sf695, tf695⟩ := mSte pf694 ef695
    refine tw_goto rfl ?_
    have hmb : (mSk hp692, (ms hp692).2.2) = mT (mSk h) (ms h).2.2 := by rw [mp692, tp641, sp641]; rfl
    have hsk : mSk hf695 = 102 :: (mT (mSk h) (ms h).2.2).1 := by rw [tf695, tf694, tp693, ← mfst hmb]; rfl
    have hdd : mD hf695 := mD_m hD (by rw [hsk, mDp_e (by decide)]; exact mDp_T _ _) ((mI_o ef695 (by decide)).trans ((mI_o ef694 (by decide)).trans (dp693.trans (dp692.trans dp641))))
    exact tw_vret rfl ⟨rfl, gf695, mOut_r (by unfold mS2; rw [if_pos hs42]) pf695 hdd (by unfold mst; rw [mI_x ef695, hsk, sf695, sf694, msnd hmb]; rfl)⟩
theorem g_behindFact {G : zG} (hG : G.1 = zProg) (hX : G.2.1 = ztx) {h : zH} {T : Nat → Int32} {n : Nat} (hs : tSh h) (hp : mP h) (hT : tA h 132 = T) (hN : mn h = n) (hD : mD h) (hd : mDp (mSk h) ≤ 1000) (h46s : tvI (tF h 111 46) = 3) : tC zTt G 222 [.ref 111] h (fun w h2 => w = none ∧ mFq h h2 ∧ mOut (mS3 T n (mSk h) (ms h)) h2) := by
  refine tC_in (by rw [hG]; rfl) (fun dp => ?_)
  have g0 := mFr_r hs
  have hpn : (ms h).1 ≤ n := mPle hp hN
  have hn4 : n ≤ 400 := by have a := mNl hp hN; have b := hp.2.1; omega
  refine tw_aload rfl rfl ?_
  refine tw_virt0 rfl (g_makesNots hG hX (g0).1 hp ((mFr_T g0).trans hT) ((mFr_n g0).trans hN) hD) (fun wp696 hp696 p696 => ?_)
  obtain ⟨rfl, gp696, pp696e, ap696, bp696, mp696, dp696⟩ := p696
  have ggp696 := mFr_t g0 gp696
  refine tw_aload rfl rfl ?_
  refine tw_virt0 rfl (g_blanks hG hX (ggp696).1 pp696e ((mFr_T ggp696).trans hT) ((mFr_n ggp696).trans hN)) (fun wp697 hp697 p697 => ?_)
  obtain ⟨rfl, gp697, pp697e, sp697, tp697, dp697⟩ := p697
  have ggp697 := mFr_t ggp696 gp697
  rw [ap696] at sp697
  refine tw_aload rfl rfl ?_
  refine tw_push rfl ?_
  refine tw_virt1 rfl (g_stands hG hX (ggp697).1 ((mFr_T ggp697).trans hT) ((mFr_n ggp697).trans hN) (q := 19) (by decide +kernel) ⟨pp697e.2.1.1, by have := pp697e.2.1; omega⟩ ⟨by have := pp697e.2.1; omega, pp697e.2.1.2.2⟩) (fun w9 h9 p698 => ?_)
  obtain ⟨⟨p698, rfl⟩ | ⟨p698, rfl⟩, rfl⟩ := p698
  · try dsimp only [tvI_i, tvJ_j, tvR_r] at p698
    refine tw_if_eq rfl (fun z => absurd z (by decide)) (fun _ => ?_)
    refine tw_aload rfl rfl ?_
    refine tw_virt0 rfl (g_makesAnds hG hX (ggp697).1 pp697e ((mFr_T ggp697).trans hT) ((mFr_n ggp697).trans hN)) (fun wp699 hp699 p699 => ?_)
    obtain ⟨rfl, gp699, pp699e, ap699, bp699, mp699, dp699⟩ := p699
    have ggp699 := mFr_t ggp697 gp699
    refine tw_aload rfl rfl ?_
    refine tw_push rfl ?_
    refine tw_virt1 rfl (g_opens hG hX (ggp699).1 pp699e ((mFr_T ggp699).trans hT) ((mFr_n ggp699).trans hN) (by decide)) (fun wp700 hp700 p700 => ?_)
    obtain ⟨rfl, gp700, pp700e, tp700, sp700, dp700⟩ := p700
    have ggp700 := mFr_t ggp699 gp700
    refine tw_aload rfl rfl ?_
    refine tw_dup rfl ?_
    refine tw_getS rfl (hi_111_28 ggp700.1) ?_
    refine tw_push rfl ?_
    refine tw_iadd rfl ?_
    refine tw_put rfl (fun f701 => ?_)
    refine tG_setm f701 (hw_111_28 f701 (ggp700).1) (fun hf701 ef701 => ?_)
    try dsimp only [tvI_i] at ef701
    have gf701 := mFr_s ggp700 ef701 (by unfold mFs; omega)
    have hw18 : rW T n (rB T n (ms h).1) (rWd 18) = true := by have z := p698; rw [sp697] at z; rw [txt_k.2.1]; exact z
    have h9w : rE T n (rB T n (ms h).1) = (rB T n (ms h).1) + 3 := by rw [rW_e hw18, wlen_k.1]
    have hr9 := rE_le (T := T) (rB_le (T := T) hpn)
    rw [h9w] at hr9
    have hmsf701 : ms hp700 = ((rB T n (ms h).1), (ms h).2.1, (ms hp699).2.2) := (sp700).trans (mA3 sp697 ap699 bp699 bp696 rfl)
    obtain ⟨pf701, sf701, tf701⟩ := mTo pp700e ((mFr_n ggp700).trans hN) ef701 (v := (rB T n (ms h).1) + 3) (zp3 (k := (rB T n (ms h).1)) (j := 3) (by rw [mPl pp700e, hmsf701]) rfl (by have := rB_le (T := T) hpn; omega) (by decide)) hr9
    rw [hmsf701] at sf701
    refine tw_aload rfl rfl ?_
    refine tw_push rfl ?_
    refine tw_put rfl (fun f702 => ?_)
    refine tG_setm f702 (hw_111_46 f702 (gf701).1) (fun hf702 ef702 => ?_)
    try dsimp only [tvI_i] at ef702
    have gf702 := mFq_s (mFq_f gf701) ef702 (Or.inr rfl)
    obtain ⟨pf702, sf702, tf702⟩ := mSte pf701 ef702
    refine tw_goto rfl ?_
    have hmn : (mSk hp697, (ms hp697).2.2) = (mN (mSk h) (ms h).2.2) := by rw [tp697, sp697]; exact mp696
    have hmb : (mSk hp699, (ms hp699).2.2) = mA (mN (mSk h) (ms h).2.2).1 (mN (mSk h) (ms h).2.2).2 := by rw [mp699, mfst hmn, msnd hmn]
    have hsk : mSk hf702 = 11 :: (mA (mN (mSk h) (ms h).2.2).1 (mN (mSk h) (ms h).2.2).2).1 := by rw [tf702, tf701, tp700, ← mfst hmb]; rfl
    have hdd : mD hf702 := mD_m (mD_k dp696 tp697 dp697) (by rw [hsk, mDp_e (by decide), mDp_A, mfst hmn]) ((mI_o ef702 (by decide)).trans ((mI_o ef701 (by decide)).trans (dp700.trans dp699)))
    exact tw_vret rfl ⟨rfl, gf702, mOut_r (by unfold mS3; rw [if_pos hw18]) pf702 hdd (by unfold mst; rw [mI_x ef702, hsk, sf702, sf701, msnd hmb]; rfl)⟩
  · try dsimp only [tvI_i, tvJ_j, tvR_r] at p698
    refine tw_if_eq rfl (fun _ => ?_) (fun z => absurd z (by decide))
    refine tw_aload rfl rfl ?_
    refine tw_push rfl ?_
    refine tw_virt1 rfl (g_stands hG hX (ggp697).1 ((mFr_T ggp697).trans hT) ((mFr_n ggp697).trans hN) (q := 20) (by decide +kernel) ⟨pp697e.2.1.1, by have := pp697e.2.1; omega⟩ ⟨by have := pp697e.2.1; omega, pp697e.2.1.2.2⟩) (fun w9 h9 p703 => ?_)
    obtain ⟨⟨p703, rfl⟩ | ⟨p703, rfl⟩, rfl⟩ := p703
    · try dsimp only [tvI_i, tvJ_j, tvR_r] at p703
      refine tw_if_eq rfl (fun z => absurd z (by decide)) (fun _ => ?_)
      refine tw_aload rfl rfl ?_
      refine tw_virt0 rfl (g_makesOrs hG hX (ggp697).1 pp697e ((mFr_T ggp697).trans hT) ((mFr_n ggp697).trans hN)) (fun wp704 hp704 p704 => ?_)
      obtain ⟨rfl, gp704, pp704e, ap704, bp704, mp704, dp704⟩ := p704
      have ggp704 := mFr_t ggp697 gp704
      refine tw_aload rfl rfl ?_
      refine tw_push rfl ?_
      refine tw_virt1 rfl (g_opens hG hX (ggp704).1 pp704e ((mFr_T ggp704).trans hT) ((mFr_n ggp704).trans hN) (by decide)) (fun wp705 hp705 p705 => ?_)
      obtain ⟨rfl, gp705, pp705e, tp705, sp705, dp705⟩ := p705
      have ggp705 := mFr_t ggp704 gp705
      refine tw_aload rfl rfl ?_
      refine tw_dup rfl ?_
      refine tw_getS rfl (hi_111_28 ggp705.1) ?_
      refine tw_push rfl ?_
      refine tw_iadd rfl ?_
      refine tw_put rfl (fun f706 => ?_)
      refine tG_setm f706 (hw_111_28 f706 (ggp705).1) (fun hf706 ef706 => ?_)
      try dsimp only [tvI_i] at ef706
      have gf706 := mFr_s ggp705 ef706 (by unfold mFs; omega)
      have hw18 : ¬ rW T n (rB T n (ms h).1) (rWd 18) = true := by have z := p698; rw [sp697] at z; rw [txt_k.2.1]; exact z
      have hw17 : rW T n (rB T n (ms h).1) (rWd 17) = true := by have z := p703; rw [sp697] at z; rw [txt_k.2.2.1]; exact z
      have h9w : rE T n (rB T n (ms h).1) = (rB T n (ms h).1) + 2 := by rw [rW_e hw17, wlen_k.2.1]
      have hr9 := rE_le (T := T) (rB_le (T := T) hpn)
      rw [h9w] at hr9
      have hmsf706 : ms hp705 = ((rB T n (ms h).1), (ms h).2.1, (ms hp704).2.2) := (sp705).trans (mA3 sp697 ap704 bp704 bp696 rfl)
      obtain ⟨pf706, sf706, tf706⟩ := mTo pp705e ((mFr_n ggp705).trans hN) ef706 (v := (rB T n (ms h).1) + 2) (zp3 (k := (rB T n (ms h).1)) (j := 2) (by rw [mPl pp705e, hmsf706]) rfl (by have := rB_le (T := T) hpn; omega) (by decide)) hr9
      rw [hmsf706] at sf706
      refine tw_aload rfl rfl ?_
      refine tw_push rfl ?_
      refine tw_put rfl (fun f707 => ?_)
      refine tG_setm f707 (hw_111_46 f707 (gf706).1) (fun hf707 ef707 => ?_)
      try dsimp only [tvI_i] at ef707
      have gf707 := mFq_s (mFq_f gf706) ef707 (Or.inr rfl)
      obtain ⟨pf707, sf707, tf707⟩ := mSte pf706 ef707
      refine tw_goto rfl ?_
      have hmn : (mSk hp697, (ms hp697).2.2) = (mN (mSk h) (ms h).2.2) := by rw [tp697, sp697]; exact mp696
      have hmb : (mSk hp704, (ms hp704).2.2) = mO (mN (mSk h) (ms h).2.2).1 (mN (mSk h) (ms h).2.2).2 := by rw [mp704, mfst hmn, msnd hmn]
      have hsk : mSk hf707 = 12 :: (mO (mN (mSk h) (ms h).2.2).1 (mN (mSk h) (ms h).2.2).2).1 := by rw [tf707, tf706, tp705, ← mfst hmb]; rfl
      have hdd : mD hf707 := mD_m (mD_k dp696 tp697 dp697) (by rw [hsk, mDp_e (by decide), mDp_O, mfst hmn]) ((mI_o ef707 (by decide)).trans ((mI_o ef706 (by decide)).trans (dp705.trans dp704)))
      exact tw_vret rfl ⟨rfl, gf707, mOut_r (by unfold mS3; rw [if_neg hw18, if_pos hw17]) pf707 hdd (by unfold mst; rw [mI_x ef707, hsk, sf707, sf706, msnd hmb]; rfl)⟩
    · try dsimp only [tvI_i, tvJ_j, tvR_r] at p703
      refine tw_if_eq rfl (fun _ => ?_) (fun z => absurd z (by decide))
      refine tw_aload rfl rfl ?_
      refine tw_virt0 rfl (g_makesOrs hG hX (ggp697).1 pp697e ((mFr_T ggp697).trans hT) ((mFr_n ggp697).trans hN)) (fun wp708 hp708 p708 => ?_)
      obtain ⟨rfl, gp708, pp708e, ap708, bp708, mp708, dp708⟩ := p708
      have ggp708 := mFr_t ggp697 gp708
      refine tw_aload rfl rfl ?_
      refine tw_virt0 rfl (g_top hG hX (ggp708).1 pp708e ((mFr_T ggp708).trans hT) ((mFr_n ggp708).trans hN)) (fun wp709 hp709 p709 => ?_)
      obtain ⟨⟨cp709, rfl, Tp709⟩, rfl⟩ := p709
      refine tw_push rfl ?_
      refine tw_ic_ne rfl (fun q710 => ?_) (fun q710 => ?_)
      · try dsimp only [tvI_i, tvJ_j, tvR_r] at q710
        have q710i := zneq (Y := 13) (by decide) q710
        refine tw_aload rfl rfl ?_
        refine tw_push rfl ?_
        refine tw_put rfl (fun f711 => ?_)
        refine tG_setm f711 (hw_111_46 f711 (ggp708).1) (fun hf711 ef711 => ?_)
        try dsimp only [tvI_i] at ef711
        have gf711 := mFq_s (mFq_f ggp708) ef711 (Or.inr rfl)
        obtain ⟨pf711, sf711, tf711⟩ := mSte pp708e ef711
        have hw18 : ¬ rW T n (rB T n (ms h).1) (rWd 18) = true := by have z := p698; rw [sp697] at z; rw [txt_k.2.1]; exact z
        have hw17 : ¬ rW T n (rB T n (ms h).1) (rWd 17) = true := by have z := p703; rw [sp697] at z; rw [txt_k.2.2.1]; exact z
        have ht13 := tpm_k Tp709 (k := 13) (K := 13) rfl (by decide)
        have hn13 : ¬ (mSk hp708).headD 0 = 13 := fun z => q710 (ht13.mpr z)
        have hmn : (mSk hp697, (ms hp697).2.2) = (mN (mSk h) (ms h).2.2) := by rw [tp697, sp697]; exact mp696
        have hmb : (mSk hp708, (ms hp708).2.2) = mO (mN (mSk h) (ms h).2.2).1 (mN (mSk h) (ms h).2.2).2 := by rw [mp708, mfst hmn, msnd hmn]
        have hms : ms hf711 = ((rB T n (ms h).1), (ms h).2.1, (mO (mN (mSk h) (ms h).2.2).1 (mN (mSk h) (ms h).2.2).2).2) := (sf711).trans (mA3 sp697 ap708 bp708 bp696 (msnd hmb))
        have hsk : mSk hf711 = (mO (mN (mSk h) (ms h).2.2).1 (mN (mSk h) (ms h).2.2).2).1 := by rw [tf711, mfst hmb]
        have hdd : mD hf711 := mD_m (mD_k dp696 tp697 dp697) (by rw [hsk, mDp_O, mfst hmn]) ((mI_o ef711 (by decide)).trans dp708)
        exact tw_vret rfl ⟨rfl, gf711, mOut_r (by unfold mS3; rw [if_neg hw18, if_neg hw17, if_neg (show ¬ (mO (mN (mSk h) (ms h).2.2).1 (mN (mSk h) (ms h).2.2).2).1.headD 0 = 13 from by rw [← mfst hmb]; exact hn13)]) pf711 hdd (by unfold mst; rw [mI_x ef711, hsk, hms]; rfl)⟩
      · try dsimp only [tvI_i, tvJ_j, tvR_r] at q710
        have q710i := zeqi (Y := 13) (by decide) q710
        refine tw_aload rfl rfl ?_
        refine tw_virt0 rfl (g_sign hG hX (ggp708).1 ((mFr_T ggp708).trans hT) ((mFr_n ggp708).trans hN) ⟨pp708e.2.1.1, by have := pp708e.2.1; omega⟩) (fun wp712 hp712 p712 => ?_)
        obtain ⟨⟨cp712, rfl, kp712⟩, rfl⟩ := p712
        refine tw_push rfl ?_
        refine tw_ic_eq rfl (fun q713 => ?_) (fun q713 => ?_)
        · try dsimp only [tvI_i, tvJ_j, tvR_r] at q713
          have q713i := zeqi (Y := 93) (by decide) q713
          refine tw_aload rfl rfl ?_
          refine tw_dup rfl ?_
          refine tw_getS rfl (hi_111_28 (ggp708).1) ?_
          refine tw_push rfl ?_
          refine tw_iadd rfl ?_
          refine tw_put rfl (fun f714 => ?_)
          refine tG_setm f714 (hw_111_28 f714 (ggp708).1) (fun hf714 ef714 => ?_)
          try dsimp only [tvI_i] at ef714
          have gf714 := mFr_s ggp708 ef714 (by unfold mFs; omega)
          have hw18 : ¬ rW T n (rB T n (ms h).1) (rWd 18) = true := by have z := p698; rw [sp697] at z; rw [txt_k.2.1]; exact z
          have hw17 : ¬ rW T n (rB T n (ms h).1) (rWd 17) = true := by have z := p703; rw [sp697] at z; rw [txt_k.2.2.1]; exact z
          have ht13 := tpm_k Tp709 (k := 13) (K := 13) rfl (by decide)
          have hn13 : (mSk hp708).headD 0 = 13 := ht13.mp q710
          have hk93 : cp712 = 93 ↔ ((rB T n (ms h).1) < n ∧ T (rB T n (ms h).1) = 93) := by have y := sgm_k kp712 93 (by decide); rw [ap708, sp697] at y; exact y
          have hs93 : ((rB T n (ms h).1) < n ∧ T (rB T n (ms h).1) = 93) := hk93.mp q713
          have hDm : mD hp708 := mD_m (mD_k dp696 tp697 dp697) (by rw [mfst mp708]; exact mDp_O _ _) dp708
          obtain ⟨pf714, sf714, tf714⟩ := mTo pp708e ((mFr_n ggp708).trans hN) ef714 (v := (rB T n (ms h).1) + 1) (zp1 (by rw [mPl pp708e, show (ms hp708).1 = (rB T n (ms h).1) from by rw [ap708, sp697]; rfl]) (by have := rB_le (T := T) hpn; omega)) hs93.1
          refine tw_aload rfl rfl ?_
          refine tw_dup rfl ?_
          refine tw_getS rfl (hi_111_34 (gf714).1) ?_
          refine tw_push rfl ?_
          refine tw_isub rfl ?_
          refine tw_put rfl (fun f715 => ?_)
          refine tG_setm f715 (hw_111_34 f715 (gf714).1) (fun hf715 ef715 => ?_)
          try dsimp only [tvI_i] at ef715
          have gf715 := mFr_s gf714 ef715 (by unfold mFs; omega)
          have hst : mSk hf714 = 13 :: (mSk hp708).tail := tf714.trans (mhead (k := 12) hn13)
          obtain ⟨pf715, tf715, sf715, df715⟩ := mSk_pop pf714 (by rw [hst]; exact List.cons_ne_nil _ _) ef715
          rw [hst] at tf715
          have tf715 : mSk hf715 = (mSk hp708).tail := tf715
          refine tw_aload rfl rfl ?_
          refine tw_dup rfl ?_
          refine tw_getS rfl (hi_111_32 (gf715).1) ?_
          refine tw_push rfl ?_
          refine tw_isub rfl ?_
          refine tw_put rfl (fun f716 => ?_)
          refine tG_setm f716 (hw_111_32 f716 (gf715).1) (fun hf716 ef716 => ?_)
          try dsimp only [tvI_i] at ef716
          have gf716 := mFr_s gf715 ef716 (by unfold mFs; omega)
          have hdf716 : (tvI (tF hf715 111 32)).toInt = ((mDp (mSk hf715) + 1 : Nat) : Int) := by
            rw [df715, mI_o ef714 (by decide)]
            refine (show (tvI (tF hp708 111 32)).toInt = (mDp (mSk hp708) : Int) from hDm).trans ?_
            rw [tf715]
            exact congrArg (fun z : Nat => (z : Int)) ((congrArg mDp (mhead (k := 12) hn13)).trans (mDp_c (by decide)))
          obtain ⟨pf716, tf716, sf716, ddf716⟩ := mDn pf715 ef716 hdf716 rfl
          refine tw_goto rfl ?_
          have hmn : (mSk hp697, (ms hp697).2.2) = (mN (mSk h) (ms h).2.2) := by rw [tp697, sp697]; exact mp696
          have hmb : (mSk hp708, (ms hp708).2.2) = mO (mN (mSk h) (ms h).2.2).1 (mN (mSk h) (ms h).2.2).2 := by rw [mp708, mfst hmn, msnd hmn]
          have hms : ms hf716 = ((rB T n (ms h).1) + 1, (ms h).2.1, (mO (mN (mSk h) (ms h).2.2).1 (mN (mSk h) (ms h).2.2).2).2) := by rw [sf716, sf715, sf714]; exact mA6 (mA2 sp697 bp708 bp696) (msnd hmb)
          have hsk : mSk hf716 = (mO (mN (mSk h) (ms h).2.2).1 (mN (mSk h) (ms h).2.2).2).1.tail := by rw [tf716, tf715, mfst hmb]
          have h46 : stN (tvI (tF hf716 111 46)) = 3 := by rw [mFr_46 gf716, h46s]; rfl
          exact tw_vret rfl ⟨rfl, mFq_f gf716, mOut_r (by unfold mS3; rw [if_neg hw18, if_neg hw17, if_pos (show (mO (mN (mSk h) (ms h).2.2).1 (mN (mSk h) (ms h).2.2).2).1.headD 0 = 13 from by rw [← mfst hmb]; exact hn13), if_pos hs93]) pf716 ddf716 (by unfold mst; rw [h46, hsk, hms])⟩
        · try dsimp only [tvI_i, tvJ_j, tvR_r] at q713
          have q713i := zneq (Y := 93) (by decide) q713
          refine tw_aload rfl rfl ?_
          refine tw_push rfl ?_
          refine tw_aload rfl rfl ?_
          refine tw_getS rfl (hi_111_28 (ggp708).1) ?_
          refine tw_virt2 rfl (g_fails hG hX (ggp708).1 pp708e ((mFr_T ggp708).trans hT) ((mFr_n ggp708).trans hN) (w := 0) (b := (rB T n (ms h).1)) rfl (by decide) ((mPl pp708e).trans (by rw [show (ms hp708).1 = (rB T n (ms h).1) from by rw [ap708, sp697]; rfl])) (by have := rB_le (T := T) hpn; omega)) (fun wp717 hp717 p717 => ?_)
          obtain ⟨rfl, gp717, Fp717, ip717, jp717⟩ := p717
          have ggp717 := mFr_t ggp708 gp717
          refine tw_aload rfl rfl ?_
          refine tw_dup rfl ?_
          refine tw_getS rfl (hi_111_28 ggp717.1) ?_
          refine tw_push rfl ?_
          refine tw_iadd rfl ?_
          refine tw_put rfl (fun f718 => ?_)
          refine tG_setm f718 (hw_111_28 f718 (ggp717).1) (fun hf718 ef718 => ?_)
          try dsimp only [tvI_i] at ef718
          have gf718 := mFr_s ggp717 ef718 (by unfold mFs; omega)
          have zf718 := mFt_s Fp717 ef718 (by decide)
          have yf718 : (tvI (tF hp717 111 28)).toInt = (((rB T n (ms h).1) : Nat) : Int) := by rw [ip717, mPl pp708e, show (ms hp708).1 = (rB T n (ms h).1) from by rw [ap708, sp697]; rfl]
          have Zf718 : mZp hf718 := mZ_of ggp717 hp ef718 (zp1 yf718 (by have := rB_le (T := T) hpn; omega)) (by have := rB_le (T := T) hpn; omega)
          refine tw_aload rfl rfl ?_
          refine tw_dup rfl ?_
          refine tw_getS rfl (hi_111_34 (gf718).1) ?_
          refine tw_push rfl ?_
          refine tw_isub rfl ?_
          refine tw_put rfl (fun f719 => ?_)
          refine tG_setm f719 (hw_111_34 f719 (gf718).1) (fun hf719 ef719 => ?_)
          try dsimp only [tvI_i] at ef719
          have gf719 := mFr_s gf718 ef719 (by unfold mFs; omega)
          have zf719 := mFt_s zf718 ef719 (by decide)
          have Zf719 : mZp hf719 := mZp_o Zf718 ef719 (by decide)
          refine tw_aload rfl rfl ?_
          refine tw_dup rfl ?_
          refine tw_getS rfl (hi_111_32 (gf719).1) ?_
          refine tw_push rfl ?_
          refine tw_isub rfl ?_
          refine tw_put rfl (fun f720 => ?_)
          refine tG_setm f720 (hw_111_32 f720 (gf719).1) (fun hf720 ef720 => ?_)
          try dsimp only [tvI_i] at ef720
          have gf720 := mFr_s gf719 ef720 (by unfold mFs; omega)
          have zf720 := mFt_s zf719 ef720 (by decide)
          have Zf720 : mZp hf720 := mZp_o Zf719 ef720 (by decide)
          refine tw_goto rfl ?_
          have hw18 : ¬ rW T n (rB T n (ms h).1) (rWd 18) = true := by have z := p698; rw [sp697] at z; rw [txt_k.2.1]; exact z
          have hw17 : ¬ rW T n (rB T n (ms h).1) (rWd 17) = true := by have z := p703; rw [sp697] at z; rw [txt_k.2.2.1]; exact z
          have ht13 := tpm_k Tp709 (k := 13) (K := 13) rfl (by decide)
          have hn13 : (mSk hp708).headD 0 = 13 := ht13.mp q710
          have hk93 : cp712 = 93 ↔ ((rB T n (ms h).1) < n ∧ T (rB T n (ms h).1) = 93) := by have y := sgm_k kp712 93 (by decide); rw [ap708, sp697] at y; exact y
          have hs93 : ¬ ((rB T n (ms h).1) < n ∧ T (rB T n (ms h).1) = 93) := fun z => q713 (hk93.mpr z)
          have hDm : mD hp708 := mD_m (mD_k dp696 tp697 dp697) (by rw [mfst mp708]; exact mDp_O _ _) dp708
          have hmn : (mSk hp697, (ms hp697).2.2) = (mN (mSk h) (ms h).2.2) := by rw [tp697, sp697]; exact mp696
          have hmb : (mSk hp708, (ms hp708).2.2) = mO (mN (mSk h) (ms h).2.2).1 (mN (mSk h) (ms h).2.2).2 := by rw [mp708, mfst hmn, msnd hmn]
          exact tw_vret rfl ⟨rfl, mFq_f gf720, mOut_l (by unfold mS3; rw [if_neg hw18, if_neg hw17, if_pos (show (mO (mN (mSk h) (ms h).2.2).1 (mN (mSk h) (ms h).2.2).2).1.headD 0 = 13 from by rw [← mfst hmb]; exact hn13), if_neg hs93]) zf720 Zf720⟩
theorem mDp_N : ∀ (S o : List Nat), mDp (mN S o).1 ≤ mDp S
  | [], _ => Nat.le_refl _
  | x :: r, o => by
    unfold mN
    by_cases z : x = 10
    · rw [if_pos z, z, mDp_c (by decide)]
      exact Nat.le_succ_of_le (mDp_N r _)
    · rw [if_neg z]
      exact Nat.le_refl _
theorem mDp_t : ∀ (S : List Nat), mDp S.tail ≤ mDp S
  | [] => Nat.le_refl _
  | x :: r => by
    show mDp r ≤ (if _ then mDp r + 1 else mDp r)
    split
    · exact Nat.le_succ _
    · exact Nat.le_refl _
theorem mSt_dp {T : Nat → Int32} {n : Nat} {tst : Bool} {a : Nat} {S : List Nat} {s : rS} {x2 : rMs} (h : mDp S ≤ 10) (ha : a ≤ 3) (e : mSt T n tst (a, S, s) = .inr x2) : mDp x2.2.1 ≤ 10 ∧ x2.1 ≤ 4 := by
  match a, ha, e with
  | 0, _, e =>
    have e : mS0 T n S s = .inr x2 := e
    unfold mS0 at e
    split at e
    · split at e
      · cases e
      · rename_i z
        cases e
        exact ⟨by show mDp (10 :: S) ≤ 10; rw [mDp_c (by decide)]; omega, Nat.le_of_ble_eq_true rfl⟩
    · split at e
      · split at e
        · cases e
        · rename_i z
          cases e
          exact ⟨by show mDp (13 :: S) ≤ 10; rw [mDp_c (by decide)]; omega, Nat.le_of_ble_eq_true rfl⟩
      · cases e
        exact ⟨h, Nat.le_of_ble_eq_true rfl⟩
  | 1, _, e =>
    have e : mS1 T n S s = .inr x2 := e
    unfold mS1 at e
    split at e
    · split at e
      · cases e
      · split at e
        · cases e
        · rename_i z _
          cases e
          exact ⟨by show mDp (50 :: S) ≤ 10; rw [mDp_c (by decide)]; omega, Nat.le_of_ble_eq_true rfl⟩
    · split at e
      · split at e
        · cases e
        · cases e; exact ⟨h, Nat.le_of_ble_eq_true rfl⟩
      · split at e
        · cases e
        · split at e
          · cases e
          · cases e; exact ⟨h, Nat.le_of_ble_eq_true rfl⟩
  | 2, _, e =>
    have e : mS2 T n tst S s = .inr x2 := e
    have hT := mDp_T S s.2.2
    have hS := mDp_S S s.2.2
    have ht := mDp_t (mS S s.2.2).1
    unfold mS2 at e
    split at e
    · cases e
      exact ⟨by show mDp (102 :: _) ≤ 10; rw [mDp_e (by decide)]; omega, Nat.le_of_ble_eq_true rfl⟩
    · split at e
      · cases e
        exact ⟨by show mDp (103 :: _) ≤ 10; rw [mDp_e (by decide)]; omega, Nat.le_of_ble_eq_true rfl⟩
      · split at e
        · cases e
          exact ⟨by show mDp (104 :: _) ≤ 10; rw [mDp_e (by decide)]; omega, Nat.le_of_ble_eq_true rfl⟩
        · split at e
          · split at e
            · cases e
              exact ⟨by show mDp (mS S s.2.2).1.tail ≤ 10; omega, Nat.le_of_ble_eq_true rfl⟩
            · cases e
          · split at e
            · split at e
              · cases e
                exact ⟨by show mDp (mS S s.2.2).1.tail ≤ 10; omega, Nat.le_of_ble_eq_true rfl⟩
              · split at e
                · cases e
                · rename_i q hq
                  split at e
                  · cases e
                  · cases e
                    have r1 := (rCm_r hq).1
                    have r2 := (rCm_r hq).2.1
                    exact ⟨by show mDp ((q.1 - 99898) :: _) ≤ 10; rw [mDp_e (by omega)]; omega, Nat.le_of_ble_eq_true rfl⟩
            · cases e
              exact ⟨by show mDp (mS S s.2.2).1 ≤ 10; omega, Nat.le_of_ble_eq_true rfl⟩
  | 3, _, e =>
    have e : mS3 T n S s = .inr x2 := e
    have hN := mDp_N S s.2.2
    have hA := mDp_A (mN S s.2.2).1 (mN S s.2.2).2
    have hO := mDp_O (mN S s.2.2).1 (mN S s.2.2).2
    have ht := mDp_t (mO (mN S s.2.2).1 (mN S s.2.2).2).1
    unfold mS3 at e
    split at e
    · cases e
      exact ⟨by show mDp (11 :: _) ≤ 10; rw [mDp_e (by decide)]; omega, Nat.le_of_ble_eq_true rfl⟩
    · split at e
      · cases e
        exact ⟨by show mDp (12 :: _) ≤ 10; rw [mDp_e (by decide)]; omega, Nat.le_of_ble_eq_true rfl⟩
      · split at e
        · split at e
          · cases e
            exact ⟨by show mDp (mO (mN S s.2.2).1 (mN S s.2.2).2).1.tail ≤ 10; omega, Nat.le_of_ble_eq_true rfl⟩
          · cases e
        · cases e
          exact ⟨by show mDp (mO (mN S s.2.2).1 (mN S s.2.2).2).1 ≤ 10; omega, Nat.le_of_ble_eq_true rfl⟩
theorem mRst {h a b c : zH} {x y : Int32} (hx : 0 ≤ x.toInt) (p : mP h) (d0 : tvI (tF h 111 32) = 0) (e46 : mSet 46 x h a) (e34 : mSet 34 0 a b) (e47 : mSet 47 y b c) : mFw h c ∧ mP c ∧ mD c ∧ mst c = (stN x, [], ms h) ∧ tvI (tF c 111 47) = y := by
  have F : ∀ q, q ≠ 46 → q ≠ 34 → q ≠ 47 → tF c 111 q = tF h 111 q := fun q h1 h2 h3 => (mI_o e47 h3).trans ((mI_o e34 h2).trans (mI_o e46 h1))
  have A : tA c = tA h := e47.2.2.2.1.trans (e34.2.2.2.1.trans e46.2.2.2.1)
  have NN : tN c = tN h := e47.2.2.2.2.trans (e34.2.2.2.2.trans e46.2.2.2.2)
  have f34 : tvI (tF c 111 34) = 0 := by rw [mI_o e47 (by decide)]; exact mI_x e34
  have f46 : tvI (tF c 111 46) = x := by rw [mI_o e47 (by decide), mI_o e34 (by decide)]; exact mI_x e46
  have hk : mSk c = [] := mSk_nil (by rw [f34]; rfl)
  obtain ⟨p1, p2, p3, p4, p5, p6, p7, p8, t1, t2⟩ := p
  refine ⟨⟨e47.1, fun p q z => ?_, fun p _ _ _ => congrFun A p, NN, mLo_A A mLo_r⟩, ⟨?_, ?_, ?_, ?_, ?_, ?_, ?_, ?_, by rw [NN]; exact t1, by rw [NN]; exact t2⟩, ?_, ?_, mI_x e47⟩
  · refine (e47.2.2.1 p q (fun w => z ⟨w.1, Or.inr (Or.inr w.2)⟩)).trans ((e34.2.2.1 p q (fun w => z ⟨w.1, Or.inl (by unfold mFs; omega)⟩)).trans (e46.2.2.1 p q (fun w => z ⟨w.1, Or.inr (Or.inl w.2)⟩)))
  · rw [F 29 (by decide) (by decide) (by decide)]; exact p1
  · rw [F 28 (by decide) (by decide) (by decide), F 27 (by decide) (by decide) (by decide)]; exact p2
  · rw [F 33 (by decide) (by decide) (by decide)]; exact p3
  · rw [F 31 (by decide) (by decide) (by decide)]; exact p4
  · rw [f34]; decide
  · rw [F 30 (by decide) (by decide) (by decide)]; exact p6
  · rw [A, NN]; exact p7
  · exact p8
  · unfold mD
    rw [F 32 (by decide) (by decide) (by decide), d0, hk]
    rfl
  · unfold mst ms mEn
    rw [f46, hk, F 28 (by decide) (by decide) (by decide), F 33 (by decide) (by decide) (by decide), F 31 (by decide) (by decide) (by decide), F 30 (by decide) (by decide) (by decide), A]
theorem g_readsR {G : zG} (hG : G.1 = zProg) (hX : G.2.1 = ztx) {h : zH} {T : Nat → Int32} {n : Nat} (hs : tSh h) (hp : mP h) (hT : tA h 132 = T) (hN : mn h = n) {x : Int32} {tst : Bool} (hx0 : 0 ≤ x.toInt) (hx4 : stN x ≤ 4) (hts : x = 0 ↔ tst = true) (hd0 : tvI (tF h 111 32) = 0) : tC zTt G 223 [.ref 111, .int x] h (fun w h2 => w = none ∧ mFw h h2 ∧ ((mP h2 ∧ mD h2 ∧ mRe T n tst (stN x, [], ms h) (.inr (4, mSk h2, ms h2))) ∨ ∃ e, mFt h2 e ∧ mZp h2 ∧ mRe T n tst (stN x, [], ms h) (.inl e))) := by
  refine tC_in (by rw [hG]; rfl) (fun dp => ?_)
  refine tw_aload rfl rfl ?_
  refine tw_iload rfl rfl ?_
  refine tw_put rfl (fun f721 => ?_)
  refine tG_setm f721 (hw_111_46 f721 hs) (fun hf721 ef721 => ?_)
  try dsimp only [tvI_i] at ef721
  refine tw_aload rfl rfl ?_
  refine tw_push rfl ?_
  refine tw_put rfl (fun f722 => ?_)
  refine tG_setm f722 (hw_111_34 f722 ef721.1) (fun hf722 ef722 => ?_)
  try dsimp only [tvI_i] at ef722
  refine tw_aload rfl rfl ?_
  refine tw_iload rfl rfl ?_
  refine tw_if_ne rfl (fun q723 => ?_) (fun q723 => ?_)
  · try dsimp only [tvI_i, tvJ_j, tvR_r] at q723
    have q723i := zneq (Y := 0) (by decide) q723
    refine tw_push rfl ?_
    refine tw_put rfl (fun f724 => ?_)
    refine tG_setm f724 (hw_111_47 f724 ef722.1) (fun hf724 ef724 => ?_)
    try dsimp only [tvI_i] at ef724
    refine tG_loop (zW_mono zTt G dp) (zW_conj zTt G dp) (V := fun pc L st h9 _ _ => pc = 23 ∧ st = [] ∧ ∃ h1, h1 = h9 ∧ mFw h h1 ∧ (¬ tvI (tF h1 111 47) = 0 ↔ tst = true) ∧ ((mP h1 ∧ mD h1 ∧ mDp (mSk h1) ≤ 10 ∧ (mst h1).1 ≤ 4 ∧ mRe T n tst (stN x, [], ms h) (.inr (mst h1))) ∨ ∃ e, mFt h1 e ∧ mZp h1 ∧ mRe T n tst (stN x, [], ms h) (.inl e)) ∧ L = [some (.ref 111), some (.int x)]) ?_ (⟨rfl, rfl, _, rfl, (mRst hx0 hp hd0 ef721 ef722 ef724).1, (by rw [(mRst hx0 hp hd0 ef721 ef722 ef724).2.2.2.2]; exact ⟨fun z => absurd rfl z, fun z => absurd (hts.mpr z) q723⟩), Or.inl ⟨(mRst hx0 hp hd0 ef721 ef722 ef724).2.1, (mRst hx0 hp hd0 ef721 ef722 ef724).2.2.1, (by have z := congrArg (fun q : rMs => q.2.1) (mRst hx0 hp hd0 ef721 ef722 ef724).2.2.2.1; have z : mSk _ = [] := z; rw [z]; exact Nat.zero_le _), (by rw [(mRst hx0 hp hd0 ef721 ef722 ef724).2.2.2.1]; exact hx4), by rw [(mRst hx0 hp hd0 ef721 ef722 ef724).2.2.2.1]; exact mRe_0⟩, rfl⟩)
    rintro _ _ _ _ _ _ ⟨rfl, rfl, h1, rfl, gw, hT1, hv, rfl⟩
    refine tw_aload rfl rfl ?_
    refine tw_getS rfl (hi_111_46 gw.1) ?_
    refine tw_push rfl ?_
    refine tw_ic_eq rfl (fun q725 => ?_) (fun q725 => ?_)
    · try dsimp only [tvI_i, tvJ_j, tvR_r] at q725
      have q725i := zeqi (Y := 4) (by decide) q725
      rcases hv with ⟨hv1, hv2, hv3, hv4, hv6⟩ | ⟨e, hv1, hv2, hv3⟩
      · have hm1 : mst h1 = (4, mSk h1, ms h1) := by unfold mst; rw [q725]; rfl
        rw [hm1] at hv6
        exact tw_vret rfl ⟨rfl, gw, Or.inl ⟨hv1, hv2, hv6⟩⟩
      · exact tw_vret rfl ⟨rfl, gw, Or.inr ⟨e, hv1, hv2, hv3⟩⟩
    · try dsimp only [tvI_i, tvJ_j, tvR_r] at q725
      have q725i := zneq (Y := 4) (by decide) q725
      refine tw_aload rfl rfl ?_
      refine tw_getS rfl (hi_111_29 gw.1) ?_
      refine tw_if_ne rfl (fun q726 => ?_) (fun q726 => ?_)
      · try dsimp only [tvI_i, tvJ_j, tvR_r] at q726
        have q726i := zneq (Y := 0) (by decide) q726
        rcases hv with ⟨hv1, -⟩ | ⟨e, hv1, hv2, hv3⟩
        · exact absurd (mP_0 hv1) q726
        · exact tw_vret rfl ⟨rfl, gw, Or.inr ⟨e, hv1, hv2, hv3⟩⟩
      · try dsimp only [tvI_i, tvJ_j, tvR_r] at q726
        have q726i := zeqi (Y := 0) (by decide) q726
        refine tw_aload rfl rfl ?_
        refine tw_getS rfl (hi_111_46 gw.1) ?_
        refine tw_table rfl (fun q727 => ?_) (fun t9 q727a q727b q727c => ?_)
        · try dsimp only [tvI_i, tvJ_j, tvR_r] at q727
          refine tw_aload rfl rfl ?_
          obtain ⟨hv1, hv2, hv3, hv4, hv6⟩ := hv.resolve_right (fun z => by obtain ⟨e, z, -⟩ := z; exact mFt_n z q726)
          have hst : tvI (tF h1 111 46) = 3 := by
            refine Int32.toInt_inj.mp ?_
            show (tvI (tF h1 111 46)).toInt = 3
            have a4 : stN (tvI (tF h1 111 46)) ≤ 4 := hv4
            unfold stN at a4
            have a6 : ¬ (tvI (tF h1 111 46)).toInt < 0 := fun z => by rw [if_pos z] at a4; omega
            rw [if_neg a6] at a4
            have c29 : (2 : Int32).toInt = 2 := rfl
            have a5 : (tvI (tF h1 111 46)).toInt ≠ 4 := fun z => q725 (Int32.toInt_inj.mp z)
            have z0 := q727
            try dsimp only [tvI_i] at z0
            omega
          refine tw_virt0 rfl (g_behindFact hG hX gw.1 hv1 ((mFw_T gw).trans hT) ((mFw_n gw).trans hN) hv2 (Nat.le_trans hv3 (by decide)) hst) (fun wp728 hp728 p728 => ?_)
          obtain ⟨rfl, gp728, op728⟩ := p728
          refine tw_goto rfl ?_
          have hm1 : mst h1 = (3, mSk h1, ms h1) := by unfold mst; rw [hst]; rfl
          rw [hm1] at hv6
          refine tG_cut (zW_mono zTt G dp) (Or.inr ⟨rfl, rfl, _, rfl, mFw_t gw (mFw_q gp728), (by rw [mFq_47 gp728]; exact hT1), ?_, rfl⟩)
          cases hy : mSt T n tst (3, mSk h1, ms h1) with
          | inl e =>
            have op728 : mOut (mSt T n tst (3, mSk h1, ms h1)) hp728 := op728
            rw [hy] at op728
            exact Or.inr ⟨e, op728.1, op728.2, mRe_t hv6 (mRe_f hy)⟩
          | inr x2 =>
            have op728 : mOut (mSt T n tst (3, mSk h1, ms h1)) hp728 := op728
            rw [hy] at op728
            obtain ⟨o1, o2, o3⟩ := op728
            have hdp := mSt_dp hv3 (by decide) hy
            have o4 := mRe_t hv6 (mRe_s hy mRe_0)
            rw [← o3] at hdp o4
            exact Or.inl ⟨o1, o2, hdp.1, hdp.2, o4⟩
        · have q727d : (tvI (.int (tvI (tF h1 111 46)))).toInt = 0 ∨ (tvI (.int (tvI (tF h1 111 46)))).toInt = 1 ∨ (tvI (.int (tvI (tF h1 111 46)))).toInt = 2 := by omega
          rcases q727d with q727 | q727 | q727
          · obtain rfl : t9 = 68 := by rw [q727] at q727c; exact Option.some.inj (q727c.symm.trans rfl)
            try dsimp only [tvI_i, tvJ_j, tvR_r] at q727
            refine tw_aload rfl rfl ?_
            obtain ⟨hv1, hv2, hv3, hv4, hv6⟩ := hv.resolve_right (fun z => by obtain ⟨e, z, -⟩ := z; exact mFt_n z q726)
            have hst : tvI (tF h1 111 46) = 0 := by
              refine Int32.toInt_inj.mp ?_
              show (tvI (tF h1 111 46)).toInt = 0
              have a4 : stN (tvI (tF h1 111 46)) ≤ 4 := hv4
              unfold stN at a4
              have a6 : ¬ (tvI (tF h1 111 46)).toInt < 0 := fun z => by rw [if_pos z] at a4; omega
              rw [if_neg a6] at a4
              have c29 : (2 : Int32).toInt = 2 := rfl
              have a5 : (tvI (tF h1 111 46)).toInt ≠ 4 := fun z => q725 (Int32.toInt_inj.mp z)
              have z0 := q727
              try dsimp only [tvI_i] at z0
              omega
            refine tw_virt0 rfl (g_beginsFact hG hX gw.1 hv1 ((mFw_T gw).trans hT) ((mFw_n gw).trans hN) hv2 (Nat.le_trans hv3 (by decide)) hst) (fun wp729 hp729 p729 => ?_)
            obtain ⟨rfl, gp729, op729⟩ := p729
            refine tw_goto rfl ?_
            have hm1 : mst h1 = (0, mSk h1, ms h1) := by unfold mst; rw [hst]; rfl
            rw [hm1] at hv6
            refine tG_cut (zW_mono zTt G dp) (Or.inr ⟨rfl, rfl, _, rfl, mFw_t gw (mFw_q gp729), (by rw [mFq_47 gp729]; exact hT1), ?_, rfl⟩)
            cases hy : mSt T n tst (0, mSk h1, ms h1) with
            | inl e =>
              have op729 : mOut (mSt T n tst (0, mSk h1, ms h1)) hp729 := op729
              rw [hy] at op729
              exact Or.inr ⟨e, op729.1, op729.2, mRe_t hv6 (mRe_f hy)⟩
            | inr x2 =>
              have op729 : mOut (mSt T n tst (0, mSk h1, ms h1)) hp729 := op729
              rw [hy] at op729
              obtain ⟨o1, o2, o3⟩ := op729
              have hdp := mSt_dp hv3 (by decide) hy
              have o4 := mRe_t hv6 (mRe_s hy mRe_0)
              rw [← o3] at hdp o4
              exact Or.inl ⟨o1, o2, hdp.1, hdp.2, o4⟩
          · obtain rfl : t9 = 75 := by rw [q727] at q727c; exact Option.some.inj (q727c.symm.trans rfl)
            try dsimp only [tvI_i, tvJ_j, tvR_r] at q727
            refine tw_aload rfl rfl ?_
            obtain ⟨hv1, hv2, hv3, hv4, hv6⟩ := hv.resolve_right (fun z => by obtain ⟨e, z, -⟩ := z; exact mFt_n z q726)
            have hst : tvI (tF h1 111 46) = 1 := by
              refine Int32.toInt_inj.mp ?_
              show (tvI (tF h1 111 46)).toInt = 1
              have a4 : stN (tvI (tF h1 111 46)) ≤ 4 := hv4
              unfold stN at a4
              have a6 : ¬ (tvI (tF h1 111 46)).toInt < 0 := fun z => by rw [if_pos z] at a4; omega
              rw [if_neg a6] at a4
              have c29 : (2 : Int32).toInt = 2 := rfl
              have a5 : (tvI (tF h1 111 46)).toInt ≠ 4 := fun z => q725 (Int32.toInt_inj.mp z)
              have z0 := q727
              try dsimp only [tvI_i] at z0
              omega
            refine tw_virt0 rfl (g_value hG hX gw.1 hv1 ((mFw_T gw).trans hT) ((mFw_n gw).trans hN) hv2 (Nat.le_trans hv3 (by decide)) hst) (fun wp730 hp730 p730 => ?_)
            obtain ⟨rfl, gp730, op730⟩ := p730
            refine tw_goto rfl ?_
            have hm1 : mst h1 = (1, mSk h1, ms h1) := by unfold mst; rw [hst]; rfl
            rw [hm1] at hv6
            refine tG_cut (zW_mono zTt G dp) (Or.inr ⟨rfl, rfl, _, rfl, mFw_t gw (mFw_q gp730), (by rw [mFq_47 gp730]; exact hT1), ?_, rfl⟩)
            cases hy : mSt T n tst (1, mSk h1, ms h1) with
            | inl e =>
              have op730 : mOut (mSt T n tst (1, mSk h1, ms h1)) hp730 := op730
              rw [hy] at op730
              exact Or.inr ⟨e, op730.1, op730.2, mRe_t hv6 (mRe_f hy)⟩
            | inr x2 =>
              have op730 : mOut (mSt T n tst (1, mSk h1, ms h1)) hp730 := op730
              rw [hy] at op730
              obtain ⟨o1, o2, o3⟩ := op730
              have hdp := mSt_dp hv3 (by decide) hy
              have o4 := mRe_t hv6 (mRe_s hy mRe_0)
              rw [← o3] at hdp o4
              exact Or.inl ⟨o1, o2, hdp.1, hdp.2, o4⟩
          · obtain rfl : t9 = 82 := by rw [q727] at q727c; exact Option.some.inj (q727c.symm.trans rfl)
            try dsimp only [tvI_i, tvJ_j, tvR_r] at q727
            refine tw_aload rfl rfl ?_
            obtain ⟨hv1, hv2, hv3, hv4, hv6⟩ := hv.resolve_right (fun z => by obtain ⟨e, z, -⟩ := z; exact mFt_n z q726)
            have hst : tvI (tF h1 111 46) = 2 := by
              refine Int32.toInt_inj.mp ?_
              show (tvI (tF h1 111 46)).toInt = 2
              have a4 : stN (tvI (tF h1 111 46)) ≤ 4 := hv4
              unfold stN at a4
              have a6 : ¬ (tvI (tF h1 111 46)).toInt < 0 := fun z => by rw [if_pos z] at a4; omega
              rw [if_neg a6] at a4
              have c29 : (2 : Int32).toInt = 2 := rfl
              have a5 : (tvI (tF h1 111 46)).toInt ≠ 4 := fun z => q725 (Int32.toInt_inj.mp z)
              have z0 := q727
              try dsimp only [tvI_i] at z0
              omega
            refine tw_virt0 rfl (g_behindValue hG hX gw.1 hv1 ((mFw_T gw).trans hT) ((mFw_n gw).trans hN) hv2 (Nat.le_trans hv3 (by decide)) (tst := tst) hT1 hst) (fun wp731 hp731 p731 => ?_)
            obtain ⟨rfl, gp731, op731⟩ := p731
            refine tw_goto rfl ?_
            have hm1 : mst h1 = (2, mSk h1, ms h1) := by unfold mst; rw [hst]; rfl
            rw [hm1] at hv6
            refine tG_cut (zW_mono zTt G dp) (Or.inr ⟨rfl, rfl, _, rfl, mFw_t gw (mFw_q gp731), (by rw [mFq_47 gp731]; exact hT1), ?_, rfl⟩)
            cases hy : mSt T n tst (2, mSk h1, ms h1) with
            | inl e =>
              have op731 : mOut (mSt T n tst (2, mSk h1, ms h1)) hp731 := op731
              rw [hy] at op731
              exact Or.inr ⟨e, op731.1, op731.2, mRe_t hv6 (mRe_f hy)⟩
            | inr x2 =>
              have op731 : mOut (mSt T n tst (2, mSk h1, ms h1)) hp731 := op731
              rw [hy] at op731
              obtain ⟨o1, o2, o3⟩ := op731
              have hdp := mSt_dp hv3 (by decide) hy
              have o4 := mRe_t hv6 (mRe_s hy mRe_0)
              rw [← o3] at hdp o4
              exact Or.inl ⟨o1, o2, hdp.1, hdp.2, o4⟩
  · try dsimp only [tvI_i, tvJ_j, tvR_r] at q723
    have q723i := zeqi (Y := 0) (by decide) q723
    refine tw_push rfl ?_
    refine tw_goto rfl ?_
    refine tw_put rfl (fun f732 => ?_)
    refine tG_setm f732 (hw_111_47 f732 ef722.1) (fun hf732 ef732 => ?_)
    try dsimp only [tvI_i] at ef732
    refine tG_loop (zW_mono zTt G dp) (zW_conj zTt G dp) (V := fun pc L st h9 _ _ => pc = 23 ∧ st = [] ∧ ∃ h1, h1 = h9 ∧ mFw h h1 ∧ (¬ tvI (tF h1 111 47) = 0 ↔ tst = true) ∧ ((mP h1 ∧ mD h1 ∧ mDp (mSk h1) ≤ 10 ∧ (mst h1).1 ≤ 4 ∧ mRe T n tst (stN x, [], ms h) (.inr (mst h1))) ∨ ∃ e, mFt h1 e ∧ mZp h1 ∧ mRe T n tst (stN x, [], ms h) (.inl e)) ∧ L = [some (.ref 111), some (.int x)]) ?_ (⟨rfl, rfl, _, rfl, (mRst hx0 hp hd0 ef721 ef722 ef732).1, (by rw [(mRst hx0 hp hd0 ef721 ef722 ef732).2.2.2.2]; exact ⟨fun _ => hts.mp q723, fun _ => by decide⟩), Or.inl ⟨(mRst hx0 hp hd0 ef721 ef722 ef732).2.1, (mRst hx0 hp hd0 ef721 ef722 ef732).2.2.1, (by have z := congrArg (fun q : rMs => q.2.1) (mRst hx0 hp hd0 ef721 ef722 ef732).2.2.2.1; have z : mSk _ = [] := z; rw [z]; exact Nat.zero_le _), (by rw [(mRst hx0 hp hd0 ef721 ef722 ef732).2.2.2.1]; exact hx4), by rw [(mRst hx0 hp hd0 ef721 ef722 ef732).2.2.2.1]; exact mRe_0⟩, rfl⟩)
    rintro _ _ _ _ _ _ ⟨rfl, rfl, h1, rfl, gw, hT1, hv, rfl⟩
    refine tw_aload rfl rfl ?_
    refine tw_getS rfl (hi_111_46 gw.1) ?_
    refine tw_push rfl ?_
    refine tw_ic_eq rfl (fun q733 => ?_) (fun q733 => ?_)
    · try dsimp only [tvI_i, tvJ_j, tvR_r] at q733
      have q733i := zeqi (Y := 4) (by decide) q733
      rcases hv with ⟨hv1, hv2, hv3, hv4, hv6⟩ | ⟨e, hv1, hv2, hv3⟩
      · have hm1 : mst h1 = (4, mSk h1, ms h1) := by unfold mst; rw [q733]; rfl
        rw [hm1] at hv6
        exact tw_vret rfl ⟨rfl, gw, Or.inl ⟨hv1, hv2, hv6⟩⟩
      · exact tw_vret rfl ⟨rfl, gw, Or.inr ⟨e, hv1, hv2, hv3⟩⟩
    · try dsimp only [tvI_i, tvJ_j, tvR_r] at q733
      have q733i := zneq (Y := 4) (by decide) q733
      refine tw_aload rfl rfl ?_
      refine tw_getS rfl (hi_111_29 gw.1) ?_
      refine tw_if_ne rfl (fun q734 => ?_) (fun q734 => ?_)
      · try dsimp only [tvI_i, tvJ_j, tvR_r] at q734
        have q734i := zneq (Y := 0) (by decide) q734
        rcases hv with ⟨hv1, -⟩ | ⟨e, hv1, hv2, hv3⟩
        · exact absurd (mP_0 hv1) q734
        · exact tw_vret rfl ⟨rfl, gw, Or.inr ⟨e, hv1, hv2, hv3⟩⟩
      · try dsimp only [tvI_i, tvJ_j, tvR_r] at q734
        have q734i := zeqi (Y := 0) (by decide) q734
        refine tw_aload rfl rfl ?_
        refine tw_getS rfl (hi_111_46 gw.1) ?_
        refine tw_table rfl (fun q735 => ?_) (fun t9 q735a q735b q735c => ?_)
        · try dsimp only [tvI_i, tvJ_j, tvR_r] at q735
          refine tw_aload rfl rfl ?_
          obtain ⟨hv1, hv2, hv3, hv4, hv6⟩ := hv.resolve_right (fun z => by obtain ⟨e, z, -⟩ := z; exact mFt_n z q734)
          have hst : tvI (tF h1 111 46) = 3 := by
            refine Int32.toInt_inj.mp ?_
            show (tvI (tF h1 111 46)).toInt = 3
            have a4 : stN (tvI (tF h1 111 46)) ≤ 4 := hv4
            unfold stN at a4
            have a6 : ¬ (tvI (tF h1 111 46)).toInt < 0 := fun z => by rw [if_pos z] at a4; omega
            rw [if_neg a6] at a4
            have c29 : (2 : Int32).toInt = 2 := rfl
            have a5 : (tvI (tF h1 111 46)).toInt ≠ 4 := fun z => q733 (Int32.toInt_inj.mp z)
            have z0 := q735
            try dsimp only [tvI_i] at z0
            omega
          refine tw_virt0 rfl (g_behindFact hG hX gw.1 hv1 ((mFw_T gw).trans hT) ((mFw_n gw).trans hN) hv2 (Nat.le_trans hv3 (by decide)) hst) (fun wp736 hp736 p736 => ?_)
          obtain ⟨rfl, gp736, op736⟩ := p736
          refine tw_goto rfl ?_
          have hm1 : mst h1 = (3, mSk h1, ms h1) := by unfold mst; rw [hst]; rfl
          rw [hm1] at hv6
          refine tG_cut (zW_mono zTt G dp) (Or.inr ⟨rfl, rfl, _, rfl, mFw_t gw (mFw_q gp736), (by rw [mFq_47 gp736]; exact hT1), ?_, rfl⟩)
          cases hy : mSt T n tst (3, mSk h1, ms h1) with
          | inl e =>
            have op736 : mOut (mSt T n tst (3, mSk h1, ms h1)) hp736 := op736
            rw [hy] at op736
            exact Or.inr ⟨e, op736.1, op736.2, mRe_t hv6 (mRe_f hy)⟩
          | inr x2 =>
            have op736 : mOut (mSt T n tst (3, mSk h1, ms h1)) hp736 := op736
            rw [hy] at op736
            obtain ⟨o1, o2, o3⟩ := op736
            have hdp := mSt_dp hv3 (by decide) hy
            have o4 := mRe_t hv6 (mRe_s hy mRe_0)
            rw [← o3] at hdp o4
            exact Or.inl ⟨o1, o2, hdp.1, hdp.2, o4⟩
        · have q735d : (tvI (.int (tvI (tF h1 111 46)))).toInt = 0 ∨ (tvI (.int (tvI (tF h1 111 46)))).toInt = 1 ∨ (tvI (.int (tvI (tF h1 111 46)))).toInt = 2 := by omega
          rcases q735d with q735 | q735 | q735
          · obtain rfl : t9 = 68 := by rw [q735] at q735c; exact Option.some.inj (q735c.symm.trans rfl)
            try dsimp only [tvI_i, tvJ_j, tvR_r] at q735
            refine tw_aload rfl rfl ?_
            obtain ⟨hv1, hv2, hv3, hv4, hv6⟩ := hv.resolve_right (fun z => by obtain ⟨e, z, -⟩ := z; exact mFt_n z q734)
            have hst : tvI (tF h1 111 46) = 0 := by
              refine Int32.toInt_inj.mp ?_
              show (tvI (tF h1 111 46)).toInt = 0
              have a4 : stN (tvI (tF h1 111 46)) ≤ 4 := hv4
              unfold stN at a4
              have a6 : ¬ (tvI (tF h1 111 46)).toInt < 0 := fun z => by rw [if_pos z] at a4; omega
              rw [if_neg a6] at a4
              have c29 : (2 : Int32).toInt = 2 := rfl
              have a5 : (tvI (tF h1 111 46)).toInt ≠ 4 := fun z => q733 (Int32.toInt_inj.mp z)
              have z0 := q735
              try dsimp only [tvI_i] at z0
              omega
            refine tw_virt0 rfl (g_beginsFact hG hX gw.1 hv1 ((mFw_T gw).trans hT) ((mFw_n gw).trans hN) hv2 (Nat.le_trans hv3 (by decide)) hst) (fun wp737 hp737 p737 => ?_)
            obtain ⟨rfl, gp737, op737⟩ := p737
            refine tw_goto rfl ?_
            have hm1 : mst h1 = (0, mSk h1, ms h1) := by unfold mst; rw [hst]; rfl
            rw [hm1] at hv6
            refine tG_cut (zW_mono zTt G dp) (Or.inr ⟨rfl, rfl, _, rfl, mFw_t gw (mFw_q gp737), (by rw [mFq_47 gp737]; exact hT1), ?_, rfl⟩)
            cases hy : mSt T n tst (0, mSk h1, ms h1) with
            | inl e =>
              have op737 : mOut (mSt T n tst (0, mSk h1, ms h1)) hp737 := op737
              rw [hy] at op737
              exact Or.inr ⟨e, op737.1, op737.2, mRe_t hv6 (mRe_f hy)⟩
            | inr x2 =>
              have op737 : mOut (mSt T n tst (0, mSk h1, ms h1)) hp737 := op737
              rw [hy] at op737
              obtain ⟨o1, o2, o3⟩ := op737
              have hdp := mSt_dp hv3 (by decide) hy
              have o4 := mRe_t hv6 (mRe_s hy mRe_0)
              rw [← o3] at hdp o4
              exact Or.inl ⟨o1, o2, hdp.1, hdp.2, o4⟩
          · obtain rfl : t9 = 75 := by rw [q735] at q735c; exact Option.some.inj (q735c.symm.trans rfl)
            try dsimp only [tvI_i, tvJ_j, tvR_r] at q735
            refine tw_aload rfl rfl ?_
            obtain ⟨hv1, hv2, hv3, hv4, hv6⟩ := hv.resolve_right (fun z => by obtain ⟨e, z, -⟩ := z; exact mFt_n z q734)
            have hst : tvI (tF h1 111 46) = 1 := by
              refine Int32.toInt_inj.mp ?_
              show (tvI (tF h1 111 46)).toInt = 1
              have a4 : stN (tvI (tF h1 111 46)) ≤ 4 := hv4
              unfold stN at a4
              have a6 : ¬ (tvI (tF h1 111 46)).toInt < 0 := fun z => by rw [if_pos z] at a4; omega
              rw [if_neg a6] at a4
              have c29 : (2 : Int32).toInt = 2 := rfl
              have a5 : (tvI (tF h1 111 46)).toInt ≠ 4 := fun z => q733 (Int32.toInt_inj.mp z)
              have z0 := q735
              try dsimp only [tvI_i] at z0
              omega
            refine tw_virt0 rfl (g_value hG hX gw.1 hv1 ((mFw_T gw).trans hT) ((mFw_n gw).trans hN) hv2 (Nat.le_trans hv3 (by decide)) hst) (fun wp738 hp738 p738 => ?_)
            obtain ⟨rfl, gp738, op738⟩ := p738
            refine tw_goto rfl ?_
            have hm1 : mst h1 = (1, mSk h1, ms h1) := by unfold mst; rw [hst]; rfl
            rw [hm1] at hv6
            refine tG_cut (zW_mono zTt G dp) (Or.inr ⟨rfl, rfl, _, rfl, mFw_t gw (mFw_q gp738), (by rw [mFq_47 gp738]; exact hT1), ?_, rfl⟩)
            cases hy : mSt T n tst (1, mSk h1, ms h1) with
            | inl e =>
              have op738 : mOut (mSt T n tst (1, mSk h1, ms h1)) hp738 := op738
              rw [hy] at op738
              exact Or.inr ⟨e, op738.1, op738.2, mRe_t hv6 (mRe_f hy)⟩
            | inr x2 =>
              have op738 : mOut (mSt T n tst (1, mSk h1, ms h1)) hp738 := op738
              rw [hy] at op738
              obtain ⟨o1, o2, o3⟩ := op738
              have hdp := mSt_dp hv3 (by decide) hy
              have o4 := mRe_t hv6 (mRe_s hy mRe_0)
              rw [← o3] at hdp o4
              exact Or.inl ⟨o1, o2, hdp.1, hdp.2, o4⟩
          · obtain rfl : t9 = 82 := by rw [q735] at q735c; exact Option.some.inj (q735c.symm.trans rfl)
            try dsimp only [tvI_i, tvJ_j, tvR_r] at q735
            refine tw_aload rfl rfl ?_
            obtain ⟨hv1, hv2, hv3, hv4, hv6⟩ := hv.resolve_right (fun z => by obtain ⟨e, z, -⟩ := z; exact mFt_n z q734)
            have hst : tvI (tF h1 111 46) = 2 := by
              refine Int32.toInt_inj.mp ?_
              show (tvI (tF h1 111 46)).toInt = 2
              have a4 : stN (tvI (tF h1 111 46)) ≤ 4 := hv4
              unfold stN at a4
              have a6 : ¬ (tvI (tF h1 111 46)).toInt < 0 := fun z => by rw [if_pos z] at a4; omega
              rw [if_neg a6] at a4
              have c29 : (2 : Int32).toInt = 2 := rfl
              have a5 : (tvI (tF h1 111 46)).toInt ≠ 4 := fun z => q733 (Int32.toInt_inj.mp z)
              have z0 := q735
              try dsimp only [tvI_i] at z0
              omega
            refine tw_virt0 rfl (g_behindValue hG hX gw.1 hv1 ((mFw_T gw).trans hT) ((mFw_n gw).trans hN) hv2 (Nat.le_trans hv3 (by decide)) (tst := tst) hT1 hst) (fun wp739 hp739 p739 => ?_)
            obtain ⟨rfl, gp739, op739⟩ := p739
            refine tw_goto rfl ?_
            have hm1 : mst h1 = (2, mSk h1, ms h1) := by unfold mst; rw [hst]; rfl
            rw [hm1] at hv6
            refine tG_cut (zW_mono zTt G dp) (Or.inr ⟨rfl, rfl, _, rfl, mFw_t gw (mFw_q gp739), (by rw [mFq_47 gp739]; exact hT1), ?_, rfl⟩)
            cases hy : mSt T n tst (2, mSk h1, ms h1) with
            | inl e =>
              have op739 : mOut (mSt T n tst (2, mSk h1, ms h1)) hp739 := op739
              rw [hy] at op739
              exact Or.inr ⟨e, op739.1, op739.2, mRe_t hv6 (mRe_f hy)⟩
            | inr x2 =>
              have op739 : mOut (mSt T n tst (2, mSk h1, ms h1)) hp739 := op739
              rw [hy] at op739
              obtain ⟨o1, o2, o3⟩ := op739
              have hdp := mSt_dp hv3 (by decide) hy
              have o4 := mRe_t hv6 (mRe_s hy mRe_0)
              rw [← o3] at hdp o4
              exact Or.inl ⟨o1, o2, hdp.1, hdp.2, o4⟩
/-! the model's clause, held against what the class found -/
section R8
variable {T : Nat → Int32} {n c k : Nat} {s s0 s1 s2 s9 : rS} {r : Nat ⊕ (rS × rCt)} {e th f0 : Nat}
theorem rM_bb {M p : Nat} : rM T n M (rB T n p) = rM T n M p := by
  unfold rM
  rw [rB_2]
theorem rCl_0 (h : rCl T n c s r) (hk : ∀ k, 12 ≤ k → k ≤ 15 → ¬ rW T n (rB T n s.1) (rWd k) = true) : r = .inl (1 + 8 * rB T n s.1 + 0) := by
  rcases h with ⟨_, h⟩ | ⟨j, h1, h2, h3, _⟩
  · exact h
  · exact absurd h3 (hk j h1 h2)
theorem rCl_w (h : rCl T n c s r) (h1 : 12 ≤ k) (h2 : k ≤ 15) (hw : rW T n (rB T n s.1) (rWd k) = true) : (c = 12 ∧ r = .inl (1 + 8 * rB T n s.1 + 4)) ∨ (c ≠ 12 ∧ rCl1 T n k (rA (rE T n (rB T n s.1)) s) r) := by
  rcases h with ⟨h, _⟩ | ⟨j, j1, j2, j3, h⟩
  · exact absurd hw (h k h1 h2)
  · obtain rfl := rW_ij (by omega) (by omega) j3 hw
    exact h
theorem rCl_cc (h : rCl T n c s r) (h1 : 12 ≤ k) (h2 : k ≤ 15) (hw : rW T n (rB T n s.1) (rWd k) = true) (hc : c = 12) : r = .inl (1 + 8 * rB T n s.1 + 4) := by
  rcases rCl_w h h1 h2 hw with ⟨_, z⟩ | ⟨z, _⟩
  · exact z
  · exact absurd hc z
theorem rCl_g (h : rCl T n c s r) (h1 : 12 ≤ k) (h2 : k ≤ 15) (hw : rW T n (rB T n s.1) (rWd k) = true) (hc : c ≠ 12) : rCl1 T n k (rA (rE T n (rB T n s.1)) s) r := by
  rcases rCl_w h h1 h2 hw with ⟨z, _⟩ | ⟨_, z⟩
  · exact absurd z hc
  · exact z
theorem rCl1_e (h : rCl1 T n k s0 r) (hk : k = 12) (hm : rM T n 2 s0.1 = .inl e) : r = .inl e := by
  rcases h with ⟨_, ⟨e2, h2, h3⟩ | ⟨q, h2, _⟩⟩ | ⟨z, _⟩
  · rw [hm] at h2; cases h2; exact h3
  · rw [hm] at h2; cases h2
  · exact absurd hk z
theorem rCl1_q {q : Nat × Nat} (h : rCl1 T n k s0 r) (hk : k = 12) (hm : rM T n 2 s0.1 = .inr q) : rCl2 T n k q.2 (rA q.1 s0) r := by
  rcases h with ⟨_, ⟨e2, h2, h3⟩ | ⟨q2, h2, h3⟩⟩ | ⟨z, _⟩
  · rw [hm] at h2; cases h2
  · rw [hm] at h2; cases h2; exact h3
  · exact absurd hk z
theorem rCl1_n (h : rCl1 T n k s0 r) (hk : k ≠ 12) : rCl2 T n k k s0 r := by
  rcases h with ⟨z, _⟩ | ⟨_, h⟩
  · exact absurd z hk
  · exact h
theorem rCl2_15 (h : rCl2 T n k th s1 r) (hk : k = 15) : rCl3 T n k th s1.2.2.length s1 r := by
  rcases h with ⟨_, h⟩ | ⟨z, _⟩
  · exact h
  · exact absurd hk z
theorem pE_mS {r : Nat ⊕ rS} {y : rMo} (h : pE T n 3 0 s r) (m : mRe T n false (1, [], s) y) (hy : mHt y) : y = mEnd (r.map id (fun z => rA (rB T n z.1) z)) := by
  obtain ⟨N, hN⟩ := h
  refine mRe_u m (mSum (hN N (Nat.le_refl _))) hy ?_
  cases r with
  | inl e => exact trivial
  | inr s2 => exact Nat.le_refl 4
theorem pE_mT {r : Nat ⊕ rS} {y : rMo} (h : pE T n 9 0 s r) (m : mRe T n true (0, [], s) y) (hy : mHt y) : y = mEnd (r.map id (fun z => rA (rB T n z.1) z)) := by
  obtain ⟨N, hN⟩ := h
  refine mRe_u m (mTst (hN N (Nat.le_refl _))) hy ?_
  cases r with
  | inl e => exact trivial
  | inr s2 => exact Nat.le_refl 4
theorem rCl2_e (h : rCl2 T n k th s1 r) (hk : k ≠ 15) (hm : mRe T n false (1, [], s1) (.inl e)) : r = .inl e := by
  rcases h with ⟨z, _⟩ | ⟨_, ⟨e2, h2, h3⟩ | ⟨s2, h2, _⟩⟩
  · exact absurd z hk
  · have z := pE_mS h2 hm trivial
    cases z
    exact h3
  · have z := pE_mS h2 hm trivial
    cases z
theorem rCl2_s {S : List Nat} (h : rCl2 T n k th s1 r) (hk : k ≠ 15) (hm : mRe T n false (1, [], s1) (.inr (4, S, s9))) : S = [] ∧ ∃ s2, s9 = rA (rB T n s2.1) s2 ∧ rCl3 T n k th s1.2.2.length s2 r := by
  rcases h with ⟨z, _⟩ | ⟨_, ⟨e2, h2, _⟩ | ⟨s2, h2, h3⟩⟩
  · exact absurd z hk
  · have z := pE_mS h2 hm (Nat.le_refl 4)
    cases z
  · have z := pE_mS h2 hm (Nat.le_refl 4)
    have z : (Sum.inr (4, S, s9) : rMo) = .inr (4, [], rA (rB T n s2.1) s2) := z
    cases z
    exact ⟨rfl, s2, rfl, h3⟩
theorem rCl3_e (h : rCl3 T n k th f0 s2 r) (hw : rW T n (rB T n s2.1) (rWd 16) = true) (hm : mRe T n true (0, [], rA (rB T n s2.1 + 2) s2) (.inl e)) : r = .inl e := by
  rcases h with ⟨_, ⟨e2, h2, h3⟩ | ⟨s3, h2, _⟩⟩ | ⟨z, _⟩ | ⟨z, _⟩
  · have z := pE_mT h2 hm trivial
    cases z
    exact h3
  · have z := pE_mT h2 hm trivial
    cases z
  · exact absurd hw z
  · exact absurd hw z
theorem rCl3_s {S : List Nat} (h : rCl3 T n k th f0 s2 r) (hw : rW T n (rB T n s2.1) (rWd 16) = true) (hm : mRe T n true (0, [], rA (rB T n s2.1 + 2) s2) (.inr (4, S, s9))) : S = [] ∧ ∃ s3, s9 = rA (rB T n s3.1) s3 ∧ r = .inr (s3, th, f0, s2.2.2.length, s3.2.2.length) := by
  rcases h with ⟨_, ⟨e2, h2, _⟩ | ⟨s3, h2, h3⟩⟩ | ⟨z, _⟩ | ⟨z, _⟩
  · have z := pE_mT h2 hm (Nat.le_refl 4)
    cases z
  · have z := pE_mT h2 hm (Nat.le_refl 4)
    have z : (Sum.inr (4, S, s9) : rMo) = .inr (4, [], rA (rB T n s3.1) s3) := z
    cases z
    exact ⟨rfl, s3, rfl, h3⟩
  · exact absurd hw z
  · exact absurd hw z
theorem rCl3_1 (h : rCl3 T n k th f0 s2 r) (hw : ¬ rW T n (rB T n s2.1) (rWd 16) = true) (hk : k = 15) : r = .inl (1 + 8 * rB T n s2.1 + 0) := by
  rcases h with ⟨z, _⟩ | ⟨_, _, h⟩ | ⟨_, z, _⟩
  · exact absurd z hw
  · exact h
  · exact absurd hk z
theorem rCl3_2 (h : rCl3 T n k th f0 s2 r) (hw : ¬ rW T n (rB T n s2.1) (rWd 16) = true) (hk : k ≠ 15) : r = .inr (rA (rB T n s2.1) s2, th, f0, s2.2.2.length, s2.2.2.length) := by
  rcases h with ⟨z, _⟩ | ⟨_, z, _⟩ | ⟨_, _, h⟩
  · exact absurd z hw
  · exact absurd z hk
  · exact h
end R8
/-! a whole clause's frame: what lies below lo stays -/
noncomputable def mFz (lo : Nat) (h h2 : zH) : Prop := tSh h2 ∧ (∀ p b, ¬ (p = 111 ∧ (mFs b ∨ b = 46 ∨ b = 47)) → tF h2 p b = tF h p b) ∧ (∀ p, p ≠ 133 → p ≠ 134 → p ≠ 142 → (p < 135 ∨ 139 < p) → tA h2 p = tA h p) ∧ tN h2 = tN h ∧ mLo h h2 ∧ ∀ p q, 135 ≤ p → p ≤ 139 → q < lo → tA h2 p q = tA h p q
noncomputable def mAs (p i : Nat) (x : Int32) (h h3 : zH) : Prop := tSh h3 ∧ tF h3 = tF h ∧ tN h3 = tN h ∧ tA h3 = fun q j => if q = p ∧ j = i then x else tA h q j
section MZ
variable {h h1 h2 h3 : zH} {b e lo p i : Nat} {X x : Int32}
theorem mFz_r (hs : tSh h) : mFz lo h h := ⟨hs, fun _ _ _ => rfl, fun _ _ _ _ _ => rfl, rfl, mLo_r, fun _ _ _ _ _ => rfl⟩
theorem mFz_w (k : mFw h h2) : mFz lo h h2 := ⟨k.1, k.2.1, fun p a b c _ => k.2.2.1 p a b c, k.2.2.2.1, k.2.2.2.2, fun p q h1 h2 _ => congrFun (k.2.2.1 p (by omega) (by omega) (by omega)) q⟩
theorem mFw_f (k : mFr h h2) : mFw h h2 := mFw_q (mFq_f k)
theorem mFz_t (a : mFz lo h h1) (k : mFz lo h1 h2) : mFz lo h h2 := ⟨k.1, fun p q z => (k.2.1 p q z).trans (a.2.1 p q z), fun p z w y v => (k.2.2.1 p z w y v).trans (a.2.2.1 p z w y v), k.2.2.2.1.trans a.2.2.2.1, mLo_t (a.2.1 111 30 (fun z => by have z := z.2; unfold mFs at z; omega)) a.2.2.2.2.1 k.2.2.2.2.1, fun p q z w v => (k.2.2.2.2.2 p q z w v).trans (a.2.2.2.2.2 p q z w v)⟩
theorem mFz_l {l2 : Nat} (hl : l2 ≤ lo) (a : mFz lo h h1) : mFz l2 h h1 := ⟨a.1, a.2.1, a.2.2.1, a.2.2.2.1, a.2.2.2.2.1, fun p q z w v => a.2.2.2.2.2 p q z w (by omega)⟩
theorem mFz_s (a : mFz lo h h1) (k : mSet b X h1 h2) (hb : mFs b ∨ b = 46 ∨ b = 47) : mFz lo h h2 := mFz_t a (mFz_w (mFw_s ⟨a.1, fun _ _ _ => rfl, fun _ _ _ _ => rfl, rfl, mLo_r⟩ k hb))
theorem mFz_a (a : mFz lo h h1) (k : mAs p i x h1 h2) (hp : 135 ≤ p ∧ p ≤ 139) (hi : lo ≤ i) : mFz lo h h2 := mFz_t a ⟨k.1, fun p q _ => by rw [k.2.1], fun q h1 h2 h3 h4 => by rw [k.2.2.2]; funext j; exact if_neg (fun z => by omega), k.2.2.1, fun q _ => ⟨by rw [k.2.2.2]; exact if_neg (fun z => by omega), by rw [k.2.2.2]; exact if_neg (fun z => by omega)⟩, fun q j h1 h2 h3 => by rw [k.2.2.2]; exact if_neg (fun z => by omega)⟩
theorem mFz_T (a : mFz lo h h1) : tA h1 132 = tA h 132 := a.2.2.1 132 (by decide) (by decide) (by decide) (by decide)
theorem mFz_i {q : Nat} (a : mFz lo h h1) (hq : ¬ (mFs q ∨ q = 46 ∨ q = 47)) : tF h1 111 q = tF h 111 q := a.2.1 111 q (fun z => hq z.2)
theorem mFz_27 (a : mFz lo h h1) : tF h1 111 27 = tF h 111 27 := mFz_i a (fun z => by unfold mFs at z; omega)
theorem mFz_30 (a : mFz lo h h1) : tF h1 111 30 = tF h 111 30 := mFz_i a (fun z => by unfold mFs at z; omega)
theorem mFz_n (a : mFz lo h h1) : mn h1 = mn h := by
  unfold mn
  rw [mFz_27 a]
theorem tG_ast {tt : zT} {G : zG} {cd : zK} {bc bs : Nat} {rt : Option FieldType} {M : zM} {Q : zQ} {Z : zX} {f : Bool} {pc : Nat} {L : zL} {st : List Value} {c n kd : Nat} {i : Int32} (hf : tIn h p kd i) (hs : tSh h) (k : ∀ h3, mAs p i.toNatClampNeg x h h3 → tG tt G cd bc bs rt M Q Z f pc L st h3 c n) : tG tt G cd bc bs rt M Q Z f pc L st (tSA h p i.toNatClampNeg x) c n := k _ ⟨tSh_SA hs, tF_tSA _ _ _ _, tN_tSA _ _ _ _, tA_tSA hf.cell _ _⟩
theorem mAs_x (k : mAs p i x h h3) : tA h3 p i = x := by rw [k.2.2.2]; exact if_pos ⟨rfl, rfl⟩
theorem mAs_o {q j : Nat} (k : mAs p i x h h3) (hq : q ≠ p) : tA h3 q j = tA h q j := by rw [k.2.2.2]; exact if_neg (fun z => hq z.1)
theorem mAs_A {q : Nat} (k : mAs p i x h h3) (hq : q ≠ p) : tA h3 q = tA h q := by funext j; exact mAs_o k hq
theorem mAs_P (k : mAs p i x h h3) (hp : 135 ≤ p ∧ p ≤ 139) (P : mP h) : mP h3 := by
  unfold mP
  rw [k.2.1, k.2.2.1, mAs_A k (q := 142) (by omega)]
  exact P
theorem mAs_m (k : mAs p i x h h3) (hp : 135 ≤ p ∧ p ≤ 139) : ms h3 = ms h ∧ mSk h3 = mSk h := by
  unfold ms mEn mSk
  rw [k.2.1, mAs_A k (q := 142) (by omega), mAs_A k (q := 133) (by omega), mAs_A k (q := 134) (by omega)]
  exact ⟨rfl, rfl⟩
theorem mAs_F {w : Nat} (k : mAs p i x h h3) (F : mFt h w) : mFt h3 w := by
  unfold mFt
  rw [k.2.1]
  exact F
theorem mAs_Z (k : mAs p i x h h3) (z : mZp h) : mZp h3 := mZp_k z (by rw [k.2.1]) (by rw [k.2.1])
/-- a clause as it stands in its row -/
noncomputable def mRow (h : zH) (i : Nat) : rCt := (if (tA h 135 i).toNatClampNeg = 0 ∧ (tA h 136 i).toNatClampNeg < 12 then (tA h 136 i).toNatClampNeg else 12 + (tA h 135 i).toNatClampNeg + 100 * (tA h 136 i).toNatClampNeg, (tA h 137 i).toNatClampNeg, (tA h 138 i).toNatClampNeg, (tA h 139 i).toNatClampNeg)
theorem mEn_len : (mEn h).length = (tvI (tF h 111 31)).toNatClampNeg := by unfold mEn; rw [List.length_map, List.length_range]
theorem rB_A {T : Nat → Int32} {n : Nat} {s : rS} : rA (rB T n (rA (rB T n s.1) s).1) (rA (rB T n s.1) s) = rA (rB T n s.1) s := by
  show rA (rB T n (rB T n s.1)) _ = _
  rw [rB_2]
  rfl
end MZ
theorem zl_14 {k : Nat} (hk : k < 4) : (ztx (k + 14)).length ≤ 200 ∧ 0 < (ztx (k + 14)).length := zl_lo (k + 12) (by omega)
theorem rWd_14 {k : Nat} (hk : k < 4) : rWd (k + 12) = ztx (k + 14) := rWd_lo (k + 12) (by omega)
theorem mFw_A {h h2 : zH} {p : Nat} (k : mFw h h2) (hp : 135 ≤ p ∧ p ≤ 139) : tA h2 p = tA h p := k.2.2.1 p (by omega) (by omega) (by omega)
theorem mFt_pos {h : zH} {e : Nat} (k : mFt h e) : 0 < e ∧ e < 100000 := k.2
theorem mSk_0 {h : zH} (d : mD h) (e : mSk h = []) : tvI (tF h 111 32) = 0 := by
  refine Int32.toInt_inj.mp (d.trans ?_)
  rw [e]
  rfl
theorem rA_1 {b : Nat} {s : rS} : (rA b s).1 = b := rfl
theorem rA_A {b v : Nat} {s : rS} : rA v (rA b s) = rA v s := rfl
theorem mIx {a y : Int32} {c : Nat} (ha : 0 ≤ a.toInt ∧ a.toInt ≤ 10) (hy : y.toInt = c) (hc : c ≤ 12) : (12 * a + y).toNatClampNeg = 12 * a.toNatClampNeg + c := by
  have n1 : (12 * a).toInt = 12 * a.toInt := by
    rw [Int32.toInt_mul, show (12 : Int32).toInt = 12 from rfl]
    exact Int.bmod_eq_of_le (by show (-2147483648 : Int) ≤ 12 * a.toInt; omega) (by show 12 * a.toInt < (2147483648 : Int); omega)
  have n2 : (12 * a + y).toInt = 12 * a.toInt + c := by
    rw [Int32.toInt_add, n1, hy]
    exact Int.bmod_eq_of_le (by show (-2147483648 : Int) ≤ 12 * a.toInt + c; omega) (by show 12 * a.toInt + c < (2147483648 : Int); omega)
  rw [zclE, zclE, n2]
  omega
noncomputable def mCo (T : Nat → Int32) (n I : Nat) (r : Nat ⊕ (rS × rCt)) (h2 : zH) : Prop := match r with
  | .inl e => mFt h2 e ∧ mZp h2
  | .inr x => mP h2 ∧ ms h2 = rA (rB T n x.1.1) x.1 ∧ tvI (tF h2 111 32) = 0 ∧ mRow h2 I = x.2
theorem mCo_l {T : Nat → Int32} {n I e : Nat} {r : Nat ⊕ (rS × rCt)} {h2 : zH} (hr : r = .inl e) (F : mFt h2 e) (Z : mZp h2) : mCo T n I r h2 := by
  rw [hr]
  exact ⟨F, Z⟩
theorem mCo_r {T : Nat → Int32} {n I : Nat} {r : Nat ⊕ (rS × rCt)} {h2 : zH} {s : rS} {t : rCt} (hr : r = .inr (s, t)) (p : mP h2) (e : ms h2 = rA (rB T n s.1) s) (d : tvI (tF h2 111 32) = 0) (w : mRow h2 I = t) : mCo T n I r h2 := by
  rw [hr]
  exact ⟨p, e, d, w⟩
theorem y_blanks {G : zG} (hG : G.1 = zProg) (hX : G.2.1 = ztx) {h : zH} {T : Nat → Int32} {n : Nat} (hs : tSh h) {ef : Nat} (hp : mFt h ef) (hT : tA h 132 = T) (hN : mn h = n) (h0 : mZp h) : tC zTt G 203 [.ref 111] h (fun w h2 => w = none ∧ mFr h h2 ∧ mFt h2 ef ∧ mZp h2) := by
  refine tC_in (by rw [hG]; rfl) (fun dp => ?_)
  have g0 := mFr_r hs
  refine tG_loop (zW_mono zTt G dp) (zW_conj zTt G dp) (V := fun pc L st h9 _ _ => pc = 0 ∧ st = [] ∧ ∃ h1, h1 = h9 ∧ mFr h h1 ∧ mFt h1 ef ∧ mZp h1 ∧ L = [some (.ref 111)]) ?_ (⟨rfl, rfl, _, rfl, g0, hp, h0, rfl⟩)
  rintro _ _ _ _ _ _ ⟨rfl, rfl, h1, rfl, g1, z1, h0, rfl⟩
  refine tw_aload rfl rfl ?_
  refine tw_virt0 rfl (g_sign hG hX (g1).1 ((mFr_T g1).trans hT) ((mFr_n g1).trans hN) h0.1) (fun wp740 hp740 p740 => ?_)
  obtain ⟨⟨cp740, rfl, kp740⟩, rfl⟩ := p740
  refine tw_push rfl ?_
  refine tw_ic_ne rfl (fun q741 => ?_) (fun q741 => ?_)
  · try dsimp only [tvI_i, tvJ_j, tvR_r] at q741
    have q741i := zneq (Y := 32) (by decide) q741
    exact tw_vret rfl ⟨rfl, g1, z1, h0⟩
  · try dsimp only [tvI_i, tvJ_j, tvR_r] at q741
    have q741i := zeqi (Y := 32) (by decide) q741
    refine tw_aload rfl rfl ?_
    refine tw_dup rfl ?_
    refine tw_getS rfl (hi_111_28 (g1).1) ?_
    refine tw_push rfl ?_
    refine tw_iadd rfl ?_
    refine tw_put rfl (fun f742 => ?_)
    refine tG_setm f742 (hw_111_28 f742 (g1).1) (fun hf742 ef742 => ?_)
    try dsimp only [tvI_i] at ef742
    have gf742 := mFr_s g1 ef742 (by unfold mFs; omega)
    have zf742 := mFt_s z1 ef742 (by decide)
    have wf742 := (sgm_k kp740 32 (by decide)).mp q741
    have if742 : mZp hf742 := by
      have y := (mpos h0.1).mpr (by rw [((mFr_n g1).trans hN)]; exact wf742.1)
      have a := zj1 h0.1.1 y
      have b := h0
      unfold mZp at b ⊢
      rw [mI_x ef742, mI_o ef742 (by decide), a]
      exact ⟨⟨by omega, by omega⟩, by omega, by omega⟩
    refine tw_goto rfl ?_
    exact tG_cut (zW_mono zTt G dp) (Or.inr ⟨rfl, rfl, _, rfl, gf742, zf742, if742, rfl⟩)
theorem g_clause {G : zG} (hG : G.1 = zProg) (hX : G.2.1 = ztx) {h : zH} {T : Nat → Int32} {n : Nat} (hs : tSh h) (hp : mP h) (hT : tA h 132 = T) (hN : mn h = n) {y : Int32} {c I : Nat} (hy : y.toInt = c) (hc : c ≤ 12) (hI : I = 12 * (tvI (tF h 111 30)).toNatClampNeg + c) (hd9 : tvI (tF h 111 32) = 0) {r : Nat ⊕ (rS × rCt)} (hr0 : rCl T n c (ms h) r) : tC zTt G 224 [.ref 111, .int y] h (fun w h2 => w = none ∧ mFz I h h2 ∧ mCo T n I r h2) := by
  refine tC_in (by rw [hG]; rfl) (fun dp => ?_)
  have g0 : mFz I h h := mFz_r hs
  have hpn : (ms h).1 ≤ n := mPle hp hN
  have hn4 : n ≤ 400 := by have a := mNl hp hN; have b := hp.2.1; omega
  have c09 : (0 : Int32).toInt = 0 := rfl
  have c39 : (3 : Int32).toInt = 3 := rfl
  have c49 : (4 : Int32).toInt = 4 := rfl
  have c129 : (12 : Int32).toInt = 12 := rfl
  refine tw_aload rfl rfl ?_
  refine tw_virt0 rfl (g_blanks hG hX (g0).1 hp ((mFz_T g0).trans hT) ((mFz_n g0).trans hN)) (fun wp743 hp743 p743 => ?_)
  obtain ⟨rfl, gp743, pp743e, sp743, tp743, dp743⟩ := p743
  have gwp743 := mFw_f gp743
  have gzp743 : mFz I h hp743 := mFz_t g0 (mFz_w gwp743)
  have Dp743 : tvI (tF hp743 111 32) = 0 := by rw [dp743]; exact hd9
  have Sp743 : ms hp743 = (rA (rB T n (ms h).1) (ms h)) := sp743
  refine tw_aload rfl rfl ?_
  refine tw_getS rfl (hi_111_28 gzp743.1) ?_
  refine tw_istore rfl ?_
  refine tw_push rfl ?_
  refine tw_istore rfl ?_
  refine tG_loop (zW_mono zTt G dp) (zW_conj zTt G dp) (V := fun pc L st h9 _ _ => pc = 11 ∧ st = [] ∧ hp743 = h9 ∧ ∃ (k : Nat) (x : Int32), x.toInt = k ∧ k ≤ 4 ∧ (∀ i, i < k → ¬ rW T n (rB T n (ms h).1) (rWd (i + 12)) = true) ∧ L = [some (.ref 111), some (.int y), some (.int (tvI (tF hp743 111 28))), some (.int x), none, none]) ?_ (⟨rfl, rfl, rfl, 0, 0, rfl, by decide, fun i hi => absurd hi (Nat.not_lt_zero _), rfl⟩)
  rintro _ _ _ _ _ _ ⟨rfl, rfl, rfl, k, x, hx, hk5, hall, rfl⟩
  refine tw_iload rfl rfl ?_
  refine tw_push rfl ?_
  refine tw_ic_ge rfl (fun q744 => ?_) (fun q744 => ?_)
  · try dsimp only [tvI_i, tvJ_j, tvR_r] at q744
    refine tw_iload rfl rfl ?_
    refine tw_push rfl ?_
    refine tw_ic_ne rfl (fun q745 => ?_) (fun q745 => ?_)
    · try dsimp only [tvI_i, tvJ_j, tvR_r] at q745
      have q745i := zneq (Y := 4) (by decide) q745
      exfalso
      have z1 := q744
      have z2 := q745i
      omega
    · try dsimp only [tvI_i, tvJ_j, tvR_r] at q745
      have q745i := zeqi (Y := 4) (by decide) q745
      refine tw_aload rfl rfl ?_
      refine tw_push rfl ?_
      refine tw_iload rfl rfl ?_
      refine tw_virt2 rfl (g_fails hG hX (gzp743).1 pp743e ((mFz_T gzp743).trans hT) ((mFz_n gzp743).trans hN) (w := 0) rfl (by decide) (mPl pp743e) (by have := mPle pp743e ((mFz_n gzp743).trans hN); have := mNl pp743e ((mFz_n gzp743).trans hN); have := pp743e.2.1; omega)) (fun wp746 hp746 p746 => ?_)
      obtain ⟨rfl, gp746, Fp746, ip746, jp746⟩ := p746
      have gwp746 := mFw_f gp746
      have gzp746 : mFz I h hp746 := mFz_t gzp743 (mFz_w gwp746)
      have Zp746 : mZp hp746 := mZp_k (mZp_p pp743e) ip746 jp746
      rw [Sp743, rA_1] at Fp746
      have hk : k = 4 := by have z := q745i; omega
      have hr := rCl_0 hr0 (fun j h1 h2 => by have z := hall (j - 12) (by omega); rw [show j - 12 + 12 = j by omega] at z; exact z)
      exact tw_vret rfl ⟨rfl, gzp746, mCo_l hr Fp746 Zp746⟩
  · try dsimp only [tvI_i, tvJ_j, tvR_r] at q744
    refine tw_aload rfl rfl ?_
    refine tw_iload rfl rfl ?_
    refine tw_stat1 rfl (g_thingName hG (k := k) hx (by have z := q744; omega)) (fun wp747 hp747 p747 => ?_)
    obtain ⟨rfl, rfl⟩ := p747
    refine tw_virt1 rfl (g_stands hG hX (gzp743).1 ((mFz_T gzp743).trans hT) ((mFz_n gzp743).trans hN) (q := (k + 14)) (zl_14 (by have z := q744; omega)).1 ⟨pp743e.2.1.1, by have := pp743e.2.1; omega⟩ ⟨by have := pp743e.2.1; omega, pp743e.2.1.2.2⟩) (fun w9 h9 p748 => ?_)
    obtain ⟨⟨p748, rfl⟩ | ⟨p748, rfl⟩, rfl⟩ := p748
    · try dsimp only [tvI_i, tvJ_j, tvR_r] at p748
      refine tw_if_ne rfl (fun _ => ?_) (fun z => absurd z (by decide))
      refine tw_iload rfl rfl ?_
      refine tw_push rfl ?_
      refine tw_ic_ne rfl (fun q749 => ?_) (fun q749 => ?_)
      · try dsimp only [tvI_i, tvJ_j, tvR_r] at q749
        have q749i := zneq (Y := 4) (by decide) q749
        refine tw_iload rfl rfl ?_
        refine tw_push rfl ?_
        refine tw_ic_ne rfl (fun q750 => ?_) (fun q750 => ?_)
        · try dsimp only [tvI_i, tvJ_j, tvR_r] at q750
          have q750i := zneq (Y := 12) (by decide) q750
          refine tw_aload rfl rfl ?_
          refine tw_dup rfl ?_
          refine tw_getS rfl (hi_111_28 (gzp743).1) ?_
          refine tw_iload rfl rfl ?_
          have hk4 : k < 4 := by have z := q744; omega
          refine tw_stat1 rfl (g_thingName hG (k := k) hx hk4) (fun wp751 hp751 p751 => ?_)
          obtain ⟨rfl, rfl⟩ := p751
          refine tw_tlen rfl ?_
          refine tw_iadd rfl ?_
          refine tw_put rfl (fun f752 => ?_)
          refine tG_setm f752 (hw_111_28 f752 (gzp743).1) (fun hf752 ef752 => ?_)
          try dsimp only [tvI_i] at ef752
          have gf752 : mFz I h hf752 := mFz_s gzp743 ef752 (Or.inl (by unfold mFs; omega))
          have hk4 : k < 4 := by have z := q744; omega
          have hw : rW T n (rB T n (ms h).1) (rWd (k + 12)) = true := by have z := p748; rw [Sp743, rA_1] at z; rw [rWd_14 hk4]; exact z
          have hcn : c ≠ 12 := by have z := q750i; omega
          have K1 := rCl_g hr0 (k := k + 12) (by omega) (by omega) hw hcn
          have hre : rE T n (rB T n (ms h).1) = (rB T n (ms h).1) + (ztx (k + 14)).length := by rw [rW_e hw, rWd_14 hk4]
          have hre2 := rE_le (T := T) (rB_le (T := T) hpn)
          have hln : (Int32.ofNat (G.2.1 (k + 14)).length).toInt = ((ztx (k + 14)).length : Int) := by rw [hX]; exact zofI (by have := (zl_14 hk4).1; omega)
          obtain ⟨pf752, sf752, tf752⟩ := mTo pp743e ((mFz_n gzp743).trans hN) ef752 (v := (rB T n (ms h).1) + (ztx (k + 14)).length) (zadN (a := (rB T n (ms h).1)) (by rw [mPl pp743e, Sp743, rA_1]) hln (by omega) (by have := (zl_14 hk4).1; omega)) (by omega)
          have Sf752 : ms hf752 = (rA (rE T n (rB T n (ms h).1)) (ms h)) := by rw [sf752, Sp743, ← hre, rA_A]
          have Df752 : tvI (tF hf752 111 32) = 0 := by rw [mI_o ef752 (by decide)]; exact Dp743
          have gwf752 : tA hf752 = tA hp743 := ef752.2.2.2.1
          refine tw_push rfl ?_
          refine tw_aload rfl rfl ?_
          refine tw_getS rfl (hi_111_30 (gf752).1) ?_
          refine tw_imul rfl ?_
          refine tw_iload rfl rfl ?_
          refine tw_iadd rfl ?_
          refine tw_istore rfl ?_
          refine tw_aload rfl rfl ?_
          refine tw_getS rfl (hs_111_38 (gf752).1) ?_
          refine tw_iload rfl rfl ?_
          refine tw_iload rfl rfl ?_
          refine tw_iast rfl (fun f753 => ?_)
          have hI9 : (12 * tvI (tF hf752 111 30) + y).toNatClampNeg = I := by rw [mIx (pf752.2.2.2.2.2.1) hy hc, show tF hf752 111 30 = tF h 111 30 from mFz_30 gf752, ← hI]
          refine tG_ast f753 (gf752).1 (fun hf753 af753 => ?_)
          try dsimp only [tvI_i, tvR_r] at af753
          rw [hI9] at af753
          have gf753 : mFz I h hf753 := mFz_a gf752 af753 (by decide) (Nat.le_refl _)
          have pf753 := mAs_P af753 (by decide) pf752
          have Sf753 : ms hf753 = (rA (rE T n (rB T n (ms h).1)) (ms h)) := (mAs_m af753 (by decide)).1.trans Sf752
          have Df753 : tvI (tF hf753 111 32) = 0 := by rw [af753.2.1]; exact Df752
          refine tw_aload rfl rfl ?_
          refine tw_getS rfl (hs_111_39 (gf753).1) ?_
          refine tw_iload rfl rfl ?_
          refine tw_push rfl ?_
          refine tw_iast rfl (fun f754 => ?_)
          refine tG_ast f754 (gf753).1 (fun hf754 af754 => ?_)
          try dsimp only [tvI_i, tvR_r] at af754
          rw [hI9] at af754
          have gf754 : mFz I h hf754 := mFz_a gf753 af754 (by decide) (Nat.le_refl _)
          have pf754 := mAs_P af754 (by decide) pf753
          have Sf754 : ms hf754 = (rA (rE T n (rB T n (ms h).1)) (ms h)) := (mAs_m af754 (by decide)).1.trans Sf753
          have Df754 : tvI (tF hf754 111 32) = 0 := by rw [af754.2.1]; exact Df753
          refine tw_iload rfl rfl ?_
          refine tw_if_ne rfl (fun q755 => ?_) (fun q755 => ?_)
          · try dsimp only [tvI_i, tvJ_j, tvR_r] at q755
            have q755i := zneq (Y := 0) (by decide) q755
            refine tw_aload rfl rfl ?_
            refine tw_getS rfl (hs_111_40 (gf754).1) ?_
            refine tw_iload rfl rfl ?_
            refine tw_aload rfl rfl ?_
            refine tw_getS rfl (hi_111_31 (gf754).1) ?_
            refine tw_iast rfl (fun f756 => ?_)
            have Lf756 : (tvI (tF hf754 111 31)).toNatClampNeg = (rA (rE T n (rB T n (ms h).1)) (ms h)).2.2.length := by rw [← mEn_len]; exact congrArg (fun z : rS => z.2.2.length) Sf754
            have K2 : rCl2 T n (k + 12) (k + 12) (rA (rE T n (rB T n (ms h).1)) (ms h)) r := rCl1_n K1 (by have z := q755i; omega)
            refine tG_ast f756 (gf754).1 (fun hf756 af756 => ?_)
            try dsimp only [tvI_i, tvR_r] at af756
            rw [hI9] at af756
            have gf756 : mFz I h hf756 := mFz_a gf754 af756 (by decide) (Nat.le_refl _)
            have pf756 := mAs_P af756 (by decide) pf754
            have Sf756 : ms hf756 = (rA (rE T n (rB T n (ms h).1)) (ms h)) := (mAs_m af756 (by decide)).1.trans Sf754
            have Df756 : tvI (tF hf756 111 32) = 0 := by rw [af756.2.1]; exact Df754
            refine tw_iload rfl rfl ?_
            refine tw_push rfl ?_
            refine tw_ic_eq rfl (fun q757 => ?_) (fun q757 => ?_)
            · try dsimp only [tvI_i, tvJ_j, tvR_r] at q757
              have q757i := zeqi (Y := 3) (by decide) q757
              refine tw_aload rfl rfl ?_
              refine tw_getS rfl (hs_111_41 (gf756).1) ?_
              refine tw_iload rfl rfl ?_
              refine tw_aload rfl rfl ?_
              refine tw_getS rfl (hi_111_31 (gf756).1) ?_
              refine tw_iast rfl (fun f758 => ?_)
              have Lf758 : (tvI (tF hf756 111 31)).toNatClampNeg = (rA (rE T n (rB T n (ms h).1)) (ms h)).2.2.length := by rw [← mEn_len]; exact congrArg (fun z : rS => z.2.2.length) Sf756
              refine tG_ast f758 (gf756).1 (fun hf758 af758 => ?_)
              try dsimp only [tvI_i, tvR_r] at af758
              rw [hI9] at af758
              have gf758 : mFz I h hf758 := mFz_a gf756 af758 (by decide) (Nat.le_refl _)
              have pf758 := mAs_P af758 (by decide) pf756
              have Sf758 : ms hf758 = (rA (rE T n (rB T n (ms h).1)) (ms h)) := (mAs_m af758 (by decide)).1.trans Sf756
              have Df758 : tvI (tF hf758 111 32) = 0 := by rw [af758.2.1]; exact Df756
              refine tw_aload rfl rfl ?_
              obtain ⟨s2, hs2⟩ : ∃ s2, (rA (rE T n (rB T n (ms h).1)) (ms h)) = s2 := ⟨_, rfl⟩
              have K3 := rCl2_15 K2 (by have z := q757i; omega)
              rw [hs2] at K3
              have sm2 := Sf758.trans hs2
              refine tw_virt0 rfl (g_blanks hG hX (gf758).1 pf758 ((mFz_T gf758).trans hT) ((mFz_n gf758).trans hN)) (fun wp759 hp759 p759 => ?_)
              obtain ⟨rfl, gp759, pp759e, sp759, tp759, dp759⟩ := p759
              have gwp759 := mFw_f gp759
              have gzp759 : mFz I h hp759 := mFz_t gf758 (mFz_w gwp759)
              have Dp759 : tvI (tF hp759 111 32) = 0 := by rw [dp759]; exact Df758
              have Sp759 : ms hp759 = (rA (rB T n s2.1) s2) := (by rw [sp759, sm2])
              refine tw_aload rfl rfl ?_
              refine tw_push rfl ?_
              refine tw_virt1 rfl (g_stands hG hX (gzp759).1 ((mFz_T gzp759).trans hT) ((mFz_n gzp759).trans hN) (q := 21) (by decide +kernel) ⟨pp759e.2.1.1, by have := pp759e.2.1; omega⟩ ⟨by have := pp759e.2.1; omega, pp759e.2.1.2.2⟩) (fun w9 h9 p760 => ?_)
              obtain ⟨⟨p760, rfl⟩ | ⟨p760, rfl⟩, rfl⟩ := p760
              · try dsimp only [tvI_i, tvJ_j, tvR_r] at p760
                refine tw_istore rfl ?_
                refine tw_iload rfl rfl ?_
                refine tw_push rfl ?_
                refine tw_ic_ne rfl (fun q761 => ?_) (fun q761 => ?_)
                · try dsimp only [tvI_i, tvJ_j, tvR_r] at q761
                  have q761i := zneq (Y := 3) (by decide) q761
                  exact absurd q757 q761
                · try dsimp only [tvI_i, tvJ_j, tvR_r] at q761
                  have q761i := zeqi (Y := 3) (by decide) q761
                  refine tw_iload rfl rfl ?_
                  refine tw_if_ne rfl (fun _ => ?_) (fun z => absurd z (by decide))
                  refine tw_iload rfl rfl ?_
                  refine tw_if_eq rfl (fun z => absurd z (by decide)) (fun _ => ?_)
                  refine tw_aload rfl rfl ?_
                  refine tw_getS rfl (hi_111_29 gzp759.1) ?_
                  refine tw_if_ne rfl (fun q762 => ?_) (fun q762 => ?_)
                  · try dsimp only [tvI_i, tvJ_j, tvR_r] at q762
                    have q762i := zneq (Y := 0) (by decide) q762
                    exact absurd (mP_0 pp759e) q762
                  · try dsimp only [tvI_i, tvJ_j, tvR_r] at q762
                    have q762i := zeqi (Y := 0) (by decide) q762
                    refine tw_aload rfl rfl ?_
                    refine tw_dup rfl ?_
                    refine tw_getS rfl (hi_111_28 gzp759.1) ?_
                    refine tw_push rfl ?_
                    refine tw_iadd rfl ?_
                    refine tw_put rfl (fun f763 => ?_)
                    have hw16 : rW T n (rB T n s2.1) (rWd 16) = true := by have z := p760; rw [Sp759, rA_1] at z; exact z
                    refine tG_setm f763 (hw_111_28 f763 (gzp759).1) (fun hf763 ef763 => ?_)
                    try dsimp only [tvI_i] at ef763
                    have gf763 : mFz I h hf763 := mFz_s gzp759 ef763 (Or.inl (by unfold mFs; omega))
                    have h9w : rE T n (rB T n s2.1) = rB T n s2.1 + 2 := by rw [rW_e hw16, wlen_k.2.2.2]
                    have hpB : rB T n s2.1 ≤ n := by have z := mPle pp759e ((mFz_n gzp759).trans hN); rw [Sp759, rA_1] at z; exact z
                    have hr9 := rE_le (T := T) hpB
                    rw [h9w] at hr9
                    obtain ⟨pf763, sf763, tf763⟩ := mTo pp759e ((mFz_n gzp759).trans hN) ef763 (v := rB T n s2.1 + 2) (zadN (a := rB T n s2.1) (b := 2) (by rw [mPl pp759e, Sp759, rA_1]) rfl (by omega) (by decide)) (by omega)
                    have Sf763 : ms hf763 = (rA (rB T n s2.1 + 2) s2) := by rw [sf763, Sp759, rA_A]
                    have Df763 : tvI (tF hf763 111 32) = 0 := by rw [mI_o ef763 (by decide)]; exact Dp759
                    have gwf763 : tA hf763 = tA hp759 := ef763.2.2.2.1
                    refine tw_aload rfl rfl ?_
                    refine tw_push rfl ?_
                    refine tw_virt1 rfl (g_readsR hG hX (gf763).1 pf763 ((mFz_T gf763).trans hT) ((mFz_n gf763).trans hN) (x := 0) (tst := true) (by decide) (by decide) ⟨fun _ => rfl, fun _ => rfl⟩ Df763) (fun w9 hp764 p764 => ?_)
                    obtain ⟨rfl, gp764, ⟨pp764e, dp764, mp764⟩ | ⟨ep764, Fp764, Zp764, mp764⟩⟩ := p764
                    · have gwp764 := id gp764
                      have gzp764 : mFz I h hp764 := mFz_t gf763 (mFz_w gwp764)
                      have m9 := mp764
                      rw [Sf763, show stN 0 = 0 from rfl] at m9
                      obtain ⟨hS3, s3, hs3, hr⟩ := rCl3_s K3 hw16 m9
                      have Dp764 := mSk_0 dp764 hS3
                      refine tw_aload rfl rfl ?_
                      refine tw_getS rfl (hs_111_42 gzp764.1) ?_
                      refine tw_iload rfl rfl ?_
                      refine tw_aload rfl rfl ?_
                      refine tw_getS rfl (hi_111_31 gzp764.1) ?_
                      refine tw_iast rfl (fun f765 => ?_)
                      have Lf765 : (tvI (tF hp764 111 31)).toNatClampNeg = (rA (rB T n s3.1) s3).2.2.length := by rw [← mEn_len]; exact congrArg (fun z : rS => z.2.2.length) hs3
                      refine tG_ast f765 (gzp764).1 (fun hf765 af765 => ?_)
                      try dsimp only [tvI_i, tvR_r] at af765
                      rw [hI9] at af765
                      have gf765 : mFz I h hf765 := mFz_a gzp764 af765 (by decide) (Nat.le_refl _)
                      have pf765 := mAs_P af765 (by decide) pp764e
                      have Sf765 : ms hf765 = (rA (rB T n s3.1) s3) := (mAs_m af765 (by decide)).1.trans hs3
                      have Df765 : tvI (tF hf765 111 32) = 0 := by rw [af765.2.1]; exact Dp764
                      have c135 : tA hf765 135 I = x := ((congrFun ((mAs_A af765 (q := 135) (by decide)).trans ((mFw_A gwp764 (p := 135) (by decide)).trans ((congrFun gwf763 135).trans ((mFw_A gwp759 (p := 135) (by decide)).trans ((mAs_A af758 (q := 135) (by decide)).trans ((mAs_A af756 (q := 135) (by decide)).trans (mAs_A af754 (q := 135) (by decide)))))))) I).trans (mAs_x af753))
                      have c137 : (tA hf765 137 I).toNatClampNeg = (rA (rE T n (rB T n (ms h).1)) (ms h)).2.2.length := by rw [((congrFun ((mAs_A af765 (q := 137) (by decide)).trans ((mFw_A gwp764 (p := 137) (by decide)).trans ((congrFun gwf763 137).trans ((mFw_A gwp759 (p := 137) (by decide)).trans (mAs_A af758 (q := 137) (by decide)))))) I).trans (mAs_x af756))]; exact Lf756
                      have c138 : (tA hf765 138 I).toNatClampNeg = (rA (rE T n (rB T n (ms h).1)) (ms h)).2.2.length := by rw [((congrFun ((mAs_A af765 (q := 138) (by decide)).trans ((mFw_A gwp764 (p := 138) (by decide)).trans ((congrFun gwf763 138).trans (mFw_A gwp759 (p := 138) (by decide))))) I).trans (mAs_x af758))]; exact Lf758
                      have c139 : (tA hf765 139 I).toNatClampNeg = (rA (rB T n s3.1) s3).2.2.length := by rw [(mAs_x af765)]; exact Lf765
                      have c136 : (tA hf765 136 I).toNatClampNeg = 0 := by rw [((congrFun ((mAs_A af765 (q := 136) (by decide)).trans ((mFw_A gwp764 (p := 136) (by decide)).trans ((congrFun gwf763 136).trans ((mFw_A gwp759 (p := 136) (by decide)).trans ((mAs_A af758 (q := 136) (by decide)).trans (mAs_A af756 (q := 136) (by decide))))))) I).trans (mAs_x af754))]; rfl
                      have hrow : mRow hf765 I = ((k + 12), (rA (rE T n (rB T n (ms h).1)) (ms h)).2.2.length, (rA (rE T n (rB T n (ms h).1)) (ms h)).2.2.length, (rA (rB T n s3.1) s3).2.2.length) := by
                        unfold mRow
                        rw [c135, c137, c138, c139, zof_cl hx, c136, if_neg (fun y => by have z := q755i; have y := y.1; omega), Nat.mul_zero, Nat.add_zero, Nat.add_comm]
                      rw [hs2] at hrow
                      exact tw_vret rfl ⟨rfl, gf765, mCo_r hr pf765 Sf765 Df765 hrow⟩
                    · have gwp764 := id gp764
                      have gzp764 : mFz I h hp764 := mFz_t gf763 (mFz_w gwp764)
                      have m9 := mp764
                      rw [Sf763, show stN 0 = 0 from rfl] at m9
                      have hr := rCl3_e K3 hw16 m9
                      refine tw_aload rfl rfl ?_
                      refine tw_getS rfl (hs_111_42 gzp764.1) ?_
                      refine tw_iload rfl rfl ?_
                      refine tw_aload rfl rfl ?_
                      refine tw_getS rfl (hi_111_31 gzp764.1) ?_
                      refine tw_iast rfl (fun f766 => ?_)
                      refine tG_ast f766 (gzp764).1 (fun hf766 af766 => ?_)
                      try dsimp only [tvI_i, tvR_r] at af766
                      rw [hI9] at af766
                      have gf766 : mFz I h hf766 := mFz_a gzp764 af766 (by decide) (Nat.le_refl _)
                      have Ff766 := mAs_F af766 Fp764
                      have Zf766 := mAs_Z af766 Zp764
                      exact tw_vret rfl ⟨rfl, gf766, mCo_l hr Ff766 Zf766⟩
              · try dsimp only [tvI_i, tvJ_j, tvR_r] at p760
                refine tw_istore rfl ?_
                refine tw_iload rfl rfl ?_
                refine tw_push rfl ?_
                refine tw_ic_ne rfl (fun q767 => ?_) (fun q767 => ?_)
                · try dsimp only [tvI_i, tvJ_j, tvR_r] at q767
                  have q767i := zneq (Y := 3) (by decide) q767
                  exact absurd q757 q767
                · try dsimp only [tvI_i, tvJ_j, tvR_r] at q767
                  have q767i := zeqi (Y := 3) (by decide) q767
                  refine tw_iload rfl rfl ?_
                  refine tw_if_ne rfl (fun z => absurd z (by decide)) (fun _ => ?_)
                  refine tw_aload rfl rfl ?_
                  refine tw_push rfl ?_
                  refine tw_aload rfl rfl ?_
                  refine tw_getS rfl (hi_111_28 gzp759.1) ?_
                  refine tw_virt2 rfl (g_fails hG hX (gzp759).1 pp759e ((mFz_T gzp759).trans hT) ((mFz_n gzp759).trans hN) (w := 0) rfl (by decide) (mPl pp759e) (by have := mPle pp759e ((mFz_n gzp759).trans hN); have := mNl pp759e ((mFz_n gzp759).trans hN); have := pp759e.2.1; omega)) (fun wp768 hp768 p768 => ?_)
                  obtain ⟨rfl, gp768, Fp768, ip768, jp768⟩ := p768
                  have gwp768 := mFw_f gp768
                  have gzp768 : mFz I h hp768 := mFz_t gzp759 (mFz_w gwp768)
                  have Zp768 : mZp hp768 := mZp_k (mZp_p pp759e) ip768 jp768
                  rw [Sp759, rA_1] at Fp768
                  refine tw_iload rfl rfl ?_
                  refine tw_if_eq rfl (fun _ => ?_) (fun z => absurd z (by decide))
                  refine tw_aload rfl rfl ?_
                  refine tw_getS rfl (hs_111_42 gzp768.1) ?_
                  refine tw_iload rfl rfl ?_
                  refine tw_aload rfl rfl ?_
                  refine tw_getS rfl (hi_111_31 gzp768.1) ?_
                  refine tw_iast rfl (fun f769 => ?_)
                  refine tG_ast f769 (gzp768).1 (fun hf769 af769 => ?_)
                  try dsimp only [tvI_i, tvR_r] at af769
                  rw [hI9] at af769
                  have gf769 : mFz I h hf769 := mFz_a gzp768 af769 (by decide) (Nat.le_refl _)
                  have Ff769 := mAs_F af769 Fp768
                  have Zf769 := mAs_Z af769 Zp768
                  have hw16 : ¬ rW T n (rB T n s2.1) (rWd 16) = true := by have z := p760; rw [Sp759, rA_1] at z; exact z
                  have hr := rCl3_1 K3 hw16 (by have z := q767i; omega)
                  exact tw_vret rfl ⟨rfl, gf769, mCo_l hr Ff769 Zf769⟩
            · try dsimp only [tvI_i, tvJ_j, tvR_r] at q757
              have q757i := zneq (Y := 3) (by decide) q757
              refine tw_aload rfl rfl ?_
              refine tw_getS rfl (hi_111_29 (gf756).1) ?_
              refine tw_if_ne rfl (fun q770 => ?_) (fun q770 => ?_)
              · try dsimp only [tvI_i, tvJ_j, tvR_r] at q770
                have q770i := zneq (Y := 0) (by decide) q770
                exact absurd (mP_0 pf756) q770
              · try dsimp only [tvI_i, tvJ_j, tvR_r] at q770
                have q770i := zeqi (Y := 0) (by decide) q770
                refine tw_aload rfl rfl ?_
                refine tw_push rfl ?_
                refine tw_virt1 rfl (g_readsR hG hX (gf756).1 pf756 ((mFz_T gf756).trans hT) ((mFz_n gf756).trans hN) (x := 1) (tst := false) (by decide) (by decide) ⟨fun z => absurd z (by decide), fun z => absurd z (by decide)⟩ Df756) (fun w9 hp771 p771 => ?_)
                obtain ⟨rfl, gp771, ⟨pp771e, dp771, mp771⟩ | ⟨ep771, Fp771, Zp771, mp771⟩⟩ := p771
                · have gwp771 := id gp771
                  have gzp771 : mFz I h hp771 := mFz_t gf756 (mFz_w gwp771)
                  have m9 := mp771
                  rw [Sf756, show stN 1 = 1 from rfl] at m9
                  obtain ⟨hS, s2, hs2, K3⟩ := rCl2_s K2 (by have z := q757i; omega) m9
                  have Dp771 := mSk_0 dp771 hS
                  refine tw_aload rfl rfl ?_
                  refine tw_getS rfl (hs_111_41 gzp771.1) ?_
                  refine tw_iload rfl rfl ?_
                  refine tw_aload rfl rfl ?_
                  refine tw_getS rfl (hi_111_31 gzp771.1) ?_
                  refine tw_iast rfl (fun f772 => ?_)
                  have Lf772 : (tvI (tF hp771 111 31)).toNatClampNeg = (rA (rB T n s2.1) s2).2.2.length := by rw [← mEn_len]; exact congrArg (fun z : rS => z.2.2.length) hs2
                  refine tG_ast f772 (gzp771).1 (fun hf772 af772 => ?_)
                  try dsimp only [tvI_i, tvR_r] at af772
                  rw [hI9] at af772
                  have gf772 : mFz I h hf772 := mFz_a gzp771 af772 (by decide) (Nat.le_refl _)
                  have pf772 := mAs_P af772 (by decide) pp771e
                  have Sf772 : ms hf772 = (rA (rB T n s2.1) s2) := (mAs_m af772 (by decide)).1.trans hs2
                  have Df772 : tvI (tF hf772 111 32) = 0 := by rw [af772.2.1]; exact Dp771
                  refine tw_aload rfl rfl ?_
                  refine tw_virt0 rfl (g_blanks hG hX (gf772).1 pf772 ((mFz_T gf772).trans hT) ((mFz_n gf772).trans hN)) (fun wp773 hp773 p773 => ?_)
                  obtain ⟨rfl, gp773, pp773e, sp773, tp773, dp773⟩ := p773
                  have gwp773 := mFw_f gp773
                  have gzp773 : mFz I h hp773 := mFz_t gf772 (mFz_w gwp773)
                  have Dp773 : tvI (tF hp773 111 32) = 0 := by rw [dp773]; exact Df772
                  have Sp773 : ms hp773 = (rA (rB T n s2.1) s2) := (by rw [sp773, Sf772]; exact rB_A)
                  refine tw_aload rfl rfl ?_
                  refine tw_push rfl ?_
                  refine tw_virt1 rfl (g_stands hG hX (gzp773).1 ((mFz_T gzp773).trans hT) ((mFz_n gzp773).trans hN) (q := 21) (by decide +kernel) ⟨pp773e.2.1.1, by have := pp773e.2.1; omega⟩ ⟨by have := pp773e.2.1; omega, pp773e.2.1.2.2⟩) (fun w9 h9 p774 => ?_)
                  obtain ⟨⟨p774, rfl⟩ | ⟨p774, rfl⟩, rfl⟩ := p774
                  · try dsimp only [tvI_i, tvJ_j, tvR_r] at p774
                    refine tw_istore rfl ?_
                    refine tw_iload rfl rfl ?_
                    refine tw_push rfl ?_
                    refine tw_ic_ne rfl (fun q775 => ?_) (fun q775 => ?_)
                    · try dsimp only [tvI_i, tvJ_j, tvR_r] at q775
                      have q775i := zneq (Y := 3) (by decide) q775
                      refine tw_iload rfl rfl ?_
                      refine tw_if_eq rfl (fun z => absurd z (by decide)) (fun _ => ?_)
                      refine tw_aload rfl rfl ?_
                      refine tw_getS rfl (hi_111_29 gzp773.1) ?_
                      refine tw_if_ne rfl (fun q776 => ?_) (fun q776 => ?_)
                      · try dsimp only [tvI_i, tvJ_j, tvR_r] at q776
                        have q776i := zneq (Y := 0) (by decide) q776
                        exact absurd (mP_0 pp773e) q776
                      · try dsimp only [tvI_i, tvJ_j, tvR_r] at q776
                        have q776i := zeqi (Y := 0) (by decide) q776
                        refine tw_aload rfl rfl ?_
                        refine tw_dup rfl ?_
                        refine tw_getS rfl (hi_111_28 gzp773.1) ?_
                        refine tw_push rfl ?_
                        refine tw_iadd rfl ?_
                        refine tw_put rfl (fun f777 => ?_)
                        have hw16 : rW T n (rB T n s2.1) (rWd 16) = true := by have z := p774; rw [Sp773, rA_1] at z; exact z
                        refine tG_setm f777 (hw_111_28 f777 (gzp773).1) (fun hf777 ef777 => ?_)
                        try dsimp only [tvI_i] at ef777
                        have gf777 : mFz I h hf777 := mFz_s gzp773 ef777 (Or.inl (by unfold mFs; omega))
                        have h9w : rE T n (rB T n s2.1) = rB T n s2.1 + 2 := by rw [rW_e hw16, wlen_k.2.2.2]
                        have hpB : rB T n s2.1 ≤ n := by have z := mPle pp773e ((mFz_n gzp773).trans hN); rw [Sp773, rA_1] at z; exact z
                        have hr9 := rE_le (T := T) hpB
                        rw [h9w] at hr9
                        obtain ⟨pf777, sf777, tf777⟩ := mTo pp773e ((mFz_n gzp773).trans hN) ef777 (v := rB T n s2.1 + 2) (zadN (a := rB T n s2.1) (b := 2) (by rw [mPl pp773e, Sp773, rA_1]) rfl (by omega) (by decide)) (by omega)
                        have Sf777 : ms hf777 = (rA (rB T n s2.1 + 2) s2) := by rw [sf777, Sp773, rA_A]
                        have Df777 : tvI (tF hf777 111 32) = 0 := by rw [mI_o ef777 (by decide)]; exact Dp773
                        have gwf777 : tA hf777 = tA hp773 := ef777.2.2.2.1
                        refine tw_aload rfl rfl ?_
                        refine tw_push rfl ?_
                        refine tw_virt1 rfl (g_readsR hG hX (gf777).1 pf777 ((mFz_T gf777).trans hT) ((mFz_n gf777).trans hN) (x := 0) (tst := true) (by decide) (by decide) ⟨fun _ => rfl, fun _ => rfl⟩ Df777) (fun w9 hp778 p778 => ?_)
                        obtain ⟨rfl, gp778, ⟨pp778e, dp778, mp778⟩ | ⟨ep778, Fp778, Zp778, mp778⟩⟩ := p778
                        · have gwp778 := id gp778
                          have gzp778 : mFz I h hp778 := mFz_t gf777 (mFz_w gwp778)
                          have m9 := mp778
                          rw [Sf777, show stN 0 = 0 from rfl] at m9
                          obtain ⟨hS3, s3, hs3, hr⟩ := rCl3_s K3 hw16 m9
                          have Dp778 := mSk_0 dp778 hS3
                          refine tw_aload rfl rfl ?_
                          refine tw_getS rfl (hs_111_42 gzp778.1) ?_
                          refine tw_iload rfl rfl ?_
                          refine tw_aload rfl rfl ?_
                          refine tw_getS rfl (hi_111_31 gzp778.1) ?_
                          refine tw_iast rfl (fun f779 => ?_)
                          have Lf779 : (tvI (tF hp778 111 31)).toNatClampNeg = (rA (rB T n s3.1) s3).2.2.length := by rw [← mEn_len]; exact congrArg (fun z : rS => z.2.2.length) hs3
                          refine tG_ast f779 (gzp778).1 (fun hf779 af779 => ?_)
                          try dsimp only [tvI_i, tvR_r] at af779
                          rw [hI9] at af779
                          have gf779 : mFz I h hf779 := mFz_a gzp778 af779 (by decide) (Nat.le_refl _)
                          have pf779 := mAs_P af779 (by decide) pp778e
                          have Sf779 : ms hf779 = (rA (rB T n s3.1) s3) := (mAs_m af779 (by decide)).1.trans hs3
                          have Df779 : tvI (tF hf779 111 32) = 0 := by rw [af779.2.1]; exact Dp778
                          have c135 : tA hf779 135 I = x := ((congrFun ((mAs_A af779 (q := 135) (by decide)).trans ((mFw_A gwp778 (p := 135) (by decide)).trans ((congrFun gwf777 135).trans ((mFw_A gwp773 (p := 135) (by decide)).trans ((mAs_A af772 (q := 135) (by decide)).trans ((mFw_A gwp771 (p := 135) (by decide)).trans ((mAs_A af756 (q := 135) (by decide)).trans (mAs_A af754 (q := 135) (by decide))))))))) I).trans (mAs_x af753))
                          have c137 : (tA hf779 137 I).toNatClampNeg = (rA (rE T n (rB T n (ms h).1)) (ms h)).2.2.length := by rw [((congrFun ((mAs_A af779 (q := 137) (by decide)).trans ((mFw_A gwp778 (p := 137) (by decide)).trans ((congrFun gwf777 137).trans ((mFw_A gwp773 (p := 137) (by decide)).trans ((mAs_A af772 (q := 137) (by decide)).trans (mFw_A gwp771 (p := 137) (by decide))))))) I).trans (mAs_x af756))]; exact Lf756
                          have c138 : (tA hf779 138 I).toNatClampNeg = (rA (rB T n s2.1) s2).2.2.length := by rw [((congrFun ((mAs_A af779 (q := 138) (by decide)).trans ((mFw_A gwp778 (p := 138) (by decide)).trans ((congrFun gwf777 138).trans (mFw_A gwp773 (p := 138) (by decide))))) I).trans (mAs_x af772))]; exact Lf772
                          have c139 : (tA hf779 139 I).toNatClampNeg = (rA (rB T n s3.1) s3).2.2.length := by rw [(mAs_x af779)]; exact Lf779
                          have c136 : (tA hf779 136 I).toNatClampNeg = 0 := by rw [((congrFun ((mAs_A af779 (q := 136) (by decide)).trans ((mFw_A gwp778 (p := 136) (by decide)).trans ((congrFun gwf777 136).trans ((mFw_A gwp773 (p := 136) (by decide)).trans ((mAs_A af772 (q := 136) (by decide)).trans ((mFw_A gwp771 (p := 136) (by decide)).trans (mAs_A af756 (q := 136) (by decide)))))))) I).trans (mAs_x af754))]; rfl
                          have hrow : mRow hf779 I = ((k + 12), (rA (rE T n (rB T n (ms h).1)) (ms h)).2.2.length, (rA (rB T n s2.1) s2).2.2.length, (rA (rB T n s3.1) s3).2.2.length) := by
                            unfold mRow
                            rw [c135, c137, c138, c139, zof_cl hx, c136, if_neg (fun y => by have z := q755i; have y := y.1; omega), Nat.mul_zero, Nat.add_zero, Nat.add_comm]
                          exact tw_vret rfl ⟨rfl, gf779, mCo_r hr pf779 Sf779 Df779 hrow⟩
                        · have gwp778 := id gp778
                          have gzp778 : mFz I h hp778 := mFz_t gf777 (mFz_w gwp778)
                          have m9 := mp778
                          rw [Sf777, show stN 0 = 0 from rfl] at m9
                          have hr := rCl3_e K3 hw16 m9
                          refine tw_aload rfl rfl ?_
                          refine tw_getS rfl (hs_111_42 gzp778.1) ?_
                          refine tw_iload rfl rfl ?_
                          refine tw_aload rfl rfl ?_
                          refine tw_getS rfl (hi_111_31 gzp778.1) ?_
                          refine tw_iast rfl (fun f780 => ?_)
                          refine tG_ast f780 (gzp778).1 (fun hf780 af780 => ?_)
                          try dsimp only [tvI_i, tvR_r] at af780
                          rw [hI9] at af780
                          have gf780 : mFz I h hf780 := mFz_a gzp778 af780 (by decide) (Nat.le_refl _)
                          have Ff780 := mAs_F af780 Fp778
                          have Zf780 := mAs_Z af780 Zp778
                          exact tw_vret rfl ⟨rfl, gf780, mCo_l hr Ff780 Zf780⟩
                    · try dsimp only [tvI_i, tvJ_j, tvR_r] at q775
                      have q775i := zeqi (Y := 3) (by decide) q775
                      exact absurd q775 q757
                  · try dsimp only [tvI_i, tvJ_j, tvR_r] at p774
                    refine tw_istore rfl ?_
                    refine tw_iload rfl rfl ?_
                    refine tw_push rfl ?_
                    refine tw_ic_ne rfl (fun q781 => ?_) (fun q781 => ?_)
                    · try dsimp only [tvI_i, tvJ_j, tvR_r] at q781
                      have q781i := zneq (Y := 3) (by decide) q781
                      refine tw_iload rfl rfl ?_
                      refine tw_if_eq rfl (fun _ => ?_) (fun z => absurd z (by decide))
                      refine tw_aload rfl rfl ?_
                      refine tw_getS rfl (hs_111_42 gzp773.1) ?_
                      refine tw_iload rfl rfl ?_
                      refine tw_aload rfl rfl ?_
                      refine tw_getS rfl (hi_111_31 gzp773.1) ?_
                      refine tw_iast rfl (fun f782 => ?_)
                      have Lf782 : (tvI (tF hp773 111 31)).toNatClampNeg = (rA (rB T n s2.1) s2).2.2.length := by rw [← mEn_len]; exact congrArg (fun z : rS => z.2.2.length) Sp773
                      refine tG_ast f782 (gzp773).1 (fun hf782 af782 => ?_)
                      try dsimp only [tvI_i, tvR_r] at af782
                      rw [hI9] at af782
                      have gf782 : mFz I h hf782 := mFz_a gzp773 af782 (by decide) (Nat.le_refl _)
                      have pf782 := mAs_P af782 (by decide) pp773e
                      have Sf782 : ms hf782 = (rA (rB T n s2.1) s2) := (mAs_m af782 (by decide)).1.trans Sp773
                      have Df782 : tvI (tF hf782 111 32) = 0 := by rw [af782.2.1]; exact Dp773
                      have hw16 : ¬ rW T n (rB T n s2.1) (rWd 16) = true := by have z := p774; rw [Sp773, rA_1] at z; exact z
                      have hr := rCl3_2 K3 hw16 (by have z := q781i; omega)
                      have c135 : tA hf782 135 I = x := ((congrFun ((mAs_A af782 (q := 135) (by decide)).trans ((mFw_A gwp773 (p := 135) (by decide)).trans ((mAs_A af772 (q := 135) (by decide)).trans ((mFw_A gwp771 (p := 135) (by decide)).trans ((mAs_A af756 (q := 135) (by decide)).trans (mAs_A af754 (q := 135) (by decide))))))) I).trans (mAs_x af753))
                      have c137 : (tA hf782 137 I).toNatClampNeg = (rA (rE T n (rB T n (ms h).1)) (ms h)).2.2.length := by rw [((congrFun ((mAs_A af782 (q := 137) (by decide)).trans ((mFw_A gwp773 (p := 137) (by decide)).trans ((mAs_A af772 (q := 137) (by decide)).trans (mFw_A gwp771 (p := 137) (by decide))))) I).trans (mAs_x af756))]; exact Lf756
                      have c138 : (tA hf782 138 I).toNatClampNeg = (rA (rB T n s2.1) s2).2.2.length := by rw [((congrFun ((mAs_A af782 (q := 138) (by decide)).trans (mFw_A gwp773 (p := 138) (by decide))) I).trans (mAs_x af772))]; exact Lf772
                      have c139 : (tA hf782 139 I).toNatClampNeg = (rA (rB T n s2.1) s2).2.2.length := by rw [(mAs_x af782)]; exact Lf782
                      have c136 : (tA hf782 136 I).toNatClampNeg = 0 := by rw [((congrFun ((mAs_A af782 (q := 136) (by decide)).trans ((mFw_A gwp773 (p := 136) (by decide)).trans ((mAs_A af772 (q := 136) (by decide)).trans ((mFw_A gwp771 (p := 136) (by decide)).trans (mAs_A af756 (q := 136) (by decide)))))) I).trans (mAs_x af754))]; rfl
                      have hrow : mRow hf782 I = ((k + 12), (rA (rE T n (rB T n (ms h).1)) (ms h)).2.2.length, (rA (rB T n s2.1) s2).2.2.length, (rA (rB T n s2.1) s2).2.2.length) := by
                        unfold mRow
                        rw [c135, c137, c138, c139, zof_cl hx, c136, if_neg (fun y => by have z := q755i; have y := y.1; omega), Nat.mul_zero, Nat.add_zero, Nat.add_comm]
                      exact tw_vret rfl ⟨rfl, gf782, mCo_r hr pf782 (Sf782.trans rB_A.symm) Df782 hrow⟩
                    · try dsimp only [tvI_i, tvJ_j, tvR_r] at q781
                      have q781i := zeqi (Y := 3) (by decide) q781
                      exact absurd q781 q757
                · have gwp771 := id gp771
                  have gzp771 : mFz I h hp771 := mFz_t gf756 (mFz_w gwp771)
                  have m9 := mp771
                  rw [Sf756, show stN 1 = 1 from rfl] at m9
                  have hr := rCl2_e K2 (by have z := q757i; omega) m9
                  refine tw_aload rfl rfl ?_
                  refine tw_getS rfl (hs_111_41 gzp771.1) ?_
                  refine tw_iload rfl rfl ?_
                  refine tw_aload rfl rfl ?_
                  refine tw_getS rfl (hi_111_31 gzp771.1) ?_
                  refine tw_iast rfl (fun f783 => ?_)
                  refine tG_ast f783 (gzp771).1 (fun hf783 af783 => ?_)
                  try dsimp only [tvI_i, tvR_r] at af783
                  rw [hI9] at af783
                  have gf783 : mFz I h hf783 := mFz_a gzp771 af783 (by decide) (Nat.le_refl _)
                  have Ff783 := mAs_F af783 Fp771
                  have Zf783 := mAs_Z af783 Zp771
                  refine tw_aload rfl rfl ?_
                  refine tw_virt0 rfl (y_blanks hG hX (gf783).1 Ff783 ((mFz_T gf783).trans hT) ((mFz_n gf783).trans hN) Zf783) (fun wp784 hp784 p784 => ?_)
                  obtain ⟨rfl, gp784, Fp784, Zp784⟩ := p784
                  have gwp784 := mFw_f gp784
                  have gzp784 : mFz I h hp784 := mFz_t gf783 (mFz_w gwp784)
                  refine tw_aload rfl rfl ?_
                  refine tw_push rfl ?_
                  refine tw_virt1 rfl (g_stands hG hX (gzp784).1 ((mFz_T gzp784).trans hT) ((mFz_n gzp784).trans hN) (q := 21) (by decide +kernel) Zp784.1 ⟨by have := Zp784.2; omega, Zp784.2.2⟩) (fun w9 h9 p785 => ?_)
                  obtain ⟨⟨p785, rfl⟩ | ⟨p785, rfl⟩, rfl⟩ := p785
                  · try dsimp only [tvI_i, tvJ_j, tvR_r] at p785
                    refine tw_istore rfl ?_
                    refine tw_iload rfl rfl ?_
                    refine tw_push rfl ?_
                    refine tw_ic_ne rfl (fun q786 => ?_) (fun q786 => ?_)
                    · try dsimp only [tvI_i, tvJ_j, tvR_r] at q786
                      have q786i := zneq (Y := 3) (by decide) q786
                      refine tw_iload rfl rfl ?_
                      refine tw_if_eq rfl (fun z => absurd z (by decide)) (fun _ => ?_)
                      refine tw_aload rfl rfl ?_
                      refine tw_getS rfl (hi_111_29 gzp784.1) ?_
                      refine tw_if_ne rfl (fun q787 => ?_) (fun q787 => ?_)
                      · try dsimp only [tvI_i, tvJ_j, tvR_r] at q787
                        have q787i := zneq (Y := 0) (by decide) q787
                        refine tw_aload rfl rfl ?_
                        refine tw_getS rfl (hs_111_42 gzp784.1) ?_
                        refine tw_iload rfl rfl ?_
                        refine tw_aload rfl rfl ?_
                        refine tw_getS rfl (hi_111_31 gzp784.1) ?_
                        refine tw_iast rfl (fun f788 => ?_)
                        refine tG_ast f788 (gzp784).1 (fun hf788 af788 => ?_)
                        try dsimp only [tvI_i, tvR_r] at af788
                        rw [hI9] at af788
                        have gf788 : mFz I h hf788 := mFz_a gzp784 af788 (by decide) (Nat.le_refl _)
                        have Ff788 := mAs_F af788 Fp784
                        have Zf788 := mAs_Z af788 Zp784
                        exact tw_vret rfl ⟨rfl, gf788, mCo_l hr Ff788 Zf788⟩
                      · try dsimp only [tvI_i, tvJ_j, tvR_r] at q787
                        have q787i := zeqi (Y := 0) (by decide) q787
                        exact absurd q787 (mFt_n Fp784)
                    · try dsimp only [tvI_i, tvJ_j, tvR_r] at q786
                      have q786i := zeqi (Y := 3) (by decide) q786
                      exact absurd q786 q757
                  · try dsimp only [tvI_i, tvJ_j, tvR_r] at p785
                    refine tw_istore rfl ?_
                    refine tw_iload rfl rfl ?_
                    refine tw_push rfl ?_
                    refine tw_ic_ne rfl (fun q789 => ?_) (fun q789 => ?_)
                    · try dsimp only [tvI_i, tvJ_j, tvR_r] at q789
                      have q789i := zneq (Y := 3) (by decide) q789
                      refine tw_iload rfl rfl ?_
                      refine tw_if_eq rfl (fun _ => ?_) (fun z => absurd z (by decide))
                      refine tw_aload rfl rfl ?_
                      refine tw_getS rfl (hs_111_42 gzp784.1) ?_
                      refine tw_iload rfl rfl ?_
                      refine tw_aload rfl rfl ?_
                      refine tw_getS rfl (hi_111_31 gzp784.1) ?_
                      refine tw_iast rfl (fun f790 => ?_)
                      refine tG_ast f790 (gzp784).1 (fun hf790 af790 => ?_)
                      try dsimp only [tvI_i, tvR_r] at af790
                      rw [hI9] at af790
                      have gf790 : mFz I h hf790 := mFz_a gzp784 af790 (by decide) (Nat.le_refl _)
                      have Ff790 := mAs_F af790 Fp784
                      have Zf790 := mAs_Z af790 Zp784
                      exact tw_vret rfl ⟨rfl, gf790, mCo_l hr Ff790 Zf790⟩
                    · try dsimp only [tvI_i, tvJ_j, tvR_r] at q789
                      have q789i := zeqi (Y := 3) (by decide) q789
                      exact absurd q789 q757
          · try dsimp only [tvI_i, tvJ_j, tvR_r] at q755
            have q755i := zeqi (Y := 0) (by decide) q755
            refine tw_aload rfl rfl ?_
            refine tw_virt0 rfl (g_blanks hG hX (gf754).1 pf754 ((mFz_T gf754).trans hT) ((mFz_n gf754).trans hN)) (fun wp791 hp791 p791 => ?_)
            obtain ⟨rfl, gp791, pp791e, sp791, tp791, dp791⟩ := p791
            have gwp791 := mFw_f gp791
            have gzp791 : mFz I h hp791 := mFz_t gf754 (mFz_w gwp791)
            have Dp791 : tvI (tF hp791 111 32) = 0 := by rw [dp791]; exact Df754
            have Sp791 : ms hp791 = (rA (rB T n (rA (rE T n (rB T n (ms h).1)) (ms h)).1) (rA (rE T n (rB T n (ms h).1)) (ms h))) := (by rw [sp791, Sf754])
            refine tw_aload rfl rfl ?_
            refine tw_getS rfl (hs_111_39 gzp791.1) ?_
            refine tw_iload rfl rfl ?_
            refine tw_aload rfl rfl ?_
            refine tw_push rfl ?_
            refine tw_virt1 rfl (g_digits hG hX (gzp791).1 pp791e ((mFz_T gzp791).trans hT) ((mFz_n gzp791).trans hN) (m := 2) (M := 2) rfl (by decide) (by rw [Sp791, rA_1]; exact rB_2)) (fun w9 hp792 p792 => ?_)
            obtain ⟨gp792, ⟨vp792, Np792, rfl, pp792e, sp792, tp792, dp792⟩ | ⟨ep792, xp792, Np792, rfl, x0p792, Fp792, Zp792⟩⟩ := p792
            · have gwp792 := mFw_f gp792
              have gzp792 : mFz I h hp792 := mFz_t gzp791 (mFz_w gwp792)
              have Dp792 : tvI (tF hp792 111 32) = 0 := by rw [dp792]; exact Dp791
              have Sp792 : ms hp792 = (rA vp792.1 (rA (rE T n (rB T n (ms h).1)) (ms h))) := by rw [sp792, Sp791, rA_A, rA_A]
              have K2 : rCl2 T n (k + 12) vp792.2 (rA vp792.1 (rA (rE T n (rB T n (ms h).1)) (ms h))) r := by
                have y := rCl1_q K1 (by have z := q755i; omega) (q := vp792) (by rw [← rM_bb]; have z := Np792; rw [Sp791, rA_1] at z; exact z)
                exact y
              have hv2 : vp792.2 ≤ 2 := (rM_r (rE_le (rB_le hpn)) (by rw [← rM_bb]; have z := Np792; rw [Sp791, rA_1] at z; exact z)).2.2
              refine tw_iast rfl (fun f793 => ?_)
              refine tG_ast f793 (gzp792).1 (fun hf793 af793 => ?_)
              try dsimp only [tvI_i, tvR_r] at af793
              rw [hI9] at af793
              have gf793 : mFz I h hf793 := mFz_a gzp792 af793 (by decide) (Nat.le_refl _)
              have pf793 := mAs_P af793 (by decide) pp792e
              have Sf793 : ms hf793 = (rA vp792.1 (rA (rE T n (rB T n (ms h).1)) (ms h))) := (mAs_m af793 (by decide)).1.trans Sp792
              have Df793 : tvI (tF hf793 111 32) = 0 := by rw [af793.2.1]; exact Dp792
              refine tw_aload rfl rfl ?_
              refine tw_getS rfl (hs_111_40 (gf793).1) ?_
              refine tw_iload rfl rfl ?_
              refine tw_aload rfl rfl ?_
              refine tw_getS rfl (hi_111_31 (gf793).1) ?_
              refine tw_iast rfl (fun f794 => ?_)
              have Lf794 : (tvI (tF hf793 111 31)).toNatClampNeg = (rA vp792.1 (rA (rE T n (rB T n (ms h).1)) (ms h))).2.2.length := by rw [← mEn_len]; exact congrArg (fun z : rS => z.2.2.length) Sf793
              refine tG_ast f794 (gf793).1 (fun hf794 af794 => ?_)
              try dsimp only [tvI_i, tvR_r] at af794
              rw [hI9] at af794
              have gf794 : mFz I h hf794 := mFz_a gf793 af794 (by decide) (Nat.le_refl _)
              have pf794 := mAs_P af794 (by decide) pf793
              have Sf794 : ms hf794 = (rA vp792.1 (rA (rE T n (rB T n (ms h).1)) (ms h))) := (mAs_m af794 (by decide)).1.trans Sf793
              have Df794 : tvI (tF hf794 111 32) = 0 := by rw [af794.2.1]; exact Df793
              refine tw_iload rfl rfl ?_
              refine tw_push rfl ?_
              refine tw_ic_eq rfl (fun q795 => ?_) (fun q795 => ?_)
              · try dsimp only [tvI_i, tvJ_j, tvR_r] at q795
                have q795i := zeqi (Y := 3) (by decide) q795
                exfalso
                have z1 := q755i
                have z2 := q795i
                omega
              · try dsimp only [tvI_i, tvJ_j, tvR_r] at q795
                have q795i := zneq (Y := 3) (by decide) q795
                refine tw_aload rfl rfl ?_
                refine tw_getS rfl (hi_111_29 (gf794).1) ?_
                refine tw_if_ne rfl (fun q796 => ?_) (fun q796 => ?_)
                · try dsimp only [tvI_i, tvJ_j, tvR_r] at q796
                  have q796i := zneq (Y := 0) (by decide) q796
                  exact absurd (mP_0 pf794) q796
                · try dsimp only [tvI_i, tvJ_j, tvR_r] at q796
                  have q796i := zeqi (Y := 0) (by decide) q796
                  refine tw_aload rfl rfl ?_
                  refine tw_push rfl ?_
                  refine tw_virt1 rfl (g_readsR hG hX (gf794).1 pf794 ((mFz_T gf794).trans hT) ((mFz_n gf794).trans hN) (x := 1) (tst := false) (by decide) (by decide) ⟨fun z => absurd z (by decide), fun z => absurd z (by decide)⟩ Df794) (fun w9 hp797 p797 => ?_)
                  obtain ⟨rfl, gp797, ⟨pp797e, dp797, mp797⟩ | ⟨ep797, Fp797, Zp797, mp797⟩⟩ := p797
                  · have gwp797 := id gp797
                    have gzp797 : mFz I h hp797 := mFz_t gf794 (mFz_w gwp797)
                    have m9 := mp797
                    rw [Sf794, show stN 1 = 1 from rfl] at m9
                    obtain ⟨hS, s2, hs2, K3⟩ := rCl2_s K2 (by have z := q795i; omega) m9
                    have Dp797 := mSk_0 dp797 hS
                    refine tw_aload rfl rfl ?_
                    refine tw_getS rfl (hs_111_41 gzp797.1) ?_
                    refine tw_iload rfl rfl ?_
                    refine tw_aload rfl rfl ?_
                    refine tw_getS rfl (hi_111_31 gzp797.1) ?_
                    refine tw_iast rfl (fun f798 => ?_)
                    have Lf798 : (tvI (tF hp797 111 31)).toNatClampNeg = (rA (rB T n s2.1) s2).2.2.length := by rw [← mEn_len]; exact congrArg (fun z : rS => z.2.2.length) hs2
                    refine tG_ast f798 (gzp797).1 (fun hf798 af798 => ?_)
                    try dsimp only [tvI_i, tvR_r] at af798
                    rw [hI9] at af798
                    have gf798 : mFz I h hf798 := mFz_a gzp797 af798 (by decide) (Nat.le_refl _)
                    have pf798 := mAs_P af798 (by decide) pp797e
                    have Sf798 : ms hf798 = (rA (rB T n s2.1) s2) := (mAs_m af798 (by decide)).1.trans hs2
                    have Df798 : tvI (tF hf798 111 32) = 0 := by rw [af798.2.1]; exact Dp797
                    refine tw_aload rfl rfl ?_
                    refine tw_virt0 rfl (g_blanks hG hX (gf798).1 pf798 ((mFz_T gf798).trans hT) ((mFz_n gf798).trans hN)) (fun wp799 hp799 p799 => ?_)
                    obtain ⟨rfl, gp799, pp799e, sp799, tp799, dp799⟩ := p799
                    have gwp799 := mFw_f gp799
                    have gzp799 : mFz I h hp799 := mFz_t gf798 (mFz_w gwp799)
                    have Dp799 : tvI (tF hp799 111 32) = 0 := by rw [dp799]; exact Df798
                    have Sp799 : ms hp799 = (rA (rB T n s2.1) s2) := (by rw [sp799, Sf798]; exact rB_A)
                    refine tw_aload rfl rfl ?_
                    refine tw_push rfl ?_
                    refine tw_virt1 rfl (g_stands hG hX (gzp799).1 ((mFz_T gzp799).trans hT) ((mFz_n gzp799).trans hN) (q := 21) (by decide +kernel) ⟨pp799e.2.1.1, by have := pp799e.2.1; omega⟩ ⟨by have := pp799e.2.1; omega, pp799e.2.1.2.2⟩) (fun w9 h9 p800 => ?_)
                    obtain ⟨⟨p800, rfl⟩ | ⟨p800, rfl⟩, rfl⟩ := p800
                    · try dsimp only [tvI_i, tvJ_j, tvR_r] at p800
                      refine tw_istore rfl ?_
                      refine tw_iload rfl rfl ?_
                      refine tw_push rfl ?_
                      refine tw_ic_ne rfl (fun q801 => ?_) (fun q801 => ?_)
                      · try dsimp only [tvI_i, tvJ_j, tvR_r] at q801
                        have q801i := zneq (Y := 3) (by decide) q801
                        refine tw_iload rfl rfl ?_
                        refine tw_if_eq rfl (fun z => absurd z (by decide)) (fun _ => ?_)
                        refine tw_aload rfl rfl ?_
                        refine tw_getS rfl (hi_111_29 gzp799.1) ?_
                        refine tw_if_ne rfl (fun q802 => ?_) (fun q802 => ?_)
                        · try dsimp only [tvI_i, tvJ_j, tvR_r] at q802
                          have q802i := zneq (Y := 0) (by decide) q802
                          exact absurd (mP_0 pp799e) q802
                        · try dsimp only [tvI_i, tvJ_j, tvR_r] at q802
                          have q802i := zeqi (Y := 0) (by decide) q802
                          refine tw_aload rfl rfl ?_
                          refine tw_dup rfl ?_
                          refine tw_getS rfl (hi_111_28 gzp799.1) ?_
                          refine tw_push rfl ?_
                          refine tw_iadd rfl ?_
                          refine tw_put rfl (fun f803 => ?_)
                          have hw16 : rW T n (rB T n s2.1) (rWd 16) = true := by have z := p800; rw [Sp799, rA_1] at z; exact z
                          refine tG_setm f803 (hw_111_28 f803 (gzp799).1) (fun hf803 ef803 => ?_)
                          try dsimp only [tvI_i] at ef803
                          have gf803 : mFz I h hf803 := mFz_s gzp799 ef803 (Or.inl (by unfold mFs; omega))
                          have h9w : rE T n (rB T n s2.1) = rB T n s2.1 + 2 := by rw [rW_e hw16, wlen_k.2.2.2]
                          have hpB : rB T n s2.1 ≤ n := by have z := mPle pp799e ((mFz_n gzp799).trans hN); rw [Sp799, rA_1] at z; exact z
                          have hr9 := rE_le (T := T) hpB
                          rw [h9w] at hr9
                          obtain ⟨pf803, sf803, tf803⟩ := mTo pp799e ((mFz_n gzp799).trans hN) ef803 (v := rB T n s2.1 + 2) (zadN (a := rB T n s2.1) (b := 2) (by rw [mPl pp799e, Sp799, rA_1]) rfl (by omega) (by decide)) (by omega)
                          have Sf803 : ms hf803 = (rA (rB T n s2.1 + 2) s2) := by rw [sf803, Sp799, rA_A]
                          have Df803 : tvI (tF hf803 111 32) = 0 := by rw [mI_o ef803 (by decide)]; exact Dp799
                          have gwf803 : tA hf803 = tA hp799 := ef803.2.2.2.1
                          refine tw_aload rfl rfl ?_
                          refine tw_push rfl ?_
                          refine tw_virt1 rfl (g_readsR hG hX (gf803).1 pf803 ((mFz_T gf803).trans hT) ((mFz_n gf803).trans hN) (x := 0) (tst := true) (by decide) (by decide) ⟨fun _ => rfl, fun _ => rfl⟩ Df803) (fun w9 hp804 p804 => ?_)
                          obtain ⟨rfl, gp804, ⟨pp804e, dp804, mp804⟩ | ⟨ep804, Fp804, Zp804, mp804⟩⟩ := p804
                          · have gwp804 := id gp804
                            have gzp804 : mFz I h hp804 := mFz_t gf803 (mFz_w gwp804)
                            have m9 := mp804
                            rw [Sf803, show stN 0 = 0 from rfl] at m9
                            obtain ⟨hS3, s3, hs3, hr⟩ := rCl3_s K3 hw16 m9
                            have Dp804 := mSk_0 dp804 hS3
                            refine tw_aload rfl rfl ?_
                            refine tw_getS rfl (hs_111_42 gzp804.1) ?_
                            refine tw_iload rfl rfl ?_
                            refine tw_aload rfl rfl ?_
                            refine tw_getS rfl (hi_111_31 gzp804.1) ?_
                            refine tw_iast rfl (fun f805 => ?_)
                            have Lf805 : (tvI (tF hp804 111 31)).toNatClampNeg = (rA (rB T n s3.1) s3).2.2.length := by rw [← mEn_len]; exact congrArg (fun z : rS => z.2.2.length) hs3
                            refine tG_ast f805 (gzp804).1 (fun hf805 af805 => ?_)
                            try dsimp only [tvI_i, tvR_r] at af805
                            rw [hI9] at af805
                            have gf805 : mFz I h hf805 := mFz_a gzp804 af805 (by decide) (Nat.le_refl _)
                            have pf805 := mAs_P af805 (by decide) pp804e
                            have Sf805 : ms hf805 = (rA (rB T n s3.1) s3) := (mAs_m af805 (by decide)).1.trans hs3
                            have Df805 : tvI (tF hf805 111 32) = 0 := by rw [af805.2.1]; exact Dp804
                            have c135 : tA hf805 135 I = x := ((congrFun ((mAs_A af805 (q := 135) (by decide)).trans ((mFw_A gwp804 (p := 135) (by decide)).trans ((congrFun gwf803 135).trans ((mFw_A gwp799 (p := 135) (by decide)).trans ((mAs_A af798 (q := 135) (by decide)).trans ((mFw_A gwp797 (p := 135) (by decide)).trans ((mAs_A af794 (q := 135) (by decide)).trans ((mAs_A af793 (q := 135) (by decide)).trans ((mFw_A gwp792 (p := 135) (by decide)).trans ((mFw_A gwp791 (p := 135) (by decide)).trans (mAs_A af754 (q := 135) (by decide)))))))))))) I).trans (mAs_x af753))
                            have c137 : (tA hf805 137 I).toNatClampNeg = (rA vp792.1 (rA (rE T n (rB T n (ms h).1)) (ms h))).2.2.length := by rw [((congrFun ((mAs_A af805 (q := 137) (by decide)).trans ((mFw_A gwp804 (p := 137) (by decide)).trans ((congrFun gwf803 137).trans ((mFw_A gwp799 (p := 137) (by decide)).trans ((mAs_A af798 (q := 137) (by decide)).trans (mFw_A gwp797 (p := 137) (by decide))))))) I).trans (mAs_x af794))]; exact Lf794
                            have c138 : (tA hf805 138 I).toNatClampNeg = (rA (rB T n s2.1) s2).2.2.length := by rw [((congrFun ((mAs_A af805 (q := 138) (by decide)).trans ((mFw_A gwp804 (p := 138) (by decide)).trans ((congrFun gwf803 138).trans (mFw_A gwp799 (p := 138) (by decide))))) I).trans (mAs_x af798))]; exact Lf798
                            have c139 : (tA hf805 139 I).toNatClampNeg = (rA (rB T n s3.1) s3).2.2.length := by rw [(mAs_x af805)]; exact Lf805
                            have c136 : (tA hf805 136 I).toNatClampNeg = vp792.2 := by rw [((congrFun ((mAs_A af805 (q := 136) (by decide)).trans ((mFw_A gwp804 (p := 136) (by decide)).trans ((congrFun gwf803 136).trans ((mFw_A gwp799 (p := 136) (by decide)).trans ((mAs_A af798 (q := 136) (by decide)).trans ((mFw_A gwp797 (p := 136) (by decide)).trans (mAs_A af794 (q := 136) (by decide)))))))) I).trans (mAs_x af793))]; exact zoN (by omega)
                            have hrow : mRow hf805 I = (vp792.2, (rA vp792.1 (rA (rE T n (rB T n (ms h).1)) (ms h))).2.2.length, (rA (rB T n s2.1) s2).2.2.length, (rA (rB T n s3.1) s3).2.2.length) := by
                              unfold mRow
                              rw [c135, c137, c138, c139, zof_cl hx, c136, if_pos ⟨by have z := q755i; omega, by omega⟩]
                            exact tw_vret rfl ⟨rfl, gf805, mCo_r hr pf805 Sf805 Df805 hrow⟩
                          · have gwp804 := id gp804
                            have gzp804 : mFz I h hp804 := mFz_t gf803 (mFz_w gwp804)
                            have m9 := mp804
                            rw [Sf803, show stN 0 = 0 from rfl] at m9
                            have hr := rCl3_e K3 hw16 m9
                            refine tw_aload rfl rfl ?_
                            refine tw_getS rfl (hs_111_42 gzp804.1) ?_
                            refine tw_iload rfl rfl ?_
                            refine tw_aload rfl rfl ?_
                            refine tw_getS rfl (hi_111_31 gzp804.1) ?_
                            refine tw_iast rfl (fun f806 => ?_)
                            refine tG_ast f806 (gzp804).1 (fun hf806 af806 => ?_)
                            try dsimp only [tvI_i, tvR_r] at af806
                            rw [hI9] at af806
                            have gf806 : mFz I h hf806 := mFz_a gzp804 af806 (by decide) (Nat.le_refl _)
                            have Ff806 := mAs_F af806 Fp804
                            have Zf806 := mAs_Z af806 Zp804
                            exact tw_vret rfl ⟨rfl, gf806, mCo_l hr Ff806 Zf806⟩
                      · try dsimp only [tvI_i, tvJ_j, tvR_r] at q801
                        have q801i := zeqi (Y := 3) (by decide) q801
                        exfalso
                        have z1 := q755i
                        have z2 := q801i
                        omega
                    · try dsimp only [tvI_i, tvJ_j, tvR_r] at p800
                      refine tw_istore rfl ?_
                      refine tw_iload rfl rfl ?_
                      refine tw_push rfl ?_
                      refine tw_ic_ne rfl (fun q807 => ?_) (fun q807 => ?_)
                      · try dsimp only [tvI_i, tvJ_j, tvR_r] at q807
                        have q807i := zneq (Y := 3) (by decide) q807
                        refine tw_iload rfl rfl ?_
                        refine tw_if_eq rfl (fun _ => ?_) (fun z => absurd z (by decide))
                        refine tw_aload rfl rfl ?_
                        refine tw_getS rfl (hs_111_42 gzp799.1) ?_
                        refine tw_iload rfl rfl ?_
                        refine tw_aload rfl rfl ?_
                        refine tw_getS rfl (hi_111_31 gzp799.1) ?_
                        refine tw_iast rfl (fun f808 => ?_)
                        have Lf808 : (tvI (tF hp799 111 31)).toNatClampNeg = (rA (rB T n s2.1) s2).2.2.length := by rw [← mEn_len]; exact congrArg (fun z : rS => z.2.2.length) Sp799
                        refine tG_ast f808 (gzp799).1 (fun hf808 af808 => ?_)
                        try dsimp only [tvI_i, tvR_r] at af808
                        rw [hI9] at af808
                        have gf808 : mFz I h hf808 := mFz_a gzp799 af808 (by decide) (Nat.le_refl _)
                        have pf808 := mAs_P af808 (by decide) pp799e
                        have Sf808 : ms hf808 = (rA (rB T n s2.1) s2) := (mAs_m af808 (by decide)).1.trans Sp799
                        have Df808 : tvI (tF hf808 111 32) = 0 := by rw [af808.2.1]; exact Dp799
                        have hw16 : ¬ rW T n (rB T n s2.1) (rWd 16) = true := by have z := p800; rw [Sp799, rA_1] at z; exact z
                        have hr := rCl3_2 K3 hw16 (by have z := q807i; omega)
                        have c135 : tA hf808 135 I = x := ((congrFun ((mAs_A af808 (q := 135) (by decide)).trans ((mFw_A gwp799 (p := 135) (by decide)).trans ((mAs_A af798 (q := 135) (by decide)).trans ((mFw_A gwp797 (p := 135) (by decide)).trans ((mAs_A af794 (q := 135) (by decide)).trans ((mAs_A af793 (q := 135) (by decide)).trans ((mFw_A gwp792 (p := 135) (by decide)).trans ((mFw_A gwp791 (p := 135) (by decide)).trans (mAs_A af754 (q := 135) (by decide)))))))))) I).trans (mAs_x af753))
                        have c137 : (tA hf808 137 I).toNatClampNeg = (rA vp792.1 (rA (rE T n (rB T n (ms h).1)) (ms h))).2.2.length := by rw [((congrFun ((mAs_A af808 (q := 137) (by decide)).trans ((mFw_A gwp799 (p := 137) (by decide)).trans ((mAs_A af798 (q := 137) (by decide)).trans (mFw_A gwp797 (p := 137) (by decide))))) I).trans (mAs_x af794))]; exact Lf794
                        have c138 : (tA hf808 138 I).toNatClampNeg = (rA (rB T n s2.1) s2).2.2.length := by rw [((congrFun ((mAs_A af808 (q := 138) (by decide)).trans (mFw_A gwp799 (p := 138) (by decide))) I).trans (mAs_x af798))]; exact Lf798
                        have c139 : (tA hf808 139 I).toNatClampNeg = (rA (rB T n s2.1) s2).2.2.length := by rw [(mAs_x af808)]; exact Lf808
                        have c136 : (tA hf808 136 I).toNatClampNeg = vp792.2 := by rw [((congrFun ((mAs_A af808 (q := 136) (by decide)).trans ((mFw_A gwp799 (p := 136) (by decide)).trans ((mAs_A af798 (q := 136) (by decide)).trans ((mFw_A gwp797 (p := 136) (by decide)).trans (mAs_A af794 (q := 136) (by decide)))))) I).trans (mAs_x af793))]; exact zoN (by omega)
                        have hrow : mRow hf808 I = (vp792.2, (rA vp792.1 (rA (rE T n (rB T n (ms h).1)) (ms h))).2.2.length, (rA (rB T n s2.1) s2).2.2.length, (rA (rB T n s2.1) s2).2.2.length) := by
                          unfold mRow
                          rw [c135, c137, c138, c139, zof_cl hx, c136, if_pos ⟨by have z := q755i; omega, by omega⟩]
                        exact tw_vret rfl ⟨rfl, gf808, mCo_r hr pf808 (Sf808.trans rB_A.symm) Df808 hrow⟩
                      · try dsimp only [tvI_i, tvJ_j, tvR_r] at q807
                        have q807i := zeqi (Y := 3) (by decide) q807
                        exfalso
                        have z1 := q755i
                        have z2 := q807i
                        omega
                  · have gwp797 := id gp797
                    have gzp797 : mFz I h hp797 := mFz_t gf794 (mFz_w gwp797)
                    have m9 := mp797
                    rw [Sf794, show stN 1 = 1 from rfl] at m9
                    have hr := rCl2_e K2 (by have z := q795i; omega) m9
                    refine tw_aload rfl rfl ?_
                    refine tw_getS rfl (hs_111_41 gzp797.1) ?_
                    refine tw_iload rfl rfl ?_
                    refine tw_aload rfl rfl ?_
                    refine tw_getS rfl (hi_111_31 gzp797.1) ?_
                    refine tw_iast rfl (fun f809 => ?_)
                    refine tG_ast f809 (gzp797).1 (fun hf809 af809 => ?_)
                    try dsimp only [tvI_i, tvR_r] at af809
                    rw [hI9] at af809
                    have gf809 : mFz I h hf809 := mFz_a gzp797 af809 (by decide) (Nat.le_refl _)
                    have Ff809 := mAs_F af809 Fp797
                    have Zf809 := mAs_Z af809 Zp797
                    refine tw_aload rfl rfl ?_
                    refine tw_virt0 rfl (y_blanks hG hX (gf809).1 Ff809 ((mFz_T gf809).trans hT) ((mFz_n gf809).trans hN) Zf809) (fun wp810 hp810 p810 => ?_)
                    obtain ⟨rfl, gp810, Fp810, Zp810⟩ := p810
                    have gwp810 := mFw_f gp810
                    have gzp810 : mFz I h hp810 := mFz_t gf809 (mFz_w gwp810)
                    refine tw_aload rfl rfl ?_
                    refine tw_push rfl ?_
                    refine tw_virt1 rfl (g_stands hG hX (gzp810).1 ((mFz_T gzp810).trans hT) ((mFz_n gzp810).trans hN) (q := 21) (by decide +kernel) Zp810.1 ⟨by have := Zp810.2; omega, Zp810.2.2⟩) (fun w9 h9 p811 => ?_)
                    obtain ⟨⟨p811, rfl⟩ | ⟨p811, rfl⟩, rfl⟩ := p811
                    · try dsimp only [tvI_i, tvJ_j, tvR_r] at p811
                      refine tw_istore rfl ?_
                      refine tw_iload rfl rfl ?_
                      refine tw_push rfl ?_
                      refine tw_ic_ne rfl (fun q812 => ?_) (fun q812 => ?_)
                      · try dsimp only [tvI_i, tvJ_j, tvR_r] at q812
                        have q812i := zneq (Y := 3) (by decide) q812
                        refine tw_iload rfl rfl ?_
                        refine tw_if_eq rfl (fun z => absurd z (by decide)) (fun _ => ?_)
                        refine tw_aload rfl rfl ?_
                        refine tw_getS rfl (hi_111_29 gzp810.1) ?_
                        refine tw_if_ne rfl (fun q813 => ?_) (fun q813 => ?_)
                        · try dsimp only [tvI_i, tvJ_j, tvR_r] at q813
                          have q813i := zneq (Y := 0) (by decide) q813
                          refine tw_aload rfl rfl ?_
                          refine tw_getS rfl (hs_111_42 gzp810.1) ?_
                          refine tw_iload rfl rfl ?_
                          refine tw_aload rfl rfl ?_
                          refine tw_getS rfl (hi_111_31 gzp810.1) ?_
                          refine tw_iast rfl (fun f814 => ?_)
                          refine tG_ast f814 (gzp810).1 (fun hf814 af814 => ?_)
                          try dsimp only [tvI_i, tvR_r] at af814
                          rw [hI9] at af814
                          have gf814 : mFz I h hf814 := mFz_a gzp810 af814 (by decide) (Nat.le_refl _)
                          have Ff814 := mAs_F af814 Fp810
                          have Zf814 := mAs_Z af814 Zp810
                          exact tw_vret rfl ⟨rfl, gf814, mCo_l hr Ff814 Zf814⟩
                        · try dsimp only [tvI_i, tvJ_j, tvR_r] at q813
                          have q813i := zeqi (Y := 0) (by decide) q813
                          exact absurd q813 (mFt_n Fp810)
                      · try dsimp only [tvI_i, tvJ_j, tvR_r] at q812
                        have q812i := zeqi (Y := 3) (by decide) q812
                        exfalso
                        have z1 := q755i
                        have z2 := q812i
                        omega
                    · try dsimp only [tvI_i, tvJ_j, tvR_r] at p811
                      refine tw_istore rfl ?_
                      refine tw_iload rfl rfl ?_
                      refine tw_push rfl ?_
                      refine tw_ic_ne rfl (fun q815 => ?_) (fun q815 => ?_)
                      · try dsimp only [tvI_i, tvJ_j, tvR_r] at q815
                        have q815i := zneq (Y := 3) (by decide) q815
                        refine tw_iload rfl rfl ?_
                        refine tw_if_eq rfl (fun _ => ?_) (fun z => absurd z (by decide))
                        refine tw_aload rfl rfl ?_
                        refine tw_getS rfl (hs_111_42 gzp810.1) ?_
                        refine tw_iload rfl rfl ?_
                        refine tw_aload rfl rfl ?_
                        refine tw_getS rfl (hi_111_31 gzp810.1) ?_
                        refine tw_iast rfl (fun f816 => ?_)
                        refine tG_ast f816 (gzp810).1 (fun hf816 af816 => ?_)
                        try dsimp only [tvI_i, tvR_r] at af816
                        rw [hI9] at af816
                        have gf816 : mFz I h hf816 := mFz_a gzp810 af816 (by decide) (Nat.le_refl _)
                        have Ff816 := mAs_F af816 Fp810
                        have Zf816 := mAs_Z af816 Zp810
                        exact tw_vret rfl ⟨rfl, gf816, mCo_l hr Ff816 Zf816⟩
                      · try dsimp only [tvI_i, tvJ_j, tvR_r] at q815
                        have q815i := zeqi (Y := 3) (by decide) q815
                        exfalso
                        have z1 := q755i
                        have z2 := q815i
                        omega
            · have gwp792 := mFw_f gp792
              have gzp792 : mFz I h hp792 := mFz_t gzp791 (mFz_w gwp792)
              have hr : r = .inl ep792 := rCl1_e K1 (by have z := q755i; omega) (by rw [← rM_bb]; have z := Np792; rw [Sp791, rA_1] at z; exact z)
              refine tw_iast rfl (fun f817 => ?_)
              refine tG_ast f817 (gzp792).1 (fun hf817 af817 => ?_)
              try dsimp only [tvI_i, tvR_r] at af817
              rw [hI9] at af817
              have gf817 : mFz I h hf817 := mFz_a gzp792 af817 (by decide) (Nat.le_refl _)
              have Ff817 := mAs_F af817 Fp792
              have Zf817 := mAs_Z af817 Zp792
              refine tw_aload rfl rfl ?_
              refine tw_getS rfl (hs_111_40 (gf817).1) ?_
              refine tw_iload rfl rfl ?_
              refine tw_aload rfl rfl ?_
              refine tw_getS rfl (hi_111_31 (gf817).1) ?_
              refine tw_iast rfl (fun f818 => ?_)
              refine tG_ast f818 (gf817).1 (fun hf818 af818 => ?_)
              try dsimp only [tvI_i, tvR_r] at af818
              rw [hI9] at af818
              have gf818 : mFz I h hf818 := mFz_a gf817 af818 (by decide) (Nat.le_refl _)
              have Ff818 := mAs_F af818 Ff817
              have Zf818 := mAs_Z af818 Zf817
              refine tw_iload rfl rfl ?_
              refine tw_push rfl ?_
              refine tw_ic_eq rfl (fun q819 => ?_) (fun q819 => ?_)
              · try dsimp only [tvI_i, tvJ_j, tvR_r] at q819
                have q819i := zeqi (Y := 3) (by decide) q819
                exfalso
                have z1 := q755i
                have z2 := q819i
                omega
              · try dsimp only [tvI_i, tvJ_j, tvR_r] at q819
                have q819i := zneq (Y := 3) (by decide) q819
                refine tw_aload rfl rfl ?_
                refine tw_getS rfl (hi_111_29 (gf818).1) ?_
                refine tw_if_ne rfl (fun q820 => ?_) (fun q820 => ?_)
                · try dsimp only [tvI_i, tvJ_j, tvR_r] at q820
                  have q820i := zneq (Y := 0) (by decide) q820
                  refine tw_aload rfl rfl ?_
                  refine tw_getS rfl (hs_111_41 (gf818).1) ?_
                  refine tw_iload rfl rfl ?_
                  refine tw_aload rfl rfl ?_
                  refine tw_getS rfl (hi_111_31 (gf818).1) ?_
                  refine tw_iast rfl (fun f821 => ?_)
                  refine tG_ast f821 (gf818).1 (fun hf821 af821 => ?_)
                  try dsimp only [tvI_i, tvR_r] at af821
                  rw [hI9] at af821
                  have gf821 : mFz I h hf821 := mFz_a gf818 af821 (by decide) (Nat.le_refl _)
                  have Ff821 := mAs_F af821 Ff818
                  have Zf821 := mAs_Z af821 Zf818
                  refine tw_aload rfl rfl ?_
                  refine tw_virt0 rfl (y_blanks hG hX (gf821).1 Ff821 ((mFz_T gf821).trans hT) ((mFz_n gf821).trans hN) Zf821) (fun wp822 hp822 p822 => ?_)
                  obtain ⟨rfl, gp822, Fp822, Zp822⟩ := p822
                  have gwp822 := mFw_f gp822
                  have gzp822 : mFz I h hp822 := mFz_t gf821 (mFz_w gwp822)
                  refine tw_aload rfl rfl ?_
                  refine tw_push rfl ?_
                  refine tw_virt1 rfl (g_stands hG hX (gzp822).1 ((mFz_T gzp822).trans hT) ((mFz_n gzp822).trans hN) (q := 21) (by decide +kernel) Zp822.1 ⟨by have := Zp822.2; omega, Zp822.2.2⟩) (fun w9 h9 p823 => ?_)
                  obtain ⟨⟨p823, rfl⟩ | ⟨p823, rfl⟩, rfl⟩ := p823
                  · try dsimp only [tvI_i, tvJ_j, tvR_r] at p823
                    refine tw_istore rfl ?_
                    refine tw_iload rfl rfl ?_
                    refine tw_push rfl ?_
                    refine tw_ic_ne rfl (fun q824 => ?_) (fun q824 => ?_)
                    · try dsimp only [tvI_i, tvJ_j, tvR_r] at q824
                      have q824i := zneq (Y := 3) (by decide) q824
                      refine tw_iload rfl rfl ?_
                      refine tw_if_eq rfl (fun z => absurd z (by decide)) (fun _ => ?_)
                      refine tw_aload rfl rfl ?_
                      refine tw_getS rfl (hi_111_29 gzp822.1) ?_
                      refine tw_if_ne rfl (fun q825 => ?_) (fun q825 => ?_)
                      · try dsimp only [tvI_i, tvJ_j, tvR_r] at q825
                        have q825i := zneq (Y := 0) (by decide) q825
                        refine tw_aload rfl rfl ?_
                        refine tw_getS rfl (hs_111_42 gzp822.1) ?_
                        refine tw_iload rfl rfl ?_
                        refine tw_aload rfl rfl ?_
                        refine tw_getS rfl (hi_111_31 gzp822.1) ?_
                        refine tw_iast rfl (fun f826 => ?_)
                        refine tG_ast f826 (gzp822).1 (fun hf826 af826 => ?_)
                        try dsimp only [tvI_i, tvR_r] at af826
                        rw [hI9] at af826
                        have gf826 : mFz I h hf826 := mFz_a gzp822 af826 (by decide) (Nat.le_refl _)
                        have Ff826 := mAs_F af826 Fp822
                        have Zf826 := mAs_Z af826 Zp822
                        exact tw_vret rfl ⟨rfl, gf826, mCo_l hr Ff826 Zf826⟩
                      · try dsimp only [tvI_i, tvJ_j, tvR_r] at q825
                        have q825i := zeqi (Y := 0) (by decide) q825
                        exact absurd q825 (mFt_n Fp822)
                    · try dsimp only [tvI_i, tvJ_j, tvR_r] at q824
                      have q824i := zeqi (Y := 3) (by decide) q824
                      exfalso
                      have z1 := q755i
                      have z2 := q824i
                      omega
                  · try dsimp only [tvI_i, tvJ_j, tvR_r] at p823
                    refine tw_istore rfl ?_
                    refine tw_iload rfl rfl ?_
                    refine tw_push rfl ?_
                    refine tw_ic_ne rfl (fun q827 => ?_) (fun q827 => ?_)
                    · try dsimp only [tvI_i, tvJ_j, tvR_r] at q827
                      have q827i := zneq (Y := 3) (by decide) q827
                      refine tw_iload rfl rfl ?_
                      refine tw_if_eq rfl (fun _ => ?_) (fun z => absurd z (by decide))
                      refine tw_aload rfl rfl ?_
                      refine tw_getS rfl (hs_111_42 gzp822.1) ?_
                      refine tw_iload rfl rfl ?_
                      refine tw_aload rfl rfl ?_
                      refine tw_getS rfl (hi_111_31 gzp822.1) ?_
                      refine tw_iast rfl (fun f828 => ?_)
                      refine tG_ast f828 (gzp822).1 (fun hf828 af828 => ?_)
                      try dsimp only [tvI_i, tvR_r] at af828
                      rw [hI9] at af828
                      have gf828 : mFz I h hf828 := mFz_a gzp822 af828 (by decide) (Nat.le_refl _)
                      have Ff828 := mAs_F af828 Fp822
                      have Zf828 := mAs_Z af828 Zp822
                      exact tw_vret rfl ⟨rfl, gf828, mCo_l hr Ff828 Zf828⟩
                    · try dsimp only [tvI_i, tvJ_j, tvR_r] at q827
                      have q827i := zeqi (Y := 3) (by decide) q827
                      exfalso
                      have z1 := q755i
                      have z2 := q827i
                      omega
                · try dsimp only [tvI_i, tvJ_j, tvR_r] at q820
                  have q820i := zeqi (Y := 0) (by decide) q820
                  exact absurd q820 (mFt_n Ff818)
        · try dsimp only [tvI_i, tvJ_j, tvR_r] at q750
          have q750i := zeqi (Y := 12) (by decide) q750
          refine tw_aload rfl rfl ?_
          refine tw_push rfl ?_
          refine tw_iload rfl rfl ?_
          refine tw_virt2 rfl (g_fails hG hX (gzp743).1 pp743e ((mFz_T gzp743).trans hT) ((mFz_n gzp743).trans hN) (w := 4) rfl (by decide) (mPl pp743e) (by have := mPle pp743e ((mFz_n gzp743).trans hN); have := mNl pp743e ((mFz_n gzp743).trans hN); have := pp743e.2.1; omega)) (fun wp829 hp829 p829 => ?_)
          obtain ⟨rfl, gp829, Fp829, ip829, jp829⟩ := p829
          have gwp829 := mFw_f gp829
          have gzp829 : mFz I h hp829 := mFz_t gzp743 (mFz_w gwp829)
          have Zp829 : mZp hp829 := mZp_k (mZp_p pp743e) ip829 jp829
          rw [Sp743, rA_1] at Fp829
          have hk4 : k < 4 := by have z := q744; omega
          have hw : rW T n (rB T n (ms h).1) (rWd (k + 12)) = true := by have z := p748; rw [Sp743, rA_1] at z; rw [rWd_14 hk4]; exact z
          have hr := rCl_cc hr0 (k := k + 12) (by omega) (by omega) hw (by have z := q750i; omega)
          exact tw_vret rfl ⟨rfl, gzp829, mCo_l hr Fp829 Zp829⟩
      · try dsimp only [tvI_i, tvJ_j, tvR_r] at q749
        have q749i := zeqi (Y := 4) (by decide) q749
        exfalso
        have z1 := q744
        have z2 := q749i
        omega
    · try dsimp only [tvI_i, tvJ_j, tvR_r] at p748
      refine tw_if_ne rfl (fun z => absurd z (by decide)) (fun _ => ?_)
      refine tw_iinc rfl rfl ?_
      refine tw_goto rfl ?_
      have hk4 : k < 4 := by have z := q744; omega
      have hno : ¬ rW T n (rB T n (ms h).1) (rWd (k + 12)) = true := by have z := p748; rw [Sp743, rA_1] at z; rw [rWd_14 hk4]; exact z
      exact tG_cut (zW_mono zTt G dp) (Or.inr ⟨rfl, rfl, rfl, k + 1, x + 1, zincN hx (by omega), by omega, fun i hi => (Classical.em (i = k)).elim (fun z => by rw [z]; exact hno) (fun z => hall i (by omega)), rfl⟩)
/-! the reference's whole rule: what its loop stands on -/
section R9
variable {T : Nat → Int32} {n f : Nat} {s : rS} {cl : List rCt} {r : Nat ⊕ (rS × List rCt)}
/-- what follows a clause -/
noncomputable def rNx (T : Nat → Int32) (n : Nat) (cl : List rCt) (r : Nat ⊕ (rS × List rCt)) : Nat ⊕ (rS × rCt) → Prop
  | .inl e => r = .inl e
  | .inr x => (¬ rB T n x.1.1 < n ∧ r = .inr (rA (rB T n x.1.1) x.1, cl ++ [x.2])) ∨ ((rB T n x.1.1 < n ∧ T (rB T n x.1.1) = 59) ∧ ∃ f, rRu T n f (rA (rB T n x.1.1 + 1) x.1) (cl ++ [x.2]) r) ∨ ((rB T n x.1.1 < n ∧ ¬ T (rB T n x.1.1) = 59) ∧ r = .inl (1 + 8 * rB T n x.1.1 + 0))
theorem rRu_st (h : rRu T n f s cl r) : ∃ r2, rCl T n cl.length s r2 ∧ rNx T n cl r r2 := by
  cases f with
  | zero => exact h.elim
  | succ f =>
    rcases h with ⟨e, h1, h2⟩ | ⟨s1, c, h1, h2⟩
    · exact ⟨.inl e, h1, h2⟩
    · refine ⟨.inr (s1, c), h1, ?_⟩
      rcases h2 with h2 | ⟨h2, h3⟩ | h2
      · exact Or.inl h2
      · exact Or.inr (Or.inl ⟨h2, f, h3⟩)
      · exact Or.inr (Or.inr h2)
theorem mCo_w {I : Nat} {r2 : Nat ⊕ (rS × rCt)} {h h2 : zH} {w : Option Value} (k : w = none ∧ mFz I h h2 ∧ mCo T n I r2 h2) (q : rNx T n cl r r2) : w = none ∧ mFz I h h2 ∧ ((∃ e, r = .inl e ∧ mFt h2 e ∧ mZp h2) ∨ ∃ s1 c1, r2 = .inr (s1, c1) ∧ mP h2 ∧ ms h2 = rA (rB T n s1.1) s1 ∧ tvI (tF h2 111 32) = 0 ∧ mRow h2 I = c1 ∧ rNx T n cl r (.inr (s1, c1))) := by
  refine ⟨k.1, k.2.1, ?_⟩
  cases r2 with
  | inl e => exact Or.inl ⟨e, q, k.2.2.1, k.2.2.2⟩
  | inr x => exact Or.inr ⟨x.1, x.2, rfl, k.2.2.1, k.2.2.2.1, k.2.2.2.2.1, k.2.2.2.2.2, q⟩
/-- what the reference's reader keeps between rules -/
noncomputable def mK (h : zH) : Prop := (0 ≤ (tvI (tF h 111 27)).toInt ∧ (tvI (tF h 111 27)).toInt ≤ 400) ∧ 0 ≤ (tvI (tF h 111 34)).toInt ∧ (0 ≤ (tvI (tF h 111 30)).toInt ∧ (tvI (tF h 111 30)).toInt ≤ 10) ∧ (∀ i, i < tN h 142 → 0 ≤ (tA h 142 i).toInt) ∧ (∀ i : Nat, i = i) ∧ tN h 133 ≤ 100000 ∧ tN h 142 ≤ 100000
theorem mRs9 {h a b c d e : zH} {lo : Nat} (hs : tSh h) (k : mK h) (e28 : mSet 28 0 h a) (e29 : mSet 29 0 a b) (e31 : mSet 31 0 b c) (e32 : mSet 32 0 c d) (e33 : mSet 33 0 d e) : mFz lo h e ∧ mP e ∧ ms e = (0, 0, []) ∧ tvI (tF e 111 32) = 0 := by
  have z0 : mFz lo h h := mFz_r hs
  have z1 := mFz_s z0 e28 (Or.inl (by unfold mFs; omega))
  have z2 := mFz_s z1 e29 (Or.inl (by unfold mFs; omega))
  have z3 := mFz_s z2 e31 (Or.inl (by unfold mFs; omega))
  have z4 := mFz_s z3 e32 (Or.inl (by unfold mFs; omega))
  have z5 := mFz_s z4 e33 (Or.inl (by unfold mFs; omega))
  have f28 : tF e 111 28 = .int 0 := (e33.2.2.1 111 28 (by decide)).trans ((e32.2.2.1 111 28 (by decide)).trans ((e31.2.2.1 111 28 (by decide)).trans ((e29.2.2.1 111 28 (by decide)).trans e28.2.1)))
  have f29 : tF e 111 29 = .int 0 := (e33.2.2.1 111 29 (by decide)).trans ((e32.2.2.1 111 29 (by decide)).trans ((e31.2.2.1 111 29 (by decide)).trans e29.2.1))
  have f31 : tF e 111 31 = .int 0 := (e33.2.2.1 111 31 (by decide)).trans ((e32.2.2.1 111 31 (by decide)).trans e31.2.1)
  have f32 : tF e 111 32 = .int 0 := (e33.2.2.1 111 32 (by decide)).trans e32.2.1
  have f33 : tF e 111 33 = .int 0 := e33.2.1
  have f34 : tF e 111 34 = tF h 111 34 := (e33.2.2.1 111 34 (by decide)).trans ((e32.2.2.1 111 34 (by decide)).trans ((e31.2.2.1 111 34 (by decide)).trans ((e29.2.2.1 111 34 (by decide)).trans (e28.2.2.1 111 34 (by decide)))))
  have A : tA e = tA h := e33.2.2.2.1.trans (e32.2.2.2.1.trans (e31.2.2.2.1.trans (e29.2.2.2.1.trans e28.2.2.2.1)))
  have N : tN e = tN h := z5.2.2.2.1
  obtain ⟨k1, k2, k3, k4, k5, k6, k7⟩ := k
  refine ⟨z5, ⟨f29, ?_, ?_, ?_, ?_, ?_, ?_, ?_, by rw [N]; exact k6, by rw [N]; exact k7⟩, ?_, ?_⟩
  · rw [f28, mFz_27 z5]
    refine ⟨by decide, ?_, k1.2⟩
    show (0 : Int) ≤ _
    exact k1.1
  · rw [f33]; decide
  · rw [f31]; decide
  · rw [f34]; exact k2
  · rw [mFz_30 z5]; exact k3
  · rw [A, N]; exact k4
  · exact k5
  · unfold ms mEn
    rw [f28, f33, f31]
    rfl
  · rw [f32]; rfl
/-- the codes of rule q, k of them -/
noncomputable def mEk (h : zH) (q k : Nat) : List Nat := (List.range k).map (fun i => mCode (tA h 133 (500 * q + i)).toNatClampNeg (tA h 134 (500 * q + i)).toNatClampNeg)
theorem mEn_k {h : zH} : mEn h = mEk h (tvI (tF h 111 30)).toNatClampNeg (tvI (tF h 111 31)).toNatClampNeg := rfl
end R9
section R10
variable {T : Nat → Int32} {n : Nat} {h h1 h2 : zH}
theorem mRow_z {lo j : Nat} (a : mFz lo h h2) (hj : j < lo) : mRow h2 j = mRow h j := by
  unfold mRow
  rw [a.2.2.2.2.2 135 j (by decide) (by decide) hj, a.2.2.2.2.2 136 j (by decide) (by decide) hj, a.2.2.2.2.2 137 j (by decide) (by decide) hj, a.2.2.2.2.2 138 j (by decide) (by decide) hj, a.2.2.2.2.2 139 j (by decide) (by decide) hj]
noncomputable def mRw (h : zH) (b : Nat) (cl : List rCt) : Prop := ∀ i, i < cl.length → cl[i]? = some (mRow h (b + i))
theorem mRw_0 {b : Nat} : mRw h b [] := fun i hi => absurd hi (Nat.not_lt_zero _)
theorem mRw_z {b lo : Nat} {cl : List rCt} (k : mRw h b cl) (a : mFz lo h h2) (hl : b + cl.length ≤ lo) : mRw h2 b cl := fun i hi => by
  rw [mRow_z a (by omega)]
  exact k i hi
theorem mRw_s {b : Nat} {cl : List rCt} {c1 : rCt} (k : mRw h b cl) (e : mRow h (b + cl.length) = c1) : mRw h b (cl ++ [c1]) := fun i hi => by
  rcases Nat.lt_or_ge i cl.length with z | z
  · rw [List.getElem?_append_left z]
    exact k i z
  · have hi : i < cl.length + 1 := by rw [List.length_append] at hi; exact hi
    obtain rfl : i = cl.length := by omega
    rw [List.getElem?_append_right (Nat.le_refl _), Nat.sub_self, e]
    rfl
/-- a whole rule's frame -/
noncomputable def mFy (h h2 : zH) : Prop := tSh h2 ∧ (∀ p b, ¬ (p = 111 ∧ (mFs b ∨ b = 46 ∨ b = 47 ∨ b = 27 ∨ b = 30)) → tF h2 p b = tF h p b) ∧ (∀ p, p ≠ 133 → p ≠ 134 → p ≠ 142 → (p < 135 ∨ 141 < p) → tA h2 p = tA h p) ∧ tN h2 = tN h ∧ mLo h h2 ∧ (∀ p q, 135 ≤ p → p ≤ 139 → q < 12 * (tvI (tF h 111 30)).toNatClampNeg → tA h2 p q = tA h p q)
noncomputable def mRo (y : Int32) (r : Nat ⊕ (rS × List rCt)) (w : Option Value) (h h2 : zH) : Prop := mFy h h2 ∧ tvI (tF h2 111 27) = 0 ∧ match r with
  | .inl e => e < 100000 ∧ w = some (.int (-2 - Int32.ofNat e)) ∧ tF h2 111 30 = tF h 111 30 ∧ tA h2 140 = tA h 140 ∧ tA h2 141 = tA h 141
  | .inr x => w = some (.int (tvI (tF h 111 30) + 1 - 1)) ∧ tvI (tF h2 111 30) = tvI (tF h 111 30) + 1 ∧ (tA h2 140 (tvI (tF h 111 30)).toNatClampNeg).toNatClampNeg = x.2.length ∧ tA h2 141 (tvI (tF h 111 30)).toNatClampNeg = y ∧ (∀ q, q ≠ (tvI (tF h 111 30)).toNatClampNeg → tA h2 140 q = tA h 140 q ∧ tA h2 141 q = tA h 141 q) ∧ mRw h2 (12 * (tvI (tF h 111 30)).toNatClampNeg) x.2 ∧ x.1.2.2 = mEk h2 (tvI (tF h 111 30)).toNatClampNeg x.1.2.2.length
/-- the loop's end, and its middle -/
noncomputable def mLp (T : Nat → Int32) (n : Nat) (r : Nat ⊕ (rS × List rCt)) (b k : Nat) (m : Int32) (h1 : zH) : Prop :=
  (m ≠ 0 ∧ k ≤ 12 ∧ mP h1 ∧ tvI (tF h1 111 32) = 0 ∧ ∃ cl f, cl.length = k ∧ mRw h1 b cl ∧ rRu T n f (ms h1) cl r)
  ∨ (m = 0 ∧ ((∃ e, r = .inl e ∧ mFt h1 e) ∨ ∃ s cl, r = .inr (s, cl) ∧ cl.length = k ∧ mRw h1 b cl ∧ tF h1 111 29 = .int 0 ∧ mEn h1 = s.2.2))
theorem nx_1 {cl : List rCt} {c1 : rCt} {s1 : rS} {r : Nat ⊕ (rS × List rCt)} (q : rNx T n cl r (.inr (s1, c1))) (h1 : ¬ rB T n s1.1 < n) : r = .inr (rA (rB T n s1.1) s1, cl ++ [c1]) := by
  rcases q with ⟨_, q⟩ | ⟨z, _⟩ | ⟨z, _⟩
  · exact q
  · exact absurd z.1 h1
  · exact absurd z.1 h1
theorem nx_2 {cl : List rCt} {c1 : rCt} {s1 : rS} {r : Nat ⊕ (rS × List rCt)} (q : rNx T n cl r (.inr (s1, c1))) (h1 : rB T n s1.1 < n ∧ T (rB T n s1.1) = 59) : ∃ f, rRu T n f (rA (rB T n s1.1 + 1) s1) (cl ++ [c1]) r := by
  rcases q with ⟨z, _⟩ | ⟨_, q⟩ | ⟨z, _⟩
  · exact absurd h1.1 z
  · exact q
  · exact absurd h1.2 z.2
theorem nx_3 {cl : List rCt} {c1 : rCt} {s1 : rS} {r : Nat ⊕ (rS × List rCt)} (q : rNx T n cl r (.inr (s1, c1))) (h1 : rB T n s1.1 < n) (h2 : ¬ (rB T n s1.1 < n ∧ T (rB T n s1.1) = 59)) : r = .inl (1 + 8 * rB T n s1.1 + 0) := by
  rcases q with ⟨z, _⟩ | ⟨z, _⟩ | ⟨_, q⟩
  · exact absurd h1 z
  · exact absurd z h2
  · exact q
theorem mFt_m {b w : Nat} {X : Int32} {h3 : zH} (k : mSet b X h h3) (hb : b ≠ 29) (F : mFt h w) : mFt h3 w := ⟨(k.2.2.1 111 29 (fun z => hb z.2.symm)).trans F.1, F.2⟩
theorem mRw_m {b q : Nat} {X : Int32} {h3 : zH} {cl : List rCt} (k : mRw h b cl) (e : mSet q X h h3) : mRw h3 b cl := fun i hi => by
  rw [k i hi]
  unfold mRow
  rw [e.2.2.2.1]
theorem mRw_a {b q i : Nat} {x : Int32} {h3 : zH} {cl : List rCt} (k : mRw h b cl) (e : mAs q i x h h3) (hq : 139 < q) : mRw h3 b cl := fun j hj => by
  rw [k j hj]
  unfold mRow
  rw [mAs_A e (q := 135) (by omega), mAs_A e (q := 136) (by omega), mAs_A e (q := 137) (by omega), mAs_A e (q := 138) (by omega), mAs_A e (q := 139) (by omega)]
theorem mFy_1 {X : Int32} {h3 : zH} (g : mFz (12 * (tvI (tF h 111 30)).toNatClampNeg) h h1) (e : mSet 27 X h1 h3) : mFy h h3 := ⟨e.1, fun p b z => (e.2.2.1 p b (fun w => z ⟨w.1, by omega⟩)).trans (g.2.1 p b (fun w => z ⟨w.1, w.2.elim Or.inl (fun y => y.elim (fun y => Or.inr (Or.inl y)) (fun y => Or.inr (Or.inr (Or.inl y))))⟩)), fun p a b c d => (congrFun e.2.2.2.1 p).trans (g.2.2.1 p a b c (by omega)), e.2.2.2.2.trans g.2.2.2.1, mLo_A e.2.2.2.1 g.2.2.2.2.1, fun p q a b c => (congrFun (congrFun e.2.2.2.1 p) q).trans (g.2.2.2.2.2 p q a b c)⟩
theorem mFy_2 {q i : Nat} {x : Int32} {h3 : zH} (a : mFy h h1) (e : mAs q i x h1 h3) (hq : q = 140 ∨ q = 141) : mFy h h3 := ⟨e.1, fun p b z => by rw [e.2.1]; exact a.2.1 p b z, fun p w1 w2 w3 w4 => (mAs_A e (by omega)).trans (a.2.2.1 p w1 w2 w3 w4), e.2.2.1.trans a.2.2.2.1, fun j hj => ⟨(mAs_o e (by omega)).trans (a.2.2.2.2.1 j hj).1, (mAs_o e (by omega)).trans (a.2.2.2.2.1 j hj).2⟩, fun p j w1 w2 w3 => (mAs_o e (by omega)).trans (a.2.2.2.2.2 p j w1 w2 w3)⟩
theorem mFy_3 {X : Int32} {h3 : zH} (a : mFy h h1) (e : mSet 30 X h1 h3) : mFy h h3 := ⟨e.1, fun p b z => (e.2.2.1 p b (fun w => z ⟨w.1, by omega⟩)).trans (a.2.1 p b z), fun p w1 w2 w3 w4 => (congrFun e.2.2.2.1 p).trans (a.2.2.1 p w1 w2 w3 w4), e.2.2.2.2.trans a.2.2.2.1, mLo_A e.2.2.2.1 a.2.2.2.2.1, fun p j w1 w2 w3 => (congrFun (congrFun e.2.2.2.1 p) j).trans (a.2.2.2.2.2 p j w1 w2 w3)⟩
theorem mEk_c {q k : Nat} (a : tA h2 133 = tA h 133) (b : tA h2 134 = tA h 134) : mEk h2 q k = mEk h q k := by
  unfold mEk
  rw [a, b]
/-- the end, with a fault; the end without one -/
theorem mRo_l {y : Int32} {r : Nat ⊕ (rS × List rCt)} {e : Nat} {hA : zH} (hr : r = .inl e) (g1 : mFz (12 * (tvI (tF h 111 30)).toNatClampNeg) h h1) (k : mSet 27 0 h1 hA) (F : mFt h1 e) : mRo y r (some (.int (-2 - tvI (tF hA 111 29)))) h hA := by
  subst hr
  refine ⟨mFy_1 g1 k, mI_x k, F.2.2, ?_, (k.2.2.1 111 30 (by decide)).trans (mFz_30 g1), (congrFun k.2.2.2.1 140).trans (g1.2.2.1 140 (by decide) (by decide) (by decide) (by decide)), (congrFun k.2.2.2.1 141).trans (g1.2.2.1 141 (by decide) (by decide) (by decide) (by decide))⟩
  rw [(k.2.2.1 111 29 (by decide)).trans F.1]
  rfl
theorem mRo_r {y x : Int32} {r : Nat ⊕ (rS × List rCt)} {s9 : rS} {cl9 : List rCt} {i1 i2 X : Int32} {hA hB hC hD : zH} (hr : r = .inr (s9, cl9)) (g1 : mFz (12 * (tvI (tF h 111 30)).toNatClampNeg) h h1) (k : mSet 27 0 h1 hA) (a1 : mAs 140 i1.toNatClampNeg x hA hB) (hi1 : i1 = tvI (tF hA 111 30)) (a2 : mAs 141 i2.toNatClampNeg y hB hC) (hi2 : i2 = tvI (tF hB 111 30)) (k2 : mSet 30 X hC hD) (hX : X = tvI (tF hC 111 30) + 1) (hx : x.toInt = cl9.length) (rw9 : mRw h1 (12 * (tvI (tF h 111 30)).toNatClampNeg) cl9) (h5 : mEn h1 = s9.2.2) : mRo y r (some (.int (tvI (tF hD 111 30) - 1))) h hD := by
  subst hr
  have EA : tF hA 111 30 = tF h 111 30 := (k.2.2.1 111 30 (by decide)).trans (mFz_30 g1)
  have EB : tF hB 111 30 = tF h 111 30 := by rw [a1.2.1]; exact EA
  have EC : tF hC 111 30 = tF h 111 30 := by rw [a2.2.1]; exact EB
  rw [hi1, EA] at a1
  rw [hi2, EB] at a2
  have ED : tvI (tF hD 111 30) = tvI (tF h 111 30) + 1 := (mI_x k2).trans (by rw [hX, EC])
  refine ⟨mFy_3 (mFy_2 (mFy_2 (mFy_1 g1 k) a1 (Or.inl rfl)) a2 (Or.inr rfl)) k2, ?_, by rw [ED], ED, ?_, ?_, fun q hq => ⟨?_, ?_⟩, mRw_m (mRw_a (mRw_a (mRw_m rw9 k) a1 (by decide)) a2 (by decide)) k2, ?_⟩
  · rw [k2.2.2.1 111 27 (by decide), a2.2.1, a1.2.1]
    exact mI_x k
  · rw [k2.2.2.2.1, mAs_o a2 (by decide), mAs_x a1]
    exact zof_cl hx
  · rw [k2.2.2.2.1]
    exact mAs_x a2
  · rw [k2.2.2.2.1, mAs_o a2 (by decide), a1.2.2.2]
    refine (if_neg (fun z => hq z.2)).trans ?_
    rw [k.2.2.2.1, g1.2.2.1 140 (by decide) (by decide) (by decide) (by decide)]
  · rw [k2.2.2.2.1, a2.2.2.2]
    refine (if_neg (fun z => hq z.2)).trans ?_
    rw [mAs_A a1 (by decide), k.2.2.2.1, g1.2.2.1 141 (by decide) (by decide) (by decide) (by decide)]
  · rw [← h5, mEn_len, mEn_k, mFz_30 g1]
    refine (mEk_c ?_ ?_).symm
    · rw [k2.2.2.2.1, mAs_A a2 (by decide), mAs_A a1 (by decide), k.2.2.2.1]
    · rw [k2.2.2.2.1, mAs_A a2 (by decide), mAs_A a1 (by decide), k.2.2.2.1]
end R10
theorem g_rule {G : zG} (hG : G.1 = zProg) (hX : G.2.1 = ztx) {h : zH} {T : Nat → Int32} {n : Nat} (hs : tSh h) (hk : mK h) (hT : tA h 132 = T) (hN : mn h = n) {y : Int32} {r : Nat ⊕ (rS × List rCt)} (hr0 : ∃ f, rRu T n f (0, 0, []) [] r) : tC zTt G 225 [.ref 111, .int y] h (fun w h2 => (¬ (¬ tvI (tF h 111 30) = 10 ∧ (tvI (tF h 111 1)).toInt ≤ y.toInt ∧ y.toInt ≤ 599) ∧ w = some (.int (-1)) ∧ h2 = h) ∨ ((¬ tvI (tF h 111 30) = 10 ∧ (tvI (tF h 111 1)).toInt ≤ y.toInt ∧ y.toInt ≤ 599) ∧ mRo y r w h h2)) := by
  refine tC_in (by rw [hG]; rfl) (fun dp => ?_)
  have g0 : mFz (12 * (tvI (tF h 111 30)).toNatClampNeg) h h := mFz_r hs
  refine tw_aload rfl rfl ?_
  refine tw_getS rfl (hi_111_30 hs) ?_
  refine tw_push rfl ?_
  refine tw_ic_eq rfl (fun q830 => ?_) (fun q830 => ?_)
  · try dsimp only [tvI_i, tvJ_j, tvR_r] at q830
    have q830i := zeqi (Y := 10) (by decide) q830
    refine tw_push rfl ?_
    exact tw_iret rfl (Or.inl ⟨fun z => z.1 q830, rfl, rfl⟩)
  · try dsimp only [tvI_i, tvJ_j, tvR_r] at q830
    have q830i := zneq (Y := 10) (by decide) q830
    refine tw_iload rfl rfl ?_
    refine tw_i2l rfl ?_
    refine tw_aload rfl rfl ?_
    refine tw_getS rfl (hi_111_1 hs) ?_
    refine tw_i2l rfl ?_
    refine tw_push rfl ?_
    refine tw_stat3 rfl (f_in hG   (HI := 599) (Int32.toInt_toInt64 _) (Int32.toInt_toInt64 _) (by decide)) (fun w9 h9 p831 => ?_)
    obtain ⟨⟨p831, rfl⟩ | ⟨p831, rfl⟩, e9⟩ := p831
    · try dsimp only [tvI_i, tvJ_j, tvR_r] at p831
      obtain rfl := e9.symm
      refine tw_if_ne rfl (fun _ => ?_) (fun z => absurd z (by decide))
      refine tw_aload rfl rfl ?_
      refine tw_push rfl ?_
      refine tw_put rfl (fun f832 => ?_)
      refine tG_setm f832 (hw_111_28 f832 (g0).1) (fun hf832 ef832 => ?_)
      try dsimp only [tvI_i] at ef832
      have gf832 : mFz (12 * (tvI (tF h 111 30)).toNatClampNeg) h hf832 := mFz_s g0 ef832 (Or.inl (by unfold mFs; omega))
      refine tw_aload rfl rfl ?_
      refine tw_push rfl ?_
      refine tw_put rfl (fun f833 => ?_)
      refine tG_setm f833 (hw_111_29 f833 (gf832).1) (fun hf833 ef833 => ?_)
      try dsimp only [tvI_i] at ef833
      have gf833 : mFz (12 * (tvI (tF h 111 30)).toNatClampNeg) h hf833 := mFz_s gf832 ef833 (Or.inl (by unfold mFs; omega))
      refine tw_aload rfl rfl ?_
      refine tw_push rfl ?_
      refine tw_put rfl (fun f834 => ?_)
      refine tG_setm f834 (hw_111_31 f834 (gf833).1) (fun hf834 ef834 => ?_)
      try dsimp only [tvI_i] at ef834
      have gf834 : mFz (12 * (tvI (tF h 111 30)).toNatClampNeg) h hf834 := mFz_s gf833 ef834 (Or.inl (by unfold mFs; omega))
      refine tw_aload rfl rfl ?_
      refine tw_push rfl ?_
      refine tw_put rfl (fun f835 => ?_)
      refine tG_setm f835 (hw_111_32 f835 (gf834).1) (fun hf835 ef835 => ?_)
      try dsimp only [tvI_i] at ef835
      have gf835 : mFz (12 * (tvI (tF h 111 30)).toNatClampNeg) h hf835 := mFz_s gf834 ef835 (Or.inl (by unfold mFs; omega))
      refine tw_aload rfl rfl ?_
      refine tw_push rfl ?_
      refine tw_put rfl (fun f836 => ?_)
      refine tG_setm f836 (hw_111_33 f836 (gf835).1) (fun hf836 ef836 => ?_)
      try dsimp only [tvI_i] at ef836
      have gf836 : mFz (12 * (tvI (tF h 111 30)).toNatClampNeg) h hf836 := mFz_s gf835 ef836 (Or.inl (by unfold mFs; omega))
      refine tw_push rfl ?_
      refine tw_istore rfl ?_
      refine tw_push rfl ?_
      refine tw_istore rfl ?_
      refine tG_loop (zW_mono zTt G dp) (zW_conj zTt G dp) (V := fun pc L st h9 _ _ => pc = 56 ∧ st = [] ∧ ∃ (h1 : zH) (k : Nat) (x m : Int32), h1 = h9 ∧ x.toInt = k ∧ k ≤ 13 ∧ mFz (12 * (tvI (tF h 111 30)).toNatClampNeg) h h1 ∧ mLp T n r (12 * (tvI (tF h 111 30)).toNatClampNeg) k m h1 ∧ L = [some (.ref 111), some (.int y), some (.int x), some (.int m)]) ?_ (⟨rfl, rfl, _, 0, 0, 1, rfl, rfl, by decide, (mRs9 (lo := (12 * (tvI (tF h 111 30)).toNatClampNeg)) hs hk ef832 ef833 ef834 ef835 ef836).1, Or.inl ⟨by decide, by decide, (mRs9 (lo := (12 * (tvI (tF h 111 30)).toNatClampNeg)) hs hk ef832 ef833 ef834 ef835 ef836).2.1, (mRs9 (lo := (12 * (tvI (tF h 111 30)).toNatClampNeg)) hs hk ef832 ef833 ef834 ef835 ef836).2.2.2, [], hr0.choose, rfl, mRw_0, by rw [(mRs9 (lo := (12 * (tvI (tF h 111 30)).toNatClampNeg)) hs hk ef832 ef833 ef834 ef835 ef836).2.2.1]; exact hr0.choose_spec⟩, rfl⟩)
      rintro _ _ _ _ _ _ ⟨rfl, rfl, h1, k, x, m, rfl, hx, hk13, g1, hlp, rfl⟩
      refine tw_iload rfl rfl ?_
      refine tw_if_eq rfl (fun q837 => ?_) (fun q837 => ?_)
      · try dsimp only [tvI_i, tvJ_j, tvR_r] at q837
        have q837i := zeqi (Y := 0) (by decide) q837
        refine tw_aload rfl rfl ?_
        refine tw_push rfl ?_
        refine tw_put rfl (fun f838 => ?_)
        refine tG_setm f838 (hw_111_27 f838 (g1).1) (fun hf838 ef838 => ?_)
        try dsimp only [tvI_i] at ef838
        have gf838 : tSh hf838 ∧ True := ⟨ef838.1, trivial⟩
        refine tw_aload rfl rfl ?_
        refine tw_getS rfl (hi_111_29 (gf838).1) ?_
        refine tw_if_le rfl (fun q839 => ?_) (fun q839 => ?_)
        · try dsimp only [tvI_i, tvJ_j, tvR_r] at q839
          refine tw_aload rfl rfl ?_
          refine tw_getS rfl (hs_111_43 (gf838).1) ?_
          refine tw_aload rfl rfl ?_
          refine tw_getS rfl (hi_111_30 (gf838).1) ?_
          refine tw_iload rfl rfl ?_
          refine tw_iast rfl (fun f840 => ?_)
          refine tG_ast f840 (gf838).1 (fun hf840 af840 => ?_)
          try dsimp only [tvI_i, tvR_r] at af840
          have gf840 : tSh hf840 ∧ True := ⟨af840.1, trivial⟩
          refine tw_aload rfl rfl ?_
          refine tw_getS rfl (hs_111_44 (gf840).1) ?_
          refine tw_aload rfl rfl ?_
          refine tw_getS rfl (hi_111_30 (gf840).1) ?_
          refine tw_iload rfl rfl ?_
          refine tw_iast rfl (fun f841 => ?_)
          refine tG_ast f841 (gf840).1 (fun hf841 af841 => ?_)
          try dsimp only [tvI_i, tvR_r] at af841
          have gf841 : tSh hf841 ∧ True := ⟨af841.1, trivial⟩
          refine tw_aload rfl rfl ?_
          refine tw_dup rfl ?_
          refine tw_getS rfl (hi_111_30 (gf841).1) ?_
          refine tw_push rfl ?_
          refine tw_iadd rfl ?_
          refine tw_put rfl (fun f842 => ?_)
          refine tG_setm f842 (hw_111_30 f842 (gf841).1) (fun hf842 ef842 => ?_)
          try dsimp only [tvI_i] at ef842
          have gf842 : tSh hf842 ∧ True := ⟨ef842.1, trivial⟩
          refine tw_aload rfl rfl ?_
          refine tw_getS rfl (hi_111_30 (gf842).1) ?_
          refine tw_push rfl ?_
          refine tw_isub rfl ?_
          have hend := (hlp.resolve_left (fun z => z.1 q837)).2
          rcases hend with ⟨e9, hr, F9⟩ | ⟨s9, cl9, hr, l9, w9, f9, n9⟩
          · exfalso
            have z := q839
            have c09 : (0 : Int32).toInt = 0 := rfl
            have y9 : (tvI (tF h1 111 29)).toInt = e9 := by rw [F9.1]; exact zofI (by have := F9.2.2; omega)
            rw [ef838.2.2.1 111 29 (by decide)] at z
            have := F9.2.1
            omega
          · exact tw_iret rfl (Or.inr ⟨⟨q830, p831⟩, mRo_r hr g1 ef838 af840 rfl af841 rfl ef842 rfl (by rw [l9]; exact hx) w9 n9⟩)
        · try dsimp only [tvI_i, tvJ_j, tvR_r] at q839
          refine tw_push rfl ?_
          refine tw_aload rfl rfl ?_
          refine tw_getS rfl (hi_111_29 (gf838).1) ?_
          refine tw_isub rfl ?_
          have hend := (hlp.resolve_left (fun z => z.1 q837)).2
          rcases hend with ⟨e9, hr, F9⟩ | ⟨s9, cl9, hr, l9, w9, f9, n9⟩
          · exact tw_iret rfl (Or.inr ⟨⟨q830, p831⟩, mRo_l hr g1 ef838 F9⟩)
          · exfalso
            have z := q839
            rw [ef838.2.2.1 111 29 (by decide), f9] at z
            exact absurd z (by decide)
      · try dsimp only [tvI_i, tvJ_j, tvR_r] at q837
        have q837i := zneq (Y := 0) (by decide) q837
        refine tw_aload rfl rfl ?_
        refine tw_iload rfl rfl ?_
        obtain ⟨hk12, p1, d1, cl, f, hcl, hrw, hru⟩ := (hlp.resolve_right (fun z => q837 z.1)).2
        obtain ⟨r2, hc2, hnx⟩ := rRu_st hru
        refine tw_virt1 rfl (g_clause hG hX g1.1 p1 ((mFz_T g1).trans hT) ((mFz_n g1).trans hN) (c := cl.length) (by rw [hcl]; exact hx) (by omega) rfl d1 hc2) (fun w9 hp843 p843 => ?_)
        obtain ⟨rfl, gp843, ⟨e2, he2, Fp843, Zp843⟩ | ⟨s1, c1, hc1, pp843, sp843, dp843, wp843, nxp843⟩⟩ := mCo_w p843 hnx
        · have gzp843 : mFz (12 * (tvI (tF h 111 30)).toNatClampNeg) h hp843 := mFz_t g1 (mFz_l (by rw [mFz_30 g1]; omega) gp843)
          refine tw_iinc rfl rfl ?_
          refine tw_aload rfl rfl ?_
          refine tw_virt0 rfl (y_blanks hG hX (gzp843).1 Fp843 ((mFz_T gzp843).trans hT) ((mFz_n gzp843).trans hN) Zp843) (fun wp844 hp844 p844 => ?_)
          obtain ⟨rfl, gp844, Fp844, Zp844⟩ := p844
          have gzp844 : mFz (12 * (tvI (tF h 111 30)).toNatClampNeg) h hp844 := mFz_t gzp843 (mFz_w (mFw_f gp844))
          refine tw_aload rfl rfl ?_
          refine tw_getS rfl (hi_111_29 gzp844.1) ?_
          refine tw_if_ne rfl (fun q845 => ?_) (fun q845 => ?_)
          · try dsimp only [tvI_i, tvJ_j, tvR_r] at q845
            have q845i := zneq (Y := 0) (by decide) q845
            refine tw_aload rfl rfl ?_
            refine tw_getS rfl (hi_111_29 gzp844.1) ?_
            refine tw_if_ne rfl (fun q846 => ?_) (fun q846 => ?_)
            · try dsimp only [tvI_i, tvJ_j, tvR_r] at q846
              have q846i := zneq (Y := 0) (by decide) q846
              refine tw_push rfl ?_
              refine tw_istore rfl ?_
              refine tw_aload rfl rfl ?_
              refine tw_dup rfl ?_
              refine tw_getS rfl (hi_111_28 gzp844.1) ?_
              refine tw_push rfl ?_
              refine tw_iadd rfl ?_
              refine tw_put rfl (fun f847 => ?_)
              refine tG_setm f847 (hw_111_28 f847 (gzp844).1) (fun hf847 ef847 => ?_)
              try dsimp only [tvI_i] at ef847
              have gf847 : mFz (12 * (tvI (tF h 111 30)).toNatClampNeg) h hf847 := mFz_s gzp844 ef847 (Or.inl (by unfold mFs; omega))
              refine tw_goto rfl ?_
              exact tG_cut (zW_mono zTt G dp) (Or.inr ⟨rfl, rfl, _, k + 1, x + 1, 0, rfl, zincN hx (by omega), by omega, gf847, Or.inr ⟨rfl, Or.inl ⟨_, he2, mFt_m ef847 (by decide) Fp844⟩⟩, rfl⟩)
            · try dsimp only [tvI_i, tvJ_j, tvR_r] at q846
              have q846i := zeqi (Y := 0) (by decide) q846
              exact absurd q846 (mFt_n Fp844)
          · try dsimp only [tvI_i, tvJ_j, tvR_r] at q845
            have q845i := zeqi (Y := 0) (by decide) q845
            exact absurd q845 (mFt_n Fp844)
        · have gzp843 : mFz (12 * (tvI (tF h 111 30)).toNatClampNeg) h hp843 := mFz_t g1 (mFz_l (by rw [mFz_30 g1]; omega) gp843)
          have hwp843 : mRw hp843 (12 * (tvI (tF h 111 30)).toNatClampNeg) (cl ++ [c1]) := mRw_s (mRw_z hrw gp843 (by rw [mFz_30 g1]; exact Nat.le_refl _)) (by have z := wp843; rw [mFz_30 g1] at z; exact z)
          refine tw_iinc rfl rfl ?_
          refine tw_aload rfl rfl ?_
          refine tw_virt0 rfl (g_blanks hG hX (gzp843).1 pp843 ((mFz_T gzp843).trans hT) ((mFz_n gzp843).trans hN)) (fun wp848 hp848 p848 => ?_)
          obtain ⟨rfl, gp848, pp848, sp848, tp848, dp848⟩ := p848
          have gzp848 : mFz (12 * (tvI (tF h 111 30)).toNatClampNeg) h hp848 := mFz_t gzp843 (mFz_w (mFw_f gp848))
          have Sp848 : ms hp848 = rA (rB T n s1.1) s1 := by rw [sp848, sp843]; exact rB_A
          have Dp848 : tvI (tF hp848 111 32) = 0 := by rw [dp848]; exact dp843
          have hwp848 : mRw hp848 (12 * (tvI (tF h 111 30)).toNatClampNeg) (cl ++ [c1]) := mRw_z hwp843 (mFz_w (lo := (12 * (tvI (tF h 111 30)).toNatClampNeg) + (cl ++ [c1]).length) (mFw_f gp848)) (Nat.le_refl _)
          refine tw_aload rfl rfl ?_
          refine tw_getS rfl (hi_111_29 gzp848.1) ?_
          refine tw_if_ne rfl (fun q849 => ?_) (fun q849 => ?_)
          · try dsimp only [tvI_i, tvJ_j, tvR_r] at q849
            have q849i := zneq (Y := 0) (by decide) q849
            exact absurd (mP_0 pp848) q849
          · try dsimp only [tvI_i, tvJ_j, tvR_r] at q849
            have q849i := zeqi (Y := 0) (by decide) q849
            refine tw_aload rfl rfl ?_
            refine tw_getS rfl (hi_111_28 gzp848.1) ?_
            refine tw_aload rfl rfl ?_
            refine tw_getS rfl (hi_111_27 gzp848.1) ?_
            refine tw_ic_ge rfl (fun q850 => ?_) (fun q850 => ?_)
            · try dsimp only [tvI_i, tvJ_j, tvR_r] at q850
              refine tw_aload rfl rfl ?_
              refine tw_getS rfl (hi_111_29 gzp848.1) ?_
              refine tw_if_ne rfl (fun q851 => ?_) (fun q851 => ?_)
              · try dsimp only [tvI_i, tvJ_j, tvR_r] at q851
                have q851i := zneq (Y := 0) (by decide) q851
                exact absurd (mP_0 pp848) q851
              · try dsimp only [tvI_i, tvJ_j, tvR_r] at q851
                have q851i := zeqi (Y := 0) (by decide) q851
                refine tw_aload rfl rfl ?_
                refine tw_getS rfl (hi_111_28 gzp848.1) ?_
                refine tw_aload rfl rfl ?_
                refine tw_getS rfl (hi_111_27 gzp848.1) ?_
                refine tw_ic_ge rfl (fun q852 => ?_) (fun q852 => ?_)
                · try dsimp only [tvI_i, tvJ_j, tvR_r] at q852
                  refine tw_push rfl ?_
                  refine tw_istore rfl ?_
                  refine tw_aload rfl rfl ?_
                  refine tw_dup rfl ?_
                  refine tw_getS rfl (hi_111_28 gzp848.1) ?_
                  refine tw_push rfl ?_
                  refine tw_iadd rfl ?_
                  refine tw_put rfl (fun f853 => ?_)
                  refine tG_setm f853 (hw_111_28 f853 (gzp848).1) (fun hf853 ef853 => ?_)
                  try dsimp only [tvI_i] at ef853
                  have gf853 : mFz (12 * (tvI (tF h 111 30)).toNatClampNeg) h hf853 := mFz_s gzp848 ef853 (Or.inl (by unfold mFs; omega))
                  refine tw_goto rfl ?_
                  have hlt : ¬ rB T n s1.1 < n := by have z := fun y => Int.not_lt.mpr q850 ((mpos ⟨pp848.2.1.1, by have := pp848.2.1; omega⟩).mpr y); rw [Sp848, rA_1, (mFz_n gzp848).trans hN] at z; exact z
                  have hwn := mRw_m hwp848 ef853
                  have hln : (cl ++ [c1]).length = k + 1 := by rw [List.length_append, hcl]; rfl
                  have hr := nx_1 nxp843 hlt
                  exact tG_cut (zW_mono zTt G dp) (Or.inr ⟨rfl, rfl, _, k + 1, x + 1, 0, rfl, zincN hx (by omega), by omega, gf853, Or.inr ⟨rfl, Or.inr ⟨_, _, hr, hln, hwn, (ef853.2.2.1 111 29 (by decide)).trans pp848.1, (mEn_o ef853 (by decide) (by decide)).trans (congrArg (fun z : rS => z.2.2) Sp848)⟩⟩, rfl⟩)
                · try dsimp only [tvI_i, tvJ_j, tvR_r] at q852
                  exact absurd q852 (Int.not_lt.mpr q850)
            · try dsimp only [tvI_i, tvJ_j, tvR_r] at q850
              refine tw_aload rfl rfl ?_
              refine tw_virt0 rfl (g_sign hG hX (gzp848).1 ((mFz_T gzp848).trans hT) ((mFz_n gzp848).trans hN) ⟨pp848.2.1.1, by have := pp848.2.1; omega⟩) (fun wp854 hp854 p854 => ?_)
              obtain ⟨⟨cp854, rfl, kp854⟩, rfl⟩ := p854
              refine tw_push rfl ?_
              refine tw_ic_eq rfl (fun q855 => ?_) (fun q855 => ?_)
              · try dsimp only [tvI_i, tvJ_j, tvR_r] at q855
                have q855i := zeqi (Y := 59) (by decide) q855
                refine tw_aload rfl rfl ?_
                refine tw_getS rfl (hi_111_29 (gzp848).1) ?_
                refine tw_if_ne rfl (fun q856 => ?_) (fun q856 => ?_)
                · try dsimp only [tvI_i, tvJ_j, tvR_r] at q856
                  have q856i := zneq (Y := 0) (by decide) q856
                  exact absurd (mP_0 pp848) q856
                · try dsimp only [tvI_i, tvJ_j, tvR_r] at q856
                  have q856i := zeqi (Y := 0) (by decide) q856
                  refine tw_aload rfl rfl ?_
                  refine tw_getS rfl (hi_111_28 (gzp848).1) ?_
                  refine tw_aload rfl rfl ?_
                  refine tw_getS rfl (hi_111_27 (gzp848).1) ?_
                  refine tw_ic_ge rfl (fun q857 => ?_) (fun q857 => ?_)
                  · try dsimp only [tvI_i, tvJ_j, tvR_r] at q857
                    exact absurd q850 (Int.not_lt.mpr q857)
                  · try dsimp only [tvI_i, tvJ_j, tvR_r] at q857
                    refine tw_push rfl ?_
                    refine tw_goto rfl ?_
                    refine tw_istore rfl ?_
                    refine tw_aload rfl rfl ?_
                    refine tw_dup rfl ?_
                    refine tw_getS rfl (hi_111_28 (gzp848).1) ?_
                    refine tw_push rfl ?_
                    refine tw_iadd rfl ?_
                    refine tw_put rfl (fun f858 => ?_)
                    refine tG_setm f858 (hw_111_28 f858 (gzp848).1) (fun hf858 ef858 => ?_)
                    try dsimp only [tvI_i] at ef858
                    have gf858 : mFz (12 * (tvI (tF h 111 30)).toNatClampNeg) h hf858 := mFz_s gzp848 ef858 (Or.inl (by unfold mFs; omega))
                    refine tw_goto rfl ?_
                    have hlt : rB T n s1.1 < n := by have z := (mpos ⟨pp848.2.1.1, by have := pp848.2.1; omega⟩).mp q850; rw [Sp848, rA_1, (mFz_n gzp848).trans hN] at z; exact z
                    have h59 : cp854 = 59 ↔ rB T n s1.1 < n ∧ T (rB T n s1.1) = 59 := by have y := sgm_k kp854 59 (by decide); rw [Sp848, rA_1] at y; exact y
                    have hwn := mRw_m hwp848 ef858
                    have hln : (cl ++ [c1]).length = k + 1 := by rw [List.length_append, hcl]; rfl
                    have hcn := rCl_12 (by rw [hc1] at hc2; exact hc2)
                    obtain ⟨f9, hf9⟩ := nx_2 nxp843 (h59.mp q855)
                    have hn4 : n ≤ 400 := by have a := mNl pp848 ((mFz_n gzp848).trans hN); have b := pp848.2.1; omega
                    obtain ⟨pn, sn, tn⟩ := mTo pp848 ((mFz_n gzp848).trans hN) ef858 (v := rB T n s1.1 + 1) (zincN (n := rB T n s1.1) (by rw [mPl pp848, Sp848, rA_1]) (by omega)) hlt
                    rw [Sp848, rA_A] at sn
                    exact tG_cut (zW_mono zTt G dp) (Or.inr ⟨rfl, rfl, _, k + 1, x + 1, 1, rfl, zincN hx (by omega), by omega, gf858, Or.inl ⟨by decide, by omega, pn, (by rw [mI_o ef858 (by decide)]; exact Dp848), _, f9, hln, hwn, by rw [sn]; exact hf9⟩, rfl⟩)
              · try dsimp only [tvI_i, tvJ_j, tvR_r] at q855
                have q855i := zneq (Y := 59) (by decide) q855
                refine tw_aload rfl rfl ?_
                refine tw_push rfl ?_
                refine tw_aload rfl rfl ?_
                refine tw_getS rfl (hi_111_28 (gzp848).1) ?_
                refine tw_virt2 rfl (g_fails hG hX (gzp848).1 pp848 ((mFz_T gzp848).trans hT) ((mFz_n gzp848).trans hN) (w := 0) rfl (by decide) (mPl pp848) (by have := mPle pp848 ((mFz_n gzp848).trans hN); have := mNl pp848 ((mFz_n gzp848).trans hN); have := pp848.2.1; omega)) (fun wp859 hp859 p859 => ?_)
                obtain ⟨rfl, gp859, Fp859, ip859, jp859⟩ := p859
                have gzp859 : mFz (12 * (tvI (tF h 111 30)).toNatClampNeg) h hp859 := mFz_t gzp848 (mFz_w (mFw_f gp859))
                have Zp859 : mZp hp859 := mZp_k (mZp_p pp848) ip859 jp859
                rw [Sp848, rA_1] at Fp859
                refine tw_aload rfl rfl ?_
                refine tw_getS rfl (hi_111_29 gzp859.1) ?_
                refine tw_if_ne rfl (fun q860 => ?_) (fun q860 => ?_)
                · try dsimp only [tvI_i, tvJ_j, tvR_r] at q860
                  have q860i := zneq (Y := 0) (by decide) q860
                  refine tw_push rfl ?_
                  refine tw_istore rfl ?_
                  refine tw_aload rfl rfl ?_
                  refine tw_dup rfl ?_
                  refine tw_getS rfl (hi_111_28 gzp859.1) ?_
                  refine tw_push rfl ?_
                  refine tw_iadd rfl ?_
                  refine tw_put rfl (fun f861 => ?_)
                  refine tG_setm f861 (hw_111_28 f861 (gzp859).1) (fun hf861 ef861 => ?_)
                  try dsimp only [tvI_i] at ef861
                  have gf861 : mFz (12 * (tvI (tF h 111 30)).toNatClampNeg) h hf861 := mFz_s gzp859 ef861 (Or.inl (by unfold mFs; omega))
                  refine tw_goto rfl ?_
                  have hlt : rB T n s1.1 < n := by have z := (mpos ⟨pp848.2.1.1, by have := pp848.2.1; omega⟩).mp q850; rw [Sp848, rA_1, (mFz_n gzp848).trans hN] at z; exact z
                  have h59 : cp854 = 59 ↔ rB T n s1.1 < n ∧ T (rB T n s1.1) = 59 := by have y := sgm_k kp854 59 (by decide); rw [Sp848, rA_1] at y; exact y
                  have hr := nx_3 nxp843 hlt (fun z => q855 (h59.mpr z))
                  exact tG_cut (zW_mono zTt G dp) (Or.inr ⟨rfl, rfl, _, k + 1, x + 1, 0, rfl, zincN hx (by omega), by omega, gf861, Or.inr ⟨rfl, Or.inl ⟨_, hr, mFt_m ef861 (by decide) Fp859⟩⟩, rfl⟩)
                · try dsimp only [tvI_i, tvJ_j, tvR_r] at q860
                  have q860i := zeqi (Y := 0) (by decide) q860
                  exact absurd q860 (mFt_n Fp859)
    · try dsimp only [tvI_i, tvJ_j, tvR_r] at p831
      obtain rfl := e9.symm
      refine tw_if_ne rfl (fun z => absurd z (by decide)) (fun _ => ?_)
      refine tw_push rfl ?_
      exact tw_iret rfl (Or.inl ⟨fun z => p831 z.2, rfl, rfl⟩)
/-- what an array holds -/
noncomputable def tK (h : zH) (p : Nat) : Nat := match h[p]? with
  | some (.inl (k, _, _)) => k
  | _ => 0
theorem tK_tSF (h : zH) (r : Nat) (b : Nat) (w : Value) : tK (tSF h r b w) = tK h := by
  unfold tSF
  split
  · rename_i e
    funext p
    unfold tK
    rw [tup_at e]
    by_cases q : p = r
    · subst q; rw [if_pos rfl, e]
    · rw [if_neg q]
  · rfl
theorem tK_tSA (h : zH) (r : Nat) (i : Nat) (x : Int32) : tK (tSA h r i x) = tK h := by
  unfold tSA
  split
  · rename_i e
    funext p
    unfold tK
    rw [tup_at e]
    by_cases q : p = r
    · subst q; rw [if_pos rfl, e]
    · rw [if_neg q]
  · rfl
theorem tK_tSJ (h : zH) (r : Nat) (i : Nat) (x : Int64) : tK (tSJ h r i x) = tK h := by
  unfold tSJ
  split
  · rename_i e
    funext p
    unfold tK
    rw [tup_at e]
    by_cases q : p = r
    · subst q; rw [if_pos rfl, e]
    · rw [if_neg q]
  · rfl
theorem tK_tSO (h : zH) (r : Nat) (i : Nat) (x : Option Nat) : tK (tSO h r i x) = tK h := by
  unfold tSO
  split
  · rename_i e
    funext p
    unfold tK
    rw [tup_at e]
    by_cases q : p = r
    · subst q; rw [if_pos rfl, e]
    · rw [if_neg q]
  · rfl
theorem tIn.kd {h : zH} {r kd : Nat} {i : Int32} (k : tIn h r kd i) : tK h r = kd := by
  obtain ⟨N, f, e, -⟩ := k
  unfold tK
  rw [e]
theorem tkd_k {xs : Nat → Int32} {τ : List Nat} {h : zH} {p t k nlo nhi : Nat} {vt : yT} (hB : zBs xs τ h) (ht : zTG[p]? = some t) (hT : zTTy[t]? = some (.inr (k, nlo, nhi, vt))) : tK h p = k := by
  obtain ⟨ct, c, a1, a2, a3⟩ := hB.1.2 _ _ (hB.2.1 _ _ ht)
  rw [hT] at a1
  cases a1
  obtain ⟨N, x, rfl, -⟩ := a3
  unfold tK
  rw [a2]
theorem bst_k {h : zH} {r kd : Nat} {i : Int32} {x : Int32} (hk : tK h r = 2) (f : tIn h r kd i) : vp_nar (if kd = 1 then .boolean else .byte) x = vp_nar .byte x := by
  have := f.kd
  rw [if_neg (by omega)]
/-- a byte of a number -/
noncomputable def bF (x s : Int32) : Int32 := vp_nar .byte (x >>> (s &&& 31)).toInt8.toInt32
/-- four bytes behind a tape -/
noncomputable def f4 (f : Nat → Int32) (n x : Int32) : Nat → Int32 := fun j => if j = (n + 1 + 1 + 1).toNatClampNeg then bF x (24 + -8 + -8 + -8) else if j = (n + 1 + 1).toNatClampNeg then bF x (24 + -8 + -8) else if j = (n + 1).toNatClampNeg then bF x (24 + -8) else if j = n.toNatClampNeg then bF x 24 else f j
noncomputable abbrev z4 (n : Int32) : Int32 := n + 1 + 1 + 1 + 1
theorem zi1n {x : Int32} {k : Int} (h : x.toInt = k) (h0 : 0 ≤ k ∧ k ≤ 1000) : (x + 1).toInt = k + 1 := (zincN (n := k.toNat) (by omega) (by omega)).trans (by omega)
theorem z4n {x : Int32} {k : Int} (h : x.toInt = k) (h0 : 0 ≤ k ∧ k ≤ 900) : (z4 x).toInt = k + 4 := by
  have e1 := zi1n h (by omega)
  have e2 := zi1n e1 (by omega)
  have e3 := zi1n e2 (by omega)
  have e4 := zi1n e3 (by omega)
  show (x + 1 + 1 + 1 + 1).toInt = _
  omega
theorem z20n {x : Int32} (h : 0 ≤ x.toInt ∧ x.toInt ≤ 1000) : (x + 20).toInt = x.toInt + 20 := by
  rw [Int32.toInt_add, show (20 : Int32).toInt = 20 from rfl]
  exact Int.bmod_eq_of_le (by show (-2147483648 : Int) ≤ x.toInt + 20; omega) (by show x.toInt + 20 < (2147483648 : Int); omega)
noncomputable abbrev f20 (f : Nat → Int32) (n a b c d e : Int32) : Nat → Int32 := f4 (f4 (f4 (f4 (f4 f n a) (z4 n) b) (z4 (z4 n)) c) (z4 (z4 (z4 n))) d) (z4 (z4 (z4 (z4 n)))) e
noncomputable abbrev z20 (n : Int32) : Int32 := z4 (z4 (z4 (z4 (z4 n))))
section CP11
variable {tt : zT} {G : zG} {cd : zK} {bc bs : Nat} {rt : Option FieldType} {dp : Nat} {Q : zQ} {Z : zX} {f : Bool} {pc : Nat} {L : zL} {s : List Value} {h : zH} {c n nx a b d r y : Nat} {v : Value} {m x1 x2 : Int32}
theorem tw_clone (hc : cd[pc]? = some (some (.castore, nx, a, b, d, v))) (k : ∀ (N : Nat) (g : Nat → Int32), h[r]? = some (.inl (0, N, .inl g)) → tG tt G cd bc bs rt (zW tt G dp) Q Z true nx L (.ref h.length :: s) (h ++ [.inl (0, N, .inl g)]) (c + 1) (n + N)) : tG tt G cd bc bs rt (zW tt G dp) Q Z f pc L (.ref r :: s) h c n := tG_row hc (fun z => Or.elim z (fun z => False.elim z) (fun z => by
  obtain ⟨N, g, e, e2, z⟩ := z
  exact Or.inr ⟨N, g, e, e2, k N g e z⟩))
theorem tw_cast (hc : cd[pc]? = some (some (.fmul, nx, a, b, d, v))) (k : tG tt G cd bc bs rt (zW tt G dp) Q Z true nx L (.ref r :: s) h c n) : tG tt G cd bc bs rt (zW tt G dp) Q Z f pc L (.ref r :: s) h c n := tG_row hc (fun z => Or.elim z (fun z => False.elim z) (fun z => by
  obtain ⟨N, g, e, e2, z⟩ := z
  exact Or.inr ⟨N, g, e, e2, k z⟩))
theorem tw_acpy (hc : cd[pc]? = some (some (.sastore, nx, a, b, d, v))) (k : ∀ (N K : Nat) (f1 g1 : Nat → Int32), h[r]? = some (.inl (0, N, .inl f1)) → h[y]? = some (.inl (0, K, .inl g1)) → tG tt G cd bc bs rt (zW tt G dp) Q Z true nx L s (h.set y (.inl (0, K, .inl (va_cpy f1 g1 0 0 m.toNatClampNeg)))) c n) : tG tt G cd bc bs rt (zW tt G dp) Q Z f pc L (.int m :: .int x1 :: .ref y :: .int x2 :: .ref r :: s) h c n := tG_row hc (fun z => Or.elim z (fun z => False.elim z) (fun z => by
  obtain ⟨N, K, f1, g1, e1, e2, e3, z⟩ := z
  exact Or.inr ⟨N, K, f1, g1, e1, e2, e3, k N K f1 g1 e1 e2 z⟩))
end CP11
/-- one array more, the first of another one's -/
noncomputable def cpy (h h2 : zH) (r : Nat) (m : Int32) : Prop := h2.length = h.length + 1 ∧ (∀ p b, p < h.length → tF h2 p b = tF h p b) ∧ (∀ p, p < h.length → tA h2 p = tA h p ∧ tO h2 p = tO h p ∧ tN h2 p = tN h p) ∧ tN h2 h.length = m.toNatClampNeg ∧ ∀ i, i < m.toNatClampNeg → tA h2 h.length i = tA h r i
theorem cpy_of {h : zH} {r N : Nat} {m : Int32} {f g : Nat → Int32} (hr : h[r]? = some (.inl (0, N, .inl f))) (hg : ∀ i, i < m.toNatClampNeg → g i = f i) : cpy h (h ++ [.inl (0, m.toNatClampNeg, .inl g)]) r m := by
  have hf : tA h r = f := by
    funext i
    unfold tA
    rw [hr]
  refine ⟨by rw [List.length_append]; rfl, fun p b hp => ?_, fun p hp => ⟨?_, ?_, ?_⟩, ?_, fun i hi => ?_⟩
  · unfold tF
    rw [List.getElem?_append_left hp]
  · funext i
    unfold tA
    rw [List.getElem?_append_left hp]
  · funext i
    unfold tO
    rw [List.getElem?_append_left hp]
  · unfold tN
    rw [List.getElem?_append_left hp]
  · unfold tN
    rw [List.getElem?_append_right (Nat.le_refl _), Nat.sub_self]
    rfl
  · rw [hf, ← hg i hi]
    unfold tA
    rw [List.getElem?_append_right (Nat.le_refl _), Nat.sub_self]
    rfl
theorem cpy_sh {h h2 : zH} {r : Nat} {m : Int32} (hl : 182 ≤ h.length) (k : cpy h h2 r m) (hs : tSh h) : tSh h2 := by
  have a1 : tSr.all (fun q => Nat.blt q.1 182) = true := by decide +kernel
  have a2 : tSi.all (fun q => Nat.blt q.1 182) = true := by decide +kernel
  refine ⟨fun q hq => ?_, fun q hq => ?_⟩
  · have := Nat.le_of_ble_eq_true (List.all_eq_true.mp a1 q hq)
    rw [k.2.1 _ _ (by omega)]; exact hs.1 q hq
  · have := Nat.le_of_ble_eq_true (List.all_eq_true.mp a2 q hq)
    rw [k.2.1 _ _ (by omega)]; exact hs.2 q hq
theorem tw_alenF {tt : zT} {G : zG} {cd : zK} {bc bs : Nat} {rt : Option FieldType} {dp : Nat} {Q : zQ} {Z : zX} {f : Bool} {pc : Nat} {L : zL} {s : List Value} {h : zH} {c n nx a b d r : Nat} {v : Value} (hc : cd[pc]? = some (some (.arraylength, nx, a, b, d, v))) (k : ∀ (kd N : Nat) (x : (Nat → Int32) ⊕ (Nat → Int64) ⊕ (Nat → UInt32) ⊕ (Nat → UInt64) ⊕ (Nat → Option Nat)), h[r]? = some (.inl (kd, N, x)) → tG tt G cd bc bs rt (zW tt G dp) Q Z true nx L (.int (Int32.ofNat N) :: s) h c n) : tG tt G cd bc bs rt (zW tt G dp) Q Z f pc L (.ref r :: s) h c n := tG_row hc (fun z => Or.elim z (fun z => False.elim z) (fun z => by
  obtain ⟨kd, N, x, hk, e, z⟩ := z
  exact Or.inr ⟨kd, N, x, hk, e, k kd N x e z⟩))
theorem f_copyOf {G : zG} (hG : G.1 = zProg) {h : zH} {r : Nat} {m : Int32} (hm : 0 ≤ m.toInt ∧ m.toInt ≤ (tN h r : Int) ∧ tN h r ≤ 1000) : tC zTt G 283 [.ref r, .int m] h (fun w h2 => w = some (.ref h.length) ∧ cpy h h2 r m) := by
  refine tC_in (by rw [hG]; rfl) (fun dp => ?_)
  refine tw_iload rfl rfl ?_
  refine tw_aload rfl rfl ?_
  refine tw_alenF rfl (fun kd N x e0 => ?_)
  have hl : r < h.length := by
    rcases Nat.lt_or_ge r h.length with z | z
    · exact z
    · rw [List.getElem?_eq_none z] at e0; cases e0
  have hN : tN h r = N := by unfold tN; rw [e0]
  rw [hN] at hm
  refine tw_ic_ne rfl (fun q => ?_) (fun q => ?_)
  · have q : ¬ m = Int32.ofNat N := q
    have hlt : m < Int32.ofNat N := Int32.lt_iff_toInt_lt.mpr (by
      rw [yofN (by omega)]
      have : m.toInt ≠ (N : Int) := fun z => q (Int32.toInt_inj.mp (by rw [yofN (by omega)]; exact z))
      omega)
    refine tw_iload rfl rfl ?_
    refine tw_newa rfl ?_
    refine tw_astore rfl ?_
    refine tw_aload rfl rfl ?_
    refine tw_push rfl ?_
    refine tw_aload rfl rfl ?_
    refine tw_push rfl ?_
    refine tw_aload rfl rfl ?_
    refine tw_alenF rfl (fun k5 N5 x5 e5 => ?_)
    have e5 : (h ++ [zarr (zkind .int) m.toNatClampNeg])[r]? = some (.inl (k5, N5, x5)) := e5
    rw [List.getElem?_append_left hl, e0] at e5
    cases e5
    refine tw_iload rfl rfl ?_
    refine tw_imin rfl ?_
    refine tw_acpy rfl (fun N2 K f1 g1 e1 e2 => ?_)
    have e1 : (h ++ [zarr (zkind .int) m.toNatClampNeg])[r]? = some (.inl (0, N2, .inl f1)) := e1
    have e2 : (h ++ [zarr (zkind .int) m.toNatClampNeg])[h.length]? = some (.inl (0, K, .inl g1)) := e2
    rw [List.getElem?_append_left hl, e0] at e1
    cases e1
    rw [List.getElem?_append_right (Nat.le_refl _), Nat.sub_self] at e2
    have e3 : zarr (zkind .int) m.toNatClampNeg = .inl (0, m.toNatClampNeg, .inl (fun _ => 0)) := rfl
    have e2 : some (zarr (zkind .int) m.toNatClampNeg) = some (.inl (0, K, .inl g1)) := e2
    rw [e3] at e2
    cases e2
    refine tw_aload rfl rfl ?_
    refine tw_aret rfl ⟨rfl, ?_⟩
    show cpy h ((h ++ [zarr (zkind .int) m.toNatClampNeg]).set h.length (.inl (0, m.toNatClampNeg, .inl (va_cpy f1 (fun _ => 0) 0 0 (if m < Int32.ofNat N then m else Int32.ofNat N).toNatClampNeg)))) r m
    rw [List.set_append_right _ _ (Nat.le_refl _), Nat.sub_self, if_pos hlt]
    exact cpy_of e0 (fun i hi => by
      unfold va_cpy
      rw [if_pos ⟨Nat.zero_le _, by omega⟩, Nat.zero_add, Nat.sub_zero])
  · have q : m = Int32.ofNat N := q
    have hmN : m.toNatClampNeg = N := by
      rw [zclE, q, yofN (by omega)]
      rfl
    refine tw_aload rfl rfl ?_
    refine tw_clone rfl (fun N2 g e => ?_)
    have e : h[r]? = some (.inl (0, N2, .inl g)) := e
    rw [e0] at e
    cases e
    refine tw_cast rfl ?_
    refine tw_aret rfl ⟨rfl, ?_⟩
    have := cpy_of (m := m) (g := g) e0 (fun _ _ => rfl)
    rw [hmN] at this
    exact this
theorem tO_st {h : zH} {r i : Nat} {x : Option Nat} {z : Int32} (hf : tInO h r z) {f : Nat → Option Nat} (k : tO h r = f) : tO (tSO h r i x) r = fun j => if j = i then x else f j := by
  rw [tO_tSO hf.cell]
  funext j
  dsimp only
  rw [k]
  by_cases e : j = i
  · rw [if_pos ⟨rfl, e⟩, if_pos e]
  · rw [if_neg (fun z => e z.2), if_neg e]
theorem tO_nz {h : zH} {r i p : Nat} {x : Option Nat} {z : Int32} (hf : tInO h r z) (hn : p ≠ r) : tO (tSO h r i x) p = tO h p := by
  rw [tO_tSO hf.cell]
  funext j
  exact if_neg (fun z => hn z.1)
/-- one rule more -/
noncomputable def cAdd (m : Int32) (h h2 : zH) : Prop := tF h2 48 3 = .int (tvI (tF h 48 3) + 1) ∧ tA h2 49 = (fun j => if j = (tvI (tF h 48 3)).toNatClampNeg then m else tA h 49 j) ∧ tO h2 50 = (fun j => if j = (tvI (tF h 48 3)).toNatClampNeg then some h.length else tO h 50 j) ∧ tO h2 51 = (fun j => if j = (tvI (tF h 48 3)).toNatClampNeg then some (h.length + 1) else tO h 51 j) ∧ tN h2 h.length = (tvI (tF h 44 5)).toNatClampNeg ∧ (∀ i, i < (tvI (tF h 44 5)).toNatClampNeg → tA h2 h.length i = tA h 46 i) ∧ tN h2 (h.length + 1) = (tvI (tF h 44 7) * 4).toNatClampNeg ∧ (∀ i, i < (tvI (tF h 44 7) * 4).toNatClampNeg → tA h2 (h.length + 1) i = tA h 47 i) ∧ (∀ p, p < h.length → p ≠ 49 → tA h2 p = tA h p) ∧ (∀ p b, p < h.length → ¬ (p = 48 ∧ b = 3) → tF h2 p b = tF h p b) ∧ (∀ p, p < h.length → p ≠ 50 → p ≠ 51 → tO h2 p = tO h p) ∧ ∀ p, p < h.length → tN h2 p = tN h p
theorem cAdd_of {h a b : zH} {m i : Int32} {kd : Nat} (hl : 182 ≤ h.length) (e : i = tvI (tF h 48 3)) (f1 : tIn h 49 kd i) (k1 : cpy (tSA h 49 i.toNatClampNeg m) a 46 (tvI (tF h 44 5))) (f2 : tInO a 50 i) (k2 : cpy (tSO a 50 i.toNatClampNeg (some (tSA h 49 i.toNatClampNeg m).length)) b 47 (tvI (tF h 44 7) * 4)) (f3 : tInO b 51 i) (f4 : tFd (tSO b 51 i.toNatClampNeg (some (tSO a 50 i.toNatClampNeg (some (tSA h 49 i.toNatClampNeg m).length)).length)) 48 3) : cAdd m h (tSF (tSO b 51 i.toNatClampNeg (some (tSO a 50 i.toNatClampNeg (some (tSA h 49 i.toNatClampNeg m).length)).length)) 48 3 (.int (i + 1))) := by
  subst e
  have L1 : (tSA h 49 (tvI (tF h 48 3)).toNatClampNeg m).length = h.length := tlen_tSA _ _ _ _
  rw [L1] at k2 f4 ⊢
  have La : a.length = h.length + 1 := by rw [k1.1, L1]
  have L2 : (tSO a 50 (tvI (tF h 48 3)).toNatClampNeg (some h.length)).length = h.length + 1 := by rw [tlen_tSO, La]
  rw [L2] at f4 ⊢
  obtain ⟨-, u1, u2, u3, u4⟩ := k1
  obtain ⟨-, v1, v2, v3, v4⟩ := k2
  rw [L1] at u1 u2 u3 u4
  rw [L2] at v1 v2 v3 v4
  refine ⟨tF_same f4, ?_, ?_, ?_, ?_, ?_, ?_, ?_, ?_, ?_, ?_, ?_⟩
  · rw [tA_tSF, tA_tSO, (v2 49 (by omega)).1, tA_tSO, (u2 49 (by omega)).1]
    exact tA_st f1 rfl
  · rw [tO_tSF, tO_nz f3 (by decide), (v2 50 (by omega)).2.1]
    refine tO_st f2 ?_
    rw [(u2 50 (by omega)).2.1, tO_tSA]
  · rw [tO_tSF]
    refine tO_st f3 ?_
    rw [(v2 51 (by omega)).2.1, tO_nz f2 (by decide), (u2 51 (by omega)).2.1, tO_tSA]
  · rw [tN_tSF, tN_tSO, (v2 h.length (by omega)).2.2, tN_tSO]
    exact u3
  · intro j hj
    rw [tA_tSF, tA_tSO, (v2 h.length (by omega)).1, tA_tSO, u4 j hj, tA_nz (by decide)]
  · rw [tN_tSF, tN_tSO]
    exact v3
  · intro j hj
    rw [tA_tSF, tA_tSO, v4 j hj, tA_tSO, (u2 47 (by omega)).1, tA_nz (by decide)]
  · intro p hp hn
    rw [tA_tSF, tA_tSO, (v2 p (by omega)).1, tA_tSO, (u2 p hp).1, tA_nz hn]
  · intro p c hp hn
    rw [tF_nz hn, tF_tSO, v1 p c (by omega), tF_tSO, u1 p c hp, tF_tSA]
  · intro p hp n1 n2
    rw [tO_tSF, tO_nz f3 n2, (v2 p (by omega)).2.1, tO_nz f2 n1, (u2 p hp).2.1, tO_tSA]
  · intro p hp
    rw [tN_tSF, tN_tSO, (v2 p (by omega)).2.2, tN_tSO, (u2 p hp).2.2, tN_tSA]
theorem f_bfull {G : zG} (hG : G.1 = zProg) {h : zH} (hs : tSh h) : tC zTt G 63 [.ref 48] h (fun w h2 => tBo ((tvI (tF h 48 3)).toInt = 10) w ∧ h2 = h) := by
  refine tC_in (by rw [hG]; rfl) (fun dp => ?_)
  refine tw_aload rfl rfl ?_
  refine tw_getS rfl (hi_48_3 hs) ?_
  refine tw_push rfl ?_
  refine tw_ic_ne rfl (fun q862 => ?_) (fun q862 => ?_)
  · try dsimp only [tvI_i, tvJ_j, tvR_r] at q862
    have q862i := zneq (Y := 10) (by decide) q862
    refine tw_push rfl ?_
    exact tw_iret rfl ⟨Or.inr ⟨by omega, rfl⟩, rfl⟩
  · try dsimp only [tvI_i, tvJ_j, tvR_r] at q862
    have q862i := zeqi (Y := 10) (by decide) q862
    refine tw_push rfl ?_
    refine tw_goto rfl ?_
    exact tw_iret rfl ⟨Or.inl ⟨by omega, rfl⟩, rfl⟩
theorem f_addRule {G : zG} (hG : G.1 = zProg) {h : zH} {m : Int32} (hs : tSh h) (hl : 182 ≤ h.length) (hc : 0 ≤ (tvI (tF h 44 5)).toInt ∧ (tvI (tF h 44 5)).toInt ≤ 400) (hk : 0 ≤ (tvI (tF h 44 7)).toInt ∧ (tvI (tF h 44 7)).toInt ≤ 12) (h46 : tN h 46 = 400) (h47 : tN h 47 = 48) : tC zTt G 64 [.ref 48, .int m, .ref 44] h (fun w h2 => (¬ (tvI (tF h 48 3)).toInt = 10 ∧ w = some (tF h 48 3) ∧ cAdd m h h2) ∨ (¬ ¬ (tvI (tF h 48 3)).toInt = 10 ∧ w = some (.int (-1)) ∧ h2 = h)) := by
  refine tC_in (by rw [hG]; rfl) (fun dp => ?_)
  have m4 : (tvI (tF h 44 7) * 4).toInt = (tvI (tF h 44 7)).toInt * 4 := zi32_4 hk.1 (by omega)
  refine tw_aload rfl rfl ?_
  refine tw_virt0 rfl (f_bfull hG hs) (fun w9 h9 p863 => ?_)
  obtain ⟨⟨p863, rfl⟩ | ⟨p863, rfl⟩, e9⟩ := p863
  · try dsimp only [tvI_i, tvJ_j, tvR_r] at p863
    obtain rfl := e9.symm
    refine tw_if_eq rfl (fun z => absurd z (by decide)) (fun _ => ?_)
    refine tw_push rfl ?_
    exact tw_iret rfl (Or.inr ⟨by omega, rfl, rfl⟩)
  · try dsimp only [tvI_i, tvJ_j, tvR_r] at p863
    obtain rfl := e9.symm
    refine tw_if_eq rfl (fun _ => ?_) (fun z => absurd z (by decide))
    refine tw_aload rfl rfl ?_
    refine tw_getS rfl (hs_48_0 hs) ?_
    refine tw_aload rfl rfl ?_
    refine tw_getS rfl (hi_48_3 hs) ?_
    refine tw_iload rfl rfl ?_
    refine tw_iast rfl (fun f864 => ?_)
    refine tw_aload rfl rfl ?_
    refine tw_getS rfl (hs_48_1 (tSh_SA hs)) ?_
    refine tw_aload rfl rfl ?_
    refine tw_getS rfl (tF_a (hi_48_3 hs)) ?_
    refine tw_aload rfl rfl ?_
    refine tw_getS rfl (hs_44_4 (tSh_SA hs)) ?_
    refine tw_aload rfl rfl ?_
    refine tw_getS rfl (tF_a (hi_44_5 hs)) ?_
    refine tw_stat2 rfl (f_copyOf hG (r := 46) (by rw [tN_tSA, h46]; omega)) (fun wp865 hp865 p865 => ?_)
    obtain ⟨rfl, cp865⟩ := p865
    refine tw_aast rfl (fun f866 => ?_)
    refine tw_aload rfl rfl ?_
    refine tw_getS rfl (hs_48_2 (tSh_SO (cpy_sh (by rw [tlen_tSA]; exact hl) cp865 (tSh_SA hs)))) ?_
    refine tw_aload rfl rfl ?_
    refine tw_getS rfl (tF_o ((cp865.2.1 48 3 (by rw [tlen_tSA]; omega)).trans (tF_a (hi_48_3 hs)))) ?_
    refine tw_aload rfl rfl ?_
    refine tw_getS rfl (hs_44_6 (tSh_SO (cpy_sh (by rw [tlen_tSA]; exact hl) cp865 (tSh_SA hs)))) ?_
    refine tw_aload rfl rfl ?_
    refine tw_getS rfl (tF_o ((cp865.2.1 44 7 (by rw [tlen_tSA]; omega)).trans (tF_a (hi_44_7 hs)))) ?_
    refine tw_push rfl ?_
    refine tw_imul rfl ?_
    refine tw_stat2 rfl (f_copyOf hG (r := 47) (by rw [tN_tSO, (cp865.2.2.1 47 (by rw [tlen_tSA]; omega)).2.2, tN_tSA, h47]; show 0 ≤ (tvI (tF h 44 7) * 4).toInt ∧ (tvI (tF h 44 7) * 4).toInt ≤ ((48 : Nat) : Int) ∧ 48 ≤ 1000; rw [m4]; omega)) (fun wp867 hp867 p867 => ?_)
    obtain ⟨rfl, cp867⟩ := p867
    refine tw_aast rfl (fun f868 => ?_)
    refine tw_aload rfl rfl ?_
    refine tw_dup rfl ?_
    refine tw_getS rfl (tF_o ((cp867.2.1 48 3 (by rw [tlen_tSO, cp865.1, tlen_tSA]; omega)).trans (tF_o ((cp865.2.1 48 3 (by rw [tlen_tSA]; omega)).trans (tF_a (hi_48_3 hs)))))) ?_
    refine tw_dup_x1 rfl ?_
    refine tw_push rfl ?_
    refine tw_iadd rfl ?_
    refine tw_put rfl (fun f869 => ?_)
    exact tw_iret rfl (Or.inl ⟨by omega, congrArg some (hi_48_3 hs).symm, cAdd_of hl rfl f864 cp865 f866 cp867 f868 f869⟩)
noncomputable def R_tlen (h : zH) : Prop := tF h 44 1 = tF h 111 27
noncomputable def R_tape (h : zH) : Prop := tA h 45 = tA h 132
noncomputable def R_rules (h : zH) : Prop := tF h 48 3 = tF h 111 30
noncomputable def R_froms (h : zH) : Prop := tA h 49 = tA h 141
theorem len_181 {h : zH} (e : tN h 181 = 81) : 182 ≤ h.length := by
  rcases Nat.lt_or_ge 181 h.length with q | q
  · omega
  · unfold tN at e
    rw [List.getElem?_eq_none q] at e
    cases e
theorem tN_lt {h : zH} {p : Nat} (e : 0 < tN h p) : p < h.length := by
  refine Classical.byContradiction (fun z => ?_)
  unfold tN at e
  rw [List.getElem?_eq_none (by omega)] at e
  exact absurd e (Nat.lt_irrefl 0)
theorem tC_and {tt : zT} {G : zG} {j : Nat} {as : List Value} {h : zH} {P Q : zQ} (k : tC tt G j as h P) (k2 : tC tt G j as h Q) : tC tt G j as h (fun w h2 => P w h2 ∧ Q w h2) := fun d z => zW_conj tt G d _ _ _ _ _ (k d z) (k2 d z)
theorem tC_triv {tt : zT} {G : zG} {j : Nat} {as : List Value} {h : zH} {Q : zQ} (k : ∀ w h2, Q w h2) : tC tt G j as h Q := fun d z => zW_mono tt G d _ _ _ _ _ (fun w h2 _ => k w h2) z
theorem f_cutTo2 {G : zG} (hG : G.1 = zProg) {h : zH} {n : Int32} : tC zTt G 74 [.ref 44, .int n] h (fun w h2 => w = some (.int n) ∧ h2 = tSF h 44 1 (.int n) ∧ tFd h 44 1) := by
  refine tC_in (by rw [hG]; rfl) (fun dp => ?_)
  refine tw_aload rfl rfl ?_
  refine tw_iload rfl rfl ?_
  refine tw_put rfl (fun f2 => ?_)
  refine tw_iload rfl rfl ?_
  exact tw_iret rfl ⟨rfl, rfl, f2⟩
/-- the codes in an array; a rule's clauses in one -/
noncomputable def cArr (h : zH) (a : Nat) : List Nat := (List.range (tN h a)).map (fun i => (tA h a i).toNatClampNeg)
noncomputable def cCls (h : zH) (b k : Nat) : List rCt := (List.range k).map (fun i => ((tA h b (4 * i)).toNatClampNeg, (tA h b (4 * i + 1)).toNatClampNeg, (tA h b (4 * i + 2)).toNatClampNeg, (tA h b (4 * i + 3)).toNatClampNeg))
/-- what the class's rule leaves -/
noncomputable def cRo (y : Int32) (r : Nat ⊕ (rS × List rCt)) (w : Option Value) (h h2 : zH) : Prop := match r with
  | .inl e => 100000 ≤ e ∨ (tF h2 44 1 = .int 0 ∧ w = some (.int (-2 - Int32.ofNat e)) ∧ tF h2 48 3 = tF h 48 3 ∧ tA h2 49 = tA h 49 ∧ (∀ p, 182 ≤ p → tA h2 p = tA h p) ∧ tO h2 50 = tO h 50 ∧ tO h2 51 = tO h 51)
  | .inr x => tF h2 44 1 = .int 0 ∧ w = some (tF h 48 3) ∧ tF h2 48 3 = .int (tvI (tF h 48 3) + 1) ∧ tA h2 49 = (fun j => if j = (tvI (tF h 48 3)).toNatClampNeg then y else tA h 49 j) ∧ ∃ a, 182 ≤ a ∧ tO h2 50 = (fun j => if j = (tvI (tF h 48 3)).toNatClampNeg then some a else tO h 50 j) ∧ tO h2 51 = (fun j => if j = (tvI (tF h 48 3)).toNatClampNeg then some (a + 1) else tO h 51 j) ∧ cArr h2 a = x.1.2.2 ∧ tN h2 (a + 1) = 4 * x.2.length ∧ cCls h2 (a + 1) x.2.length = x.2 ∧ ∀ p, 182 ≤ p → 0 < tN h p → tA h2 p = tA h p
theorem cRo_r {y : Int32} {h ha : zH} {b : zH} {w : Option Value} (hF : cFq h ha) (hP : cP ha) (hQ : cQ ha) (f1 : tFd ha 44 1) (hl : 182 ≤ ha.length) (hO : tO ha 50 = tO h 50 ∧ tO ha 51 = tO h 51) (k : cAdd y (tSF ha 44 1 (.int 0)) b) (hw : w = some (tF (tSF ha 44 1 (.int 0)) 48 3)) : cRo y (.inr (cs ha, cCl ha)) w h b := by
  have E : tF (tSF ha 44 1 (.int 0)) 48 3 = tF h 48 3 := (tF_nz (by decide)).trans (hF.2.1 48 3 (by decide))
  have E5 : tF (tSF ha 44 1 (.int 0)) 44 5 = tF ha 44 5 := tF_nz (by decide)
  have E7 : tF (tSF ha 44 1 (.int 0)) 44 7 = tF ha 44 7 := tF_nz (by decide)
  have L : (tSF ha 44 1 (.int 0)).length = ha.length := tlen_tSF _ _ _ _
  obtain ⟨k1, k2, k3, k4, k5, k6, k7, k8, k9, k10, k11, k12⟩ := k
  rw [E] at k1 k2 k3 k4
  rw [E5] at k5 k6
  rw [E7] at k7 k8
  rw [L] at k3 k4 k5 k6 k7 k8 k9 k10 k11 k12
  have m4 : (tvI (tF ha 44 7) * 4).toNatClampNeg = 4 * (tvI (tF ha 44 7)).toNatClampNeg := by
    rw [zclE, zi32_4 hQ.1 (by have := hQ.2.1; omega), zclE]
    have := hQ.1
    omega
  have hlen : (cCl ha).length = (tvI (tF ha 44 7)).toNatClampNeg := by unfold cCl; rw [List.length_map, List.length_range]
  refine ⟨?_, hw.trans (by rw [E]), k1, ?_, ha.length, hl, ?_, ?_, ?_, ?_, ?_, fun p hp h0 => ?_⟩
  · rw [k10 44 1 (by omega) (by decide)]
    exact tF_same f1
  · rw [k2]
    funext j
    rw [tA_tSF, hF.2.2.1 49 (by decide) (by decide)]
  · rw [k3, tO_tSF, hO.1]
  · rw [k4, tO_tSF, hO.2]
  · show cArr b ha.length = cCo ha
    unfold cArr cCo
    rw [k5]
    refine List.map_congr_left (fun i hi => ?_)
    have hi := List.mem_range.mp hi
    rw [k6 i hi, tA_tSF]
  · show tN b (ha.length + 1) = 4 * (cCl ha).length
    rw [k7, m4, hlen]
  · show cCls b (ha.length + 1) (cCl ha).length = cCl ha
    rw [hlen]
    unfold cCls cCl
    refine List.map_congr_left (fun i hi => ?_)
    have hi := List.mem_range.mp hi
    rw [k8 (4 * i) (by omega), k8 (4 * i + 1) (by omega), k8 (4 * i + 2) (by omega), k8 (4 * i + 3) (by omega), tA_tSF]
  · have h1 : p < ha.length := tN_lt (by rw [hF.2.2.2]; exact h0)
    rw [k9 p h1 (by omega), tA_tSF, hF.2.2.1 p (by omega) (by omega)]
theorem ofN_ne {e : Nat} (h : e < 100000) : ¬ Int32.ofNat e = -1 := by
  intro z
  have := congrArg Int32.toInt z
  rw [yofN (by omega)] at this
  have m : (-1 : Int32).toInt = -1 := rfl
  omega
noncomputable def ph_ruc (y : Int32) (h : zH) (w : Option Value) (h2 : zH) : Prop := (¬ ((tvI (tF h 48 3)).toInt ≠ 10 ∧ (tvI (tF h 0 14)).toInt ≤ y.toInt ∧ y.toInt ≤ 599) ∧ w = some (.int (-1)) ∧ h2 = h) ∨ (((tvI (tF h 48 3)).toInt ≠ 10 ∧ (tvI (tF h 0 14)).toInt ≤ y.toInt ∧ y.toInt ≤ 599) ∧ ∃ r, (∃ f, rRu (tA h 45) (cn h) f (0, 0, []) [] r) ∧ cRo y r w h h2)
theorem f_rule {G : zG} (hG : G.1 = zProg) (hX : G.2.1 = ztx) (hN : G.2.2.1 ≤ 4096) {τ : List Nat} {h : zH} {y : Int32} (hB : zBs G.2.2.2 τ h) (hs : tSh h) (hl : 0 ≤ (tvI (tF h 44 1)).toInt ∧ (tvI (tF h 44 1)).toInt ≤ 400) (hT9 : ∀ i, i < 400 → -128 ≤ (tA h 45 i).toInt ∧ (tA h 45 i).toInt ≤ 127) (h46 : tN h 46 = 400) (h47 : tN h 47 = 48) (h181 : tN h 181 = 81) : tC zTt G 124 [.ref 0, .int y] h (ph_ruc y h) := by
  by_cases hcnd : ((tvI (tF h 48 3)).toInt ≠ 10 ∧ (tvI (tF h 0 14)).toInt ≤ y.toInt ∧ y.toInt ≤ 599)
  · by_cases hbig : ∃ e f, rRu (tA h 45) (cn h) f (0, 0, []) [] (.inl e) ∧ 100000 ≤ e
    · obtain ⟨e, f, h1, h2⟩ := hbig
      exact tC_triv (fun _ _ => Or.inr ⟨hcnd, .inl e, ⟨f, h1⟩, Or.inl h2⟩)
    · refine tC_in (by rw [hG]; rfl) (fun dp => ?_)
      refine tw_aload rfl rfl ?_
      refine tw_getS rfl (hs_0_3 hs) ?_
      refine tw_virt0 rfl (f_bfull hG hs) (fun w9 h9 p870 => ?_)
      obtain ⟨⟨p870, rfl⟩ | ⟨p870, rfl⟩, e9⟩ := p870
      · try dsimp only [tvI_i, tvJ_j, tvR_r] at p870
        obtain rfl := e9.symm
        refine tw_if_ne rfl (fun _ => ?_) (fun z => absurd z (by decide))
        refine tw_push rfl ?_
        exact tw_iret rfl (Or.inl ⟨fun z => by have := z.1; omega, rfl, rfl⟩)
      · try dsimp only [tvI_i, tvJ_j, tvR_r] at p870
        obtain rfl := e9.symm
        refine tw_if_ne rfl (fun z => absurd z (by decide)) (fun _ => ?_)
        refine tw_iload rfl rfl ?_
        refine tw_aload rfl rfl ?_
        refine tw_getS rfl (hi_0_14 hs) ?_
        refine tw_push rfl ?_
        refine tw_stat3 rfl (f_isWithin hG  (HI := 599) rfl (by decide)) (fun w9 h9 p871 => ?_)
        obtain ⟨⟨p871, rfl⟩ | ⟨p871, rfl⟩, e9⟩ := p871
        · try dsimp only [tvI_i, tvJ_j, tvR_r] at p871
          obtain rfl := e9.symm
          refine tw_if_ne rfl (fun _ => ?_) (fun z => absurd z (by decide))
          refine tw_aload rfl rfl ?_
          refine tw_getS rfl (hs_0_2 hs) ?_
          refine tw_virt0 rfl (tC_and (f_readRule hG hX hs rfl rfl hl hT9 h46 h47) (tC_of (zpub hG hX hN (j := 75) (x := 44) (bs := []) (xs := []) (ct := kt_75_0) (g := false) (kd := 0) (lv := 42) (cts := [kt_75_0]) (by rfl) List.mem_cons_self (by rfl) (by rfl) (by decide) (by decide +kernel) (by decide +kernel) trivial hB))) (fun w9 hp872 p872 => ?_)
          obtain ⟨⟨Fp872, ⟨Np872, rp872, rfl, Pp872, Qp872⟩ | ⟨ep872, Np872, rp872, rfl⟩⟩, -, -, Yp872⟩ := p872
          · refine tw_istore rfl ?_
            refine tw_aload rfl rfl ?_
            refine tw_getS rfl (hs_0_2 Fp872.1) ?_
            refine tw_push rfl ?_
            refine tw_virt1 rfl (f_cutTo2 hG) (fun wp873 hp873 p873 => ?_)
            obtain ⟨rfl, rfl, fp873⟩ := p873
            refine tw_pop rfl ?_
            refine tw_iload rfl rfl ?_
            refine tw_push rfl ?_
            refine tw_ic_ne rfl (fun z => absurd z (by decide)) (fun _ => ?_)
            refine tw_aload rfl rfl ?_
            refine tw_getS rfl (hs_0_3 (hw_44_1 fp873 Fp872.1)) ?_
            refine tw_iload rfl rfl ?_
            refine tw_aload rfl rfl ?_
            refine tw_getS rfl (hs_0_2 (hw_44_1 fp873 Fp872.1)) ?_
            refine tw_virt2 rfl (f_addRule hG (hw_44_1 fp873 Fp872.1) (by rw [tlen_tSF]; exact len_181 ((congrFun Fp872.2.2.2 181).trans h181)) (by rw [tF_nz (by decide)]; exact ⟨Pp872.2.2.1.1, by have a := Pp872.2.2.1.2; have b := Pp872.1.2.1; have c := Pp872.1.2.2; omega⟩) (by rw [tF_nz (by decide)]; exact ⟨Qp872.1, Qp872.2.1⟩) (by rw [tN_tSF, Fp872.2.2.2]; exact h46) (by rw [tN_tSF, Fp872.2.2.2]; exact h47)) (fun wp874 hp874 p874 => ?_)
            refine tw_goto rfl ?_
            have E48 : tF (tSF hp872 44 1 (.int 0)) 48 3 = tF h 48 3 := (tF_nz (by decide)).trans (Fp872.2.1 48 3 (by decide))
            rcases p874 with ⟨c9, w9, k9⟩ | ⟨c9, w9, k9⟩
            · subst w9; exact tw_iret rfl (Or.inr ⟨⟨by omega, by omega⟩, _, ⟨Np872, rp872⟩, cRo_r Fp872 Pp872 Qp872 fp873 (len_181 ((congrFun Fp872.2.2.2 181).trans h181)) ⟨(tfr_A hB Yp872 (p := 50) rfl rfl).2.2, (tfr_A hB Yp872 (p := 51) rfl rfl).2.2⟩ k9 (congrArg some (hi_48_3 (hw_44_1 fp873 Fp872.1)).symm)⟩)
            · exfalso
              rw [E48] at c9
              omega
          · refine tw_istore rfl ?_
            refine tw_aload rfl rfl ?_
            refine tw_getS rfl (hs_0_2 Fp872.1) ?_
            refine tw_push rfl ?_
            refine tw_virt1 rfl (f_cutTo2 hG) (fun wp875 hp875 p875 => ?_)
            obtain ⟨rfl, rfl, fp875⟩ := p875
            refine tw_pop rfl ?_
            refine tw_iload rfl rfl ?_
            refine tw_push rfl ?_
            refine tw_ic_ne rfl (fun q876 => ?_) (fun q876 => ?_)
            · try dsimp only [tvI_i, tvJ_j, tvR_r] at q876
              have q876i := zneq (Y := (-1)) (by decide) q876
              refine tw_push rfl ?_
              refine tw_iload rfl rfl ?_
              refine tw_isub rfl ?_
              exact tw_iret rfl (Or.inr ⟨⟨by omega, by omega⟩, .inl ep872, ⟨Np872, rp872⟩, Or.inr ⟨tF_same fp875, rfl, (tF_nz (by decide)).trans (Fp872.2.1 48 3 (by decide)), (congrFun (tA_tSF _ _ _ _) 49).trans (Fp872.2.2.1 49 (by decide) (by decide)), fun p9 hp9 => (congrFun (tA_tSF _ _ _ _) p9).trans (Fp872.2.2.1 p9 (by omega) (by omega)), (congrFun (tO_tSF _ _ _ _) 50).trans (tfr_A hB Yp872 (p := 50) rfl rfl).2.2, (congrFun (tO_tSF _ _ _ _) 51).trans (tfr_A hB Yp872 (p := 51) rfl rfl).2.2⟩⟩)
            · try dsimp only [tvI_i, tvJ_j, tvR_r] at q876
              have q876i := zeqi (Y := (-1)) (by decide) q876
              exact absurd q876 (ofN_ne (Nat.lt_of_not_le (fun z => hbig ⟨_, _, rp872, z⟩)))
        · try dsimp only [tvI_i, tvJ_j, tvR_r] at p871
          obtain rfl := e9.symm
          refine tw_if_ne rfl (fun z => absurd z (by decide)) (fun _ => ?_)
          refine tw_push rfl ?_
          exact tw_iret rfl (Or.inl ⟨fun z => by have := z.1; omega, rfl, rfl⟩)
  · refine tC_in (by rw [hG]; rfl) (fun dp => ?_)
    refine tw_aload rfl rfl ?_
    refine tw_getS rfl (hs_0_3 hs) ?_
    refine tw_virt0 rfl (f_bfull hG hs) (fun w9 h9 p877 => ?_)
    obtain ⟨⟨p877, rfl⟩ | ⟨p877, rfl⟩, e9⟩ := p877
    · try dsimp only [tvI_i, tvJ_j, tvR_r] at p877
      obtain rfl := e9.symm
      refine tw_if_ne rfl (fun _ => ?_) (fun z => absurd z (by decide))
      refine tw_push rfl ?_
      exact tw_iret rfl (Or.inl ⟨fun z => by have := z.1; omega, rfl, rfl⟩)
    · try dsimp only [tvI_i, tvJ_j, tvR_r] at p877
      obtain rfl := e9.symm
      refine tw_if_ne rfl (fun z => absurd z (by decide)) (fun _ => ?_)
      refine tw_iload rfl rfl ?_
      refine tw_aload rfl rfl ?_
      refine tw_getS rfl (hi_0_14 hs) ?_
      refine tw_push rfl ?_
      refine tw_stat3 rfl (f_isWithin hG  (HI := 599) rfl (by decide)) (fun w9 h9 p878 => ?_)
      obtain ⟨⟨p878, rfl⟩ | ⟨p878, rfl⟩, e9⟩ := p878
      · try dsimp only [tvI_i, tvJ_j, tvR_r] at p878
        obtain rfl := e9.symm
        refine tw_if_ne rfl (fun _ => ?_) (fun z => absurd z (by decide))
        refine tw_aload rfl rfl ?_
        refine tw_getS rfl (hs_0_2 hs) ?_
        refine tw_virt0 rfl (tC_and (f_readRule hG hX hs rfl rfl hl hT9 h46 h47) (tC_of (zpub hG hX hN (j := 75) (x := 44) (bs := []) (xs := []) (ct := kt_75_0) (g := false) (kd := 0) (lv := 42) (cts := [kt_75_0]) (by rfl) List.mem_cons_self (by rfl) (by rfl) (by decide) (by decide +kernel) (by decide +kernel) trivial hB))) (fun w9 hp879 p879 => ?_)
        obtain ⟨⟨Fp879, ⟨Np879, rp879, rfl, Pp879, Qp879⟩ | ⟨ep879, Np879, rp879, rfl⟩⟩, -, -, Yp879⟩ := p879
        · exact absurd ⟨by omega, by omega⟩ hcnd
        · exact absurd ⟨by omega, by omega⟩ hcnd
      · try dsimp only [tvI_i, tvJ_j, tvR_r] at p878
        obtain rfl := e9.symm
        refine tw_if_ne rfl (fun z => absurd z (by decide)) (fun _ => ?_)
        refine tw_push rfl ?_
        exact tw_iret rfl (Or.inl ⟨fun z => by have := z.1; omega, rfl, rfl⟩)
theorem mK_of {xs : Nat → Int32} {τ : List Nat} {h : zH} (hB : zBs xs τ h) : mK h := ⟨kb_111_27 hB, (kb_111_34 hB).1, kb_111_30 hB, fun i hi => ((ka_142 hB).2 i (by rw [(ka_142 hB).1] at hi; exact hi)).1, fun _ => rfl, by rw [(ka_133 hB).1]; decide, by rw [(ka_142 hB).1]; decide⟩
theorem zAr_dep {G : zG} (hG : G.1 = zProg) (hT : G.2.1 = ztx) (hN : G.2.2.1 ≤ 4096) {R : zH → Prop} {cmp : Bool} {φ1 : List Int32 → zH → Option Value → zH → Prop} {φ2 : List Int32 → zH → Option Value → zH → Option Value → zH → Prop} {j1 j2 kd : Nat} {bs : List (Int × Int)} {ct1 ct2 : yCt} {g1 g2 : Bool} {l1 l2 : Nat} {cs1 cs2 : List yCt} (c1 : zCT[j1]? = some cs1) (i1 : ct1 ∈ cs1) (p1 : ct1.1 = zpM 0 bs g1) (v1 : ct1.2.2.1 = (.ofNat l1, [])) (v1' : l1 ≤ 64) (k1 : zpT kd ct1.2.2.2 = true) (q1 : zpG (ywf ct1.2.1) ct1.2.2.2 = true)
  (c2 : zCT[j2]? = some cs2) (i2 : ct2 ∈ cs2) (p2 : ct2.1 = zpM 111 bs g2) (v2 : ct2.2.2.1 = (.ofNat l2, [])) (v2' : l2 ≤ 64) (k2 : zpT kd ct2.2.2.2 = true) (q2 : zpG (ywf ct2.2.1) ct2.2.2.2 = true)
  (f1 : ∀ xs τ h, zpB bs xs → zBs G.2.2.2 τ h → R h → tC zTt G j1 (.ref 0 :: xs.map Value.int) h (fun w h2 => φ1 xs h w h2)) (f2 : ∀ xs τ h w h2 τ2, zpB bs xs → zBs G.2.2.2 τ h → R h → φ1 xs h w h2 → zBs G.2.2.2 τ2 h2 → yFr (ywf ct1.2.1) τ h h2 → tC zTt G j2 (.ref 111 :: xs.map Value.int) h2 (fun w2 h3 => φ2 xs h w h2 w2 h3))
  (fin : ∀ xs τ h w h2 τ2 w2 h3 τ3, zpB bs xs → zBs G.2.2.2 τ h → R h → φ1 xs h w h2 → zBs G.2.2.2 τ2 h2 → yFr (ywf ct1.2.1) τ h h2 → φ2 xs h w h2 w2 h3 → zBs G.2.2.2 τ3 h3 → yFr (ywf ct2.2.1) τ2 h2 h3 → (cmp = true → w2 = w) ∧ R h3) : zAr G R j1 j2 kd bs cmp := by
  intro xs h hb ⟨⟨τ, hB⟩, hR⟩
  refine zW_mono zTt G 64 _ _ _ _ _ ?_ ((f1 xs τ h hb hB hR).both (zpub hG hT hN c1 i1 p1 v1 v1' k1 q1 hb hB))
  rintro w h2 ⟨⟨t1, ⟨τ2, hB2⟩, r1⟩, h1⟩
  refine ⟨t1, zBs_111 hB2, zW_mono zTt G 64 _ _ _ _ _ ?_ ((f2 xs τ h w h2 τ2 hb hB hR h1 hB2 r1).both (zpub hG hT hN c2 i2 p2 v2 v2' k2 q2 hb hB2))⟩
  rintro w2 h3 ⟨⟨t2, ⟨τ3, hB3⟩, r2⟩, hh2⟩
  obtain ⟨e1, e2⟩ := fin xs τ h w h2 τ2 w2 h3 τ3 hb hB hR h1 hB2 r1 hh2 hB3 r2
  exact ⟨t2, e1, ⟨τ3, hB3⟩, e2⟩
noncomputable def ph_rum (y : Int32) (h : zH) (w : Option Value) (h2 : zH) (w2 : Option Value) (h3 : zH) : Prop := (w = some (.int (-1)) ∧ h2 = h ∧ w2 = some (.int (-1)) ∧ h3 = h2) ∨ ∃ r, (∃ f, rRu (tA h 45) (cn h) f (0, 0, []) [] r) ∧ cRo y r w h h2 ∧ mRo y r w2 h2 h3
theorem g_rule0 {G : zG} (hG : G.1 = zProg) {h : zH} {y : Int32} (hs : tSh h) (hc : ¬ ((tvI (tF h 111 30)).toInt ≠ 10 ∧ (tvI (tF h 111 1)).toInt ≤ y.toInt ∧ y.toInt ≤ 599)) : tC zTt G 225 [.ref 111, .int y] h (fun w h2 => w = some (.int (-1)) ∧ h2 = h) := by
  refine tC_in (by rw [hG]; rfl) (fun dp => ?_)
  refine tw_aload rfl rfl ?_
  refine tw_getS rfl (hi_111_30 hs) ?_
  refine tw_push rfl ?_
  refine tw_ic_eq rfl (fun q880 => ?_) (fun q880 => ?_)
  · try dsimp only [tvI_i, tvJ_j, tvR_r] at q880
    have q880i := zeqi (Y := 10) (by decide) q880
    refine tw_push rfl ?_
    exact tw_iret rfl ⟨rfl, rfl⟩
  · try dsimp only [tvI_i, tvJ_j, tvR_r] at q880
    have q880i := zneq (Y := 10) (by decide) q880
    refine tw_iload rfl rfl ?_
    refine tw_i2l rfl ?_
    refine tw_aload rfl rfl ?_
    refine tw_getS rfl (hi_111_1 hs) ?_
    refine tw_i2l rfl ?_
    refine tw_push rfl ?_
    refine tw_stat3 rfl (f_in hG   (HI := 599) (Int32.toInt_toInt64 _) (Int32.toInt_toInt64 _) (by decide)) (fun w9 h9 p881 => ?_)
    obtain ⟨⟨p881, rfl⟩ | ⟨p881, rfl⟩, e9⟩ := p881
    · try dsimp only [tvI_i, tvJ_j, tvR_r] at p881
      obtain rfl := e9.symm
      exact absurd ⟨by omega, by omega⟩ hc
    · try dsimp only [tvI_i, tvJ_j, tvR_r] at p881
      obtain rfl := e9.symm
      refine tw_if_ne rfl (fun z => absurd z (by decide)) (fun _ => ?_)
      refine tw_push rfl ?_
      exact tw_iret rfl ⟨rfl, rfl⟩
theorem g_ruleD {G : zG} (hG : G.1 = zProg) (hX : G.2.1 = ztx) {τ τ2 : List Nat} {y : Int32} {h h2 : zH} {w : Option Value} (hB : zBs G.2.2.2 τ h) (hB2 : zBs G.2.2.2 τ2 h2) (hL : R_tlen h) (hT : R_tape h) (hN : R_rules h) (hW : R_now h) (e1 : tF h2 111 27 = tF h 111 27) (e2 : tF h2 111 30 = tF h 111 30) (e3 : tF h2 111 1 = tF h 111 1) (o1 : tA h2 132 = tA h 132) (k1 : ph_ruc y h w h2) : tC zTt G 225 [.ref 111, .int y] h2 (ph_rum y h w h2) := by
  unfold R_tlen at hL
  unfold R_tape at hT
  unfold R_rules at hN
  unfold R_now at hW
  rcases k1 with ⟨c1, rfl, rfl⟩ | ⟨c1, r, ⟨f, hr⟩, k1⟩
  · refine (g_rule0 hG (zBs_sh hB2) ?_).mono (fun w2 h3 z => Or.inl ⟨rfl, rfl, z.1, z.2⟩)
    rw [← hN, ← hW]
    exact c1
  · have hmn : mn h2 = cn h := by unfold mn cn; rw [e1, ← hL]
    refine (g_rule hG hX (zBs_sh hB2) (mK_of hB2) (o1.trans hT.symm) hmn ⟨f, hr⟩).mono (fun w2 h3 z => ?_)
    rcases z with ⟨c2, -⟩ | ⟨-, z⟩
    · refine absurd ?_ c2
      rw [e2, e3, ← hN, ← hW]
      exact ⟨fun y9 => c1.1 (by rw [y9]; rfl), c1.2.1, c1.2.2⟩
    · exact Or.inr ⟨r, ⟨f, hr⟩, k1, z⟩
theorem a_rule {xs : Nat → Int32} {τ : List Nat} {y : Int32} {h h2 h3 : zH} {w w2 : Option Value} (hB : zBs xs τ h) (hL : R_tlen h) (hN : R_rules h) (hF : R_froms h) (e1 : tF h2 111 27 = tF h 111 27) (e2 : tF h2 111 30 = tF h 111 30) (o2 : tA h2 141 = tA h 141) (t1 : tF h3 44 1 = tF h2 44 1) (t2 : tF h3 48 3 = tF h2 48 3) (t3 : tA h3 49 = tA h2 49) (k2 : ph_rum y h w h2 w2 h3) : w2 = w ∧ R_tlen h3 ∧ R_rules h3 ∧ R_froms h3 := by
  have hN0 := hN
  have hF0 := hF
  unfold R_rules at hN0
  unfold R_froms at hF0
  have i48 := hi_48_3 (zBs_sh hB)
  rcases k2 with ⟨rfl, rfl, rfl, rfl⟩ | ⟨r, -, k1, k2⟩
  · exact ⟨rfl, hL, hN, hF⟩
  · obtain ⟨m1, m2, k2⟩ := k2
    have E27 : tF h3 111 27 = .int 0 := by rw [hi_111_27 m1.1, m2]
    cases r with
    | inl e =>
      obtain ⟨m3, rfl, m4, -, m5⟩ := k2
      rcases k1 with k1 | ⟨k1, rfl, k3, k4, -⟩
      · exact absurd m3 (Nat.not_lt_of_le k1)
      · refine ⟨rfl, ?_, ?_, ?_⟩
        · unfold R_tlen
          rw [t1, k1, E27]
        · unfold R_rules
          rw [t2, k3, m4, e2]
          exact hN0
        · unfold R_froms
          rw [t3, k4, m5, o2]
          exact hF0
    | inr x =>
      obtain ⟨rfl, m4, m5, m6, m7, -⟩ := k2
      obtain ⟨k1, rfl, k3, k4, -⟩ := k1
      have E30 : tvI (tF h2 111 30) = tvI (tF h 48 3) := by rw [e2, ← hN0]
      refine ⟨?_, ?_, ?_, ?_⟩
      · rw [zi1, E30]
        exact congrArg some i48.symm
      · unfold R_tlen
        rw [t1, k1, E27]
      · unfold R_rules
        rw [t2, k3, hi_111_30 m1.1, m4, E30]
      · unfold R_froms
        rw [t3, k4]
        funext q
        rw [E30] at m6 m7
        by_cases z : q = (tvI (tF h 48 3)).toNatClampNeg
        · rw [if_pos z, z, m6]
        · rw [if_neg z, (m7 q z).2, o2, ← hF0]
/-! what the codes of a rule are worth: facts are 0 or 1 -/
noncomputable def tyS (S : List Bool) (c : Nat) : Option (List Bool) :=
  if c < 100012 then some (false :: S)
  else if c = 100110 then (match S with
    | true :: r => some (true :: r)
    | _ => none)
  else if c = 100108 ∨ c = 100109 then (match S with
    | true :: true :: r => some (true :: r)
    | _ => none)
  else if 100100 ≤ c ∧ c < 100103 then (match S with
    | false :: false :: r => some (false :: r)
    | _ => none)
  else if 100103 ≤ c ∧ c < 100108 then (match S with
    | false :: false :: r => some (true :: r)
    | _ => none)
  else none
noncomputable def tyL : List Bool → List Nat → Option (List Bool)
  | S, [] => some S
  | S, c :: e => match tyS S c with
    | none => none
    | some S1 => tyL S1 e
theorem tyL_app {e1 e2 : List Nat} {S S1 S2 : List Bool} (h1 : tyL S e1 = some S1) (h2 : tyL S1 e2 = some S2) : tyL S (e1 ++ e2) = some S2 := by
  induction e1 generalizing S with
  | nil =>
    have h1 : some S = some S1 := h1
    cases h1
    exact h2
  | cons c e1 ih =>
    have h1 : (match tyS S c with | none => none | some S1 => tyL S1 e1) = some S1 := h1
    show (match tyS S c with | none => none | some S1 => tyL S1 (e1 ++ e2)) = some S2
    cases hc : tyS S c with
    | none => rw [hc] at h1; cases h1
    | some S3 =>
      rw [hc] at h1
      exact ih h1
/-- how many values -/
noncomputable def nVl : List Nat → Nat
  | [] => 0
  | c :: e => (if c < 100100 then 1 else 0) + nVl e
theorem nVl_app {e1 e2 : List Nat} : nVl (e1 ++ e2) = nVl e1 + nVl e2 := by
  induction e1 with
  | nil => show nVl e2 = 0 + nVl e2; omega
  | cons c e ih =>
    show (if c < 100100 then 1 else 0) + nVl (e ++ e2) = (if c < 100100 then 1 else 0) + nVl e + nVl e2
    rw [ih]
    omega
noncomputable def tyH (A B : List Bool → List Bool) (s s2 : rS) : Prop := ∃ e, s2.2.2 = s.2.2 ++ e ∧ nVl e + s.2.1 ≤ s2.2.1 ∧ (s.2.1 ≤ 80 → s2.2.1 ≤ 80) ∧ ∀ S, tyL (A S) e = some (B S)
section TYH
variable {A B C : List Bool → List Bool} {s s1 s2 : rS} {c p : Nat}
theorem tyH_r : tyH A A s s := ⟨[], (List.append_nil _).symm, by show 0 + _ ≤ _; omega, id, fun _ => rfl⟩
theorem tyH_t (h1 : tyH A B s s1) (h2 : tyH B C s1 s2) : tyH A C s s2 := by
  obtain ⟨e1, a1, a2, a3, a4⟩ := h1
  obtain ⟨e2, b1, b2, b3, b4⟩ := h2
  exact ⟨e1 ++ e2, by rw [b1, a1, List.append_assoc], by rw [nVl_app]; omega, fun z => b3 (a3 z), fun S => tyL_app (a4 S) (b4 S)⟩
theorem tyH_a (h : tyH A B s s1) : tyH A B s (rA p s1) := h
theorem tyH_b (h : tyH A B (rA p s) s1) : tyH A B s s1 := h
theorem tyH_c (h : s.2.1 ≠ 80) : tyH A A s (s.1, s.2.1 + 1, s.2.2) := ⟨[], (List.append_nil _).symm, by show 0 + _ ≤ _ + 1; omega, fun z => by show _ + 1 ≤ 80; omega, fun _ => rfl⟩
theorem tyH_u (hv : 100100 ≤ c) (hc : ∀ S, tyS (A S) c = some (B S)) : tyH A B s (rU c s) := ⟨[c], rfl, by show (if c < 100100 then 1 else 0) + 0 + _ ≤ _; rw [if_neg (by omega)]; show 0 + 0 + s.2.1 ≤ s.2.1; omega, id, fun S => by
  show (match tyS (A S) c with | none => none | some S1 => tyL S1 []) = some (B S)
  rw [hc S]
  rfl⟩
theorem tyH_v (h : s.2.1 ≠ 80) (hv : c < 100012) : tyH A (fun S => false :: A S) s (rU c (rA p (s.1, s.2.1 + 1, s.2.2))) := ⟨[c], rfl, by show (if c < 100100 then 1 else 0) + 0 + s.2.1 ≤ s.2.1 + 1; rw [if_pos (by omega)]; omega, fun z => by show _ + 1 ≤ 80; omega, fun S => by
  have e : tyS (A S) c = some (false :: A S) := by
    unfold tyS
    rw [if_pos hv]
  show (match tyS (A S) c with | none => none | some S1 => tyL S1 []) = some (false :: A S)
  rw [e]
  rfl⟩
theorem tyH_S (g : List Bool → List Bool) (h : tyH A B s s2) : tyH (fun S => A (g S)) (fun S => B (g S)) s s2 := by
  obtain ⟨e, a1, a2, a3, a4⟩ := h
  exact ⟨e, a1, a2, a3, fun S => a4 (g S)⟩
theorem rK_ok {x : rR} {k : rS → rR} (h : rK x k = some (.inr s2)) : ∃ s1, x = some (.inr s1) ∧ k s1 = some (.inr s2) := by
  match x, h with
  | none, h => cases h
  | some (.inl f), h => cases h
  | some (.inr s1), h => exact ⟨s1, rfl, h⟩
theorem rC_ok (h : rC p s = some (.inr s1)) : s.2.1 ≠ 80 ∧ s1 = (s.1, s.2.1 + 1, s.2.2) := by
  unfold rC at h
  by_cases z : s.2.1 = 80
  · rw [if_pos z] at h; cases h
  · rw [if_neg z] at h; cases h; exact ⟨z, rfl⟩
theorem rO_ok (h : rO s = some (.inr s1)) : s1 = s := by cases h; rfl
theorem rF_no {w : Nat} (h : rF p w = some (.inr s1)) : False := by cases h
end TYH
noncomputable def mIn : Nat → List Bool → List Bool
  | 2 => fun S => false :: S
  | 4 => fun S => false :: S
  | 8 => fun S => true :: S
  | 10 => fun S => true :: S
  | _ => fun S => S
noncomputable def mOu : Nat → List Bool → List Bool
  | 0 => fun S => false :: S
  | 1 => fun S => false :: S
  | 2 => fun S => false :: S
  | 3 => fun S => false :: S
  | 4 => fun S => false :: S
  | _ => fun S => true :: S
theorem rM_le {T : Nat → Int32} {n most p : Nat} {q : Nat × Nat} (h : rM T n most p = .inr q) : q.2 ≤ most := by
  unfold rM at h
  split at h
  · cases h
  · split at h
    · cases h
    · rename_i z
      cases h
      exact Nat.le_of_not_lt (fun y => z (Or.inr y))
theorem rCm_le {T : Nat → Int32} {n b : Nat} {q : Nat × Nat} (h : rCm T n b = some q) : 100103 ≤ q.1 ∧ q.1 < 100108 := by
  unfold rCm at h
  split at h
  · cases h; exact ⟨Nat.le_of_ble_eq_true rfl, Nat.le_of_ble_eq_true rfl⟩
  · split at h
    · split at h <;> cases h <;> exact ⟨Nat.le_of_ble_eq_true rfl, Nat.le_of_ble_eq_true rfl⟩
    · split at h
      · split at h <;> cases h <;> exact ⟨Nat.le_of_ble_eq_true rfl, Nat.le_of_ble_eq_true rfl⟩
      · cases h
theorem ty_pm {c : Nat} (hc : 100100 ≤ c ∧ c < 100103) (S : List Bool) : tyS (false :: false :: S) c = some (false :: S) := by
  unfold tyS
  rw [if_neg (by omega), if_neg (by omega), if_neg (by omega), if_pos hc]
theorem ty_cm {c : Nat} (hc : 100103 ≤ c ∧ c < 100108) (S : List Bool) : tyS (false :: false :: S) c = some (true :: S) := by
  unfold tyS
  rw [if_neg (by omega), if_neg (by omega), if_neg (by omega), if_neg (by omega), if_pos hc]
theorem ty_ao {c : Nat} (hc : c = 100108 ∨ c = 100109) (S : List Bool) : tyS (true :: true :: S) c = some (true :: S) := by
  unfold tyS
  rw [if_neg (by omega), if_neg (by omega), if_pos hc]
theorem ty_no (S : List Bool) : tyS (true :: S) 100110 = some (true :: S) := by
  unfold tyS
  rw [if_neg (by omega), if_pos rfl]
theorem rX_ty {T : Nat → Int32} {n : Nat} : ∀ (f m d : Nat) (s s2 : rS), m ≤ 10 → rX T n f m d s = some (.inr s2) → tyH (mIn m) (mOu m) s s2 := by
  intro f
  induction f with
  | zero =>
    intro m d s s2 hm h
    have h : (none : rR) = some (.inr s2) := h
    cases h
  | succ f ih =>
    have i0 : ∀ d s s2, rX T n f 0 d s = some (.inr s2) → tyH (fun S => S) (fun S => false :: S) s s2 := fun d s s2 h => ih 0 d s s2 (by decide) h
    have i1 : ∀ d s s2, rX T n f 1 d s = some (.inr s2) → tyH (fun S => S) (fun S => false :: S) s s2 := fun d s s2 h => ih 1 d s s2 (by decide) h
    have i2 : ∀ d s s2, rX T n f 2 d s = some (.inr s2) → tyH (fun S => false :: S) (fun S => false :: S) s s2 := fun d s s2 h => ih 2 d s s2 (by decide) h
    have i3 : ∀ d s s2, rX T n f 3 d s = some (.inr s2) → tyH (fun S => S) (fun S => false :: S) s s2 := fun d s s2 h => ih 3 d s s2 (by decide) h
    have i4 : ∀ d s s2, rX T n f 4 d s = some (.inr s2) → tyH (fun S => false :: S) (fun S => false :: S) s s2 := fun d s s2 h => ih 4 d s s2 (by decide) h
    have i5 : ∀ d s s2, rX T n f 5 d s = some (.inr s2) → tyH (fun S => S) (fun S => true :: S) s s2 := fun d s s2 h => ih 5 d s s2 (by decide) h
    have i6 : ∀ d s s2, rX T n f 6 d s = some (.inr s2) → tyH (fun S => S) (fun S => true :: S) s s2 := fun d s s2 h => ih 6 d s s2 (by decide) h
    have i7 : ∀ d s s2, rX T n f 7 d s = some (.inr s2) → tyH (fun S => S) (fun S => true :: S) s s2 := fun d s s2 h => ih 7 d s s2 (by decide) h
    have i8 : ∀ d s s2, rX T n f 8 d s = some (.inr s2) → tyH (fun S => true :: S) (fun S => true :: S) s s2 := fun d s s2 h => ih 8 d s s2 (by decide) h
    have i9 : ∀ d s s2, rX T n f 9 d s = some (.inr s2) → tyH (fun S => S) (fun S => true :: S) s s2 := fun d s s2 h => ih 9 d s s2 (by decide) h
    have i10 : ∀ d s s2, rX T n f 10 d s = some (.inr s2) → tyH (fun S => true :: S) (fun S => true :: S) s s2 := fun d s s2 h => ih 10 d s s2 (by decide) h
    intro m d s s2 hm h
    rcases (by omega : m = 0 ∨ m = 1 ∨ m = 2 ∨ m = 3 ∨ m = 4 ∨ m = 5 ∨ m = 6 ∨ m = 7 ∨ m = 8 ∨ m = 9 ∨ m = 10) with rfl | rfl | rfl | rfl | rfl | rfl | rfl | rfl | rfl | rfl | rfl
    · have h : (if rB T n s.1 < n ∧ T (rB T n s.1) = 40 then (if d = 10 then rF (rB T n s.1) 2 else rK (rC (rB T n s.1) s) (fun s1 => rK (rX T n f 3 (d + 1) (rA (rB T n s.1 + 1) s1)) (rT T n 41)))
      else (match rK12 T n (rB T n s.1) with
        | some k => rK (rC (rB T n s.1) s) (fun s1 => rO (rU (100000 + k) (rA (rE T n (rB T n s.1)) s1)))
        | none => (match rM T n 99999 (rB T n s.1) with
          | .inl e => some (.inl e)
          | .inr q => rK (rC (rB T n s.1) s) (fun s1 => rO (rU q.2 (rA q.1 s1)))))) = some (.inr s2) := h
      show tyH (fun S => S) (fun S => false :: S) s s2
      split at h
      · split at h
        · exact (rF_no h).elim
        · obtain ⟨s1, h1, h⟩ := rK_ok h
          obtain ⟨k1, rfl⟩ := rC_ok h1
          obtain ⟨s3, h3, h⟩ := rK_ok h
          obtain ⟨-, rfl⟩ := rTon h
          exact tyH_a (tyH_t (tyH_c k1) (tyH_b (i3 _ _ _ h3)))
      · cases hk : rK12 T n (rB T n s.1) with
        | some k =>
          rw [hk] at h
          obtain ⟨s1, h1, h⟩ := rK_ok h
          obtain ⟨k1, rfl⟩ := rC_ok h1
          rw [rO_ok h]
          have := (rK12_s hk).1
          exact tyH_v k1 (by omega)
        | none =>
          rw [hk] at h
          cases hM : rM T n 99999 (rB T n s.1) with
          | inl e => simp only [hM] at h; cases h
          | inr q =>
            simp only [hM] at h
            obtain ⟨s1, h1, h⟩ := rK_ok h
            obtain ⟨k1, rfl⟩ := rC_ok h1
            rw [rO_ok h]
            have := rM_le hM
            exact tyH_v k1 (by omega)
    · have h : rK (rX T n f 0 d s) (rX T n f 2 d) = some (.inr s2) := h
      obtain ⟨s1, h1, h⟩ := rK_ok h
      exact tyH_t (i0 _ _ _ h1) (i2 _ _ _ h)
    · have h : (if rB T n s.1 < n ∧ T (rB T n s.1) = 42 then rK (rX T n f 0 d (rA (rB T n s.1 + 1) s)) (fun s1 => rX T n f 2 d (rU 100102 s1)) else rO (rA (rB T n s.1) s)) = some (.inr s2) := h
      show tyH (fun S => false :: S) (fun S => false :: S) s s2
      split at h
      · obtain ⟨s1, h1, h⟩ := rK_ok h
        exact tyH_t (tyH_S (fun S => false :: S) (tyH_b (i0 _ _ _ h1))) (tyH_t (tyH_u (by decide) (ty_pm (by decide))) (i2 _ _ _ h))
      · rw [rO_ok h]
        exact tyH_a tyH_r
    · have h : rK (rX T n f 1 d s) (rX T n f 4 d) = some (.inr s2) := h
      obtain ⟨s1, h1, h⟩ := rK_ok h
      exact tyH_t (i1 _ _ _ h1) (i4 _ _ _ h)
    · have h : (if rB T n s.1 < n ∧ T (rB T n s.1) = 43 then rK (rX T n f 1 d (rA (rB T n s.1 + 1) s)) (fun s1 => rX T n f 4 d (rU 100100 s1))
      else if rB T n s.1 < n ∧ T (rB T n s.1) = 45 then rK (rX T n f 1 d (rA (rB T n s.1 + 1) s)) (fun s1 => rX T n f 4 d (rU 100101 s1))
      else rO (rA (rB T n s.1) s)) = some (.inr s2) := h
      show tyH (fun S => false :: S) (fun S => false :: S) s s2
      split at h
      · obtain ⟨s1, h1, h⟩ := rK_ok h
        exact tyH_t (tyH_S (fun S => false :: S) (tyH_b (i1 _ _ _ h1))) (tyH_t (tyH_u (by decide) (ty_pm (by decide))) (i4 _ _ _ h))
      · split at h
        · obtain ⟨s1, h1, h⟩ := rK_ok h
          exact tyH_t (tyH_S (fun S => false :: S) (tyH_b (i1 _ _ _ h1))) (tyH_t (tyH_u (by decide) (ty_pm (by decide))) (i4 _ _ _ h))
        · rw [rO_ok h]
          exact tyH_a tyH_r
    · have h : rK (rX T n f 3 d s) (fun s1 => match rCm T n (rB T n s1.1) with
        | none => rF (rB T n s1.1) 0
        | some q => rK (rC (rB T n s1.1) s1) (fun s2 => rK (rX T n f 3 d (rA q.2 s2)) (fun s3 => rO (rU q.1 s3)))) = some (.inr s2) := h
      show tyH (fun S => S) (fun S => true :: S) s s2
      obtain ⟨s1, h1, h⟩ := rK_ok h
      cases hq : rCm T n (rB T n s1.1) with
      | none => simp only [hq] at h; exact (rF_no h).elim
      | some q =>
        simp only [hq] at h
        obtain ⟨s3, h3, h⟩ := rK_ok h
        obtain ⟨k3, rfl⟩ := rC_ok h3
        obtain ⟨s4, h4, h⟩ := rK_ok h
        rw [rO_ok h]
        have := rCm_le hq
        exact tyH_t (i3 _ _ _ h1) (tyH_t (tyH_c k3) (tyH_t (tyH_S (fun S => false :: S) (tyH_b (i3 _ _ _ h4))) (tyH_u (by omega) (ty_cm this))))
    · have h : (if rW T n (rB T n s.1) (rWd 19) = true then (if d = 10 then rF (rB T n s.1) 2 else rK (rX T n f 6 (d + 1) (rA (rB T n s.1 + 3) s)) (fun s1 => rO (rU 100110 s1)))
      else if rB T n s.1 < n ∧ T (rB T n s.1) = 91 then (if d = 10 then rF (rB T n s.1) 2 else rK (rX T n f 9 (d + 1) (rA (rB T n s.1 + 1) s)) (rT T n 93))
      else rX T n f 5 d (rA (rB T n s.1) s)) = some (.inr s2) := h
      show tyH (fun S => S) (fun S => true :: S) s s2
      split at h
      · split at h
        · exact (rF_no h).elim
        · obtain ⟨s1, h1, h⟩ := rK_ok h
          rw [rO_ok h]
          exact tyH_t (tyH_b (i6 _ _ _ h1)) (tyH_u (by decide) ty_no)
      · split at h
        · split at h
          · exact (rF_no h).elim
          · obtain ⟨s1, h1, h⟩ := rK_ok h
            obtain ⟨-, rfl⟩ := rTon h
            exact tyH_a (tyH_b (i9 _ _ _ h1))
        · exact tyH_b (i5 _ _ _ h)
    · have h : rK (rX T n f 6 d s) (rX T n f 8 d) = some (.inr s2) := h
      obtain ⟨s1, h1, h⟩ := rK_ok h
      exact tyH_t (i6 _ _ _ h1) (i8 _ _ _ h)
    · have h : (if rW T n (rB T n s.1) (rWd 18) = true then rK (rX T n f 6 d (rA (rB T n s.1 + 3) s)) (fun s1 => rX T n f 8 d (rU 100109 s1)) else rO (rA (rB T n s.1) s)) = some (.inr s2) := h
      show tyH (fun S => true :: S) (fun S => true :: S) s s2
      split at h
      · obtain ⟨s1, h1, h⟩ := rK_ok h
        exact tyH_t (tyH_S (fun S => true :: S) (tyH_b (i6 _ _ _ h1))) (tyH_t (tyH_u (by decide) (ty_ao (by decide))) (i8 _ _ _ h))
      · rw [rO_ok h]
        exact tyH_a tyH_r
    · have h : rK (rX T n f 7 d s) (rX T n f 10 d) = some (.inr s2) := h
      obtain ⟨s1, h1, h⟩ := rK_ok h
      exact tyH_t (i7 _ _ _ h1) (i10 _ _ _ h)
    · have h : (if rW T n (rB T n s.1) (rWd 17) = true then rK (rX T n f 7 d (rA (rB T n s.1 + 2) s)) (fun s1 => rX T n f 10 d (rU 100108 s1)) else rO (rA (rB T n s.1) s)) = some (.inr s2) := h
      show tyH (fun S => true :: S) (fun S => true :: S) s s2
      split at h
      · obtain ⟨s1, h1, h⟩ := rK_ok h
        exact tyH_t (tyH_S (fun S => true :: S) (tyH_b (i7 _ _ _ h1))) (tyH_t (tyH_u (by decide) (ty_ao (by decide))) (i10 _ _ _ h))
      · rw [rO_ok h]
        exact tyH_a tyH_r
theorem pE_ty {T : Nat → Int32} {n m d : Nat} {s s2 : rS} (hm : m ≤ 10) (h : pE T n m d s (.inr s2)) : tyH (mIn m) (mOu m) s s2 := by
  obtain ⟨N, h⟩ := h
  exact rX_ty N m d s s2 hm (h N (Nat.le_refl _))
/-- a clause and the codes that it stands over -/
noncomputable def rOk (cs : List Nat) (c : rCt) : Prop := ∃ p e1 e2 q, cs = p ++ (e1 ++ (e2 ++ q)) ∧ c.2.1 = p.length ∧ c.2.2.1 = p.length + e1.length ∧ c.2.2.2 = p.length + e1.length + e2.length ∧ (c.1 ≠ 15 → tyL [] e1 = some [false]) ∧ (e2 = [] ∨ tyL [] e2 = some [true])
theorem rOk_m {cs e : List Nat} {c : rCt} (h : rOk cs c) : rOk (cs ++ e) c := by
  obtain ⟨p, e1, e2, q, h1, h2⟩ := h
  exact ⟨p, e1, e2, q ++ e, by rw [h1, List.append_assoc, List.append_assoc, List.append_assoc], h2⟩
noncomputable def rOi (s : rS) : Prop := nVl s.2.2 ≤ s.2.1 ∧ s.2.1 ≤ 80
theorem rOi_h {A B : List Bool → List Bool} {s s2 : rS} (h : tyH A B s s2) (i : rOi s) : rOi s2 := by
  obtain ⟨e, a1, a2, a3, -⟩ := h
  refine ⟨?_, a3 i.2⟩
  rw [a1, nVl_app]
  have := i.1
  omega
noncomputable def rOj (s : rS) (x : rS × rCt) : Prop := (∃ e, x.1.2.2 = s.2.2 ++ e) ∧ rOk x.1.2.2 x.2 ∧ (rOi s → rOi x.1)
theorem rCl3_ok {T : Nat → Int32} {n k th : Nat} {s s2 : rS} {e1 : List Nat} {x : rS × rCt} (hs : s2.2.2 = s.2.2 ++ e1) (hi : rOi s → rOi s2) (h1 : th ≠ 15 → tyL [] e1 = some [false]) (h : rCl3 T n k th s.2.2.length s2 (.inr x)) : rOj s x := by
  rcases h with ⟨-, ⟨e, -, h⟩ | ⟨s3, h, h9⟩⟩ | ⟨-, -, h⟩ | ⟨-, -, h9⟩
  · cases h
  · cases h9
    have ht := pE_ty (by decide) h
    obtain ⟨e2, b1, b2, b3, b4⟩ := ht
    have b1 : s3.2.2 = s2.2.2 ++ e2 := b1
    have b4 : tyL [] e2 = some [true] := b4 []
    refine ⟨⟨e1 ++ e2, by show s3.2.2 = _; rw [b1, hs, List.append_assoc]⟩, ⟨s.2.2, e1, e2, [], ?_, rfl, ?_, ?_, h1, Or.inr b4⟩, fun z => rOi_h (pE_ty (by decide) h) (hi z)⟩
    · show s3.2.2 = _
      rw [b1, hs, List.append_nil, List.append_assoc]
    · show s2.2.2.length = _
      rw [hs, List.length_append]
    · show s3.2.2.length = _
      rw [b1, hs, List.length_append, List.length_append]
  · cases h
  · cases h9
    refine ⟨⟨e1, hs⟩, ⟨s.2.2, e1, [], [], ?_, rfl, ?_, ?_, h1, Or.inl rfl⟩, hi⟩
    · show s2.2.2 = _
      rw [hs, List.append_nil, List.append_nil]
    · show s2.2.2.length = _
      rw [hs, List.length_append]
    · show s2.2.2.length = _
      rw [hs, List.length_append]
      rfl
theorem rCl2_ok {T : Nat → Int32} {n k th : Nat} {s : rS} {x : rS × rCt} (hk : k ≠ 15 → th ≠ 15) (hk2 : k = 15 → th = 15) (h : rCl2 T n k th s (.inr x)) : rOj s x := by
  rcases h with ⟨a, h⟩ | ⟨a, ⟨e, -, h⟩ | ⟨s2, h2, h⟩⟩
  · exact rCl3_ok (e1 := []) (List.append_nil _).symm id (fun z => absurd (hk2 a) z) h
  · cases h
  · have ht := pE_ty (by decide) h2
    have hi : rOi s → rOi s2 := rOi_h ht
    obtain ⟨e1, b1, b2, b3, b4⟩ := ht
    exact rCl3_ok b1 hi (fun _ => b4 []) h
theorem rCl_ok {T : Nat → Int32} {n c : Nat} {s : rS} {x : rS × rCt} (h : rCl T n c s (.inr x)) : rOj s x := by
  rcases h with ⟨-, h⟩ | ⟨k, -, -, -, ⟨-, h⟩ | ⟨-, h⟩⟩
  · cases h
  · cases h
  · rcases h with ⟨a, ⟨e, -, h⟩ | ⟨q, h1, h⟩⟩ | ⟨a, h⟩
    · cases h
    · have := rM_le h1
      have h := rCl2_ok (fun _ => by omega) (fun z => by omega) h
      exact h
    · have y := rCl2_ok (s := rA (rE T n (rB T n s.1)) s) id id h
      exact y
theorem rRu_ok {T : Nat → Int32} {n : Nat} : ∀ (f : Nat) (s : rS) (cl : List rCt) (x : rS × List rCt), rRu T n f s cl (.inr x) → rOi s → (∀ c ∈ cl, rOk s.2.2 c) → rOi x.1 ∧ ∀ c ∈ x.2, rOk x.1.2.2 c
  | 0, _, _, _, h, _, _ => h.elim
  | f + 1, s, cl, x, h, hi, hc => by
    rcases h with ⟨e, -, h⟩ | ⟨s1, c, h1, h⟩
    · cases h
    · obtain ⟨⟨e, a1⟩, a2, a3⟩ := rCl_ok h1
      have a1 : s1.2.2 = s.2.2 ++ e := a1
      have hc2 : ∀ c2 ∈ cl ++ [c], rOk s1.2.2 c2 := by
        intro c2 hm
        rcases List.mem_append.mp hm with z | z
        · rw [a1]; exact rOk_m (hc c2 z)
        · rcases List.mem_singleton.mp z with rfl
          exact a2
      rcases h with ⟨-, h⟩ | ⟨-, h⟩ | ⟨-, h⟩
      · cases h
        exact ⟨a3 hi, hc2⟩
      · exact rRu_ok f (rA _ s1) _ x h (a3 hi) hc2
      · cases h
/-! what codes are worth -/
noncomputable def b64 (p : Prop) [Decidable p] : Int64 := if p then 1 else 0
theorem b64_f (p : Prop) [Decidable p] : b64 p = 0 ∨ b64 p = 1 := by
  unfold b64
  by_cases h : p
  · rw [if_pos h]; exact Or.inr rfl
  · rw [if_neg h]; exact Or.inl rfl
theorem b64_1 {p : Prop} [Decidable p] (h : p) : b64 p = 1 := if_pos h
theorem b64_0 {p : Prop} [Decidable p] (h : ¬ p) : b64 p = 0 := if_neg h
noncomputable def vOf (W : Nat → Int64) (c : Nat) : Int64 := if 100000 ≤ c then W (c - 100000) else (Int32.ofNat c).toInt64
noncomputable def jo (c : Nat) (a b : Int64) : Int64 := if c = 100100 then a + b else if c = 100101 then a - b else if c = 100102 then a * b else if c = 100103 then b64 (a.toInt < b.toInt) else if c = 100104 then b64 (a.toInt ≤ b.toInt) else if c = 100105 then b64 (a = b) else if c = 100106 then b64 (b.toInt ≤ a.toInt) else if c = 100108 then a ||| b else if c = 100109 then a &&& b else b64 (b.toInt < a.toInt)
noncomputable def jp (c : Nat) (a b : Int64) : Int64 := if c = 100108 then b64 (a ≠ 0 ∨ b ≠ 0) else if c = 100109 then b64 (a ≠ 0 ∧ b ≠ 0) else jo c a b
theorem jp_o {c : Nat} {a b : Int64} (h1 : c ≠ 100108) (h2 : c ≠ 100109) : jp c a b = jo c a b := by
  unfold jp
  rw [if_neg h1, if_neg h2]
theorem jp_8 {a b : Int64} : jp 100108 a b = b64 (a ≠ 0 ∨ b ≠ 0) := by
  unfold jp
  rw [if_pos rfl]
theorem jp_9 {a b : Int64} : jp 100109 a b = b64 (a ≠ 0 ∧ b ≠ 0) := by
  unfold jp
  rw [if_neg (by decide), if_pos rfl]
theorem jo_8 {a b : Int64} : jo 100108 a b = a ||| b := by
  unfold jo
  rw [if_neg (by decide), if_neg (by decide), if_neg (by decide), if_neg (by decide), if_neg (by decide), if_neg (by decide), if_neg (by decide), if_pos rfl]
theorem jo_9 {a b : Int64} : jo 100109 a b = a &&& b := by
  unfold jo
  rw [if_neg (by decide), if_neg (by decide), if_neg (by decide), if_neg (by decide), if_neg (by decide), if_neg (by decide), if_neg (by decide), if_neg (by decide), if_pos rfl]
theorem jo_f {c : Nat} {a b : Int64} (h : 100103 ≤ c ∧ c < 100108) : jo c a b = 0 ∨ jo c a b = 1 := by
  unfold jo
  rw [if_neg (by omega), if_neg (by omega), if_neg (by omega)]
  repeat' split
  all_goals first | exact b64_f _ | (exfalso; omega)
noncomputable def ev1 (W : Nat → Int64) (c : Nat) (X : List Int64) : List Int64 :=
  if c < 100100 then vOf W c :: X
  else if c = 100110 then (match X with
    | x :: r => (1 - x) :: r
    | [] => [])
  else (match X with
    | b :: a :: r => jo c a b :: r
    | X => X)
noncomputable def et1 (W : Nat → Int64) (c : Nat) (X : List Int64) : List Int64 :=
  if c < 100100 then vOf W c :: X
  else if c = 100110 then (match X with
    | x :: r => b64 (x = 0) :: r
    | [] => [])
  else (match X with
    | b :: a :: r => jp c a b :: r
    | X => X)
noncomputable def ev (W : Nat → Int64) : List Nat → List Int64 → List Int64
  | [], X => X
  | c :: e, X => ev W e (ev1 W c X)
noncomputable def et (W : Nat → Int64) : List Nat → List Int64 → List Int64
  | [], X => X
  | c :: e, X => et W e (et1 W c X)
noncomputable def okS : List Bool → List Int64 → Prop
  | [], [] => True
  | t :: S, x :: r => (t = true → x = 0 ∨ x = 1) ∧ okS S r
  | _, _ => False
theorem okS_1 {t : Bool} {S : List Bool} {X : List Int64} (k : okS (t :: S) X) : ∃ x r, X = x :: r ∧ (t = true → x = 0 ∨ x = 1) ∧ okS S r := by
  cases X with
  | nil => exact False.elim k
  | cons x r => exact ⟨x, r, rfl, k.1, k.2⟩
theorem okS_2 {t u : Bool} {S : List Bool} {X : List Int64} (k : okS (t :: u :: S) X) : ∃ b a r, X = b :: a :: r ∧ (t = true → b = 0 ∨ b = 1) ∧ (u = true → a = 0 ∨ a = 1) ∧ okS S r := by
  obtain ⟨b, r, rfl, h1, h2⟩ := okS_1 k
  obtain ⟨a, r, rfl, h3, h4⟩ := okS_1 h2
  exact ⟨b, a, r, rfl, h1, h3, h4⟩
theorem ev_v {W : Nat → Int64} {c : Nat} {X : List Int64} (hc : c < 100100) : ev1 W c X = vOf W c :: X := by
  unfold ev1
  rw [if_pos hc]
theorem ev_n {W : Nat → Int64} {x : Int64} {X : List Int64} : ev1 W 100110 (x :: X) = (1 - x) :: X := rfl
theorem ev_j {W : Nat → Int64} {c : Nat} {a b : Int64} {X : List Int64} (h1 : ¬ c < 100100) (h2 : c ≠ 100110) : ev1 W c (b :: a :: X) = jo c a b :: X := by
  unfold ev1
  rw [if_neg h1, if_neg h2]
theorem et_v {W : Nat → Int64} {c : Nat} {X : List Int64} (hc : c < 100100) : et1 W c X = vOf W c :: X := by
  unfold et1
  rw [if_pos hc]
theorem et_n {W : Nat → Int64} {x : Int64} {X : List Int64} : et1 W 100110 (x :: X) = b64 (x = 0) :: X := rfl
theorem et_j {W : Nat → Int64} {c : Nat} {a b : Int64} {X : List Int64} (h1 : ¬ c < 100100) (h2 : c ≠ 100110) : et1 W c (b :: a :: X) = jp c a b :: X := by
  unfold et1
  rw [if_neg h1, if_neg h2]
/-- a step on a stack of its types: what is done, and what it needs -/
theorem ev1_ty {W : Nat → Int64} {c : Nat} {S S1 : List Bool} {X : List Int64} (h : tyS S c = some S1) (k : okS S X) : ev1 W c X = et1 W c X ∧ okS S1 (ev1 W c X) ∧ ((c < 100012 ∧ (ev1 W c X).length = X.length + 1) ∨ (c = 100110 ∧ ∃ x r, X = x :: r) ∨ (100100 ≤ c ∧ c < 100110 ∧ ∃ b a r, X = b :: a :: r)) := by
  unfold tyS at h
  split at h
  · rename_i h1
    cases h
    rw [ev_v (by omega), et_v (by omega)]
    exact ⟨rfl, ⟨(fun z => by cases z), k⟩, Or.inl ⟨h1, rfl⟩⟩
  · split at h
    · rename_i h1 h2
      subst h2
      match S, h, k with
      | true :: S, h, k =>
        cases h
        obtain ⟨x, r, rfl, hx, hr⟩ := okS_1 k
        rw [ev_n, et_n]
        refine ⟨?_, ⟨fun _ => ?_, hr⟩, Or.inr (Or.inl ⟨rfl, x, r, rfl⟩)⟩
        · rcases hx rfl with rfl | rfl
          · rw [b64_1 rfl]; rfl
          · rw [b64_0 (by decide)]; rfl
        · rcases hx rfl with rfl | rfl
          · exact Or.inr rfl
          · exact Or.inl rfl
    · split at h
      · rename_i h1 h2 h3
        match S, h, k with
        | true :: true :: S, h, k =>
          cases h
          obtain ⟨b, a, r, rfl, hb, ha, hr⟩ := okS_2 k
          rw [ev_j (by omega) h2, et_j (by omega) h2]
          have e : jo c a b = jp c a b ∧ (jo c a b = 0 ∨ jo c a b = 1) := by
            rcases h3 with rfl | rfl
            · rw [jo_8, jp_8]
              rcases hb rfl with rfl | rfl <;> rcases ha rfl with rfl | rfl <;> decide
            · rw [jo_9, jp_9]
              rcases hb rfl with rfl | rfl <;> rcases ha rfl with rfl | rfl <;> decide
          exact ⟨by rw [e.1], ⟨fun _ => e.2, hr⟩, Or.inr (Or.inr ⟨by omega, by omega, b, a, r, rfl⟩)⟩
      · split at h
        · rename_i h1 h2 h3 h4
          match S, h, k with
          | false :: false :: S, h, k =>
            cases h
            obtain ⟨b, a, r, rfl, hb, ha, hr⟩ := okS_2 k
            rw [ev_j (by omega) h2, et_j (by omega) h2]
            have e : jo c a b = jp c a b := (jp_o (by omega) (by omega)).symm
            exact ⟨by rw [e], ⟨(fun z => by cases z), hr⟩, Or.inr (Or.inr ⟨by omega, by omega, b, a, r, rfl⟩)⟩
        · split at h
          · rename_i h1 h2 h3 h4 h5
            match S, h, k with
            | false :: false :: S, h, k =>
              cases h
              obtain ⟨b, a, r, rfl, hb, ha, hr⟩ := okS_2 k
              rw [ev_j (by omega) h2, et_j (by omega) h2]
              have e : jo c a b = jp c a b ∧ (jo c a b = 0 ∨ jo c a b = 1) := ⟨(jp_o (by omega) (by omega)).symm, jo_f h5⟩
              exact ⟨by rw [e.1], ⟨fun _ => e.2, hr⟩, Or.inr (Or.inr ⟨by omega, by omega, b, a, r, rfl⟩)⟩
          · cases h
theorem ev_ty {W : Nat → Int64} {e : List Nat} {S S1 : List Bool} {X : List Int64} (h : tyL S e = some S1) (k : okS S X) : ev W e X = et W e X ∧ okS S1 (ev W e X) := by
  induction e generalizing S X with
  | nil =>
    have h : some S = some S1 := h
    cases h
    exact ⟨rfl, k⟩
  | cons c e ih =>
    have h : (match tyS S c with | none => none | some S1 => tyL S1 e) = some S1 := h
    cases hc : tyS S c with
    | none => rw [hc] at h; cases h
    | some S3 =>
      rw [hc] at h
      obtain ⟨a1, a2, -⟩ := ev1_ty hc k
      obtain ⟨b1, b2⟩ := ih h a2
      refine ⟨?_, b2⟩
      show ev W e (ev1 W c X) = et W e (et1 W c X)
      rw [b1, a1]
/-- what a clause's codes are worth -/
noncomputable def wv (W : Nat → Int64) (e : List Nat) : Int64 := (ev W e []).headD 0
theorem ev_one {W : Nat → Int64} {e : List Nat} {t : Bool} (h : tyL [] e = some [t]) : ev W e [] = [wv W e] ∧ et W e [] = [wv W e] := by
  obtain ⟨a, k⟩ := ev_ty (W := W) (X := []) h trivial
  obtain ⟨x, r, e1, -, k2⟩ := okS_1 k
  cases r with
  | cons y r => exact False.elim k2
  | nil =>
    have : wv W e = x := by unfold wv; rw [e1]; rfl
    rw [this, ← a, e1]
    exact ⟨rfl, rfl⟩
/-- a stack in an array -/
noncomputable def stk (g : Nat → Int64) : List Int64 → Prop
  | [] => True
  | x :: r => g r.length = x ∧ stk g r
theorem stk_n {g g2 : Nat → Int64} {X : List Int64} (k : stk g X) (h : ∀ i, i < X.length → g2 i = g i) : stk g2 X := by
  induction X with
  | nil => trivial
  | cons x r ih =>
    refine ⟨?_, ih k.2 (fun i hi => h i (Nat.lt_succ_of_lt hi))⟩
    rw [h r.length (Nat.lt_succ_self _)]
    exact k.1
theorem stk_p {g : Nat → Int64} {X : List Int64} {x : Int64} {m : Nat} (k : stk g X) (hm : m = X.length) : stk (fun j => if j = m then x else g j) (x :: X) := by
  subst hm
  refine ⟨if_pos rfl, stk_n k (fun i hi => if_neg (by omega))⟩
/-- where the codes stand that are still to come -/
noncomputable def cdAt (f : Nat → Nat) (b : Nat) : List Nat → Prop
  | [] => True
  | c :: e => f b = c ∧ cdAt f (b + 1) e
theorem cdAt_of {f : Nat → Nat} {N : Nat} : ∀ {p e q : List Nat}, (List.range N).map f = p ++ (e ++ q) → cdAt f p.length e := by
  intro p e
  induction e generalizing p with
  | nil => intro q _; trivial
  | cons c e ih =>
    intro q h
    refine ⟨?_, ?_⟩
    · have hl : p.length < N := by
        have := congrArg List.length h
        rw [List.length_map, List.length_range, List.length_append, List.length_append, List.length_cons] at this
        omega
      have h2 : ((List.range N).map f)[p.length]? = (p ++ (c :: e ++ q))[p.length]? := congrArg (fun l => l[p.length]?) h
      rw [List.getElem?_append_right (Nat.le_refl _), Nat.sub_self, List.getElem?_map, List.getElem?_range hl] at h2
      exact Option.some.inj h2
    · have := ih (p := p ++ [c]) (q := q) (by rw [h, List.append_assoc]; rfl)
      rw [List.length_append] at this
      exact this
/-- where the class and the reference stand in the codes -/
noncomputable def evA (W : Nat → Int64) (f : Nat → Nat) (g : Nat → Int64) (F : List Int64) (b : Nat) (top : Nat) (e : List Nat) (X : List Int64) (S : List Bool) : Prop := (cdAt f b e) ∧ (stk g X) ∧ (∃ S1, tyL S e = some S1) ∧ (okS S X) ∧ (ev W e X = F) ∧ (top = X.length) ∧ (X.length + nVl e ≤ 80)
theorem evA.at_ {W : Nat → Int64} {f : Nat → Nat} {g : Nat → Int64} {F : List Int64} {b : Nat} {top : Nat} {e : List Nat} {X : List Int64} {S : List Bool} (k : evA W f g F b top e X S) : cdAt f b e := k.1
theorem evA.st {W : Nat → Int64} {f : Nat → Nat} {g : Nat → Int64} {F : List Int64} {b : Nat} {top : Nat} {e : List Nat} {X : List Int64} {S : List Bool} (k : evA W f g F b top e X S) : stk g X := k.2.1
theorem evA.ty {W : Nat → Int64} {f : Nat → Nat} {g : Nat → Int64} {F : List Int64} {b : Nat} {top : Nat} {e : List Nat} {X : List Int64} {S : List Bool} (k : evA W f g F b top e X S) : ∃ S1, tyL S e = some S1 := k.2.2.1
theorem evA.ok {W : Nat → Int64} {f : Nat → Nat} {g : Nat → Int64} {F : List Int64} {b : Nat} {top : Nat} {e : List Nat} {X : List Int64} {S : List Bool} (k : evA W f g F b top e X S) : okS S X := k.2.2.2.1
theorem evA.out {W : Nat → Int64} {f : Nat → Nat} {g : Nat → Int64} {F : List Int64} {b : Nat} {top : Nat} {e : List Nat} {X : List Int64} {S : List Bool} (k : evA W f g F b top e X S) : ev W e X = F := k.2.2.2.2.1
theorem evA.len {W : Nat → Int64} {f : Nat → Nat} {g : Nat → Int64} {F : List Int64} {b : Nat} {top : Nat} {e : List Nat} {X : List Int64} {S : List Bool} (k : evA W f g F b top e X S) : top = X.length := k.2.2.2.2.2.1
theorem evA.few {W : Nat → Int64} {f : Nat → Nat} {g : Nat → Int64} {F : List Int64} {b : Nat} {top : Nat} {e : List Nat} {X : List Int64} {S : List Bool} (k : evA W f g F b top e X S) : X.length + nVl e ≤ 80 := k.2.2.2.2.2.2
theorem tyL_c {S S1 : List Bool} {c : Nat} {e : List Nat} (h : tyL S (c :: e) = some S1) : ∃ S2, tyS S c = some S2 ∧ tyL S2 e = some S1 := by
  have h : (match tyS S c with | none => none | some S1 => tyL S1 e) = some S1 := h
  cases hc : tyS S c with
  | none => rw [hc] at h; cases h
  | some S3 => rw [hc] at h; exact ⟨S3, rfl, h⟩
section EVA
variable {W : Nat → Int64} {f : Nat → Nat} {g : Nat → Int64} {F X : List Int64} {b top c : Nat} {e : List Nat} {S : List Bool}
/-- a value -/
theorem evA_v (k : evA W f g F b top (c :: e) X S) (h : c < 100100) : top < 80 ∧ c < 100012 ∧ ∃ X2 S2, evA W f (fun j => if j = top then vOf W c else g j) F (b + 1) (top + 1) e X2 S2 := by
  obtain ⟨S1, h1⟩ := k.ty
  obtain ⟨S2, h2, h3⟩ := tyL_c h1
  obtain ⟨a1, a2, a3⟩ := ev1_ty (W := W) h2 k.ok
  have hf := k.few
  have hn : nVl (c :: e) = 1 + nVl e := by
    show (if c < 100100 then 1 else 0) + nVl e = _
    rw [if_pos h]
  have ho := k.out
  have ho : ev W e (ev1 W c X) = F := ho
  rw [ev_v h] at a2 ho
  have hl := k.len
  refine ⟨by omega, ?_, vOf W c :: X, S2, ⟨k.at_.2, stk_p k.st k.len, ⟨S1, h3⟩, a2, ho, by rw [hl]; rfl, by show X.length + 1 + nVl e ≤ 80; omega⟩⟩
  rcases a3 with a3 | a3 | a3
  · exact a3.1
  · omega
  · omega
theorem nVl_k (h : ¬ c < 100100) : nVl (c :: e) = nVl e := by
  show (if c < 100100 then 1 else 0) + nVl e = _
  rw [if_neg h, Nat.zero_add]
/-- not -/
theorem evA_n (k : evA W f g F b top (c :: e) X S) (h : c = 100110) : 0 < top ∧ 1 - g (top - 1) = b64 (g (top - 1) = 0) ∧ ∃ X2 S2, evA W f (fun j => if j = top - 1 then 1 - g (top - 1) else g j) F (b + 1) top e X2 S2 := by
  subst h
  obtain ⟨S1, h1⟩ := k.ty
  obtain ⟨S2, h2, h3⟩ := tyL_c h1
  obtain ⟨a1, a2, a3⟩ := ev1_ty (W := W) h2 k.ok
  have hf := k.few
  have ho := k.out
  have ho : ev W e (ev1 W 100110 X) = F := ho
  have hl := k.len
  have hs := k.st
  have hn := nVl_k (e := e) (c := 100110) (by decide)
  rcases a3 with ⟨a3, -⟩ | ⟨-, x, r, rfl⟩ | ⟨-, a3, -⟩
  · omega
  · rw [ev_n] at a2 ho a1
    rw [et_n] at a1
    have hl : top = r.length + 1 := hl
    have e1 : top - 1 = r.length := by omega
    have e2 : g (top - 1) = x := by rw [e1]; exact hs.1
    refine ⟨by omega, ?_, (1 - x) :: r, S2, ⟨k.at_.2, ?_, ⟨S1, h3⟩, a2, ho, hl, by rw [hn] at hf; exact hf⟩⟩
    · rw [e2]
      exact (List.cons.inj a1).1
    · rw [e2]
      exact stk_p hs.2 e1
  · omega
/-- two into one -/
theorem evA_j (k : evA W f g F b top (c :: e) X S) (h1 : ¬ c < 100100) (h2 : c ≠ 100110) : 1 < top ∧ 100100 ≤ c ∧ c < 100110 ∧ jo c (g (top - 2)) (g (top - 1)) = jp c (g (top - 2)) (g (top - 1)) ∧ ∃ X2 S2, evA W f (fun j => if j = top - 2 then jo c (g (top - 2)) (g (top - 1)) else g j) F (b + 1) (top - 1) e X2 S2 := by
  obtain ⟨S1, t1⟩ := k.ty
  obtain ⟨S2, t2, t3⟩ := tyL_c t1
  obtain ⟨a1, a2, a3⟩ := ev1_ty (W := W) t2 k.ok
  have hf := k.few
  have ho := k.out
  have ho : ev W e (ev1 W c X) = F := ho
  have hl := k.len
  have hs := k.st
  have hn := nVl_k (e := e) h1
  rcases a3 with ⟨a3, -⟩ | ⟨a3, -⟩ | ⟨a3, a4, y, x, r, rfl⟩
  · omega
  · omega
  · rw [ev_j h1 h2] at a2 ho a1
    rw [et_j h1 h2] at a1
    have hl : top = r.length + 1 + 1 := hl
    have hf : r.length + 1 + 1 + nVl (c :: e) ≤ 80 := hf
    have e1 : top - 1 = (x :: r).length := by show top - 1 = r.length + 1; omega
    have e3 : top - 2 = r.length := by omega
    have e2 : g (top - 1) = y := by rw [e1]; exact hs.1
    have e4 : g (top - 2) = x := by rw [e3]; exact hs.2.1
    rw [e2, e4]
    refine ⟨by omega, a3, a4, (List.cons.inj a1).1, jo c x y :: r, S2, ⟨k.at_.2, ?_, ⟨S1, t3⟩, a2, ho, by show top - 1 = r.length + 1; omega, by show r.length + 1 + nVl e ≤ 80; omega⟩⟩
    exact stk_p hs.2.2 e3
theorem evA_0 {t : Bool} (h : cdAt f b e) (ht : tyL [] e = some [t]) (hn : nVl e ≤ 80) : evA W f g [wv W e] b 0 e [] [] := ⟨h, trivial, ⟨_, ht⟩, trivial, (ev_one ht).1, rfl, by show 0 + nVl e ≤ 80; omega⟩
theorem evA_e {x : Int64} (k : evA W f g [x] b top [] X S) : top = 1 ∧ g 0 = x := by
  have ho : X = [x] := k.out
  have hs := k.st
  have hl := k.len
  rw [ho] at hs hl
  exact ⟨hl, hs.1⟩
end EVA
/-! arrays by their tags -/
section TAGV
variable {xs : Nat → Int32} {τ : List Nat} {h h2 : zH} {W : Nat → Nat → Bool}
theorem tkd_v {p t k nlo nhi : Nat} {lo hi : Int} {tg : Nat} (hB : zBs xs τ h) (ht : τ[p]? = some t) (hT : zTTy[t]? = some (.inr (k, nlo, nhi, (0, lo, hi, tg)))) : nlo ≤ tN h p ∧ tN h p ≤ nhi ∧ ∀ i, i < tN h p → lo ≤ (tA h p i).toInt ∧ (tA h p i).toInt ≤ hi := by
  obtain ⟨ct, c, a1, a2, a3⟩ := hB.1.2 _ _ ht
  rw [hT] at a1
  cases a1
  obtain ⟨N, x, rfl, h1, h2, f, rfl, h3⟩ := a3
  unfold tN tA
  rw [a2]
  exact ⟨h1, h2, h3⟩
theorem tkd_j {p t k nlo nhi : Nat} {lo hi : Int} {tg : Nat} (hB : zBs xs τ h) (ht : zTG[p]? = some t) (hT : zTTy[t]? = some (.inr (k, nlo, nhi, (1, lo, hi, tg)))) : nlo ≤ tN h p ∧ tN h p ≤ nhi := by
  obtain ⟨ct, c, a1, a2, a3⟩ := hB.1.2 _ _ (hB.2.1 _ _ ht)
  rw [hT] at a1
  cases a1
  obtain ⟨N, x, rfl, h1, h2, -⟩ := a3
  unfold tN
  rw [a2]
  exact ⟨h1, h2⟩
theorem tfr_v {p t : Nat} (hB : zBs xs τ h) (hf : yFr W τ h h2) (ht : τ[p]? = some t) (hW : W t 0 = false) : tA h2 p = tA h p ∧ tN h2 p = tN h p := by
  obtain ⟨ct, c, a1, a2, -⟩ := hB.1.2 _ _ ht
  obtain ⟨c2, b1, b2⟩ := hf _ _ _ ht a2
  unfold tA tN
  constructor
  · funext i
    rw [a2, b1]
    match c, c2, b2 with
    | .inr (x, fs), .inr (y, gs), b2 => rfl
    | .inl (k, N, x), .inl (k2, N2, y), b2 =>
      have := b2.2.2 hW
      subst this
      cases y with
      | inl f => rfl
      | inr y => rfl
  · rw [a2, b1]
    match c, c2, b2 with
    | .inr (x, fs), .inr (y, gs), b2 => rfl
    | .inl (k, N, x), .inl (k2, N2, y), b2 => exact b2.2.1.symm
theorem arr_tag {p q a t k nlo nhi tg : Nat} {lo hi : Int} (hB : zBs xs τ h) (ht : zTG[p]? = some t) (hT : zTTy[t]? = some (.inr (k, nlo, nhi, (2, lo, hi, tg)))) (hq : q < nlo) (hg : tg ≠ 0) (ha : tO h p q = some a) : τ[a]? = some tg := by
  obtain ⟨a1, a2, a3⟩ := tkd_o hB ht hT
  obtain ⟨-, -, y⟩ := a3 q (by omega)
  rw [ha] at y
  rcases y with y | y | y
  · exact absurd y hg
  · exact absurd y (by show ¬ ((a : Int) < 0); omega)
  · exact y
end TAGV
theorem zsbM {x y : Int32} {a b : Nat} (hx : x.toInt = a) (hy : y.toInt = b) (ha : a ≤ 1000000) (hb : b ≤ 1000000) : (x - y).toInt = (a : Int) - b := by
  rw [Int32.toInt_sub, hx, hy]
  exact Int.bmod_eq_of_le (by show (-2147483648 : Int) ≤ (a : Int) - b; omega) (by show (a : Int) - b < (2147483648 : Int); omega)
/-! a long array is written, the rest stays -/
noncomputable def mJs (p i : Nat) (x : Int64) (h h3 : zH) : Prop := tSh h3 ∧ tF h3 = tF h ∧ tA h3 = tA h ∧ tO h3 = tO h ∧ tN h3 = tN h ∧ tJ h3 = fun q j => if q = p ∧ j = i then x else tJ h q j
noncomputable def wFr (p : Nat) (h h2 : zH) : Prop := tSh h2 ∧ tF h2 = tF h ∧ tA h2 = tA h ∧ tO h2 = tO h ∧ tN h2 = tN h ∧ ∀ q, q ≠ p → tJ h2 q = tJ h q
section WFR
variable {h h1 h2 h3 : zH} {p i : Nat} {x : Int64}
theorem wFr_r (hs : tSh h) : wFr p h h := ⟨hs, rfl, rfl, rfl, rfl, fun _ _ => rfl⟩
theorem wFr_t (a : wFr p h h1) (k : wFr p h1 h2) : wFr p h h2 := ⟨k.1, k.2.1.trans a.2.1, k.2.2.1.trans a.2.2.1, k.2.2.2.1.trans a.2.2.2.1, k.2.2.2.2.1.trans a.2.2.2.2.1, fun q hq => (k.2.2.2.2.2 q hq).trans (a.2.2.2.2.2 q hq)⟩
theorem wFr_s (a : wFr p h h1) (k : mJs p i x h1 h3) : wFr p h h3 := wFr_t a ⟨k.1, k.2.1, k.2.2.1, k.2.2.2.1, k.2.2.2.2.1, fun q hq => by rw [k.2.2.2.2.2]; funext j; exact if_neg (fun z => hq z.1)⟩
theorem mJs_g {g : Nat → Int64} (k : mJs p i x h1 h3) (e : tJ h1 p = g) : tJ h3 p = fun j => if j = i then x else g j := by
  rw [k.2.2.2.2.2]
  funext j
  dsimp only
  rw [e]
  by_cases z : j = i
  · rw [if_pos ⟨rfl, z⟩, if_pos z]
  · rw [if_neg (fun y => z y.2), if_neg z]
theorem tG_lst {tt : zT} {G : zG} {cd : zK} {bc bs : Nat} {rt : Option FieldType} {M : zM} {Q : zQ} {Z : zX} {f : Bool} {pc : Nat} {L : zL} {st : List Value} {c n : Nat} {i : Int32} (hf : tInJ h p i) (hs : tSh h) (k : ∀ h3, mJs p i.toNatClampNeg x h h3 → tG tt G cd bc bs rt M Q Z f pc L st h3 c n) : tG tt G cd bc bs rt M Q Z f pc L st (tSJ h p i.toNatClampNeg x) c n := by
  obtain ⟨N, g, e, -⟩ := hf
  exact k _ ⟨tSh_SJ hs, tF_tSJ _ _ _ _, tA_tSJ _ _ _ _, tO_tSJ _ _ _ _, tN_tSJ _ _ _ _, tJ_tSJ ⟨_, _, _, e⟩ _ _⟩
end WFR
/-! a rule in the class's arrays and in the reference's -/
noncomputable def slc (cs : List Nat) (p q : Nat) : List Nat := (cs.drop p).take (q - p)
theorem slc_m {p e q : List Nat} : slc (p ++ (e ++ q)) p.length (p.length + e.length) = e := by
  unfold slc
  rw [List.drop_left, show p.length + e.length - p.length = e.length by omega, List.take_left]
noncomputable def rDt (h : zH) (a b K : Nat) (cs : List Nat) (cl : Nat → rCt) : Prop := ((List.range (tN h a)).map (fun i => (tA h a i).toNatClampNeg) = cs) ∧ (tN h a ≤ 400) ∧ (∀ i, i < tN h a → 0 ≤ (tA h a i).toInt) ∧ (tN h b = 4 * K) ∧ (K ≤ 12) ∧ (∀ i, i < K → (tA h b (4 * i)).toInt = ((cl i).1 : Int) ∧ (tA h b (4 * i + 1)).toInt = ((cl i).2.1 : Int) ∧ (tA h b (4 * i + 2)).toInt = ((cl i).2.2.1 : Int) ∧ (tA h b (4 * i + 3)).toInt = ((cl i).2.2.2 : Int)) ∧ (∀ i, i < K → rOk cs (cl i)) ∧ (nVl cs ≤ 80)
theorem rDt.arr {h : zH} {a b K : Nat} {cs : List Nat} {cl : Nat → rCt} (k : rDt h a b K cs cl) : (List.range (tN h a)).map (fun i => (tA h a i).toNatClampNeg) = cs := k.1
theorem rDt.big {h : zH} {a b K : Nat} {cs : List Nat} {cl : Nat → rCt} (k : rDt h a b K cs cl) : tN h a ≤ 400 := k.2.1
theorem rDt.pos {h : zH} {a b K : Nat} {cs : List Nat} {cl : Nat → rCt} (k : rDt h a b K cs cl) : ∀ i, i < tN h a → 0 ≤ (tA h a i).toInt := k.2.2.1
theorem rDt.len {h : zH} {a b K : Nat} {cs : List Nat} {cl : Nat → rCt} (k : rDt h a b K cs cl) : tN h b = 4 * K := k.2.2.2.1
theorem rDt.few {h : zH} {a b K : Nat} {cs : List Nat} {cl : Nat → rCt} (k : rDt h a b K cs cl) : K ≤ 12 := k.2.2.2.2.1
theorem rDt.row {h : zH} {a b K : Nat} {cs : List Nat} {cl : Nat → rCt} (k : rDt h a b K cs cl) : ∀ i, i < K → (tA h b (4 * i)).toInt = ((cl i).1 : Int) ∧ (tA h b (4 * i + 1)).toInt = ((cl i).2.1 : Int) ∧ (tA h b (4 * i + 2)).toInt = ((cl i).2.2.1 : Int) ∧ (tA h b (4 * i + 3)).toInt = ((cl i).2.2.2 : Int) := k.2.2.2.2.2.1
theorem rDt.ok {h : zH} {a b K : Nat} {cs : List Nat} {cl : Nat → rCt} (k : rDt h a b K cs cl) : ∀ i, i < K → rOk cs (cl i) := k.2.2.2.2.2.2.1
theorem rDt.nv {h : zH} {a b K : Nat} {cs : List Nat} {cl : Nat → rCt} (k : rDt h a b K cs cl) : nVl cs ≤ 80 := k.2.2.2.2.2.2.2
theorem rDt.frame {h h2 : zH} {a b K p : Nat} {cs : List Nat} {cl : Nat → rCt} (D : rDt h a b K cs cl) (k : wFr p h h2) : rDt h2 a b K cs cl := by
  obtain ⟨h1, h2, h3, h4, h5, h6, h7, h8⟩ := D
  have eN := k.2.2.2.2.1
  have eA := k.2.2.1
  exact ⟨by rw [eN, eA]; exact h1, by rw [eN]; exact h2, by rw [eN, eA]; exact h3, by rw [eN]; exact h4, h5, by rw [eA]; exact h6, h7, h8⟩
/-- a clause tells its thing -/
noncomputable def hit (W : Nat → Int64) (cs : List Nat) (c : rCt) (th : Nat) : Prop := c.1 = th ∧ (c.2.2.1 = c.2.2.2 ∨ wv W (slc cs c.2.2.1 c.2.2.2) ≠ 0)
noncomputable def fTr (W : Nat → Int64) (cs : List Nat) (cl : Nat → rCt) (K th : Nat) (ix : Nat → Nat) (w : Option Value) : Prop := (w = some (.int (-1)) ∧ ∀ i, i < K → ¬ hit W cs (cl i) th) ∨ ∃ i, i < K ∧ hit W cs (cl i) th ∧ (∀ j, j < i → ¬ hit W cs (cl j) th) ∧ ∃ x : Int32, w = some (.int x) ∧ x.toInt = (ix i : Int)
theorem nVl_m {p e q : List Nat} : nVl e ≤ nVl (p ++ (e ++ q)) := by
  rw [nVl_app, nVl_app]
  omega
/-- the test of a clause, the sum of a clause -/
theorem rOk_t {cs : List Nat} {c : rCt} (h : rOk cs c) (hn : nVl cs ≤ 80) (hne : c.2.2.1 ≠ c.2.2.2) : c.2.2.2 = c.2.2.1 + (slc cs c.2.2.1 c.2.2.2).length ∧ c.2.2.2 ≤ cs.length ∧ tyL [] (slc cs c.2.2.1 c.2.2.2) = some [true] ∧ nVl (slc cs c.2.2.1 c.2.2.2) ≤ 80 ∧ ∃ p q, p.length = c.2.2.1 ∧ cs = p ++ (slc cs c.2.2.1 c.2.2.2 ++ q) := by
  obtain ⟨p, e1, e2, q, h1, h2, h3, h4, -, h6⟩ := h
  have e : cs = (p ++ e1) ++ (e2 ++ q) := by rw [h1, List.append_assoc]
  have es : slc cs c.2.2.1 c.2.2.2 = e2 := by
    rw [e, h3, h4, ← List.length_append]
    exact slc_m
  rw [es]
  have hl := congrArg List.length e
  rw [List.length_append, List.length_append, List.length_append] at hl
  refine ⟨by omega, by omega, ?_, ?_, p ++ e1, q, by rw [List.length_append, h3], e⟩
  · rcases h6 with h6 | h6
    · rw [h6] at h4
      exact absurd (h3.trans h4.symm) hne
    · exact h6
  · have := nVl_m (p := p ++ e1) (e := e2) (q := q)
    rw [← e] at this
    omega
theorem rOk_s {cs : List Nat} {c : rCt} (h : rOk cs c) (hn : nVl cs ≤ 80) (hne : c.1 ≠ 15) : c.2.2.1 = c.2.1 + (slc cs c.2.1 c.2.2.1).length ∧ c.2.2.1 ≤ cs.length ∧ tyL [] (slc cs c.2.1 c.2.2.1) = some [false] ∧ nVl (slc cs c.2.1 c.2.2.1) ≤ 80 ∧ ∃ p q, p.length = c.2.1 ∧ cs = p ++ (slc cs c.2.1 c.2.2.1 ++ q) := by
  obtain ⟨p, e1, e2, q, h1, h2, h3, h4, h5, -⟩ := h
  have es : slc cs c.2.1 c.2.2.1 = e1 := by
    rw [h1, h2, h3]
    exact slc_m
  rw [es]
  have hl := congrArg List.length h1
  rw [List.length_append, List.length_append, List.length_append] at hl
  refine ⟨by omega, by omega, h5 hne, ?_, p, e2 ++ q, h2.symm, h1⟩
  have := nVl_m (p := p) (e := e1) (q := e2 ++ q)
  rw [← h1] at this
  omega
theorem cdAt_c {cs p e q : List Nat} {f : Nat → Nat} {N b : Nat} (ha : (List.range N).map f = cs) (hc : cs = p ++ (e ++ q)) (hb : p.length = b) : cdAt f b e := by
  rw [← hb]
  exact cdAt_of (ha.trans hc)
theorem cs_len {cs : List Nat} {f : Nat → Nat} {N : Nat} (ha : (List.range N).map f = cs) : cs.length = N := by rw [← ha, List.length_map, List.length_range]
/-- a rule's codes and clauses in the reference's arrays -/
noncomputable def rDm (h : zH) (q K : Nat) (cs : List Nat) (cl : Nat → rCt) : Prop := (∀ i, i < cs.length → mCode (tA h 133 (500 * q + i)).toNatClampNeg (tA h 134 (500 * q + i)).toNatClampNeg = (cs[i]?).getD 0) ∧ (cs.length ≤ 400) ∧ ((tA h 140 q).toInt = (K : Int)) ∧ (K ≤ 12) ∧ (∀ i, i < K → mRow h (12 * q + i) = cl i) ∧ (∀ i, i < K → rOk cs (cl i)) ∧ (nVl cs ≤ 80)
theorem rDm.cod {h : zH} {q K : Nat} {cs : List Nat} {cl : Nat → rCt} (k : rDm h q K cs cl) : ∀ i, i < cs.length → mCode (tA h 133 (500 * q + i)).toNatClampNeg (tA h 134 (500 * q + i)).toNatClampNeg = (cs[i]?).getD 0 := k.1
theorem rDm.big {h : zH} {q K : Nat} {cs : List Nat} {cl : Nat → rCt} (k : rDm h q K cs cl) : cs.length ≤ 400 := k.2.1
theorem rDm.cnt {h : zH} {q K : Nat} {cs : List Nat} {cl : Nat → rCt} (k : rDm h q K cs cl) : (tA h 140 q).toInt = (K : Int) := k.2.2.1
theorem rDm.few {h : zH} {q K : Nat} {cs : List Nat} {cl : Nat → rCt} (k : rDm h q K cs cl) : K ≤ 12 := k.2.2.2.1
theorem rDm.row {h : zH} {q K : Nat} {cs : List Nat} {cl : Nat → rCt} (k : rDm h q K cs cl) : ∀ i, i < K → mRow h (12 * q + i) = cl i := k.2.2.2.2.1
theorem rDm.ok {h : zH} {q K : Nat} {cs : List Nat} {cl : Nat → rCt} (k : rDm h q K cs cl) : ∀ i, i < K → rOk cs (cl i) := k.2.2.2.2.2.1
theorem rDm.nv {h : zH} {q K : Nat} {cs : List Nat} {cl : Nat → rCt} (k : rDm h q K cs cl) : nVl cs ≤ 80 := k.2.2.2.2.2.2
theorem rDm.frame {h h2 : zH} {q K p : Nat} {cs : List Nat} {cl : Nat → rCt} (D : rDm h q K cs cl) (k : wFr p h h2) : rDm h2 q K cs cl := by
  obtain ⟨h1, h2, h3, h4, h5, h6, h7⟩ := D
  have eA := k.2.2.1
  exact ⟨by rw [eA]; exact h1, h2, by rw [eA]; exact h3, h4, fun i hi => by rw [← h5 i hi]; unfold mRow; rw [eA], h6, h7⟩
theorem cdAt_g {cs e : List Nat} {f : Nat → Nat} : ∀ {p q : List Nat}, cs = p ++ (e ++ q) → (∀ i, i < cs.length → f i = (cs[i]?).getD 0) → cdAt f p.length e := by
  induction e with
  | nil => intro p q _ _; trivial
  | cons c e ih =>
    intro p q h hf
    refine ⟨?_, ?_⟩
    · have hl : p.length < cs.length := by
        rw [h, List.length_append, List.length_append, List.length_cons]
        omega
      rw [hf _ hl, h, List.getElem?_append_right (Nat.le_refl _), Nat.sub_self]
      rfl
    · have := ih (p := p ++ [c]) (q := q) (by rw [h, List.append_assoc]; rfl) hf
      rw [List.length_append] at this
      exact this
theorem cdAt_h {cs p e q : List Nat} {f : Nat → Nat} {b : Nat} (hb : p.length = b) (h : cs = p ++ (e ++ q)) (hf : ∀ i, i < cs.length → f i = (cs[i]?).getD 0) : cdAt f b e := by
  rw [← hb]
  exact cdAt_g h hf
/-- which thing a row tells -/
noncomputable def thc (a b : Nat) : Nat := if a = 0 ∧ b < 12 then b else 12 + a + 100 * b
theorem thc_i {a b c d : Nat} (ha : a ≤ 3) (hc : c ≤ 3) : thc a b = thc c d ↔ a = c ∧ b = d := by
  unfold thc
  split <;> split <;> omega
theorem mRow_1 {h : zH} {i : Nat} : (mRow h i).1 = thc (tA h 135 i).toNatClampNeg (tA h 136 i).toNatClampNeg := rfl
/-- a code that is a value, not, or a sign -/
theorem mC_v {s v : Nat} {c : Nat} (e : mCode s v = c) (h : c < 100012) (hv : v ≤ 99999) : (s = 0 ∧ c = v) ∨ (s = 1 ∧ c = 100000 + v ∧ v < 12) := by
  unfold mCode at e
  split at e
  · exact Or.inl ⟨by omega, e.symm⟩
  · split at e
    · split at e
      · exact Or.inr ⟨by omega, e.symm, by omega⟩
      · omega
    · exfalso
      repeat' (split at e)
      all_goals omega
theorem mC_n {s v : Nat} {c : Nat} (e : mCode s v = c) (h : c = 100110) (hv : v ≤ 99999) (hs : s ≤ 14) : s = 10 := by
  unfold mCode at e
  repeat' (split at e)
  all_goals omega
theorem mC_t {s v : Nat} (h : 2 ≤ s) : mCode s v = mCode s 0 := by
  unfold mCode
  rw [if_neg (show ¬ s = 0 by omega), if_neg (show ¬ s = 1 by omega), if_neg (show ¬ s = 0 by omega), if_neg (show ¬ s = 1 by omega)]
theorem mC_j {s v : Nat} {c : Nat} (e : mCode s v = c) (h1 : 100100 ≤ c) (h2 : c < 100110) (hv : v ≤ 99999) : 2 ≤ s ∧ s ≤ 12 ∧ s ≠ 10 ∧ c = mCode s 0 := by
  have h : 2 ≤ s ∧ s ≤ 12 ∧ s ≠ 10 := by
    unfold mCode at e
    repeat' (split at e)
    all_goals omega
  exact ⟨h.1, h.2.1, h.2.2, e.symm.trans (mC_t h.1)⟩
theorem zmul5 {y : Int32} {q : Nat} (hy : y.toInt = q) (hq : q < 10) : (500 * y).toInt = ((500 * q : Nat) : Int) := by
  rw [Int32.toInt_mul, hy, show (500 : Int32).toInt = 500 from rfl]
  exact Int.bmod_eq_of_le (by show (-2147483648 : Int) ≤ 500 * (q : Int); omega) (by show 500 * (q : Int) < (2147483648 : Int); omega)
theorem zmul12 {y : Int32} {q : Nat} (hy : y.toInt = q) (hq : q < 10) : (12 * y).toInt = ((12 * q : Nat) : Int) := by
  rw [Int32.toInt_mul, hy, show (12 : Int32).toInt = 12 from rfl]
  exact Int.bmod_eq_of_le (by show (-2147483648 : Int) ≤ 12 * (q : Int); omega) (by show 12 * (q : Int) < (2147483648 : Int); omega)
theorem vOf_n {W : Nat → Int64} {y : Int32} {c : Nat} (h : c < 100000) (hy : y.toInt = c) : vOf W c = y.toInt64 := by
  unfold vOf
  rw [if_neg (by omega)]
  have e : Int32.ofNat c = y := Int32.toInt_inj.mp ((yofN (by omega)).trans hy.symm)
  rw [e]
theorem vOf_w {W : Nat → Int64} {c : Nat} (h : 100000 ≤ c) : vOf W c = W (c - 100000) := if_pos h
theorem f_valueOf {G : zG} (hG : G.1 = zProg) {h : zH} {y : Int32} {c : Nat} (hs : tSh h) (h52 : tN h 52 = 12) (hy : y.toInt = c) (hc : c < 100012) : tC zTt G 69 [.ref 48, .int y] h (fun w h2 => w = some (.long (vOf (tJ h 52) c)) ∧ h2 = h) := by
  refine tC_in (by rw [hG]; rfl) (fun dp => ?_)
  have hd : (y - 100000).toInt = (c : Int) - 100000 := zsbM hy rfl (by omega) (by decide)
  have h12 : (Int32.ofNat (tN h 52)).toInt = 12 := by rw [h52]; rfl
  refine tw_iload rfl rfl ?_
  refine tw_push rfl ?_
  refine tw_isub rfl ?_
  refine tw_istore rfl ?_
  refine tw_iload rfl rfl ?_
  refine tw_if_lt rfl (fun q882 => ?_) (fun q882 => ?_)
  · try dsimp only [tvI_i, tvJ_j, tvR_r] at q882
    refine tw_iload rfl rfl ?_
    refine tw_i2l rfl ?_
    exact tw_lret rfl ⟨by rw [vOf_n (by omega) hy]; rfl, rfl⟩
  · try dsimp only [tvI_i, tvJ_j, tvR_r] at q882
    refine tw_iload rfl rfl ?_
    refine tw_aload rfl rfl ?_
    refine tw_getS rfl (hs_48_4 hs) ?_
    refine tw_alen rfl ?_
    refine tw_ic_ge rfl (fun q883 => ?_) (fun q883 => ?_)
    · try dsimp only [tvI_i, tvJ_j, tvR_r] at q883
      exfalso
      omega
    · try dsimp only [tvI_i, tvJ_j, tvR_r] at q883
      refine tw_aload rfl rfl ?_
      refine tw_getS rfl (hs_48_4 hs) ?_
      refine tw_iload rfl rfl ?_
      refine tw_lald rfl (fun f884 => ?_)
      refine tw_goto rfl ?_
      have e9 : (y - 100000).toNatClampNeg = c - 100000 := zof_cl (by omega)
      exact tw_lret rfl ⟨congrArg (fun z => some (Value.long z)) (show tJ h 52 (y - 100000).toNatClampNeg = _ from by rw [e9, vOf_w (by omega)]), rfl⟩
theorem f_join {G : zG} (hG : G.1 = zProg) {h : zH} {y : Int32} {c : Nat} {a b : Int64} (hy : y.toInt = c) (h1 : 100100 ≤ c) (h2 : c < 100110) : tC zTt G 70 [.int y, .long a, .long b] h (fun w h2 => w = some (.long (jo c a b)) ∧ h2 = h) := by
  refine tC_in (by rw [hG]; rfl) (fun dp => ?_)
  refine tw_iload rfl rfl ?_
  refine tw_table rfl (fun q885 => ?_) (fun t9 q885a q885b q885c => ?_)
  · try dsimp only [tvI_i, tvJ_j, tvR_r] at q885
    exfalso
    omega
  · have q885d : (tvI (.int y)).toInt = 100100 ∨ (tvI (.int y)).toInt = 100101 ∨ (tvI (.int y)).toInt = 100102 ∨ (tvI (.int y)).toInt = 100103 ∨ (tvI (.int y)).toInt = 100104 ∨ (tvI (.int y)).toInt = 100105 ∨ (tvI (.int y)).toInt = 100106 ∨ (tvI (.int y)).toInt = 100107 ∨ (tvI (.int y)).toInt = 100108 ∨ (tvI (.int y)).toInt = 100109 := by omega
    rcases q885d with q885 | q885 | q885 | q885 | q885 | q885 | q885 | q885 | q885 | q885
    · obtain rfl : t9 = 56 := by rw [q885] at q885c; exact Option.some.inj (q885c.symm.trans rfl)
      try dsimp only [tvI_i, tvJ_j, tvR_r] at q885
      refine tw_lload rfl rfl ?_
      refine tw_lload rfl rfl ?_
      refine tw_ladd rfl ?_
      obtain rfl : c = 100100 := by omega
      exact tw_lret rfl ⟨rfl, rfl⟩
    · obtain rfl : t9 = 60 := by rw [q885] at q885c; exact Option.some.inj (q885c.symm.trans rfl)
      try dsimp only [tvI_i, tvJ_j, tvR_r] at q885
      refine tw_lload rfl rfl ?_
      refine tw_lload rfl rfl ?_
      refine tw_lsub rfl ?_
      obtain rfl : c = 100101 := by omega
      exact tw_lret rfl ⟨rfl, rfl⟩
    · obtain rfl : t9 = 64 := by rw [q885] at q885c; exact Option.some.inj (q885c.symm.trans rfl)
      try dsimp only [tvI_i, tvJ_j, tvR_r] at q885
      refine tw_lload rfl rfl ?_
      refine tw_lload rfl rfl ?_
      refine tw_lmul rfl ?_
      obtain rfl : c = 100102 := by omega
      exact tw_lret rfl ⟨rfl, rfl⟩
    · obtain rfl : t9 = 76 := by rw [q885] at q885c; exact Option.some.inj (q885c.symm.trans rfl)
      try dsimp only [tvI_i, tvJ_j, tvR_r] at q885
      refine tw_lload rfl rfl ?_
      refine tw_lload rfl rfl ?_
      refine tw_lc_ge rfl rfl (fun q886 => ?_) (fun q886 => ?_)
      · try dsimp only [tvI_i, tvJ_j, tvR_r] at q886
        refine tw_push rfl ?_
        obtain rfl : c = 100103 := by omega
        exact tw_lret rfl ⟨congrArg (fun z => some (Value.long z)) (b64_0 (p := a.toInt < b.toInt) (by omega)).symm, rfl⟩
      · try dsimp only [tvI_i, tvJ_j, tvR_r] at q886
        refine tw_push rfl ?_
        refine tw_goto rfl ?_
        obtain rfl : c = 100103 := by omega
        exact tw_lret rfl ⟨congrArg (fun z => some (Value.long z)) (b64_1 (p := a.toInt < b.toInt) (by omega)).symm, rfl⟩
    · obtain rfl : t9 = 88 := by rw [q885] at q885c; exact Option.some.inj (q885c.symm.trans rfl)
      try dsimp only [tvI_i, tvJ_j, tvR_r] at q885
      refine tw_lload rfl rfl ?_
      refine tw_lload rfl rfl ?_
      refine tw_lc_gt rfl rfl (fun q887 => ?_) (fun q887 => ?_)
      · try dsimp only [tvI_i, tvJ_j, tvR_r] at q887
        refine tw_push rfl ?_
        obtain rfl : c = 100104 := by omega
        exact tw_lret rfl ⟨congrArg (fun z => some (Value.long z)) (b64_0 (p := a.toInt ≤ b.toInt) (by omega)).symm, rfl⟩
      · try dsimp only [tvI_i, tvJ_j, tvR_r] at q887
        refine tw_push rfl ?_
        refine tw_goto rfl ?_
        obtain rfl : c = 100104 := by omega
        exact tw_lret rfl ⟨congrArg (fun z => some (Value.long z)) (b64_1 (p := a.toInt ≤ b.toInt) (by omega)).symm, rfl⟩
    · obtain rfl : t9 = 100 := by rw [q885] at q885c; exact Option.some.inj (q885c.symm.trans rfl)
      try dsimp only [tvI_i, tvJ_j, tvR_r] at q885
      refine tw_lload rfl rfl ?_
      refine tw_lload rfl rfl ?_
      refine tw_lc_ne rfl rfl (fun q888 => ?_) (fun q888 => ?_)
      · try dsimp only [tvI_i, tvJ_j, tvR_r] at q888
        refine tw_push rfl ?_
        obtain rfl : c = 100105 := by omega
        exact tw_lret rfl ⟨congrArg (fun z => some (Value.long z)) (b64_0 (p := a = b) q888).symm, rfl⟩
      · try dsimp only [tvI_i, tvJ_j, tvR_r] at q888
        refine tw_push rfl ?_
        refine tw_goto rfl ?_
        obtain rfl : c = 100105 := by omega
        exact tw_lret rfl ⟨congrArg (fun z => some (Value.long z)) (b64_1 (p := a = b) q888).symm, rfl⟩
    · obtain rfl : t9 = 112 := by rw [q885] at q885c; exact Option.some.inj (q885c.symm.trans rfl)
      try dsimp only [tvI_i, tvJ_j, tvR_r] at q885
      refine tw_lload rfl rfl ?_
      refine tw_lload rfl rfl ?_
      refine tw_lc_lt rfl rfl (fun q889 => ?_) (fun q889 => ?_)
      · try dsimp only [tvI_i, tvJ_j, tvR_r] at q889
        refine tw_push rfl ?_
        obtain rfl : c = 100106 := by omega
        exact tw_lret rfl ⟨congrArg (fun z => some (Value.long z)) (b64_0 (p := b.toInt ≤ a.toInt) (by omega)).symm, rfl⟩
      · try dsimp only [tvI_i, tvJ_j, tvR_r] at q889
        refine tw_push rfl ?_
        refine tw_goto rfl ?_
        obtain rfl : c = 100106 := by omega
        exact tw_lret rfl ⟨congrArg (fun z => some (Value.long z)) (b64_1 (p := b.toInt ≤ a.toInt) (by omega)).symm, rfl⟩
    · obtain rfl : t9 = 124 := by rw [q885] at q885c; exact Option.some.inj (q885c.symm.trans rfl)
      try dsimp only [tvI_i, tvJ_j, tvR_r] at q885
      refine tw_lload rfl rfl ?_
      refine tw_lload rfl rfl ?_
      refine tw_lc_le rfl rfl (fun q890 => ?_) (fun q890 => ?_)
      · try dsimp only [tvI_i, tvJ_j, tvR_r] at q890
        refine tw_push rfl ?_
        obtain rfl : c = 100107 := by omega
        exact tw_lret rfl ⟨congrArg (fun z => some (Value.long z)) (b64_0 (p := b.toInt < a.toInt) (by omega)).symm, rfl⟩
      · try dsimp only [tvI_i, tvJ_j, tvR_r] at q890
        refine tw_push rfl ?_
        refine tw_goto rfl ?_
        obtain rfl : c = 100107 := by omega
        exact tw_lret rfl ⟨congrArg (fun z => some (Value.long z)) (b64_1 (p := b.toInt < a.toInt) (by omega)).symm, rfl⟩
    · obtain rfl : t9 = 68 := by rw [q885] at q885c; exact Option.some.inj (q885c.symm.trans rfl)
      try dsimp only [tvI_i, tvJ_j, tvR_r] at q885
      refine tw_lload rfl rfl ?_
      refine tw_lload rfl rfl ?_
      refine tw_lor rfl ?_
      obtain rfl : c = 100108 := by omega
      exact tw_lret rfl ⟨rfl, rfl⟩
    · obtain rfl : t9 = 72 := by rw [q885] at q885c; exact Option.some.inj (q885c.symm.trans rfl)
      try dsimp only [tvI_i, tvJ_j, tvR_r] at q885
      refine tw_lload rfl rfl ?_
      refine tw_lload rfl rfl ?_
      refine tw_land rfl ?_
      obtain rfl : c = 100109 := by omega
      exact tw_lret rfl ⟨rfl, rfl⟩
