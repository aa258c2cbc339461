theorem mDp_N : ∀ (S o : List Nat), mDp (mN S o).1 ≤ mDp S
  | [], _ => Nat.le_refl _
  | x :: r, o => by
    unfold mN
    by_cases z : x = 10
    · rw [if_pos z, z, mDp_c (by decide)]
      exact Nat.le_succ_of_le (mDp_N r _)
    · rw [if_neg z]
      exact Nat.le_refl _
theorem mDp_t : ∀ (S : List Nat), mDp S.tail ≤ mDp S
  | [] => Nat.le_refl _
  | x :: r => by
    show mDp r ≤ (if _ then mDp r + 1 else mDp r)
    split
    · exact Nat.le_succ _
    · exact Nat.le_refl _
theorem mSt_dp {T : Nat → Int32} {n : Nat} {tst : Bool} {a : Nat} {S : List Nat} {s : rS} {x2 : rMs} (h : mDp S ≤ 10) (ha : a ≤ 3) (e : mSt T n tst (a, S, s) = .inr x2) : mDp x2.2.1 ≤ 10 ∧ x2.1 ≤ 4 := by
  match a, ha, e with
  | 0, _, e =>
    have e : mS0 T n S s = .inr x2 := e
    unfold mS0 at e
    split at e
    · split at e
      · cases e
      · rename_i z
        cases e
        exact ⟨by show mDp (10 :: S) ≤ 10; rw [mDp_c (by decide)]; omega, Nat.le_of_ble_eq_true rfl⟩
    · split at e
      · split at e
        · cases e
        · rename_i z
          cases e
          exact ⟨by show mDp (13 :: S) ≤ 10; rw [mDp_c (by decide)]; omega, Nat.le_of_ble_eq_true rfl⟩
      · cases e
        exact ⟨h, Nat.le_of_ble_eq_true rfl⟩
  | 1, _, e =>
    have e : mS1 T n S s = .inr x2 := e
    unfold mS1 at e
    split at e
    · split at e
      · cases e
      · split at e
        · cases e
        · rename_i z _
          cases e
          exact ⟨by show mDp (50 :: S) ≤ 10; rw [mDp_c (by decide)]; omega, Nat.le_of_ble_eq_true rfl⟩
    · split at e
      · split at e
        · cases e
        · cases e; exact ⟨h, Nat.le_of_ble_eq_true rfl⟩
      · split at e
        · cases e
        · split at e
          · cases e
          · cases e; exact ⟨h, Nat.le_of_ble_eq_true rfl⟩
  | 2, _, e =>
    have e : mS2 T n tst S s = .inr x2 := e
    have hT := mDp_T S s.2.2
    have hS := mDp_S S s.2.2
    have ht := mDp_t (mS S s.2.2).1
    unfold mS2 at e
    split at e
    · cases e
      exact ⟨by show mDp (102 :: _) ≤ 10; rw [mDp_e (by decide)]; omega, Nat.le_of_ble_eq_true rfl⟩
    · split at e
      · cases e
        exact ⟨by show mDp (103 :: _) ≤ 10; rw [mDp_e (by decide)]; omega, Nat.le_of_ble_eq_true rfl⟩
      · split at e
        · cases e
          exact ⟨by show mDp (104 :: _) ≤ 10; rw [mDp_e (by decide)]; omega, Nat.le_of_ble_eq_true rfl⟩
        · split at e
          · split at e
            · cases e
              exact ⟨by show mDp (mS S s.2.2).1.tail ≤ 10; omega, Nat.le_of_ble_eq_true rfl⟩
            · cases e
          · split at e
            · split at e
              · cases e
                exact ⟨by show mDp (mS S s.2.2).1.tail ≤ 10; omega, Nat.le_of_ble_eq_true rfl⟩
              · split at e
                · cases e
                · rename_i q hq
                  split at e
                  · cases e
                  · cases e
                    have r1 := (rCm_r hq).1
                    have r2 := (rCm_r hq).2.1
                    exact ⟨by show mDp ((q.1 - 99898) :: _) ≤ 10; rw [mDp_e (by omega)]; omega, Nat.le_of_ble_eq_true rfl⟩
            · cases e
              exact ⟨by show mDp (mS S s.2.2).1 ≤ 10; omega, Nat.le_of_ble_eq_true rfl⟩
  | 3, _, e =>
    have e : mS3 T n S s = .inr x2 := e
    have hN := mDp_N S s.2.2
    have hA := mDp_A (mN S s.2.2).1 (mN S s.2.2).2
    have hO := mDp_O (mN S s.2.2).1 (mN S s.2.2).2
    have ht := mDp_t (mO (mN S s.2.2).1 (mN S s.2.2).2).1
    unfold mS3 at e
    split at e
    · cases e
      exact ⟨by show mDp (11 :: _) ≤ 10; rw [mDp_e (by decide)]; omega, Nat.le_of_ble_eq_true rfl⟩
    · split at e
      · cases e
        exact ⟨by show mDp (12 :: _) ≤ 10; rw [mDp_e (by decide)]; omega, Nat.le_of_ble_eq_true rfl⟩
      · split at e
        · split at e
          · cases e
            exact ⟨by show mDp (mO (mN S s.2.2).1 (mN S s.2.2).2).1.tail ≤ 10; omega, Nat.le_of_ble_eq_true rfl⟩
          · cases e
        · cases e
          exact ⟨by show mDp (mO (mN S s.2.2).1 (mN S s.2.2).2).1 ≤ 10; omega, Nat.le_of_ble_eq_true rfl⟩
theorem mRst {h a b c : zH} {x y : Int32} (hx : 0 ≤ x.toInt) (p : mP h) (d0 : tvI (tF h 111 32) = 0) (e46 : mSet 46 x h a) (e34 : mSet 34 0 a b) (e47 : mSet 47 y b c) : mFw h c ∧ mP c ∧ mD c ∧ mst c = (stN x, [], ms h) ∧ tvI (tF c 111 47) = y := by
  have F : ∀ q, q ≠ 46 → q ≠ 34 → q ≠ 47 → tF c 111 q = tF h 111 q := fun q h1 h2 h3 => (mI_o e47 h3).trans ((mI_o e34 h2).trans (mI_o e46 h1))
  have A : tA c = tA h := e47.2.2.2.1.trans (e34.2.2.2.1.trans e46.2.2.2.1)
  have NN : tN c = tN h := e47.2.2.2.2.trans (e34.2.2.2.2.trans e46.2.2.2.2)
  have f34 : tvI (tF c 111 34) = 0 := by rw [mI_o e47 (by decide)]; exact mI_x e34
  have f46 : tvI (tF c 111 46) = x := by rw [mI_o e47 (by decide), mI_o e34 (by decide)]; exact mI_x e46
  have hk : mSk c = [] := mSk_nil (by rw [f34]; rfl)
  obtain ⟨p1, p2, p3, p4, p5, p6, p7, p8, t1, t2⟩ := p
  refine ⟨⟨e47.1, fun p q z => ?_, fun p _ _ _ => congrFun A p, NN, mLo_A A mLo_r⟩, ⟨?_, ?_, ?_, ?_, ?_, ?_, ?_, ?_, by rw [NN]; exact t1, by rw [NN]; exact t2⟩, ?_, ?_, mI_x e47⟩
  · refine (e47.2.2.1 p q (fun w => z ⟨w.1, Or.inr (Or.inr w.2)⟩)).trans ((e34.2.2.1 p q (fun w => z ⟨w.1, Or.inl (by unfold mFs; omega)⟩)).trans (e46.2.2.1 p q (fun w => z ⟨w.1, Or.inr (Or.inl w.2)⟩)))
  · rw [F 29 (by decide) (by decide) (by decide)]; exact p1
  · rw [F 28 (by decide) (by decide) (by decide), F 27 (by decide) (by decide) (by decide)]; exact p2
  · rw [F 33 (by decide) (by decide) (by decide)]; exact p3
  · rw [F 31 (by decide) (by decide) (by decide)]; exact p4
  · rw [f34]; decide
  · rw [F 30 (by decide) (by decide) (by decide)]; exact p6
  · rw [A, NN]; exact p7
  · exact p8
  · unfold mD
    rw [F 32 (by decide) (by decide) (by decide), d0, hk]
    rfl
  · unfold mst ms mEn
    rw [f46, hk, F 28 (by decide) (by decide) (by decide), F 33 (by decide) (by decide) (by decide), F 31 (by decide) (by decide) (by decide), F 30 (by decide) (by decide) (by decide), A]
theorem g_readsR {G : zG} (hG : G.1 = zProg) (hX : G.2.1 = ztx) {h : zH} {T : Nat → Int32} {n : Nat} (hs : tSh h) (hp : mP h) (hT : tA h 132 = T) (hN : mn h = n) {x : Int32} {tst : Bool} (hx0 : 0 ≤ x.toInt) (hx4 : stN x ≤ 4) (hts : x = 0 ↔ tst = true) (hd0 : tvI (tF h 111 32) = 0) : tC zTt G 223 [.ref 111, .int x] h (fun w h2 => w = none ∧ mFw h h2 ∧ ((mP h2 ∧ mD h2 ∧ mRe T n tst (stN x, [], ms h) (.inr (4, mSk h2, ms h2))) ∨ ∃ e, mFt h2 e ∧ mZp h2 ∧ mRe T n tst (stN x, [], ms h) (.inl e))) := by
  refine tC_in (by rw [hG]; rfl) (fun dp => ?_)
  refine tw_aload rfl rfl ?_
  refine tw_iload rfl rfl ?_
  refine tw_put rfl (fun f969 => ?_)
  refine tG_setm f969 (hw_111_46 f969 hs) (fun hf969 ef969 => ?_)
  try dsimp only [tvI_i] at ef969
  refine tw_aload rfl rfl ?_
  refine tw_push rfl ?_
  refine tw_put rfl (fun f970 => ?_)
  refine tG_setm f970 (hw_111_34 f970 ef969.1) (fun hf970 ef970 => ?_)
  try dsimp only [tvI_i] at ef970
  refine tw_aload rfl rfl ?_
  refine tw_iload rfl rfl ?_
  refine tw_if_ne rfl (fun q971 => ?_) (fun q971 => ?_)
  · try dsimp only [tvI_i, tvJ_j, tvR_r] at q971
    have q971i := zneq (Y := 0) (by decide) q971
    refine tw_push rfl ?_
    refine tw_put rfl (fun f972 => ?_)
    refine tG_setm f972 (hw_111_47 f972 ef970.1) (fun hf972 ef972 => ?_)
    try dsimp only [tvI_i] at ef972
    refine tG_loop (zW_mono zTt G dp) (zW_conj zTt G dp) (V := fun pc L st h9 _ _ => pc = 23 ∧ st = [] ∧ ∃ h1, h1 = h9 ∧ mFw h h1 ∧ (¬ tvI (tF h1 111 47) = 0 ↔ tst = true) ∧ ((mP h1 ∧ mD h1 ∧ mDp (mSk h1) ≤ 10 ∧ (mst h1).1 ≤ 4 ∧ mRe T n tst (stN x, [], ms h) (.inr (mst h1))) ∨ ∃ e, mFt h1 e ∧ mZp h1 ∧ mRe T n tst (stN x, [], ms h) (.inl e)) ∧ L = [some (.ref 111), some (.int x)]) ?_ (⟨rfl, rfl, _, rfl, (mRst hx0 hp hd0 ef969 ef970 ef972).1, (by rw [(mRst hx0 hp hd0 ef969 ef970 ef972).2.2.2.2]; exact ⟨fun z => absurd rfl z, fun z => absurd (hts.mpr z) q971⟩), Or.inl ⟨(mRst hx0 hp hd0 ef969 ef970 ef972).2.1, (mRst hx0 hp hd0 ef969 ef970 ef972).2.2.1, (by have z := congrArg (fun q : rMs => q.2.1) (mRst hx0 hp hd0 ef969 ef970 ef972).2.2.2.1; have z : mSk _ = [] := z; rw [z]; exact Nat.zero_le _), (by rw [(mRst hx0 hp hd0 ef969 ef970 ef972).2.2.2.1]; exact hx4), by rw [(mRst hx0 hp hd0 ef969 ef970 ef972).2.2.2.1]; exact mRe_0⟩, rfl⟩)
    rintro _ _ _ _ _ _ ⟨rfl, rfl, h1, rfl, gw, hT1, hv, rfl⟩
    refine tw_aload rfl rfl ?_
    refine tw_getS rfl (hi_111_46 gw.1) ?_
    refine tw_push rfl ?_
    refine tw_ic_eq rfl (fun q973 => ?_) (fun q973 => ?_)
    · try dsimp only [tvI_i, tvJ_j, tvR_r] at q973
      have q973i := zeqi (Y := 4) (by decide) q973
      rcases hv with ⟨hv1, hv2, hv3, hv4, hv6⟩ | ⟨e, hv1, hv2, hv3⟩
      · have hm1 : mst h1 = (4, mSk h1, ms h1) := by unfold mst; rw [q973]; rfl
        rw [hm1] at hv6
        exact tw_vret rfl ⟨rfl, gw, Or.inl ⟨hv1, hv2, hv6⟩⟩
      · exact tw_vret rfl ⟨rfl, gw, Or.inr ⟨e, hv1, hv2, hv3⟩⟩
    · try dsimp only [tvI_i, tvJ_j, tvR_r] at q973
      have q973i := zneq (Y := 4) (by decide) q973
      refine tw_aload rfl rfl ?_
      refine tw_getS rfl (hi_111_29 gw.1) ?_
      refine tw_if_ne rfl (fun q974 => ?_) (fun q974 => ?_)
      · try dsimp only [tvI_i, tvJ_j, tvR_r] at q974
        have q974i := zneq (Y := 0) (by decide) q974
        rcases hv with ⟨hv1, -⟩ | ⟨e, hv1, hv2, hv3⟩
        · exact absurd (mP_0 hv1) q974
        · exact tw_vret rfl ⟨rfl, gw, Or.inr ⟨e, hv1, hv2, hv3⟩⟩
      · try dsimp only [tvI_i, tvJ_j, tvR_r] at q974
        have q974i := zeqi (Y := 0) (by decide) q974
        refine tw_aload rfl rfl ?_
        refine tw_getS rfl (hi_111_46 gw.1) ?_
        refine tw_table rfl (fun q975 => ?_) (fun t9 q975a q975b q975c => ?_)
        · try dsimp only [tvI_i, tvJ_j, tvR_r] at q975
          refine tw_aload rfl rfl ?_
          obtain ⟨hv1, hv2, hv3, hv4, hv6⟩ := hv.resolve_right (fun z => by obtain ⟨e, z, -⟩ := z; exact mFt_n z q974)
          have hst : tvI (tF h1 111 46) = 3 := by
            refine Int32.toInt_inj.mp ?_
            show (tvI (tF h1 111 46)).toInt = 3
            have a4 : stN (tvI (tF h1 111 46)) ≤ 4 := hv4
            unfold stN at a4
            have a6 : ¬ (tvI (tF h1 111 46)).toInt < 0 := fun z => by rw [if_pos z] at a4; omega
            rw [if_neg a6] at a4
            have c29 : (2 : Int32).toInt = 2 := rfl
            have a5 : (tvI (tF h1 111 46)).toInt ≠ 4 := fun z => q973 (Int32.toInt_inj.mp z)
            have z0 := q975
            try dsimp only [tvI_i] at z0
            omega
          refine tw_virt0 rfl (g_behindFact hG hX gw.1 hv1 ((mFw_T gw).trans hT) ((mFw_n gw).trans hN) hv2 (Nat.le_trans hv3 (by decide)) hst) (fun wp976 hp976 p976 => ?_)
          obtain ⟨rfl, gp976, op976⟩ := p976
          refine tw_goto rfl ?_
          have hm1 : mst h1 = (3, mSk h1, ms h1) := by unfold mst; rw [hst]; rfl
          rw [hm1] at hv6
          refine tG_cut (zW_mono zTt G dp) (Or.inr ⟨rfl, rfl, _, rfl, mFw_t gw (mFw_q gp976), (by rw [mFq_47 gp976]; exact hT1), ?_, rfl⟩)
          cases hy : mSt T n tst (3, mSk h1, ms h1) with
          | inl e =>
            have op976 : mOut (mSt T n tst (3, mSk h1, ms h1)) hp976 := op976
            rw [hy] at op976
            exact Or.inr ⟨e, op976.1, op976.2, mRe_t hv6 (mRe_f hy)⟩
          | inr x2 =>
            have op976 : mOut (mSt T n tst (3, mSk h1, ms h1)) hp976 := op976
            rw [hy] at op976
            obtain ⟨o1, o2, o3⟩ := op976
            have hdp := mSt_dp hv3 (by decide) hy
            have o4 := mRe_t hv6 (mRe_s hy mRe_0)
            rw [← o3] at hdp o4
            exact Or.inl ⟨o1, o2, hdp.1, hdp.2, o4⟩
        · have q975d : (tvI (.int (tvI (tF h1 111 46)))).toInt = 0 ∨ (tvI (.int (tvI (tF h1 111 46)))).toInt = 1 ∨ (tvI (.int (tvI (tF h1 111 46)))).toInt = 2 := by omega
          rcases q975d with q975 | q975 | q975
          · obtain rfl : t9 = 68 := by rw [q975] at q975c; exact Option.some.inj (q975c.symm.trans rfl)
            try dsimp only [tvI_i, tvJ_j, tvR_r] at q975
            refine tw_aload rfl rfl ?_
            obtain ⟨hv1, hv2, hv3, hv4, hv6⟩ := hv.resolve_right (fun z => by obtain ⟨e, z, -⟩ := z; exact mFt_n z q974)
            have hst : tvI (tF h1 111 46) = 0 := by
              refine Int32.toInt_inj.mp ?_
              show (tvI (tF h1 111 46)).toInt = 0
              have a4 : stN (tvI (tF h1 111 46)) ≤ 4 := hv4
              unfold stN at a4
              have a6 : ¬ (tvI (tF h1 111 46)).toInt < 0 := fun z => by rw [if_pos z] at a4; omega
              rw [if_neg a6] at a4
              have c29 : (2 : Int32).toInt = 2 := rfl
              have a5 : (tvI (tF h1 111 46)).toInt ≠ 4 := fun z => q973 (Int32.toInt_inj.mp z)
              have z0 := q975
              try dsimp only [tvI_i] at z0
              omega
            refine tw_virt0 rfl (g_beginsFact hG hX gw.1 hv1 ((mFw_T gw).trans hT) ((mFw_n gw).trans hN) hv2 (Nat.le_trans hv3 (by decide)) hst) (fun wp977 hp977 p977 => ?_)
            obtain ⟨rfl, gp977, op977⟩ := p977
            refine tw_goto rfl ?_
            have hm1 : mst h1 = (0, mSk h1, ms h1) := by unfold mst; rw [hst]; rfl
            rw [hm1] at hv6
            refine tG_cut (zW_mono zTt G dp) (Or.inr ⟨rfl, rfl, _, rfl, mFw_t gw (mFw_q gp977), (by rw [mFq_47 gp977]; exact hT1), ?_, rfl⟩)
            cases hy : mSt T n tst (0, mSk h1, ms h1) with
            | inl e =>
              have op977 : mOut (mSt T n tst (0, mSk h1, ms h1)) hp977 := op977
              rw [hy] at op977
              exact Or.inr ⟨e, op977.1, op977.2, mRe_t hv6 (mRe_f hy)⟩
            | inr x2 =>
              have op977 : mOut (mSt T n tst (0, mSk h1, ms h1)) hp977 := op977
              rw [hy] at op977
              obtain ⟨o1, o2, o3⟩ := op977
              have hdp := mSt_dp hv3 (by decide) hy
              have o4 := mRe_t hv6 (mRe_s hy mRe_0)
              rw [← o3] at hdp o4
              exact Or.inl ⟨o1, o2, hdp.1, hdp.2, o4⟩
          · obtain rfl : t9 = 75 := by rw [q975] at q975c; exact Option.some.inj (q975c.symm.trans rfl)
            try dsimp only [tvI_i, tvJ_j, tvR_r] at q975
            refine tw_aload rfl rfl ?_
            obtain ⟨hv1, hv2, hv3, hv4, hv6⟩ := hv.resolve_right (fun z => by obtain ⟨e, z, -⟩ := z; exact mFt_n z q974)
            have hst : tvI (tF h1 111 46) = 1 := by
              refine Int32.toInt_inj.mp ?_
              show (tvI (tF h1 111 46)).toInt = 1
              have a4 : stN (tvI (tF h1 111 46)) ≤ 4 := hv4
              unfold stN at a4
              have a6 : ¬ (tvI (tF h1 111 46)).toInt < 0 := fun z => by rw [if_pos z] at a4; omega
              rw [if_neg a6] at a4
              have c29 : (2 : Int32).toInt = 2 := rfl
              have a5 : (tvI (tF h1 111 46)).toInt ≠ 4 := fun z => q973 (Int32.toInt_inj.mp z)
              have z0 := q975
              try dsimp only [tvI_i] at z0
              omega
            refine tw_virt0 rfl (g_value hG hX gw.1 hv1 ((mFw_T gw).trans hT) ((mFw_n gw).trans hN) hv2 (Nat.le_trans hv3 (by decide)) hst) (fun wp978 hp978 p978 => ?_)
            obtain ⟨rfl, gp978, op978⟩ := p978
            refine tw_goto rfl ?_
            have hm1 : mst h1 = (1, mSk h1, ms h1) := by unfold mst; rw [hst]; rfl
            rw [hm1] at hv6
            refine tG_cut (zW_mono zTt G dp) (Or.inr ⟨rfl, rfl, _, rfl, mFw_t gw (mFw_q gp978), (by rw [mFq_47 gp978]; exact hT1), ?_, rfl⟩)
            cases hy : mSt T n tst (1, mSk h1, ms h1) with
            | inl e =>
              have op978 : mOut (mSt T n tst (1, mSk h1, ms h1)) hp978 := op978
              rw [hy] at op978
              exact Or.inr ⟨e, op978.1, op978.2, mRe_t hv6 (mRe_f hy)⟩
            | inr x2 =>
              have op978 : mOut (mSt T n tst (1, mSk h1, ms h1)) hp978 := op978
              rw [hy] at op978
              obtain ⟨o1, o2, o3⟩ := op978
              have hdp := mSt_dp hv3 (by decide) hy
              have o4 := mRe_t hv6 (mRe_s hy mRe_0)
              rw [← o3] at hdp o4
              exact Or.inl ⟨o1, o2, hdp.1, hdp.2, o4⟩
          · obtain rfl : t9 = 82 := by rw [q975] at q975c; exact Option.some.inj (q975c.symm.trans rfl)
            try dsimp only [tvI_i, tvJ_j, tvR_r] at q975
            refine tw_aload rfl rfl ?_
            obtain ⟨hv1, hv2, hv3, hv4, hv6⟩ := hv.resolve_right (fun z => by obtain ⟨e, z, -⟩ := z; exact mFt_n z q974)
            have hst : tvI (tF h1 111 46) = 2 := by
              refine Int32.toInt_inj.mp ?_
              show (tvI (tF h1 111 46)).toInt = 2
              have a4 : stN (tvI (tF h1 111 46)) ≤ 4 := hv4
              unfold stN at a4
              have a6 : ¬ (tvI (tF h1 111 46)).toInt < 0 := fun z => by rw [if_pos z] at a4; omega
              rw [if_neg a6] at a4
              have c29 : (2 : Int32).toInt = 2 := rfl
              have a5 : (tvI (tF h1 111 46)).toInt ≠ 4 := fun z => q973 (Int32.toInt_inj.mp z)
              have z0 := q975
              try dsimp only [tvI_i] at z0
              omega
            refine tw_virt0 rfl (g_behindValue hG hX gw.1 hv1 ((mFw_T gw).trans hT) ((mFw_n gw).trans hN) hv2 (Nat.le_trans hv3 (by decide)) (tst := tst) hT1 hst) (fun wp979 hp979 p979 => ?_)
            obtain ⟨rfl, gp979, op979⟩ := p979
            refine tw_goto rfl ?_
            have hm1 : mst h1 = (2, mSk h1, ms h1) := by unfold mst; rw [hst]; rfl
            rw [hm1] at hv6
            refine tG_cut (zW_mono zTt G dp) (Or.inr ⟨rfl, rfl, _, rfl, mFw_t gw (mFw_q gp979), (by rw [mFq_47 gp979]; exact hT1), ?_, rfl⟩)
            cases hy : mSt T n tst (2, mSk h1, ms h1) with
            | inl e =>
              have op979 : mOut (mSt T n tst (2, mSk h1, ms h1)) hp979 := op979
              rw [hy] at op979
              exact Or.inr ⟨e, op979.1, op979.2, mRe_t hv6 (mRe_f hy)⟩
            | inr x2 =>
              have op979 : mOut (mSt T n tst (2, mSk h1, ms h1)) hp979 := op979
              rw [hy] at op979
              obtain ⟨o1, o2, o3⟩ := op979
              have hdp := mSt_dp hv3 (by decide) hy
              have o4 := mRe_t hv6 (mRe_s hy mRe_0)
              rw [← o3] at hdp o4
              exact Or.inl ⟨o1, o2, hdp.1, hdp.2, o4⟩
  · try dsimp only [tvI_i, tvJ_j, tvR_r] at q971
    have q971i := zeqi (Y := 0) (by decide) q971
    refine tw_push rfl ?_
    refine tw_goto rfl ?_
    refine tw_put rfl (fun f980 => ?_)
    refine tG_setm f980 (hw_111_47 f980 ef970.1) (fun hf980 ef980 => ?_)
    try dsimp only [tvI_i] at ef980
    refine tG_loop (zW_mono zTt G dp) (zW_conj zTt G dp) (V := fun pc L st h9 _ _ => pc = 23 ∧ st = [] ∧ ∃ h1, h1 = h9 ∧ mFw h h1 ∧ (¬ tvI (tF h1 111 47) = 0 ↔ tst = true) ∧ ((mP h1 ∧ mD h1 ∧ mDp (mSk h1) ≤ 10 ∧ (mst h1).1 ≤ 4 ∧ mRe T n tst (stN x, [], ms h) (.inr (mst h1))) ∨ ∃ e, mFt h1 e ∧ mZp h1 ∧ mRe T n tst (stN x, [], ms h) (.inl e)) ∧ L = [some (.ref 111), some (.int x)]) ?_ (⟨rfl, rfl, _, rfl, (mRst hx0 hp hd0 ef969 ef970 ef980).1, (by rw [(mRst hx0 hp hd0 ef969 ef970 ef980).2.2.2.2]; exact ⟨fun _ => hts.mp q971, fun _ => by decide⟩), Or.inl ⟨(mRst hx0 hp hd0 ef969 ef970 ef980).2.1, (mRst hx0 hp hd0 ef969 ef970 ef980).2.2.1, (by have z := congrArg (fun q : rMs => q.2.1) (mRst hx0 hp hd0 ef969 ef970 ef980).2.2.2.1; have z : mSk _ = [] := z; rw [z]; exact Nat.zero_le _), (by rw [(mRst hx0 hp hd0 ef969 ef970 ef980).2.2.2.1]; exact hx4), by rw [(mRst hx0 hp hd0 ef969 ef970 ef980).2.2.2.1]; exact mRe_0⟩, rfl⟩)
    rintro _ _ _ _ _ _ ⟨rfl, rfl, h1, rfl, gw, hT1, hv, rfl⟩
    refine tw_aload rfl rfl ?_
    refine tw_getS rfl (hi_111_46 gw.1) ?_
    refine tw_push rfl ?_
    refine tw_ic_eq rfl (fun q981 => ?_) (fun q981 => ?_)
    · try dsimp only [tvI_i, tvJ_j, tvR_r] at q981
      have q981i := zeqi (Y := 4) (by decide) q981
      rcases hv with ⟨hv1, hv2, hv3, hv4, hv6⟩ | ⟨e, hv1, hv2, hv3⟩
      · have hm1 : mst h1 = (4, mSk h1, ms h1) := by unfold mst; rw [q981]; rfl
        rw [hm1] at hv6
        exact tw_vret rfl ⟨rfl, gw, Or.inl ⟨hv1, hv2, hv6⟩⟩
      · exact tw_vret rfl ⟨rfl, gw, Or.inr ⟨e, hv1, hv2, hv3⟩⟩
    · try dsimp only [tvI_i, tvJ_j, tvR_r] at q981
      have q981i := zneq (Y := 4) (by decide) q981
      refine tw_aload rfl rfl ?_
      refine tw_getS rfl (hi_111_29 gw.1) ?_
      refine tw_if_ne rfl (fun q982 => ?_) (fun q982 => ?_)
      · try dsimp only [tvI_i, tvJ_j, tvR_r] at q982
        have q982i := zneq (Y := 0) (by decide) q982
        rcases hv with ⟨hv1, -⟩ | ⟨e, hv1, hv2, hv3⟩
        · exact absurd (mP_0 hv1) q982
        · exact tw_vret rfl ⟨rfl, gw, Or.inr ⟨e, hv1, hv2, hv3⟩⟩
      · try dsimp only [tvI_i, tvJ_j, tvR_r] at q982
        have q982i := zeqi (Y := 0) (by decide) q982
        refine tw_aload rfl rfl ?_
        refine tw_getS rfl (hi_111_46 gw.1) ?_
        refine tw_table rfl (fun q983 => ?_) (fun t9 q983a q983b q983c => ?_)
        · try dsimp only [tvI_i, tvJ_j, tvR_r] at q983
          refine tw_aload rfl rfl ?_
          obtain ⟨hv1, hv2, hv3, hv4, hv6⟩ := hv.resolve_right (fun z => by obtain ⟨e, z, -⟩ := z; exact mFt_n z q982)
          have hst : tvI (tF h1 111 46) = 3 := by
            refine Int32.toInt_inj.mp ?_
            show (tvI (tF h1 111 46)).toInt = 3
            have a4 : stN (tvI (tF h1 111 46)) ≤ 4 := hv4
            unfold stN at a4
            have a6 : ¬ (tvI (tF h1 111 46)).toInt < 0 := fun z => by rw [if_pos z] at a4; omega
            rw [if_neg a6] at a4
            have c29 : (2 : Int32).toInt = 2 := rfl
            have a5 : (tvI (tF h1 111 46)).toInt ≠ 4 := fun z => q981 (Int32.toInt_inj.mp z)
            have z0 := q983
            try dsimp only [tvI_i] at z0
            omega
          refine tw_virt0 rfl (g_behindFact hG hX gw.1 hv1 ((mFw_T gw).trans hT) ((mFw_n gw).trans hN) hv2 (Nat.le_trans hv3 (by decide)) hst) (fun wp984 hp984 p984 => ?_)
          obtain ⟨rfl, gp984, op984⟩ := p984
          refine tw_goto rfl ?_
          have hm1 : mst h1 = (3, mSk h1, ms h1) := by unfold mst; rw [hst]; rfl
          rw [hm1] at hv6
          refine tG_cut (zW_mono zTt G dp) (Or.inr ⟨rfl, rfl, _, rfl, mFw_t gw (mFw_q gp984), (by rw [mFq_47 gp984]; exact hT1), ?_, rfl⟩)
          cases hy : mSt T n tst (3, mSk h1, ms h1) with
          | inl e =>
            have op984 : mOut (mSt T n tst (3, mSk h1, ms h1)) hp984 := op984
            rw [hy] at op984
            exact Or.inr ⟨e, op984.1, op984.2, mRe_t hv6 (mRe_f hy)⟩
          | inr x2 =>
            have op984 : mOut (mSt T n tst (3, mSk h1, ms h1)) hp984 := op984
            rw [hy] at op984
            obtain ⟨o1, o2, o3⟩ := op984
            have hdp := mSt_dp hv3 (by decide) hy
            have o4 := mRe_t hv6 (mRe_s hy mRe_0)
            rw [← o3] at hdp o4
            exact Or.inl ⟨o1, o2, hdp.1, hdp.2, o4⟩
        · have q983d : (tvI (.int (tvI (tF h1 111 46)))).toInt = 0 ∨ (tvI (.int (tvI (tF h1 111 46)))).toInt = 1 ∨ (tvI (.int (tvI (tF h1 111 46)))).toInt = 2 := by omega
          rcases q983d with q983 | q983 | q983
          · obtain rfl : t9 = 68 := by rw [q983] at q983c; exact Option.some.inj (q983c.symm.trans rfl)
            try dsimp only [tvI_i, tvJ_j, tvR_r] at q983
            refine tw_aload rfl rfl ?_
            obtain ⟨hv1, hv2, hv3, hv4, hv6⟩ := hv.resolve_right (fun z => by obtain ⟨e, z, -⟩ := z; exact mFt_n z q982)
            have hst : tvI (tF h1 111 46) = 0 := by
              refine Int32.toInt_inj.mp ?_
              show (tvI (tF h1 111 46)).toInt = 0
              have a4 : stN (tvI (tF h1 111 46)) ≤ 4 := hv4
              unfold stN at a4
              have a6 : ¬ (tvI (tF h1 111 46)).toInt < 0 := fun z => by rw [if_pos z] at a4; omega
              rw [if_neg a6] at a4
              have c29 : (2 : Int32).toInt = 2 := rfl
              have a5 : (tvI (tF h1 111 46)).toInt ≠ 4 := fun z => q981 (Int32.toInt_inj.mp z)
              have z0 := q983
              try dsimp only [tvI_i] at z0
              omega
            refine tw_virt0 rfl (g_beginsFact hG hX gw.1 hv1 ((mFw_T gw).trans hT) ((mFw_n gw).trans hN) hv2 (Nat.le_trans hv3 (by decide)) hst) (fun wp985 hp985 p985 => ?_)
            obtain ⟨rfl, gp985, op985⟩ := p985
            refine tw_goto rfl ?_
            have hm1 : mst h1 = (0, mSk h1, ms h1) := by unfold mst; rw [hst]; rfl
            rw [hm1] at hv6
            refine tG_cut (zW_mono zTt G dp) (Or.inr ⟨rfl, rfl, _, rfl, mFw_t gw (mFw_q gp985), (by rw [mFq_47 gp985]; exact hT1), ?_, rfl⟩)
            cases hy : mSt T n tst (0, mSk h1, ms h1) with
            | inl e =>
              have op985 : mOut (mSt T n tst (0, mSk h1, ms h1)) hp985 := op985
              rw [hy] at op985
              exact Or.inr ⟨e, op985.1, op985.2, mRe_t hv6 (mRe_f hy)⟩
            | inr x2 =>
              have op985 : mOut (mSt T n tst (0, mSk h1, ms h1)) hp985 := op985
              rw [hy] at op985
              obtain ⟨o1, o2, o3⟩ := op985
              have hdp := mSt_dp hv3 (by decide) hy
              have o4 := mRe_t hv6 (mRe_s hy mRe_0)
              rw [← o3] at hdp o4
              exact Or.inl ⟨o1, o2, hdp.1, hdp.2, o4⟩
          · obtain rfl : t9 = 75 := by rw [q983] at q983c; exact Option.some.inj (q983c.symm.trans rfl)
            try dsimp only [tvI_i, tvJ_j, tvR_r] at q983
            refine tw_aload rfl rfl ?_
            obtain ⟨hv1, hv2, hv3, hv4, hv6⟩ := hv.resolve_right (fun z => by obtain ⟨e, z, -⟩ := z; exact mFt_n z q982)
            have hst : tvI (tF h1 111 46) = 1 := by
              refine Int32.toInt_inj.mp ?_
              show (tvI (tF h1 111 46)).toInt = 1
              have a4 : stN (tvI (tF h1 111 46)) ≤ 4 := hv4
              unfold stN at a4
              have a6 : ¬ (tvI (tF h1 111 46)).toInt < 0 := fun z => by rw [if_pos z] at a4; omega
              rw [if_neg a6] at a4
              have c29 : (2 : Int32).toInt = 2 := rfl
              have a5 : (tvI (tF h1 111 46)).toInt ≠ 4 := fun z => q981 (Int32.toInt_inj.mp z)
              have z0 := q983
              try dsimp only [tvI_i] at z0
              omega
            refine tw_virt0 rfl (g_value hG hX gw.1 hv1 ((mFw_T gw).trans hT) ((mFw_n gw).trans hN) hv2 (Nat.le_trans hv3 (by decide)) hst) (fun wp986 hp986 p986 => ?_)
            obtain ⟨rfl, gp986, op986⟩ := p986
            refine tw_goto rfl ?_
            have hm1 : mst h1 = (1, mSk h1, ms h1) := by unfold mst; rw [hst]; rfl
            rw [hm1] at hv6
            refine tG_cut (zW_mono zTt G dp) (Or.inr ⟨rfl, rfl, _, rfl, mFw_t gw (mFw_q gp986), (by rw [mFq_47 gp986]; exact hT1), ?_, rfl⟩)
            cases hy : mSt T n tst (1, mSk h1, ms h1) with
            | inl e =>
              have op986 : mOut (mSt T n tst (1, mSk h1, ms h1)) hp986 := op986
              rw [hy] at op986
              exact Or.inr ⟨e, op986.1, op986.2, mRe_t hv6 (mRe_f hy)⟩
            | inr x2 =>
              have op986 : mOut (mSt T n tst (1, mSk h1, ms h1)) hp986 := op986
              rw [hy] at op986
              obtain ⟨o1, o2, o3⟩ := op986
              have hdp := mSt_dp hv3 (by decide) hy
              have o4 := mRe_t hv6 (mRe_s hy mRe_0)
              rw [← o3] at hdp o4
              exact Or.inl ⟨o1, o2, hdp.1, hdp.2, o4⟩
          · obtain rfl : t9 = 82 := by rw [q983] at q983c; exact Option.some.inj (q983c.symm.trans rfl)
            try dsimp only [tvI_i, tvJ_j, tvR_r] at q983
            refine tw_aload rfl rfl ?_
            obtain ⟨hv1, hv2, hv3, hv4, hv6⟩ := hv.resolve_right (fun z => by obtain ⟨e, z, -⟩ := z; exact mFt_n z q982)
            have hst : tvI (tF h1 111 46) = 2 := by
              refine Int32.toInt_inj.mp ?_
              show (tvI (tF h1 111 46)).toInt = 2
              have a4 : stN (tvI (tF h1 111 46)) ≤ 4 := hv4
              unfold stN at a4
              have a6 : ¬ (tvI (tF h1 111 46)).toInt < 0 := fun z => by rw [if_pos z] at a4; omega
              rw [if_neg a6] at a4
              have c29 : (2 : Int32).toInt = 2 := rfl
              have a5 : (tvI (tF h1 111 46)).toInt ≠ 4 := fun z => q981 (Int32.toInt_inj.mp z)
              have z0 := q983
              try dsimp only [tvI_i] at z0
              omega
            refine tw_virt0 rfl (g_behindValue hG hX gw.1 hv1 ((mFw_T gw).trans hT) ((mFw_n gw).trans hN) hv2 (Nat.le_trans hv3 (by decide)) (tst := tst) hT1 hst) (fun wp987 hp987 p987 => ?_)
            obtain ⟨rfl, gp987, op987⟩ := p987
            refine tw_goto rfl ?_
            have hm1 : mst h1 = (2, mSk h1, ms h1) := by unfold mst; rw [hst]; rfl
            rw [hm1] at hv6
            refine tG_cut (zW_mono zTt G dp) (Or.inr ⟨rfl, rfl, _, rfl, mFw_t gw (mFw_q gp987), (by rw [mFq_47 gp987]; exact hT1), ?_, rfl⟩)
            cases hy : mSt T n tst (2, mSk h1, ms h1) with
            | inl e =>
              have op987 : mOut (mSt T n tst (2, mSk h1, ms h1)) hp987 := op987
              rw [hy] at op987
              exact Or.inr ⟨e, op987.1, op987.2, mRe_t hv6 (mRe_f hy)⟩
            | inr x2 =>
              have op987 : mOut (mSt T n tst (2, mSk h1, ms h1)) hp987 := op987
              rw [hy] at op987
              obtain ⟨o1, o2, o3⟩ := op987
              have hdp := mSt_dp hv3 (by decide) hy
              have o4 := mRe_t hv6 (mRe_s hy mRe_0)
              rw [← o3] at hdp o4
              exact Or.inl ⟨o1, o2, hdp.1, hdp.2, o4⟩
/-! the model's clause, held against what the class found -/
section R8
variable {T : Nat → Int32} {n c k : Nat} {s s0 s1 s2 s9 : rS} {r : Nat ⊕ (rS × rCt)} {e th f0 : Nat}
theorem rM_bb {M p : Nat} : rM T n M (rB T n p) = rM T n M p := by
  unfold rM
  rw [rB_2]
theorem rCl_0 (h : rCl T n c s r) (hk : ∀ k, 12 ≤ k → k ≤ 15 → ¬ rW T n (rB T n s.1) (rWd k) = true) : r = .inl (1 + 8 * rB T n s.1 + 0) := by
  rcases h with ⟨_, h⟩ | ⟨j, h1, h2, h3, _⟩
  · exact h
  · exact absurd h3 (hk j h1 h2)
theorem rCl_w (h : rCl T n c s r) (h1 : 12 ≤ k) (h2 : k ≤ 15) (hw : rW T n (rB T n s.1) (rWd k) = true) : (c = 12 ∧ r = .inl (1 + 8 * rB T n s.1 + 4)) ∨ (c ≠ 12 ∧ rCl1 T n k (rA (rE T n (rB T n s.1)) s) r) := by
  rcases h with ⟨h, _⟩ | ⟨j, j1, j2, j3, h⟩
  · exact absurd hw (h k h1 h2)
  · obtain rfl := rW_ij (by omega) (by omega) j3 hw
    exact h
theorem rCl_cc (h : rCl T n c s r) (h1 : 12 ≤ k) (h2 : k ≤ 15) (hw : rW T n (rB T n s.1) (rWd k) = true) (hc : c = 12) : r = .inl (1 + 8 * rB T n s.1 + 4) := by
  rcases rCl_w h h1 h2 hw with ⟨_, z⟩ | ⟨z, _⟩
  · exact z
  · exact absurd hc z
theorem rCl_g (h : rCl T n c s r) (h1 : 12 ≤ k) (h2 : k ≤ 15) (hw : rW T n (rB T n s.1) (rWd k) = true) (hc : c ≠ 12) : rCl1 T n k (rA (rE T n (rB T n s.1)) s) r := by
  rcases rCl_w h h1 h2 hw with ⟨z, _⟩ | ⟨_, z⟩
  · exact absurd z hc
  · exact z
theorem rCl1_e (h : rCl1 T n k s0 r) (hk : k = 12) (hm : rM T n 2 s0.1 = .inl e) : r = .inl e := by
  rcases h with ⟨_, ⟨e2, h2, h3⟩ | ⟨q, h2, _⟩⟩ | ⟨z, _⟩
  · rw [hm] at h2; cases h2; exact h3
  · rw [hm] at h2; cases h2
  · exact absurd hk z
theorem rCl1_q {q : Nat × Nat} (h : rCl1 T n k s0 r) (hk : k = 12) (hm : rM T n 2 s0.1 = .inr q) : rCl2 T n k q.2 (rA q.1 s0) r := by
  rcases h with ⟨_, ⟨e2, h2, h3⟩ | ⟨q2, h2, h3⟩⟩ | ⟨z, _⟩
  · rw [hm] at h2; cases h2
  · rw [hm] at h2; cases h2; exact h3
  · exact absurd hk z
theorem rCl1_n (h : rCl1 T n k s0 r) (hk : k ≠ 12) : rCl2 T n k k s0 r := by
  rcases h with ⟨z, _⟩ | ⟨_, h⟩
  · exact absurd z hk
  · exact h
theorem rCl2_15 (h : rCl2 T n k th s1 r) (hk : k = 15) : rCl3 T n k th s1.2.2.length s1 r := by
  rcases h with ⟨_, h⟩ | ⟨z, _⟩
  · exact h
  · exact absurd hk z
theorem pE_mS {r : Nat ⊕ rS} {y : rMo} (h : pE T n 3 0 s r) (m : mRe T n false (1, [], s) y) (hy : mHt y) : y = mEnd (r.map id (fun z => rA (rB T n z.1) z)) := by
  obtain ⟨N, hN⟩ := h
  refine mRe_u m (mSum (hN N (Nat.le_refl _))) hy ?_
  cases r with
  | inl e => exact trivial
  | inr s2 => exact Nat.le_refl 4
theorem pE_mT {r : Nat ⊕ rS} {y : rMo} (h : pE T n 9 0 s r) (m : mRe T n true (0, [], s) y) (hy : mHt y) : y = mEnd (r.map id (fun z => rA (rB T n z.1) z)) := by
  obtain ⟨N, hN⟩ := h
  refine mRe_u m (mTst (hN N (Nat.le_refl _))) hy ?_
  cases r with
  | inl e => exact trivial
  | inr s2 => exact Nat.le_refl 4
theorem rCl2_e (h : rCl2 T n k th s1 r) (hk : k ≠ 15) (hm : mRe T n false (1, [], s1) (.inl e)) : r = .inl e := by
  rcases h with ⟨z, _⟩ | ⟨_, ⟨e2, h2, h3⟩ | ⟨s2, h2, _⟩⟩
  · exact absurd z hk
  · have z := pE_mS h2 hm trivial
    cases z
    exact h3
  · have z := pE_mS h2 hm trivial
    cases z
theorem rCl2_s {S : List Nat} (h : rCl2 T n k th s1 r) (hk : k ≠ 15) (hm : mRe T n false (1, [], s1) (.inr (4, S, s9))) : S = [] ∧ ∃ s2, s9 = rA (rB T n s2.1) s2 ∧ rCl3 T n k th s1.2.2.length s2 r := by
  rcases h with ⟨z, _⟩ | ⟨_, ⟨e2, h2, _⟩ | ⟨s2, h2, h3⟩⟩
  · exact absurd z hk
  · have z := pE_mS h2 hm (Nat.le_refl 4)
    cases z
  · have z := pE_mS h2 hm (Nat.le_refl 4)
    have z : (Sum.inr (4, S, s9) : rMo) = .inr (4, [], rA (rB T n s2.1) s2) := z
    cases z
    exact ⟨rfl, s2, rfl, h3⟩
theorem rCl3_e (h : rCl3 T n k th f0 s2 r) (hw : rW T n (rB T n s2.1) (rWd 16) = true) (hm : mRe T n true (0, [], rA (rB T n s2.1 + 2) s2) (.inl e)) : r = .inl e := by
  rcases h with ⟨_, ⟨e2, h2, h3⟩ | ⟨s3, h2, _⟩⟩ | ⟨z, _⟩ | ⟨z, _⟩
  · have z := pE_mT h2 hm trivial
    cases z
    exact h3
  · have z := pE_mT h2 hm trivial
    cases z
  · exact absurd hw z
  · exact absurd hw z
theorem rCl3_s {S : List Nat} (h : rCl3 T n k th f0 s2 r) (hw : rW T n (rB T n s2.1) (rWd 16) = true) (hm : mRe T n true (0, [], rA (rB T n s2.1 + 2) s2) (.inr (4, S, s9))) : S = [] ∧ ∃ s3, s9 = rA (rB T n s3.1) s3 ∧ r = .inr (s3, th, f0, s2.2.2.length, s3.2.2.length) := by
  rcases h with ⟨_, ⟨e2, h2, _⟩ | ⟨s3, h2, h3⟩⟩ | ⟨z, _⟩ | ⟨z, _⟩
  · have z := pE_mT h2 hm (Nat.le_refl 4)
    cases z
  · have z := pE_mT h2 hm (Nat.le_refl 4)
    have z : (Sum.inr (4, S, s9) : rMo) = .inr (4, [], rA (rB T n s3.1) s3) := z
    cases z
    exact ⟨rfl, s3, rfl, h3⟩
  · exact absurd hw z
  · exact absurd hw z
theorem rCl3_1 (h : rCl3 T n k th f0 s2 r) (hw : ¬ rW T n (rB T n s2.1) (rWd 16) = true) (hk : k = 15) : r = .inl (1 + 8 * rB T n s2.1 + 0) := by
  rcases h with ⟨z, _⟩ | ⟨_, _, h⟩ | ⟨_, z, _⟩
  · exact absurd z hw
  · exact h
  · exact absurd hk z
theorem rCl3_2 (h : rCl3 T n k th f0 s2 r) (hw : ¬ rW T n (rB T n s2.1) (rWd 16) = true) (hk : k ≠ 15) : r = .inr (rA (rB T n s2.1) s2, th, f0, s2.2.2.length, s2.2.2.length) := by
  rcases h with ⟨z, _⟩ | ⟨_, z, _⟩ | ⟨_, _, h⟩
  · exact absurd z hw
  · exact absurd z hk
  · exact h
end R8
/-! a whole clause's frame: what lies below lo stays -/
noncomputable def mFz (lo : Nat) (h h2 : zH) : Prop := tSh h2 ∧ (∀ p b, ¬ (p = 111 ∧ (mFs b ∨ b = 46 ∨ b = 47)) → tF h2 p b = tF h p b) ∧ (∀ p, p ≠ 133 → p ≠ 134 → p ≠ 142 → (p < 135 ∨ 139 < p) → tA h2 p = tA h p) ∧ tN h2 = tN h ∧ mLo h h2 ∧ ∀ p q, 135 ≤ p → p ≤ 139 → q < lo → tA h2 p q = tA h p q
noncomputable def mAs (p i : Nat) (x : Int32) (h h3 : zH) : Prop := tSh h3 ∧ tF h3 = tF h ∧ tN h3 = tN h ∧ tA h3 = fun q j => if q = p ∧ j = i then x else tA h q j
section MZ
variable {h h1 h2 h3 : zH} {b e lo p i : Nat} {X x : Int32}
theorem mFz_r (hs : tSh h) : mFz lo h h := ⟨hs, fun _ _ _ => rfl, fun _ _ _ _ _ => rfl, rfl, mLo_r, fun _ _ _ _ _ => rfl⟩
theorem mFz_w (k : mFw h h2) : mFz lo h h2 := ⟨k.1, k.2.1, fun p a b c _ => k.2.2.1 p a b c, k.2.2.2.1, k.2.2.2.2, fun p q h1 h2 _ => congrFun (k.2.2.1 p (by omega) (by omega) (by omega)) q⟩
theorem mFw_f (k : mFr h h2) : mFw h h2 := mFw_q (mFq_f k)
theorem mFz_t (a : mFz lo h h1) (k : mFz lo h1 h2) : mFz lo h h2 := ⟨k.1, fun p q z => (k.2.1 p q z).trans (a.2.1 p q z), fun p z w y v => (k.2.2.1 p z w y v).trans (a.2.2.1 p z w y v), k.2.2.2.1.trans a.2.2.2.1, mLo_t (a.2.1 111 30 (fun z => by have z := z.2; unfold mFs at z; omega)) a.2.2.2.2.1 k.2.2.2.2.1, fun p q z w v => (k.2.2.2.2.2 p q z w v).trans (a.2.2.2.2.2 p q z w v)⟩
theorem mFz_l {l2 : Nat} (hl : l2 ≤ lo) (a : mFz lo h h1) : mFz l2 h h1 := ⟨a.1, a.2.1, a.2.2.1, a.2.2.2.1, a.2.2.2.2.1, fun p q z w v => a.2.2.2.2.2 p q z w (by omega)⟩
theorem mFz_s (a : mFz lo h h1) (k : mSet b X h1 h2) (hb : mFs b ∨ b = 46 ∨ b = 47) : mFz lo h h2 := mFz_t a (mFz_w (mFw_s ⟨a.1, fun _ _ _ => rfl, fun _ _ _ _ => rfl, rfl, mLo_r⟩ k hb))
theorem mFz_a (a : mFz lo h h1) (k : mAs p i x h1 h2) (hp : 135 ≤ p ∧ p ≤ 139) (hi : lo ≤ i) : mFz lo h h2 := mFz_t a ⟨k.1, fun p q _ => by rw [k.2.1], fun q h1 h2 h3 h4 => by rw [k.2.2.2]; funext j; exact if_neg (fun z => by omega), k.2.2.1, fun q _ => ⟨by rw [k.2.2.2]; exact if_neg (fun z => by omega), by rw [k.2.2.2]; exact if_neg (fun z => by omega)⟩, fun q j h1 h2 h3 => by rw [k.2.2.2]; exact if_neg (fun z => by omega)⟩
theorem mFz_T (a : mFz lo h h1) : tA h1 132 = tA h 132 := a.2.2.1 132 (by decide) (by decide) (by decide) (by decide)
theorem mFz_i {q : Nat} (a : mFz lo h h1) (hq : ¬ (mFs q ∨ q = 46 ∨ q = 47)) : tF h1 111 q = tF h 111 q := a.2.1 111 q (fun z => hq z.2)
theorem mFz_27 (a : mFz lo h h1) : tF h1 111 27 = tF h 111 27 := mFz_i a (fun z => by unfold mFs at z; omega)
theorem mFz_30 (a : mFz lo h h1) : tF h1 111 30 = tF h 111 30 := mFz_i a (fun z => by unfold mFs at z; omega)
theorem mFz_n (a : mFz lo h h1) : mn h1 = mn h := by
  unfold mn
  rw [mFz_27 a]
theorem tG_ast {tt : zT} {G : zG} {cd : zK} {bc bs : Nat} {rt : Option FieldType} {M : zM} {Q : zQ} {Z : zX} {f : Bool} {pc : Nat} {L : zL} {st : List Value} {c n kd : Nat} {i : Int32} (hf : tIn h p kd i) (hs : tSh h) (k : ∀ h3, mAs p i.toNatClampNeg x h h3 → tG tt G cd bc bs rt M Q Z f pc L st h3 c n) : tG tt G cd bc bs rt M Q Z f pc L st (tSA h p i.toNatClampNeg x) c n := k _ ⟨tSh_SA hs, tF_tSA _ _ _ _, tN_tSA _ _ _ _, tA_tSA hf.cell _ _⟩
theorem mAs_x (k : mAs p i x h h3) : tA h3 p i = x := by rw [k.2.2.2]; exact if_pos ⟨rfl, rfl⟩
theorem mAs_o {q j : Nat} (k : mAs p i x h h3) (hq : q ≠ p) : tA h3 q j = tA h q j := by rw [k.2.2.2]; exact if_neg (fun z => hq z.1)
theorem mAs_A {q : Nat} (k : mAs p i x h h3) (hq : q ≠ p) : tA h3 q = tA h q := by funext j; exact mAs_o k hq
theorem mAs_P (k : mAs p i x h h3) (hp : 135 ≤ p ∧ p ≤ 139) (P : mP h) : mP h3 := by
  unfold mP
  rw [k.2.1, k.2.2.1, mAs_A k (q := 142) (by omega)]
  exact P
theorem mAs_m (k : mAs p i x h h3) (hp : 135 ≤ p ∧ p ≤ 139) : ms h3 = ms h ∧ mSk h3 = mSk h := by
  unfold ms mEn mSk
  rw [k.2.1, mAs_A k (q := 142) (by omega), mAs_A k (q := 133) (by omega), mAs_A k (q := 134) (by omega)]
  exact ⟨rfl, rfl⟩
theorem mAs_F {w : Nat} (k : mAs p i x h h3) (F : mFt h w) : mFt h3 w := by
  unfold mFt
  rw [k.2.1]
  exact F
theorem mAs_Z (k : mAs p i x h h3) (z : mZp h) : mZp h3 := mZp_k z (by rw [k.2.1]) (by rw [k.2.1])
/-- a clause as it stands in its row -/
noncomputable def mRow (h : zH) (i : Nat) : rCt := (if (tA h 135 i).toNatClampNeg = 0 ∧ (tA h 136 i).toNatClampNeg < 12 then (tA h 136 i).toNatClampNeg else 12 + (tA h 135 i).toNatClampNeg + 100 * (tA h 136 i).toNatClampNeg, (tA h 137 i).toNatClampNeg, (tA h 138 i).toNatClampNeg, (tA h 139 i).toNatClampNeg)
theorem mEn_len : (mEn h).length = (tvI (tF h 111 31)).toNatClampNeg := by unfold mEn; rw [List.length_map, List.length_range]
theorem rB_A {T : Nat → Int32} {n : Nat} {s : rS} : rA (rB T n (rA (rB T n s.1) s).1) (rA (rB T n s.1) s) = rA (rB T n s.1) s := by
  show rA (rB T n (rB T n s.1)) _ = _
  rw [rB_2]
  rfl
end MZ
theorem zl_14 {k : Nat} (hk : k < 4) : (ztx (k + 14)).length ≤ 200 ∧ 0 < (ztx (k + 14)).length := zl_lo (k + 12) (by omega)
theorem rWd_14 {k : Nat} (hk : k < 4) : rWd (k + 12) = ztx (k + 14) := rWd_lo (k + 12) (by omega)
theorem mFw_A {h h2 : zH} {p : Nat} (k : mFw h h2) (hp : 135 ≤ p ∧ p ≤ 139) : tA h2 p = tA h p := k.2.2.1 p (by omega) (by omega) (by omega)
theorem mFt_pos {h : zH} {e : Nat} (k : mFt h e) : 0 < e ∧ e < 100000 := k.2
theorem mSk_0 {h : zH} (d : mD h) (e : mSk h = []) : tvI (tF h 111 32) = 0 := by
  refine Int32.toInt_inj.mp (d.trans ?_)
  rw [e]
  rfl
theorem rA_1 {b : Nat} {s : rS} : (rA b s).1 = b := rfl
theorem rA_A {b v : Nat} {s : rS} : rA v (rA b s) = rA v s := rfl
theorem mIx {a y : Int32} {c : Nat} (ha : 0 ≤ a.toInt ∧ a.toInt ≤ 10) (hy : y.toInt = c) (hc : c ≤ 12) : (12 * a + y).toNatClampNeg = 12 * a.toNatClampNeg + c := by
  have n1 : (12 * a).toInt = 12 * a.toInt := by
    rw [Int32.toInt_mul, show (12 : Int32).toInt = 12 from rfl]
    exact Int.bmod_eq_of_le (by show (-2147483648 : Int) ≤ 12 * a.toInt; omega) (by show 12 * a.toInt < (2147483648 : Int); omega)
  have n2 : (12 * a + y).toInt = 12 * a.toInt + c := by
    rw [Int32.toInt_add, n1, hy]
    exact Int.bmod_eq_of_le (by show (-2147483648 : Int) ≤ 12 * a.toInt + c; omega) (by show 12 * a.toInt + c < (2147483648 : Int); omega)
  rw [zclE, zclE, n2]
  omega
noncomputable def mCo (T : Nat → Int32) (n I : Nat) (r : Nat ⊕ (rS × rCt)) (h2 : zH) : Prop := match r with
  | .inl e => mFt h2 e ∧ mZp h2
  | .inr x => mP h2 ∧ ms h2 = rA (rB T n x.1.1) x.1 ∧ tvI (tF h2 111 32) = 0 ∧ mRow h2 I = x.2
theorem mCo_l {T : Nat → Int32} {n I e : Nat} {r : Nat ⊕ (rS × rCt)} {h2 : zH} (hr : r = .inl e) (F : mFt h2 e) (Z : mZp h2) : mCo T n I r h2 := by
  rw [hr]
  exact ⟨F, Z⟩
theorem mCo_r {T : Nat → Int32} {n I : Nat} {r : Nat ⊕ (rS × rCt)} {h2 : zH} {s : rS} {t : rCt} (hr : r = .inr (s, t)) (p : mP h2) (e : ms h2 = rA (rB T n s.1) s) (d : tvI (tF h2 111 32) = 0) (w : mRow h2 I = t) : mCo T n I r h2 := by
  rw [hr]
  exact ⟨p, e, d, w⟩
theorem y_blanks {G : zG} (hG : G.1 = zProg) (hX : G.2.1 = ztx) {h : zH} {T : Nat → Int32} {n : Nat} (hs : tSh h) {ef : Nat} (hp : mFt h ef) (hT : tA h 132 = T) (hN : mn h = n) (h0 : mZp h) : tC zTt G 203 [.ref 111] h (fun w h2 => w = none ∧ mFr h h2 ∧ mFt h2 ef ∧ mZp h2) := by
  refine tC_in (by rw [hG]; rfl) (fun dp => ?_)
  have g0 := mFr_r hs
  refine tG_loop (zW_mono zTt G dp) (zW_conj zTt G dp) (V := fun pc L st h9 _ _ => pc = 0 ∧ st = [] ∧ ∃ h1, h1 = h9 ∧ mFr h h1 ∧ mFt h1 ef ∧ mZp h1 ∧ L = [some (.ref 111)]) ?_ (⟨rfl, rfl, _, rfl, g0, hp, h0, rfl⟩)
  rintro _ _ _ _ _ _ ⟨rfl, rfl, h1, rfl, g1, z1, h0, rfl⟩
  refine tw_aload rfl rfl ?_
  refine tw_virt0 rfl (g_sign hG hX (g1).1 ((mFr_T g1).trans hT) ((mFr_n g1).trans hN) h0.1) (fun wp988 hp988 p988 => ?_)
  obtain ⟨⟨cp988, rfl, kp988⟩, rfl⟩ := p988
  refine tw_push rfl ?_
  refine tw_ic_ne rfl (fun q989 => ?_) (fun q989 => ?_)
  · try dsimp only [tvI_i, tvJ_j, tvR_r] at q989
    have q989i := zneq (Y := 32) (by decide) q989
    exact tw_vret rfl ⟨rfl, g1, z1, h0⟩
  · try dsimp only [tvI_i, tvJ_j, tvR_r] at q989
    have q989i := zeqi (Y := 32) (by decide) q989
    refine tw_aload rfl rfl ?_
    refine tw_dup rfl ?_
    refine tw_getS rfl (hi_111_28 (g1).1) ?_
    refine tw_push rfl ?_
    refine tw_iadd rfl ?_
    refine tw_put rfl (fun f990 => ?_)
    refine tG_setm f990 (hw_111_28 f990 (g1).1) (fun hf990 ef990 => ?_)
    try dsimp only [tvI_i] at ef990
    have gf990 := mFr_s g1 ef990 (by unfold mFs; omega)
    have zf990 := mFt_s z1 ef990 (by decide)
    have wf990 := (sgm_k kp988 32 (by decide)).mp q989
    have if990 : mZp hf990 := by
      have y := (mpos h0.1).mpr (by rw [((mFr_n g1).trans hN)]; exact wf990.1)
      have a := zj1 h0.1.1 y
      have b := h0
      unfold mZp at b ⊢
      rw [mI_x ef990, mI_o ef990 (by decide), a]
      exact ⟨⟨by omega, by omega⟩, by omega, by omega⟩
    refine tw_goto rfl ?_
    exact tG_cut (zW_mono zTt G dp) (Or.inr ⟨rfl, rfl, _, rfl, gf990, zf990, if990, rfl⟩)
theorem g_clause {G : zG} (hG : G.1 = zProg) (hX : G.2.1 = ztx) {h : zH} {T : Nat → Int32} {n : Nat} (hs : tSh h) (hp : mP h) (hT : tA h 132 = T) (hN : mn h = n) {y : Int32} {c I : Nat} (hy : y.toInt = c) (hc : c ≤ 12) (hI : I = 12 * (tvI (tF h 111 30)).toNatClampNeg + c) (hd9 : tvI (tF h 111 32) = 0) {r : Nat ⊕ (rS × rCt)} (hr0 : rCl T n c (ms h) r) : tC zTt G 224 [.ref 111, .int y] h (fun w h2 => w = none ∧ mFz I h h2 ∧ mCo T n I r h2) := by
  refine tC_in (by rw [hG]; rfl) (fun dp => ?_)
  have g0 : mFz I h h := mFz_r hs
  have hpn : (ms h).1 ≤ n := mPle hp hN
  have hn4 : n ≤ 400 := by have a := mNl hp hN; have b := hp.2.1; omega
  have c09 : (0 : Int32).toInt = 0 := rfl
  have c39 : (3 : Int32).toInt = 3 := rfl
  have c49 : (4 : Int32).toInt = 4 := rfl
  have c129 : (12 : Int32).toInt = 12 := rfl
  refine tw_aload rfl rfl ?_
  refine tw_virt0 rfl (g_blanks hG hX (g0).1 hp ((mFz_T g0).trans hT) ((mFz_n g0).trans hN)) (fun wp991 hp991 p991 => ?_)
  obtain ⟨rfl, gp991, pp991e, sp991, tp991, dp991⟩ := p991
  have gwp991 := mFw_f gp991
  have gzp991 : mFz I h hp991 := mFz_t g0 (mFz_w gwp991)
  have Dp991 : tvI (tF hp991 111 32) = 0 := by rw [dp991]; exact hd9
  have Sp991 : ms hp991 = (rA (rB T n (ms h).1) (ms h)) := sp991
  refine tw_aload rfl rfl ?_
  refine tw_getS rfl (hi_111_28 gzp991.1) ?_
  refine tw_istore rfl ?_
  refine tw_push rfl ?_
  refine tw_istore rfl ?_
  refine tG_loop (zW_mono zTt G dp) (zW_conj zTt G dp) (V := fun pc L st h9 _ _ => pc = 11 ∧ st = [] ∧ hp991 = h9 ∧ ∃ (k : Nat) (x : Int32), x.toInt = k ∧ k ≤ 4 ∧ (∀ i, i < k → ¬ rW T n (rB T n (ms h).1) (rWd (i + 12)) = true) ∧ L = [some (.ref 111), some (.int y), some (.int (tvI (tF hp991 111 28))), some (.int x), none, none]) ?_ (⟨rfl, rfl, rfl, 0, 0, rfl, by decide, fun i hi => absurd hi (Nat.not_lt_zero _), rfl⟩)
  rintro _ _ _ _ _ _ ⟨rfl, rfl, rfl, k, x, hx, hk5, hall, rfl⟩
  refine tw_iload rfl rfl ?_
  refine tw_push rfl ?_
  refine tw_ic_ge rfl (fun q992 => ?_) (fun q992 => ?_)
  · try dsimp only [tvI_i, tvJ_j, tvR_r] at q992
    refine tw_iload rfl rfl ?_
    refine tw_push rfl ?_
    refine tw_ic_ne rfl (fun q993 => ?_) (fun q993 => ?_)
    · try dsimp only [tvI_i, tvJ_j, tvR_r] at q993
      have q993i := zneq (Y := 4) (by decide) q993
      exfalso
      have z1 := q992
      have z2 := q993i
      omega
    · try dsimp only [tvI_i, tvJ_j, tvR_r] at q993
      have q993i := zeqi (Y := 4) (by decide) q993
      refine tw_aload rfl rfl ?_
      refine tw_push rfl ?_
      refine tw_iload rfl rfl ?_
      refine tw_virt2 rfl (g_fails hG hX (gzp991).1 pp991e ((mFz_T gzp991).trans hT) ((mFz_n gzp991).trans hN) (w := 0) rfl (by decide) (mPl pp991e) (by have := mPle pp991e ((mFz_n gzp991).trans hN); have := mNl pp991e ((mFz_n gzp991).trans hN); have := pp991e.2.1; omega)) (fun wp994 hp994 p994 => ?_)
      obtain ⟨rfl, gp994, Fp994, ip994, jp994⟩ := p994
      have gwp994 := mFw_f gp994
      have gzp994 : mFz I h hp994 := mFz_t gzp991 (mFz_w gwp994)
      have Zp994 : mZp hp994 := mZp_k (mZp_p pp991e) ip994 jp994
      rw [Sp991, rA_1] at Fp994
      have hk : k = 4 := by have z := q993i; omega
      have hr := rCl_0 hr0 (fun j h1 h2 => by have z := hall (j - 12) (by omega); rw [show j - 12 + 12 = j by omega] at z; exact z)
      exact tw_vret rfl ⟨rfl, gzp994, mCo_l hr Fp994 Zp994⟩
  · try dsimp only [tvI_i, tvJ_j, tvR_r] at q992
    refine tw_aload rfl rfl ?_
    refine tw_iload rfl rfl ?_
    refine tw_stat1 rfl (g_thingName hG (k := k) hx (by have z := q992; omega)) (fun wp995 hp995 p995 => ?_)
    obtain ⟨rfl, rfl⟩ := p995
    refine tw_virt1 rfl (g_stands hG hX (gzp991).1 ((mFz_T gzp991).trans hT) ((mFz_n gzp991).trans hN) (q := (k + 14)) (zl_14 (by have z := q992; omega)).1 ⟨pp991e.2.1.1, by have := pp991e.2.1; omega⟩ ⟨by have := pp991e.2.1; omega, pp991e.2.1.2.2⟩) (fun w9 h9 p996 => ?_)
    obtain ⟨⟨p996, rfl⟩ | ⟨p996, rfl⟩, rfl⟩ := p996
    · try dsimp only [tvI_i, tvJ_j, tvR_r] at p996
      refine tw_if_ne rfl (fun _ => ?_) (fun z => absurd z (by decide))
      refine tw_iload rfl rfl ?_
      refine tw_push rfl ?_
      refine tw_ic_ne rfl (fun q997 => ?_) (fun q997 => ?_)
      · try dsimp only [tvI_i, tvJ_j, tvR_r] at q997
        have q997i := zneq (Y := 4) (by decide) q997
        refine tw_iload rfl rfl ?_
        refine tw_push rfl ?_
        refine tw_ic_ne rfl (fun q998 => ?_) (fun q998 => ?_)
        · try dsimp only [tvI_i, tvJ_j, tvR_r] at q998
          have q998i := zneq (Y := 12) (by decide) q998
          refine tw_aload rfl rfl ?_
          refine tw_dup rfl ?_
          refine tw_getS rfl (hi_111_28 (gzp991).1) ?_
          refine tw_iload rfl rfl ?_
          have hk4 : k < 4 := by have z := q992; omega
          refine tw_stat1 rfl (g_thingName hG (k := k) hx hk4) (fun wp999 hp999 p999 => ?_)
          obtain ⟨rfl, rfl⟩ := p999
          refine tw_tlen rfl ?_
          refine tw_iadd rfl ?_
          refine tw_put rfl (fun f1000 => ?_)
          refine tG_setm f1000 (hw_111_28 f1000 (gzp991).1) (fun hf1000 ef1000 => ?_)
          try dsimp only [tvI_i] at ef1000
          have gf1000 : mFz I h hf1000 := mFz_s gzp991 ef1000 (Or.inl (by unfold mFs; omega))
          have hk4 : k < 4 := by have z := q992; omega
          have hw : rW T n (rB T n (ms h).1) (rWd (k + 12)) = true := by have z := p996; rw [Sp991, rA_1] at z; rw [rWd_14 hk4]; exact z
          have hcn : c ≠ 12 := by have z := q998i; omega
          have K1 := rCl_g hr0 (k := k + 12) (by omega) (by omega) hw hcn
          have hre : rE T n (rB T n (ms h).1) = (rB T n (ms h).1) + (ztx (k + 14)).length := by rw [rW_e hw, rWd_14 hk4]
          have hre2 := rE_le (T := T) (rB_le (T := T) hpn)
          have hln : (Int32.ofNat (G.2.1 (k + 14)).length).toInt = ((ztx (k + 14)).length : Int) := by rw [hX]; exact zofI (by have := (zl_14 hk4).1; omega)
          obtain ⟨pf1000, sf1000, tf1000⟩ := mTo pp991e ((mFz_n gzp991).trans hN) ef1000 (v := (rB T n (ms h).1) + (ztx (k + 14)).length) (zadN (a := (rB T n (ms h).1)) (by rw [mPl pp991e, Sp991, rA_1]) hln (by omega) (by have := (zl_14 hk4).1; omega)) (by omega)
          have Sf1000 : ms hf1000 = (rA (rE T n (rB T n (ms h).1)) (ms h)) := by rw [sf1000, Sp991, ← hre, rA_A]
          have Df1000 : tvI (tF hf1000 111 32) = 0 := by rw [mI_o ef1000 (by decide)]; exact Dp991
          have gwf1000 : tA hf1000 = tA hp991 := ef1000.2.2.2.1
          refine tw_push rfl ?_
          refine tw_aload rfl rfl ?_
          refine tw_getS rfl (hi_111_30 (gf1000).1) ?_
          refine tw_imul rfl ?_
          refine tw_iload rfl rfl ?_
          refine tw_iadd rfl ?_
          refine tw_istore rfl ?_
          refine tw_aload rfl rfl ?_
          refine tw_getS rfl (hs_111_38 (gf1000).1) ?_
          refine tw_iload rfl rfl ?_
          refine tw_iload rfl rfl ?_
          refine tw_iast rfl (fun f1001 => ?_)
          have hI9 : (12 * tvI (tF hf1000 111 30) + y).toNatClampNeg = I := by rw [mIx (pf1000.2.2.2.2.2.1) hy hc, show tF hf1000 111 30 = tF h 111 30 from mFz_30 gf1000, ← hI]
          refine tG_ast f1001 (gf1000).1 (fun hf1001 af1001 => ?_)
          try dsimp only [tvI_i, tvR_r] at af1001
          rw [hI9] at af1001
          have gf1001 : mFz I h hf1001 := mFz_a gf1000 af1001 (by decide) (Nat.le_refl _)
          have pf1001 := mAs_P af1001 (by decide) pf1000
          have Sf1001 : ms hf1001 = (rA (rE T n (rB T n (ms h).1)) (ms h)) := (mAs_m af1001 (by decide)).1.trans Sf1000
          have Df1001 : tvI (tF hf1001 111 32) = 0 := by rw [af1001.2.1]; exact Df1000
          refine tw_aload rfl rfl ?_
          refine tw_getS rfl (hs_111_39 (gf1001).1) ?_
          refine tw_iload rfl rfl ?_
          refine tw_push rfl ?_
          refine tw_iast rfl (fun f1002 => ?_)
          refine tG_ast f1002 (gf1001).1 (fun hf1002 af1002 => ?_)
          try dsimp only [tvI_i, tvR_r] at af1002
          rw [hI9] at af1002
          have gf1002 : mFz I h hf1002 := mFz_a gf1001 af1002 (by decide) (Nat.le_refl _)
          have pf1002 := mAs_P af1002 (by decide) pf1001
          have Sf1002 : ms hf1002 = (rA (rE T n (rB T n (ms h).1)) (ms h)) := (mAs_m af1002 (by decide)).1.trans Sf1001
          have Df1002 : tvI (tF hf1002 111 32) = 0 := by rw [af1002.2.1]; exact Df1001
          refine tw_iload rfl rfl ?_
          refine tw_if_ne rfl (fun q1003 => ?_) (fun q1003 => ?_)
          · try dsimp only [tvI_i, tvJ_j, tvR_r] at q1003
            have q1003i := zneq (Y := 0) (by decide) q1003
            refine tw_aload rfl rfl ?_
            refine tw_getS rfl (hs_111_40 (gf1002).1) ?_
            refine tw_iload rfl rfl ?_
            refine tw_aload rfl rfl ?_
            refine tw_getS rfl (hi_111_31 (gf1002).1) ?_
            refine tw_iast rfl (fun f1004 => ?_)
            have Lf1004 : (tvI (tF hf1002 111 31)).toNatClampNeg = (rA (rE T n (rB T n (ms h).1)) (ms h)).2.2.length := by rw [← mEn_len]; exact congrArg (fun z : rS => z.2.2.length) Sf1002
            have K2 : rCl2 T n (k + 12) (k + 12) (rA (rE T n (rB T n (ms h).1)) (ms h)) r := rCl1_n K1 (by have z := q1003i; omega)
            refine tG_ast f1004 (gf1002).1 (fun hf1004 af1004 => ?_)
            try dsimp only [tvI_i, tvR_r] at af1004
            rw [hI9] at af1004
            have gf1004 : mFz I h hf1004 := mFz_a gf1002 af1004 (by decide) (Nat.le_refl _)
            have pf1004 := mAs_P af1004 (by decide) pf1002
            have Sf1004 : ms hf1004 = (rA (rE T n (rB T n (ms h).1)) (ms h)) := (mAs_m af1004 (by decide)).1.trans Sf1002
            have Df1004 : tvI (tF hf1004 111 32) = 0 := by rw [af1004.2.1]; exact Df1002
            refine tw_iload rfl rfl ?_
            refine tw_push rfl ?_
            refine tw_ic_eq rfl (fun q1005 => ?_) (fun q1005 => ?_)
            · try dsimp only [tvI_i, tvJ_j, tvR_r] at q1005
              have q1005i := zeqi (Y := 3) (by decide) q1005
              refine tw_aload rfl rfl ?_
              refine tw_getS rfl (hs_111_41 (gf1004).1) ?_
              refine tw_iload rfl rfl ?_
              refine tw_aload rfl rfl ?_
              refine tw_getS rfl (hi_111_31 (gf1004).1) ?_
              refine tw_iast rfl (fun f1006 => ?_)
              have Lf1006 : (tvI (tF hf1004 111 31)).toNatClampNeg = (rA (rE T n (rB T n (ms h).1)) (ms h)).2.2.length := by rw [← mEn_len]; exact congrArg (fun z : rS => z.2.2.length) Sf1004
              refine tG_ast f1006 (gf1004).1 (fun hf1006 af1006 => ?_)
              try dsimp only [tvI_i, tvR_r] at af1006
              rw [hI9] at af1006
              have gf1006 : mFz I h hf1006 := mFz_a gf1004 af1006 (by decide) (Nat.le_refl _)
              have pf1006 := mAs_P af1006 (by decide) pf1004
              have Sf1006 : ms hf1006 = (rA (rE T n (rB T n (ms h).1)) (ms h)) := (mAs_m af1006 (by decide)).1.trans Sf1004
              have Df1006 : tvI (tF hf1006 111 32) = 0 := by rw [af1006.2.1]; exact Df1004
              refine tw_aload rfl rfl ?_
              obtain ⟨s2, hs2⟩ : ∃ s2, (rA (rE T n (rB T n (ms h).1)) (ms h)) = s2 := ⟨_, rfl⟩
              have K3 := rCl2_15 K2 (by have z := q1005i; omega)
              rw [hs2] at K3
              have sm2 := Sf1006.trans hs2
              refine tw_virt0 rfl (g_blanks hG hX (gf1006).1 pf1006 ((mFz_T gf1006).trans hT) ((mFz_n gf1006).trans hN)) (fun wp1007 hp1007 p1007 => ?_)
              obtain ⟨rfl, gp1007, pp1007e, sp1007, tp1007, dp1007⟩ := p1007
              have gwp1007 := mFw_f gp1007
              have gzp1007 : mFz I h hp1007 := mFz_t gf1006 (mFz_w gwp1007)
              have Dp1007 : tvI (tF hp1007 111 32) = 0 := by rw [dp1007]; exact Df1006
              have Sp1007 : ms hp1007 = (rA (rB T n s2.1) s2) := (by rw [sp1007, sm2])
              refine tw_aload rfl rfl ?_
              refine tw_push rfl ?_
              refine tw_virt1 rfl (g_stands hG hX (gzp1007).1 ((mFz_T gzp1007).trans hT) ((mFz_n gzp1007).trans hN) (q := 21) (by decide +kernel) ⟨pp1007e.2.1.1, by have := pp1007e.2.1; omega⟩ ⟨by have := pp1007e.2.1; omega, pp1007e.2.1.2.2⟩) (fun w9 h9 p1008 => ?_)
              obtain ⟨⟨p1008, rfl⟩ | ⟨p1008, rfl⟩, rfl⟩ := p1008
              · try dsimp only [tvI_i, tvJ_j, tvR_r] at p1008
                refine tw_istore rfl ?_
                refine tw_iload rfl rfl ?_
                refine tw_push rfl ?_
                refine tw_ic_ne rfl (fun q1009 => ?_) (fun q1009 => ?_)
                · try dsimp only [tvI_i, tvJ_j, tvR_r] at q1009
                  have q1009i := zneq (Y := 3) (by decide) q1009
                  exact absurd q1005 q1009
                · try dsimp only [tvI_i, tvJ_j, tvR_r] at q1009
                  have q1009i := zeqi (Y := 3) (by decide) q1009
                  refine tw_iload rfl rfl ?_
                  refine tw_if_ne rfl (fun _ => ?_) (fun z => absurd z (by decide))
                  refine tw_iload rfl rfl ?_
                  refine tw_if_eq rfl (fun z => absurd z (by decide)) (fun _ => ?_)
                  refine tw_aload rfl rfl ?_
                  refine tw_getS rfl (hi_111_29 gzp1007.1) ?_
                  refine tw_if_ne rfl (fun q1010 => ?_) (fun q1010 => ?_)
                  · try dsimp only [tvI_i, tvJ_j, tvR_r] at q1010
                    have q1010i := zneq (Y := 0) (by decide) q1010
                    exact absurd (mP_0 pp1007e) q1010
                  · try dsimp only [tvI_i, tvJ_j, tvR_r] at q1010
                    have q1010i := zeqi (Y := 0) (by decide) q1010
                    refine tw_aload rfl rfl ?_
                    refine tw_dup rfl ?_
                    refine tw_getS rfl (hi_111_28 gzp1007.1) ?_
                    refine tw_push rfl ?_
                    refine tw_iadd rfl ?_
                    refine tw_put rfl (fun f1011 => ?_)
                    have hw16 : rW T n (rB T n s2.1) (rWd 16) = true := by have z := p1008; rw [Sp1007, rA_1] at z; exact z
                    refine tG_setm f1011 (hw_111_28 f1011 (gzp1007).1) (fun hf1011 ef1011 => ?_)
                    try dsimp only [tvI_i] at ef1011
                    have gf1011 : mFz I h hf1011 := mFz_s gzp1007 ef1011 (Or.inl (by unfold mFs; omega))
                    have h9w : rE T n (rB T n s2.1) = rB T n s2.1 + 2 := by rw [rW_e hw16, wlen_k.2.2.2]
                    have hpB : rB T n s2.1 ≤ n := by have z := mPle pp1007e ((mFz_n gzp1007).trans hN); rw [Sp1007, rA_1] at z; exact z
                    have hr9 := rE_le (T := T) hpB
                    rw [h9w] at hr9
                    obtain ⟨pf1011, sf1011, tf1011⟩ := mTo pp1007e ((mFz_n gzp1007).trans hN) ef1011 (v := rB T n s2.1 + 2) (zadN (a := rB T n s2.1) (b := 2) (by rw [mPl pp1007e, Sp1007, rA_1]) rfl (by omega) (by decide)) (by omega)
                    have Sf1011 : ms hf1011 = (rA (rB T n s2.1 + 2) s2) := by rw [sf1011, Sp1007, rA_A]
                    have Df1011 : tvI (tF hf1011 111 32) = 0 := by rw [mI_o ef1011 (by decide)]; exact Dp1007
                    have gwf1011 : tA hf1011 = tA hp1007 := ef1011.2.2.2.1
                    refine tw_aload rfl rfl ?_
                    refine tw_push rfl ?_
                    refine tw_virt1 rfl (g_readsR hG hX (gf1011).1 pf1011 ((mFz_T gf1011).trans hT) ((mFz_n gf1011).trans hN) (x := 0) (tst := true) (by decide) (by decide) ⟨fun _ => rfl, fun _ => rfl⟩ Df1011) (fun w9 hp1012 p1012 => ?_)
                    obtain ⟨rfl, gp1012, ⟨pp1012e, dp1012, mp1012⟩ | ⟨ep1012, Fp1012, Zp1012, mp1012⟩⟩ := p1012
                    · have gwp1012 := id gp1012
                      have gzp1012 : mFz I h hp1012 := mFz_t gf1011 (mFz_w gwp1012)
                      have m9 := mp1012
                      rw [Sf1011, show stN 0 = 0 from rfl] at m9
                      obtain ⟨hS3, s3, hs3, hr⟩ := rCl3_s K3 hw16 m9
                      have Dp1012 := mSk_0 dp1012 hS3
                      refine tw_aload rfl rfl ?_
                      refine tw_getS rfl (hs_111_42 gzp1012.1) ?_
                      refine tw_iload rfl rfl ?_
                      refine tw_aload rfl rfl ?_
                      refine tw_getS rfl (hi_111_31 gzp1012.1) ?_
                      refine tw_iast rfl (fun f1013 => ?_)
                      have Lf1013 : (tvI (tF hp1012 111 31)).toNatClampNeg = (rA (rB T n s3.1) s3).2.2.length := by rw [← mEn_len]; exact congrArg (fun z : rS => z.2.2.length) hs3
                      refine tG_ast f1013 (gzp1012).1 (fun hf1013 af1013 => ?_)
                      try dsimp only [tvI_i, tvR_r] at af1013
                      rw [hI9] at af1013
                      have gf1013 : mFz I h hf1013 := mFz_a gzp1012 af1013 (by decide) (Nat.le_refl _)
                      have pf1013 := mAs_P af1013 (by decide) pp1012e
                      have Sf1013 : ms hf1013 = (rA (rB T n s3.1) s3) := (mAs_m af1013 (by decide)).1.trans hs3
                      have Df1013 : tvI (tF hf1013 111 32) = 0 := by rw [af1013.2.1]; exact Dp1012
                      have c135 : tA hf1013 135 I = x := ((congrFun ((mAs_A af1013 (q := 135) (by decide)).trans ((mFw_A gwp1012 (p := 135) (by decide)).trans ((congrFun gwf1011 135).trans ((mFw_A gwp1007 (p := 135) (by decide)).trans ((mAs_A af1006 (q := 135) (by decide)).trans ((mAs_A af1004 (q := 135) (by decide)).trans (mAs_A af1002 (q := 135) (by decide)))))))) I).trans (mAs_x af1001))
                      have c137 : (tA hf1013 137 I).toNatClampNeg = (rA (rE T n (rB T n (ms h).1)) (ms h)).2.2.length := by rw [((congrFun ((mAs_A af1013 (q := 137) (by decide)).trans ((mFw_A gwp1012 (p := 137) (by decide)).trans ((congrFun gwf1011 137).trans ((mFw_A gwp1007 (p := 137) (by decide)).trans (mAs_A af1006 (q := 137) (by decide)))))) I).trans (mAs_x af1004))]; exact Lf1004
                      have c138 : (tA hf1013 138 I).toNatClampNeg = (rA (rE T n (rB T n (ms h).1)) (ms h)).2.2.length := by rw [((congrFun ((mAs_A af1013 (q := 138) (by decide)).trans ((mFw_A gwp1012 (p := 138) (by decide)).trans ((congrFun gwf1011 138).trans (mFw_A gwp1007 (p := 138) (by decide))))) I).trans (mAs_x af1006))]; exact Lf1006
                      have c139 : (tA hf1013 139 I).toNatClampNeg = (rA (rB T n s3.1) s3).2.2.length := by rw [(mAs_x af1013)]; exact Lf1013
                      have c136 : (tA hf1013 136 I).toNatClampNeg = 0 := by rw [((congrFun ((mAs_A af1013 (q := 136) (by decide)).trans ((mFw_A gwp1012 (p := 136) (by decide)).trans ((congrFun gwf1011 136).trans ((mFw_A gwp1007 (p := 136) (by decide)).trans ((mAs_A af1006 (q := 136) (by decide)).trans (mAs_A af1004 (q := 136) (by decide))))))) I).trans (mAs_x af1002))]; rfl
                      have hrow : mRow hf1013 I = ((k + 12), (rA (rE T n (rB T n (ms h).1)) (ms h)).2.2.length, (rA (rE T n (rB T n (ms h).1)) (ms h)).2.2.length, (rA (rB T n s3.1) s3).2.2.length) := by
                        unfold mRow
                        rw [c135, c137, c138, c139, zof_cl hx, c136, if_neg (fun y => by have z := q1003i; have y := y.1; omega), Nat.mul_zero, Nat.add_zero, Nat.add_comm]
                      rw [hs2] at hrow
                      exact tw_vret rfl ⟨rfl, gf1013, mCo_r hr pf1013 Sf1013 Df1013 hrow⟩
                    · have gwp1012 := id gp1012
                      have gzp1012 : mFz I h hp1012 := mFz_t gf1011 (mFz_w gwp1012)
                      have m9 := mp1012
                      rw [Sf1011, show stN 0 = 0 from rfl] at m9
                      have hr := rCl3_e K3 hw16 m9
                      refine tw_aload rfl rfl ?_
                      refine tw_getS rfl (hs_111_42 gzp1012.1) ?_
                      refine tw_iload rfl rfl ?_
                      refine tw_aload rfl rfl ?_
                      refine tw_getS rfl (hi_111_31 gzp1012.1) ?_
                      refine tw_iast rfl (fun f1014 => ?_)
                      refine tG_ast f1014 (gzp1012).1 (fun hf1014 af1014 => ?_)
                      try dsimp only [tvI_i, tvR_r] at af1014
                      rw [hI9] at af1014
                      have gf1014 : mFz I h hf1014 := mFz_a gzp1012 af1014 (by decide) (Nat.le_refl _)
                      have Ff1014 := mAs_F af1014 Fp1012
                      have Zf1014 := mAs_Z af1014 Zp1012
                      exact tw_vret rfl ⟨rfl, gf1014, mCo_l hr Ff1014 Zf1014⟩
              · try dsimp only [tvI_i, tvJ_j, tvR_r] at p1008
                refine tw_istore rfl ?_
                refine tw_iload rfl rfl ?_
                refine tw_push rfl ?_
                refine tw_ic_ne rfl (fun q1015 => ?_) (fun q1015 => ?_)
                · try dsimp only [tvI_i, tvJ_j, tvR_r] at q1015
                  have q1015i := zneq (Y := 3) (by decide) q1015
                  exact absurd q1005 q1015
                · try dsimp only [tvI_i, tvJ_j, tvR_r] at q1015
                  have q1015i := zeqi (Y := 3) (by decide) q1015
                  refine tw_iload rfl rfl ?_
                  refine tw_if_ne rfl (fun z => absurd z (by decide)) (fun _ => ?_)
                  refine tw_aload rfl rfl ?_
                  refine tw_push rfl ?_
                  refine tw_aload rfl rfl ?_
                  refine tw_getS rfl (hi_111_28 gzp1007.1) ?_
                  refine tw_virt2 rfl (g_fails hG hX (gzp1007).1 pp1007e ((mFz_T gzp1007).trans hT) ((mFz_n gzp1007).trans hN) (w := 0) rfl (by decide) (mPl pp1007e) (by have := mPle pp1007e ((mFz_n gzp1007).trans hN); have := mNl pp1007e ((mFz_n gzp1007).trans hN); have := pp1007e.2.1; omega)) (fun wp1016 hp1016 p1016 => ?_)
                  obtain ⟨rfl, gp1016, Fp1016, ip1016, jp1016⟩ := p1016
                  have gwp1016 := mFw_f gp1016
                  have gzp1016 : mFz I h hp1016 := mFz_t gzp1007 (mFz_w gwp1016)
                  have Zp1016 : mZp hp1016 := mZp_k (mZp_p pp1007e) ip1016 jp1016
                  rw [Sp1007, rA_1] at Fp1016
                  refine tw_iload rfl rfl ?_
                  refine tw_if_eq rfl (fun _ => ?_) (fun z => absurd z (by decide))
                  refine tw_aload rfl rfl ?_
                  refine tw_getS rfl (hs_111_42 gzp1016.1) ?_
                  refine tw_iload rfl rfl ?_
                  refine tw_aload rfl rfl ?_
                  refine tw_getS rfl (hi_111_31 gzp1016.1) ?_
                  refine tw_iast rfl (fun f1017 => ?_)
                  refine tG_ast f1017 (gzp1016).1 (fun hf1017 af1017 => ?_)
                  try dsimp only [tvI_i, tvR_r] at af1017
                  rw [hI9] at af1017
                  have gf1017 : mFz I h hf1017 := mFz_a gzp1016 af1017 (by decide) (Nat.le_refl _)
                  have Ff1017 := mAs_F af1017 Fp1016
                  have Zf1017 := mAs_Z af1017 Zp1016
                  have hw16 : ¬ rW T n (rB T n s2.1) (rWd 16) = true := by have z := p1008; rw [Sp1007, rA_1] at z; exact z
                  have hr := rCl3_1 K3 hw16 (by have z := q1015i; omega)
                  exact tw_vret rfl ⟨rfl, gf1017, mCo_l hr Ff1017 Zf1017⟩
            · try dsimp only [tvI_i, tvJ_j, tvR_r] at q1005
              have q1005i := zneq (Y := 3) (by decide) q1005
              refine tw_aload rfl rfl ?_
              refine tw_getS rfl (hi_111_29 (gf1004).1) ?_
              refine tw_if_ne rfl (fun q1018 => ?_) (fun q1018 => ?_)
              · try dsimp only [tvI_i, tvJ_j, tvR_r] at q1018
                have q1018i := zneq (Y := 0) (by decide) q1018
                exact absurd (mP_0 pf1004) q1018
              · try dsimp only [tvI_i, tvJ_j, tvR_r] at q1018
                have q1018i := zeqi (Y := 0) (by decide) q1018
                refine tw_aload rfl rfl ?_
                refine tw_push rfl ?_
                refine tw_virt1 rfl (g_readsR hG hX (gf1004).1 pf1004 ((mFz_T gf1004).trans hT) ((mFz_n gf1004).trans hN) (x := 1) (tst := false) (by decide) (by decide) ⟨fun z => absurd z (by decide), fun z => absurd z (by decide)⟩ Df1004) (fun w9 hp1019 p1019 => ?_)
                obtain ⟨rfl, gp1019, ⟨pp1019e, dp1019, mp1019⟩ | ⟨ep1019, Fp1019, Zp1019, mp1019⟩⟩ := p1019
                · have gwp1019 := id gp1019
                  have gzp1019 : mFz I h hp1019 := mFz_t gf1004 (mFz_w gwp1019)
                  have m9 := mp1019
                  rw [Sf1004, show stN 1 = 1 from rfl] at m9
                  obtain ⟨hS, s2, hs2, K3⟩ := rCl2_s K2 (by have z := q1005i; omega) m9
                  have Dp1019 := mSk_0 dp1019 hS
                  refine tw_aload rfl rfl ?_
                  refine tw_getS rfl (hs_111_41 gzp1019.1) ?_
                  refine tw_iload rfl rfl ?_
                  refine tw_aload rfl rfl ?_
                  refine tw_getS rfl (hi_111_31 gzp1019.1) ?_
                  refine tw_iast rfl (fun f1020 => ?_)
                  have Lf1020 : (tvI (tF hp1019 111 31)).toNatClampNeg = (rA (rB T n s2.1) s2).2.2.length := by rw [← mEn_len]; exact congrArg (fun z : rS => z.2.2.length) hs2
                  refine tG_ast f1020 (gzp1019).1 (fun hf1020 af1020 => ?_)
                  try dsimp only [tvI_i, tvR_r] at af1020
                  rw [hI9] at af1020
                  have gf1020 : mFz I h hf1020 := mFz_a gzp1019 af1020 (by decide) (Nat.le_refl _)
                  have pf1020 := mAs_P af1020 (by decide) pp1019e
                  have Sf1020 : ms hf1020 = (rA (rB T n s2.1) s2) := (mAs_m af1020 (by decide)).1.trans hs2
                  have Df1020 : tvI (tF hf1020 111 32) = 0 := by rw [af1020.2.1]; exact Dp1019
                  refine tw_aload rfl rfl ?_
                  refine tw_virt0 rfl (g_blanks hG hX (gf1020).1 pf1020 ((mFz_T gf1020).trans hT) ((mFz_n gf1020).trans hN)) (fun wp1021 hp1021 p1021 => ?_)
                  obtain ⟨rfl, gp1021, pp1021e, sp1021, tp1021, dp1021⟩ := p1021
                  have gwp1021 := mFw_f gp1021
                  have gzp1021 : mFz I h hp1021 := mFz_t gf1020 (mFz_w gwp1021)
                  have Dp1021 : tvI (tF hp1021 111 32) = 0 := by rw [dp1021]; exact Df1020
                  have Sp1021 : ms hp1021 = (rA (rB T n s2.1) s2) := (by rw [sp1021, Sf1020]; exact rB_A)
                  refine tw_aload rfl rfl ?_
                  refine tw_push rfl ?_
                  refine tw_virt1 rfl (g_stands hG hX (gzp1021).1 ((mFz_T gzp1021).trans hT) ((mFz_n gzp1021).trans hN) (q := 21) (by decide +kernel) ⟨pp1021e.2.1.1, by have := pp1021e.2.1; omega⟩ ⟨by have := pp1021e.2.1; omega, pp1021e.2.1.2.2⟩) (fun w9 h9 p1022 => ?_)
                  obtain ⟨⟨p1022, rfl⟩ | ⟨p1022, rfl⟩, rfl⟩ := p1022
                  · try dsimp only [tvI_i, tvJ_j, tvR_r] at p1022
                    refine tw_istore rfl ?_
                    refine tw_iload rfl rfl ?_
                    refine tw_push rfl ?_
                    refine tw_ic_ne rfl (fun q1023 => ?_) (fun q1023 => ?_)
                    · try dsimp only [tvI_i, tvJ_j, tvR_r] at q1023
                      have q1023i := zneq (Y := 3) (by decide) q1023
                      refine tw_iload rfl rfl ?_
                      refine tw_if_eq rfl (fun z => absurd z (by decide)) (fun _ => ?_)
                      refine tw_aload rfl rfl ?_
                      refine tw_getS rfl (hi_111_29 gzp1021.1) ?_
                      refine tw_if_ne rfl (fun q1024 => ?_) (fun q1024 => ?_)
                      · try dsimp only [tvI_i, tvJ_j, tvR_r] at q1024
                        have q1024i := zneq (Y := 0) (by decide) q1024
                        exact absurd (mP_0 pp1021e) q1024
                      · try dsimp only [tvI_i, tvJ_j, tvR_r] at q1024
                        have q1024i := zeqi (Y := 0) (by decide) q1024
                        refine tw_aload rfl rfl ?_
                        refine tw_dup rfl ?_
                        refine tw_getS rfl (hi_111_28 gzp1021.1) ?_
                        refine tw_push rfl ?_
                        refine tw_iadd rfl ?_
                        refine tw_put rfl (fun f1025 => ?_)
                        have hw16 : rW T n (rB T n s2.1) (rWd 16) = true := by have z := p1022; rw [Sp1021, rA_1] at z; exact z
                        refine tG_setm f1025 (hw_111_28 f1025 (gzp1021).1) (fun hf1025 ef1025 => ?_)
                        try dsimp only [tvI_i] at ef1025
                        have gf1025 : mFz I h hf1025 := mFz_s gzp1021 ef1025 (Or.inl (by unfold mFs; omega))
                        have h9w : rE T n (rB T n s2.1) = rB T n s2.1 + 2 := by rw [rW_e hw16, wlen_k.2.2.2]
                        have hpB : rB T n s2.1 ≤ n := by have z := mPle pp1021e ((mFz_n gzp1021).trans hN); rw [Sp1021, rA_1] at z; exact z
                        have hr9 := rE_le (T := T) hpB
                        rw [h9w] at hr9
                        obtain ⟨pf1025, sf1025, tf1025⟩ := mTo pp1021e ((mFz_n gzp1021).trans hN) ef1025 (v := rB T n s2.1 + 2) (zadN (a := rB T n s2.1) (b := 2) (by rw [mPl pp1021e, Sp1021, rA_1]) rfl (by omega) (by decide)) (by omega)
                        have Sf1025 : ms hf1025 = (rA (rB T n s2.1 + 2) s2) := by rw [sf1025, Sp1021, rA_A]
                        have Df1025 : tvI (tF hf1025 111 32) = 0 := by rw [mI_o ef1025 (by decide)]; exact Dp1021
                        have gwf1025 : tA hf1025 = tA hp1021 := ef1025.2.2.2.1
                        refine tw_aload rfl rfl ?_
                        refine tw_push rfl ?_
                        refine tw_virt1 rfl (g_readsR hG hX (gf1025).1 pf1025 ((mFz_T gf1025).trans hT) ((mFz_n gf1025).trans hN) (x := 0) (tst := true) (by decide) (by decide) ⟨fun _ => rfl, fun _ => rfl⟩ Df1025) (fun w9 hp1026 p1026 => ?_)
                        obtain ⟨rfl, gp1026, ⟨pp1026e, dp1026, mp1026⟩ | ⟨ep1026, Fp1026, Zp1026, mp1026⟩⟩ := p1026
                        · have gwp1026 := id gp1026
                          have gzp1026 : mFz I h hp1026 := mFz_t gf1025 (mFz_w gwp1026)
                          have m9 := mp1026
                          rw [Sf1025, show stN 0 = 0 from rfl] at m9
                          obtain ⟨hS3, s3, hs3, hr⟩ := rCl3_s K3 hw16 m9
                          have Dp1026 := mSk_0 dp1026 hS3
                          refine tw_aload rfl rfl ?_
                          refine tw_getS rfl (hs_111_42 gzp1026.1) ?_
                          refine tw_iload rfl rfl ?_
                          refine tw_aload rfl rfl ?_
                          refine tw_getS rfl (hi_111_31 gzp1026.1) ?_
                          refine tw_iast rfl (fun f1027 => ?_)
                          have Lf1027 : (tvI (tF hp1026 111 31)).toNatClampNeg = (rA (rB T n s3.1) s3).2.2.length := by rw [← mEn_len]; exact congrArg (fun z : rS => z.2.2.length) hs3
                          refine tG_ast f1027 (gzp1026).1 (fun hf1027 af1027 => ?_)
                          try dsimp only [tvI_i, tvR_r] at af1027
                          rw [hI9] at af1027
                          have gf1027 : mFz I h hf1027 := mFz_a gzp1026 af1027 (by decide) (Nat.le_refl _)
                          have pf1027 := mAs_P af1027 (by decide) pp1026e
                          have Sf1027 : ms hf1027 = (rA (rB T n s3.1) s3) := (mAs_m af1027 (by decide)).1.trans hs3
                          have Df1027 : tvI (tF hf1027 111 32) = 0 := by rw [af1027.2.1]; exact Dp1026
                          have c135 : tA hf1027 135 I = x := ((congrFun ((mAs_A af1027 (q := 135) (by decide)).trans ((mFw_A gwp1026 (p := 135) (by decide)).trans ((congrFun gwf1025 135).trans ((mFw_A gwp1021 (p := 135) (by decide)).trans ((mAs_A af1020 (q := 135) (by decide)).trans ((mFw_A gwp1019 (p := 135) (by decide)).trans ((mAs_A af1004 (q := 135) (by decide)).trans (mAs_A af1002 (q := 135) (by decide))))))))) I).trans (mAs_x af1001))
                          have c137 : (tA hf1027 137 I).toNatClampNeg = (rA (rE T n (rB T n (ms h).1)) (ms h)).2.2.length := by rw [((congrFun ((mAs_A af1027 (q := 137) (by decide)).trans ((mFw_A gwp1026 (p := 137) (by decide)).trans ((congrFun gwf1025 137).trans ((mFw_A gwp1021 (p := 137) (by decide)).trans ((mAs_A af1020 (q := 137) (by decide)).trans (mFw_A gwp1019 (p := 137) (by decide))))))) I).trans (mAs_x af1004))]; exact Lf1004
                          have c138 : (tA hf1027 138 I).toNatClampNeg = (rA (rB T n s2.1) s2).2.2.length := by rw [((congrFun ((mAs_A af1027 (q := 138) (by decide)).trans ((mFw_A gwp1026 (p := 138) (by decide)).trans ((congrFun gwf1025 138).trans (mFw_A gwp1021 (p := 138) (by decide))))) I).trans (mAs_x af1020))]; exact Lf1020
                          have c139 : (tA hf1027 139 I).toNatClampNeg = (rA (rB T n s3.1) s3).2.2.length := by rw [(mAs_x af1027)]; exact Lf1027
                          have c136 : (tA hf1027 136 I).toNatClampNeg = 0 := by rw [((congrFun ((mAs_A af1027 (q := 136) (by decide)).trans ((mFw_A gwp1026 (p := 136) (by decide)).trans ((congrFun gwf1025 136).trans ((mFw_A gwp1021 (p := 136) (by decide)).trans ((mAs_A af1020 (q := 136) (by decide)).trans ((mFw_A gwp1019 (p := 136) (by decide)).trans (mAs_A af1004 (q := 136) (by decide)))))))) I).trans (mAs_x af1002))]; rfl
                          have hrow : mRow hf1027 I = ((k + 12), (rA (rE T n (rB T n (ms h).1)) (ms h)).2.2.length, (rA (rB T n s2.1) s2).2.2.length, (rA (rB T n s3.1) s3).2.2.length) := by
                            unfold mRow
                            rw [c135, c137, c138, c139, zof_cl hx, c136, if_neg (fun y => by have z := q1003i; have y := y.1; omega), Nat.mul_zero, Nat.add_zero, Nat.add_comm]
                          exact tw_vret rfl ⟨rfl, gf1027, mCo_r hr pf1027 Sf1027 Df1027 hrow⟩
                        · have gwp1026 := id gp1026
                          have gzp1026 : mFz I h hp1026 := mFz_t gf1025 (mFz_w gwp1026)
                          have m9 := mp1026
                          rw [Sf1025, show stN 0 = 0 from rfl] at m9
                          have hr := rCl3_e K3 hw16 m9
                          refine tw_aload rfl rfl ?_
                          refine tw_getS rfl (hs_111_42 gzp1026.1) ?_
                          refine tw_iload rfl rfl ?_
                          refine tw_aload rfl rfl ?_
                          refine tw_getS rfl (hi_111_31 gzp1026.1) ?_
                          refine tw_iast rfl (fun f1028 => ?_)
                          refine tG_ast f1028 (gzp1026).1 (fun hf1028 af1028 => ?_)
                          try dsimp only [tvI_i, tvR_r] at af1028
                          rw [hI9] at af1028
                          have gf1028 : mFz I h hf1028 := mFz_a gzp1026 af1028 (by decide) (Nat.le_refl _)
                          have Ff1028 := mAs_F af1028 Fp1026
                          have Zf1028 := mAs_Z af1028 Zp1026
                          exact tw_vret rfl ⟨rfl, gf1028, mCo_l hr Ff1028 Zf1028⟩
                    · try dsimp only [tvI_i, tvJ_j, tvR_r] at q1023
                      have q1023i := zeqi (Y := 3) (by decide) q1023
                      exact absurd q1023 q1005
                  · try dsimp only [tvI_i, tvJ_j, tvR_r] at p1022
                    refine tw_istore rfl ?_
                    refine tw_iload rfl rfl ?_
                    refine tw_push rfl ?_
                    refine tw_ic_ne rfl (fun q1029 => ?_) (fun q1029 => ?_)
                    · try dsimp only [tvI_i, tvJ_j, tvR_r] at q1029
                      have q1029i := zneq (Y := 3) (by decide) q1029
                      refine tw_iload rfl rfl ?_
                      refine tw_if_eq rfl (fun _ => ?_) (fun z => absurd z (by decide))
                      refine tw_aload rfl rfl ?_
                      refine tw_getS rfl (hs_111_42 gzp1021.1) ?_
                      refine tw_iload rfl rfl ?_
                      refine tw_aload rfl rfl ?_
                      refine tw_getS rfl (hi_111_31 gzp1021.1) ?_
                      refine tw_iast rfl (fun f1030 => ?_)
                      have Lf1030 : (tvI (tF hp1021 111 31)).toNatClampNeg = (rA (rB T n s2.1) s2).2.2.length := by rw [← mEn_len]; exact congrArg (fun z : rS => z.2.2.length) Sp1021
                      refine tG_ast f1030 (gzp1021).1 (fun hf1030 af1030 => ?_)
                      try dsimp only [tvI_i, tvR_r] at af1030
                      rw [hI9] at af1030
                      have gf1030 : mFz I h hf1030 := mFz_a gzp1021 af1030 (by decide) (Nat.le_refl _)
                      have pf1030 := mAs_P af1030 (by decide) pp1021e
                      have Sf1030 : ms hf1030 = (rA (rB T n s2.1) s2) := (mAs_m af1030 (by decide)).1.trans Sp1021
                      have Df1030 : tvI (tF hf1030 111 32) = 0 := by rw [af1030.2.1]; exact Dp1021
                      have hw16 : ¬ rW T n (rB T n s2.1) (rWd 16) = true := by have z := p1022; rw [Sp1021, rA_1] at z; exact z
                      have hr := rCl3_2 K3 hw16 (by have z := q1029i; omega)
                      have c135 : tA hf1030 135 I = x := ((congrFun ((mAs_A af1030 (q := 135) (by decide)).trans ((mFw_A gwp1021 (p := 135) (by decide)).trans ((mAs_A af1020 (q := 135) (by decide)).trans ((mFw_A gwp1019 (p := 135) (by decide)).trans ((mAs_A af1004 (q := 135) (by decide)).trans (mAs_A af1002 (q := 135) (by decide))))))) I).trans (mAs_x af1001))
                      have c137 : (tA hf1030 137 I).toNatClampNeg = (rA (rE T n (rB T n (ms h).1)) (ms h)).2.2.length := by rw [((congrFun ((mAs_A af1030 (q := 137) (by decide)).trans ((mFw_A gwp1021 (p := 137) (by decide)).trans ((mAs_A af1020 (q := 137) (by decide)).trans (mFw_A gwp1019 (p := 137) (by decide))))) I).trans (mAs_x af1004))]; exact Lf1004
                      have c138 : (tA hf1030 138 I).toNatClampNeg = (rA (rB T n s2.1) s2).2.2.length := by rw [((congrFun ((mAs_A af1030 (q := 138) (by decide)).trans (mFw_A gwp1021 (p := 138) (by decide))) I).trans (mAs_x af1020))]; exact Lf1020
                      have c139 : (tA hf1030 139 I).toNatClampNeg = (rA (rB T n s2.1) s2).2.2.length := by rw [(mAs_x af1030)]; exact Lf1030
                      have c136 : (tA hf1030 136 I).toNatClampNeg = 0 := by rw [((congrFun ((mAs_A af1030 (q := 136) (by decide)).trans ((mFw_A gwp1021 (p := 136) (by decide)).trans ((mAs_A af1020 (q := 136) (by decide)).trans ((mFw_A gwp1019 (p := 136) (by decide)).trans (mAs_A af1004 (q := 136) (by decide)))))) I).trans (mAs_x af1002))]; rfl
                      have hrow : mRow hf1030 I = ((k + 12), (rA (rE T n (rB T n (ms h).1)) (ms h)).2.2.length, (rA (rB T n s2.1) s2).2.2.length, (rA (rB T n s2.1) s2).2.2.length) := by
                        unfold mRow
                        rw [c135, c137, c138, c139, zof_cl hx, c136, if_neg (fun y => by have z := q1003i; have y := y.1; omega), Nat.mul_zero, Nat.add_zero, Nat.add_comm]
                      exact tw_vret rfl ⟨rfl, gf1030, mCo_r hr pf1030 (Sf1030.trans rB_A.symm) Df1030 hrow⟩
                    · try dsimp only [tvI_i, tvJ_j, tvR_r] at q1029
                      have q1029i := zeqi (Y := 3) (by decide) q1029
                      exact absurd q1029 q1005
                · have gwp1019 := id gp1019
                  have gzp1019 : mFz I h hp1019 := mFz_t gf1004 (mFz_w gwp1019)
                  have m9 := mp1019
                  rw [Sf1004, show stN 1 = 1 from rfl] at m9
                  have hr := rCl2_e K2 (by have z := q1005i; omega) m9
                  refine tw_aload rfl rfl ?_
                  refine tw_getS rfl (hs_111_41 gzp1019.1) ?_
                  refine tw_iload rfl rfl ?_
                  refine tw_aload rfl rfl ?_
                  refine tw_getS rfl (hi_111_31 gzp1019.1) ?_
                  refine tw_iast rfl (fun f1031 => ?_)
                  refine tG_ast f1031 (gzp1019).1 (fun hf1031 af1031 => ?_)
                  try dsimp only [tvI_i, tvR_r] at af1031
                  rw [hI9] at af1031
                  have gf1031 : mFz I h hf1031 := mFz_a gzp1019 af1031 (by decide) (Nat.le_refl _)
                  have Ff1031 := mAs_F af1031 Fp1019
                  have Zf1031 := mAs_Z af1031 Zp1019
                  refine tw_aload rfl rfl ?_
                  refine tw_virt0 rfl (y_blanks hG hX (gf1031).1 Ff1031 ((mFz_T gf1031).trans hT) ((mFz_n gf1031).trans hN) Zf1031) (fun wp1032 hp1032 p1032 => ?_)
                  obtain ⟨rfl, gp1032, Fp1032, Zp1032⟩ := p1032
                  have gwp1032 := mFw_f gp1032
                  have gzp1032 : mFz I h hp1032 := mFz_t gf1031 (mFz_w gwp1032)
                  refine tw_aload rfl rfl ?_
                  refine tw_push rfl ?_
                  refine tw_virt1 rfl (g_stands hG hX (gzp1032).1 ((mFz_T gzp1032).trans hT) ((mFz_n gzp1032).trans hN) (q := 21) (by decide +kernel) Zp1032.1 ⟨by have := Zp1032.2; omega, Zp1032.2.2⟩) (fun w9 h9 p1033 => ?_)
                  obtain ⟨⟨p1033, rfl⟩ | ⟨p1033, rfl⟩, rfl⟩ := p1033
                  · try dsimp only [tvI_i, tvJ_j, tvR_r] at p1033
                    refine tw_istore rfl ?_
                    refine tw_iload rfl rfl ?_
                    refine tw_push rfl ?_
                    refine tw_ic_ne rfl (fun q1034 => ?_) (fun q1034 => ?_)
                    · try dsimp only [tvI_i, tvJ_j, tvR_r] at q1034
                      have q1034i := zneq (Y := 3) (by decide) q1034
                      refine tw_iload rfl rfl ?_
                      refine tw_if_eq rfl (fun z => absurd z (by decide)) (fun _ => ?_)
                      refine tw_aload rfl rfl ?_
                      refine tw_getS rfl (hi_111_29 gzp1032.1) ?_
                      refine tw_if_ne rfl (fun q1035 => ?_) (fun q1035 => ?_)
                      · try dsimp only [tvI_i, tvJ_j, tvR_r] at q1035
                        have q1035i := zneq (Y := 0) (by decide) q1035
                        refine tw_aload rfl rfl ?_
                        refine tw_getS rfl (hs_111_42 gzp1032.1) ?_
                        refine tw_iload rfl rfl ?_
                        refine tw_aload rfl rfl ?_
                        refine tw_getS rfl (hi_111_31 gzp1032.1) ?_
                        refine tw_iast rfl (fun f1036 => ?_)
                        refine tG_ast f1036 (gzp1032).1 (fun hf1036 af1036 => ?_)
                        try dsimp only [tvI_i, tvR_r] at af1036
                        rw [hI9] at af1036
                        have gf1036 : mFz I h hf1036 := mFz_a gzp1032 af1036 (by decide) (Nat.le_refl _)
                        have Ff1036 := mAs_F af1036 Fp1032
                        have Zf1036 := mAs_Z af1036 Zp1032
                        exact tw_vret rfl ⟨rfl, gf1036, mCo_l hr Ff1036 Zf1036⟩
                      · try dsimp only [tvI_i, tvJ_j, tvR_r] at q1035
                        have q1035i := zeqi (Y := 0) (by decide) q1035
                        exact absurd q1035 (mFt_n Fp1032)
                    · try dsimp only [tvI_i, tvJ_j, tvR_r] at q1034
                      have q1034i := zeqi (Y := 3) (by decide) q1034
                      exact absurd q1034 q1005
                  · try dsimp only [tvI_i, tvJ_j, tvR_r] at p1033
                    refine tw_istore rfl ?_
                    refine tw_iload rfl rfl ?_
                    refine tw_push rfl ?_
                    refine tw_ic_ne rfl (fun q1037 => ?_) (fun q1037 => ?_)
                    · try dsimp only [tvI_i, tvJ_j, tvR_r] at q1037
                      have q1037i := zneq (Y := 3) (by decide) q1037
                      refine tw_iload rfl rfl ?_
                      refine tw_if_eq rfl (fun _ => ?_) (fun z => absurd z (by decide))
                      refine tw_aload rfl rfl ?_
                      refine tw_getS rfl (hs_111_42 gzp1032.1) ?_
                      refine tw_iload rfl rfl ?_
                      refine tw_aload rfl rfl ?_
                      refine tw_getS rfl (hi_111_31 gzp1032.1) ?_
                      refine tw_iast rfl (fun f1038 => ?_)
                      refine tG_ast f1038 (gzp1032).1 (fun hf1038 af1038 => ?_)
                      try dsimp only [tvI_i, tvR_r] at af1038
                      rw [hI9] at af1038
                      have gf1038 : mFz I h hf1038 := mFz_a gzp1032 af1038 (by decide) (Nat.le_refl _)
                      have Ff1038 := mAs_F af1038 Fp1032
                      have Zf1038 := mAs_Z af1038 Zp1032
                      exact tw_vret rfl ⟨rfl, gf1038, mCo_l hr Ff1038 Zf1038⟩
                    · try dsimp only [tvI_i, tvJ_j, tvR_r] at q1037
                      have q1037i := zeqi (Y := 3) (by decide) q1037
                      exact absurd q1037 q1005
          · try dsimp only [tvI_i, tvJ_j, tvR_r] at q1003
            have q1003i := zeqi (Y := 0) (by decide) q1003
            refine tw_aload rfl rfl ?_
            refine tw_virt0 rfl (g_blanks hG hX (gf1002).1 pf1002 ((mFz_T gf1002).trans hT) ((mFz_n gf1002).trans hN)) (fun wp1039 hp1039 p1039 => ?_)
            obtain ⟨rfl, gp1039, pp1039e, sp1039, tp1039, dp1039⟩ := p1039
            have gwp1039 := mFw_f gp1039
            have gzp1039 : mFz I h hp1039 := mFz_t gf1002 (mFz_w gwp1039)
            have Dp1039 : tvI (tF hp1039 111 32) = 0 := by rw [dp1039]; exact Df1002
            have Sp1039 : ms hp1039 = (rA (rB T n (rA (rE T n (rB T n (ms h).1)) (ms h)).1) (rA (rE T n (rB T n (ms h).1)) (ms h))) := (by rw [sp1039, Sf1002])
            refine tw_aload rfl rfl ?_
            refine tw_getS rfl (hs_111_39 gzp1039.1) ?_
            refine tw_iload rfl rfl ?_
            refine tw_aload rfl rfl ?_
            refine tw_push rfl ?_
            refine tw_virt1 rfl (g_digits hG hX (gzp1039).1 pp1039e ((mFz_T gzp1039).trans hT) ((mFz_n gzp1039).trans hN) (m := 2) (M := 2) rfl (by decide) (by rw [Sp1039, rA_1]; exact rB_2)) (fun w9 hp1040 p1040 => ?_)
            obtain ⟨gp1040, ⟨vp1040, Np1040, rfl, pp1040e, sp1040, tp1040, dp1040⟩ | ⟨ep1040, xp1040, Np1040, rfl, x0p1040, Fp1040, Zp1040⟩⟩ := p1040
            · have gwp1040 := mFw_f gp1040
              have gzp1040 : mFz I h hp1040 := mFz_t gzp1039 (mFz_w gwp1040)
              have Dp1040 : tvI (tF hp1040 111 32) = 0 := by rw [dp1040]; exact Dp1039
              have Sp1040 : ms hp1040 = (rA vp1040.1 (rA (rE T n (rB T n (ms h).1)) (ms h))) := by rw [sp1040, Sp1039, rA_A, rA_A]
              have K2 : rCl2 T n (k + 12) vp1040.2 (rA vp1040.1 (rA (rE T n (rB T n (ms h).1)) (ms h))) r := by
                have y := rCl1_q K1 (by have z := q1003i; omega) (q := vp1040) (by rw [← rM_bb]; have z := Np1040; rw [Sp1039, rA_1] at z; exact z)
                exact y
              have hv2 : vp1040.2 ≤ 2 := (rM_r (rE_le (rB_le hpn)) (by rw [← rM_bb]; have z := Np1040; rw [Sp1039, rA_1] at z; exact z)).2.2
              refine tw_iast rfl (fun f1041 => ?_)
              refine tG_ast f1041 (gzp1040).1 (fun hf1041 af1041 => ?_)
              try dsimp only [tvI_i, tvR_r] at af1041
              rw [hI9] at af1041
              have gf1041 : mFz I h hf1041 := mFz_a gzp1040 af1041 (by decide) (Nat.le_refl _)
              have pf1041 := mAs_P af1041 (by decide) pp1040e
              have Sf1041 : ms hf1041 = (rA vp1040.1 (rA (rE T n (rB T n (ms h).1)) (ms h))) := (mAs_m af1041 (by decide)).1.trans Sp1040
              have Df1041 : tvI (tF hf1041 111 32) = 0 := by rw [af1041.2.1]; exact Dp1040
              refine tw_aload rfl rfl ?_
              refine tw_getS rfl (hs_111_40 (gf1041).1) ?_
              refine tw_iload rfl rfl ?_
              refine tw_aload rfl rfl ?_
              refine tw_getS rfl (hi_111_31 (gf1041).1) ?_
              refine tw_iast rfl (fun f1042 => ?_)
              have Lf1042 : (tvI (tF hf1041 111 31)).toNatClampNeg = (rA vp1040.1 (rA (rE T n (rB T n (ms h).1)) (ms h))).2.2.length := by rw [← mEn_len]; exact congrArg (fun z : rS => z.2.2.length) Sf1041
              refine tG_ast f1042 (gf1041).1 (fun hf1042 af1042 => ?_)
              try dsimp only [tvI_i, tvR_r] at af1042
              rw [hI9] at af1042
              have gf1042 : mFz I h hf1042 := mFz_a gf1041 af1042 (by decide) (Nat.le_refl _)
              have pf1042 := mAs_P af1042 (by decide) pf1041
              have Sf1042 : ms hf1042 = (rA vp1040.1 (rA (rE T n (rB T n (ms h).1)) (ms h))) := (mAs_m af1042 (by decide)).1.trans Sf1041
              have Df1042 : tvI (tF hf1042 111 32) = 0 := by rw [af1042.2.1]; exact Df1041
              refine tw_iload rfl rfl ?_
              refine tw_push rfl ?_
              refine tw_ic_eq rfl (fun q1043 => ?_) (fun q1043 => ?_)
              · try dsimp only [tvI_i, tvJ_j, tvR_r] at q1043
                have q1043i := zeqi (Y := 3) (by decide) q1043
                exfalso
                have z1 := q1003i
                have z2 := q1043i
                omega
              · try dsimp only [tvI_i, tvJ_j, tvR_r] at q1043
                have q1043i := zneq (Y := 3) (by decide) q1043
                refine tw_aload rfl rfl ?_
                refine tw_getS rfl (hi_111_29 (gf1042).1) ?_
                refine tw_if_ne rfl (fun q1044 => ?_) (fun q1044 => ?_)
                · try dsimp only [tvI_i, tvJ_j, tvR_r] at q1044
                  have q1044i := zneq (Y := 0) (by decide) q1044
                  exact absurd (mP_0 pf1042) q1044
                · try dsimp only [tvI_i, tvJ_j, tvR_r] at q1044
                  have q1044i := zeqi (Y := 0) (by decide) q1044
                  refine tw_aload rfl rfl ?_
                  refine tw_push rfl ?_
                  refine tw_virt1 rfl (g_readsR hG hX (gf1042).1 pf1042 ((mFz_T gf1042).trans hT) ((mFz_n gf1042).trans hN) (x := 1) (tst := false) (by decide) (by decide) ⟨fun z => absurd z (by decide), fun z => absurd z (by decide)⟩ Df1042) (fun w9 hp1045 p1045 => ?_)
                  obtain ⟨rfl, gp1045, ⟨pp1045e, dp1045, mp1045⟩ | ⟨ep1045, Fp1045, Zp1045, mp1045⟩⟩ := p1045
                  · have gwp1045 := id gp1045
                    have gzp1045 : mFz I h hp1045 := mFz_t gf1042 (mFz_w gwp1045)
                    have m9 := mp1045
                    rw [Sf1042, show stN 1 = 1 from rfl] at m9
                    obtain ⟨hS, s2, hs2, K3⟩ := rCl2_s K2 (by have z := q1043i; omega) m9
                    have Dp1045 := mSk_0 dp1045 hS
                    refine tw_aload rfl rfl ?_
                    refine tw_getS rfl (hs_111_41 gzp1045.1) ?_
                    refine tw_iload rfl rfl ?_
                    refine tw_aload rfl rfl ?_
                    refine tw_getS rfl (hi_111_31 gzp1045.1) ?_
                    refine tw_iast rfl (fun f1046 => ?_)
                    have Lf1046 : (tvI (tF hp1045 111 31)).toNatClampNeg = (rA (rB T n s2.1) s2).2.2.length := by rw [← mEn_len]; exact congrArg (fun z : rS => z.2.2.length) hs2
                    refine tG_ast f1046 (gzp1045).1 (fun hf1046 af1046 => ?_)
                    try dsimp only [tvI_i, tvR_r] at af1046
                    rw [hI9] at af1046
                    have gf1046 : mFz I h hf1046 := mFz_a gzp1045 af1046 (by decide) (Nat.le_refl _)
                    have pf1046 := mAs_P af1046 (by decide) pp1045e
                    have Sf1046 : ms hf1046 = (rA (rB T n s2.1) s2) := (mAs_m af1046 (by decide)).1.trans hs2
                    have Df1046 : tvI (tF hf1046 111 32) = 0 := by rw [af1046.2.1]; exact Dp1045
                    refine tw_aload rfl rfl ?_
                    refine tw_virt0 rfl (g_blanks hG hX (gf1046).1 pf1046 ((mFz_T gf1046).trans hT) ((mFz_n gf1046).trans hN)) (fun wp1047 hp1047 p1047 => ?_)
                    obtain ⟨rfl, gp1047, pp1047e, sp1047, tp1047, dp1047⟩ := p1047
                    have gwp1047 := mFw_f gp1047
                    have gzp1047 : mFz I h hp1047 := mFz_t gf1046 (mFz_w gwp1047)
                    have Dp1047 : tvI (tF hp1047 111 32) = 0 := by rw [dp1047]; exact Df1046
                    have Sp1047 : ms hp1047 = (rA (rB T n s2.1) s2) := (by rw [sp1047, Sf1046]; exact rB_A)
                    refine tw_aload rfl rfl ?_
                    refine tw_push rfl ?_
                    refine tw_virt1 rfl (g_stands hG hX (gzp1047).1 ((mFz_T gzp1047).trans hT) ((mFz_n gzp1047).trans hN) (q := 21) (by decide +kernel) ⟨pp1047e.2.1.1, by have := pp1047e.2.1; omega⟩ ⟨by have := pp1047e.2.1; omega, pp1047e.2.1.2.2⟩) (fun w9 h9 p1048 => ?_)
                    obtain ⟨⟨p1048, rfl⟩ | ⟨p1048, rfl⟩, rfl⟩ := p1048
                    · try dsimp only [tvI_i, tvJ_j, tvR_r] at p1048
                      refine tw_istore rfl ?_
                      refine tw_iload rfl rfl ?_
                      refine tw_push rfl ?_
                      refine tw_ic_ne rfl (fun q1049 => ?_) (fun q1049 => ?_)
                      · try dsimp only [tvI_i, tvJ_j, tvR_r] at q1049
                        have q1049i := zneq (Y := 3) (by decide) q1049
                        refine tw_iload rfl rfl ?_
                        refine tw_if_eq rfl (fun z => absurd z (by decide)) (fun _ => ?_)
                        refine tw_aload rfl rfl ?_
                        refine tw_getS rfl (hi_111_29 gzp1047.1) ?_
                        refine tw_if_ne rfl (fun q1050 => ?_) (fun q1050 => ?_)
                        · try dsimp only [tvI_i, tvJ_j, tvR_r] at q1050
                          have q1050i := zneq (Y := 0) (by decide) q1050
                          exact absurd (mP_0 pp1047e) q1050
                        · try dsimp only [tvI_i, tvJ_j, tvR_r] at q1050
                          have q1050i := zeqi (Y := 0) (by decide) q1050
                          refine tw_aload rfl rfl ?_
                          refine tw_dup rfl ?_
                          refine tw_getS rfl (hi_111_28 gzp1047.1) ?_
                          refine tw_push rfl ?_
                          refine tw_iadd rfl ?_
                          refine tw_put rfl (fun f1051 => ?_)
                          have hw16 : rW T n (rB T n s2.1) (rWd 16) = true := by have z := p1048; rw [Sp1047, rA_1] at z; exact z
                          refine tG_setm f1051 (hw_111_28 f1051 (gzp1047).1) (fun hf1051 ef1051 => ?_)
                          try dsimp only [tvI_i] at ef1051
                          have gf1051 : mFz I h hf1051 := mFz_s gzp1047 ef1051 (Or.inl (by unfold mFs; omega))
                          have h9w : rE T n (rB T n s2.1) = rB T n s2.1 + 2 := by rw [rW_e hw16, wlen_k.2.2.2]
                          have hpB : rB T n s2.1 ≤ n := by have z := mPle pp1047e ((mFz_n gzp1047).trans hN); rw [Sp1047, rA_1] at z; exact z
                          have hr9 := rE_le (T := T) hpB
                          rw [h9w] at hr9
                          obtain ⟨pf1051, sf1051, tf1051⟩ := mTo pp1047e ((mFz_n gzp1047).trans hN) ef1051 (v := rB T n s2.1 + 2) (zadN (a := rB T n s2.1) (b := 2) (by rw [mPl pp1047e, Sp1047, rA_1]) rfl (by omega) (by decide)) (by omega)
                          have Sf1051 : ms hf1051 = (rA (rB T n s2.1 + 2) s2) := by rw [sf1051, Sp1047, rA_A]
                          have Df1051 : tvI (tF hf1051 111 32) = 0 := by rw [mI_o ef1051 (by decide)]; exact Dp1047
                          have gwf1051 : tA hf1051 = tA hp1047 := ef1051.2.2.2.1
                          refine tw_aload rfl rfl ?_
                          refine tw_push rfl ?_
                          refine tw_virt1 rfl (g_readsR hG hX (gf1051).1 pf1051 ((mFz_T gf1051).trans hT) ((mFz_n gf1051).trans hN) (x := 0) (tst := true) (by decide) (by decide) ⟨fun _ => rfl, fun _ => rfl⟩ Df1051) (fun w9 hp1052 p1052 => ?_)
                          obtain ⟨rfl, gp1052, ⟨pp1052e, dp1052, mp1052⟩ | ⟨ep1052, Fp1052, Zp1052, mp1052⟩⟩ := p1052
                          · have gwp1052 := id gp1052
                            have gzp1052 : mFz I h hp1052 := mFz_t gf1051 (mFz_w gwp1052)
                            have m9 := mp1052
                            rw [Sf1051, show stN 0 = 0 from rfl] at m9
                            obtain ⟨hS3, s3, hs3, hr⟩ := rCl3_s K3 hw16 m9
                            have Dp1052 := mSk_0 dp1052 hS3
                            refine tw_aload rfl rfl ?_
                            refine tw_getS rfl (hs_111_42 gzp1052.1) ?_
                            refine tw_iload rfl rfl ?_
                            refine tw_aload rfl rfl ?_
                            refine tw_getS rfl (hi_111_31 gzp1052.1) ?_
                            refine tw_iast rfl (fun f1053 => ?_)
                            have Lf1053 : (tvI (tF hp1052 111 31)).toNatClampNeg = (rA (rB T n s3.1) s3).2.2.length := by rw [← mEn_len]; exact congrArg (fun z : rS => z.2.2.length) hs3
                            refine tG_ast f1053 (gzp1052).1 (fun hf1053 af1053 => ?_)
                            try dsimp only [tvI_i, tvR_r] at af1053
                            rw [hI9] at af1053
                            have gf1053 : mFz I h hf1053 := mFz_a gzp1052 af1053 (by decide) (Nat.le_refl _)
                            have pf1053 := mAs_P af1053 (by decide) pp1052e
                            have Sf1053 : ms hf1053 = (rA (rB T n s3.1) s3) := (mAs_m af1053 (by decide)).1.trans hs3
                            have Df1053 : tvI (tF hf1053 111 32) = 0 := by rw [af1053.2.1]; exact Dp1052
                            have c135 : tA hf1053 135 I = x := ((congrFun ((mAs_A af1053 (q := 135) (by decide)).trans ((mFw_A gwp1052 (p := 135) (by decide)).trans ((congrFun gwf1051 135).trans ((mFw_A gwp1047 (p := 135) (by decide)).trans ((mAs_A af1046 (q := 135) (by decide)).trans ((mFw_A gwp1045 (p := 135) (by decide)).trans ((mAs_A af1042 (q := 135) (by decide)).trans ((mAs_A af1041 (q := 135) (by decide)).trans ((mFw_A gwp1040 (p := 135) (by decide)).trans ((mFw_A gwp1039 (p := 135) (by decide)).trans (mAs_A af1002 (q := 135) (by decide)))))))))))) I).trans (mAs_x af1001))
                            have c137 : (tA hf1053 137 I).toNatClampNeg = (rA vp1040.1 (rA (rE T n (rB T n (ms h).1)) (ms h))).2.2.length := by rw [((congrFun ((mAs_A af1053 (q := 137) (by decide)).trans ((mFw_A gwp1052 (p := 137) (by decide)).trans ((congrFun gwf1051 137).trans ((mFw_A gwp1047 (p := 137) (by decide)).trans ((mAs_A af1046 (q := 137) (by decide)).trans (mFw_A gwp1045 (p := 137) (by decide))))))) I).trans (mAs_x af1042))]; exact Lf1042
                            have c138 : (tA hf1053 138 I).toNatClampNeg = (rA (rB T n s2.1) s2).2.2.length := by rw [((congrFun ((mAs_A af1053 (q := 138) (by decide)).trans ((mFw_A gwp1052 (p := 138) (by decide)).trans ((congrFun gwf1051 138).trans (mFw_A gwp1047 (p := 138) (by decide))))) I).trans (mAs_x af1046))]; exact Lf1046
                            have c139 : (tA hf1053 139 I).toNatClampNeg = (rA (rB T n s3.1) s3).2.2.length := by rw [(mAs_x af1053)]; exact Lf1053
                            have c136 : (tA hf1053 136 I).toNatClampNeg = vp1040.2 := by rw [((congrFun ((mAs_A af1053 (q := 136) (by decide)).trans ((mFw_A gwp1052 (p := 136) (by decide)).trans ((congrFun gwf1051 136).trans ((mFw_A gwp1047 (p := 136) (by decide)).trans ((mAs_A af1046 (q := 136) (by decide)).trans ((mFw_A gwp1045 (p := 136) (by decide)).trans (mAs_A af1042 (q := 136) (by decide)))))))) I).trans (mAs_x af1041))]; exact zoN (by omega)
                            have hrow : mRow hf1053 I = (vp1040.2, (rA vp1040.1 (rA (rE T n (rB T n (ms h).1)) (ms h))).2.2.length, (rA (rB T n s2.1) s2).2.2.length, (rA (rB T n s3.1) s3).2.2.length) := by
                              unfold mRow
                              rw [c135, c137, c138, c139, zof_cl hx, c136, if_pos ⟨by have z := q1003i; omega, by omega⟩]
                            exact tw_vret rfl ⟨rfl, gf1053, mCo_r hr pf1053 Sf1053 Df1053 hrow⟩
                          · have gwp1052 := id gp1052
                            have gzp1052 : mFz I h hp1052 := mFz_t gf1051 (mFz_w gwp1052)
                            have m9 := mp1052
                            rw [Sf1051, show stN 0 = 0 from rfl] at m9
                            have hr := rCl3_e K3 hw16 m9
                            refine tw_aload rfl rfl ?_
                            refine tw_getS rfl (hs_111_42 gzp1052.1) ?_
                            refine tw_iload rfl rfl ?_
                            refine tw_aload rfl rfl ?_
                            refine tw_getS rfl (hi_111_31 gzp1052.1) ?_
                            refine tw_iast rfl (fun f1054 => ?_)
                            refine tG_ast f1054 (gzp1052).1 (fun hf1054 af1054 => ?_)
                            try dsimp only [tvI_i, tvR_r] at af1054
                            rw [hI9] at af1054
                            have gf1054 : mFz I h hf1054 := mFz_a gzp1052 af1054 (by decide) (Nat.le_refl _)
                            have Ff1054 := mAs_F af1054 Fp1052
                            have Zf1054 := mAs_Z af1054 Zp1052
                            exact tw_vret rfl ⟨rfl, gf1054, mCo_l hr Ff1054 Zf1054⟩
                      · try dsimp only [tvI_i, tvJ_j, tvR_r] at q1049
                        have q1049i := zeqi (Y := 3) (by decide) q1049
                        exfalso
                        have z1 := q1003i
                        have z2 := q1049i
                        omega
                    · try dsimp only [tvI_i, tvJ_j, tvR_r] at p1048
                      refine tw_istore rfl ?_
                      refine tw_iload rfl rfl ?_
                      refine tw_push rfl ?_
                      refine tw_ic_ne rfl (fun q1055 => ?_) (fun q1055 => ?_)
                      · try dsimp only [tvI_i, tvJ_j, tvR_r] at q1055
                        have q1055i := zneq (Y := 3) (by decide) q1055
                        refine tw_iload rfl rfl ?_
                        refine tw_if_eq rfl (fun _ => ?_) (fun z => absurd z (by decide))
                        refine tw_aload rfl rfl ?_
                        refine tw_getS rfl (hs_111_42 gzp1047.1) ?_
                        refine tw_iload rfl rfl ?_
                        refine tw_aload rfl rfl ?_
                        refine tw_getS rfl (hi_111_31 gzp1047.1) ?_
                        refine tw_iast rfl (fun f1056 => ?_)
                        have Lf1056 : (tvI (tF hp1047 111 31)).toNatClampNeg = (rA (rB T n s2.1) s2).2.2.length := by rw [← mEn_len]; exact congrArg (fun z : rS => z.2.2.length) Sp1047
                        refine tG_ast f1056 (gzp1047).1 (fun hf1056 af1056 => ?_)
                        try dsimp only [tvI_i, tvR_r] at af1056
                        rw [hI9] at af1056
                        have gf1056 : mFz I h hf1056 := mFz_a gzp1047 af1056 (by decide) (Nat.le_refl _)
                        have pf1056 := mAs_P af1056 (by decide) pp1047e
                        have Sf1056 : ms hf1056 = (rA (rB T n s2.1) s2) := (mAs_m af1056 (by decide)).1.trans Sp1047
                        have Df1056 : tvI (tF hf1056 111 32) = 0 := by rw [af1056.2.1]; exact Dp1047
                        have hw16 : ¬ rW T n (rB T n s2.1) (rWd 16) = true := by have z := p1048; rw [Sp1047, rA_1] at z; exact z
                        have hr := rCl3_2 K3 hw16 (by have z := q1055i; omega)
                        have c135 : tA hf1056 135 I = x := ((congrFun ((mAs_A af1056 (q := 135) (by decide)).trans ((mFw_A gwp1047 (p := 135) (by decide)).trans ((mAs_A af1046 (q := 135) (by decide)).trans ((mFw_A gwp1045 (p := 135) (by decide)).trans ((mAs_A af1042 (q := 135) (by decide)).trans ((mAs_A af1041 (q := 135) (by decide)).trans ((mFw_A gwp1040 (p := 135) (by decide)).trans ((mFw_A gwp1039 (p := 135) (by decide)).trans (mAs_A af1002 (q := 135) (by decide)))))))))) I).trans (mAs_x af1001))
                        have c137 : (tA hf1056 137 I).toNatClampNeg = (rA vp1040.1 (rA (rE T n (rB T n (ms h).1)) (ms h))).2.2.length := by rw [((congrFun ((mAs_A af1056 (q := 137) (by decide)).trans ((mFw_A gwp1047 (p := 137) (by decide)).trans ((mAs_A af1046 (q := 137) (by decide)).trans (mFw_A gwp1045 (p := 137) (by decide))))) I).trans (mAs_x af1042))]; exact Lf1042
                        have c138 : (tA hf1056 138 I).toNatClampNeg = (rA (rB T n s2.1) s2).2.2.length := by rw [((congrFun ((mAs_A af1056 (q := 138) (by decide)).trans (mFw_A gwp1047 (p := 138) (by decide))) I).trans (mAs_x af1046))]; exact Lf1046
                        have c139 : (tA hf1056 139 I).toNatClampNeg = (rA (rB T n s2.1) s2).2.2.length := by rw [(mAs_x af1056)]; exact Lf1056
                        have c136 : (tA hf1056 136 I).toNatClampNeg = vp1040.2 := by rw [((congrFun ((mAs_A af1056 (q := 136) (by decide)).trans ((mFw_A gwp1047 (p := 136) (by decide)).trans ((mAs_A af1046 (q := 136) (by decide)).trans ((mFw_A gwp1045 (p := 136) (by decide)).trans (mAs_A af1042 (q := 136) (by decide)))))) I).trans (mAs_x af1041))]; exact zoN (by omega)
                        have hrow : mRow hf1056 I = (vp1040.2, (rA vp1040.1 (rA (rE T n (rB T n (ms h).1)) (ms h))).2.2.length, (rA (rB T n s2.1) s2).2.2.length, (rA (rB T n s2.1) s2).2.2.length) := by
                          unfold mRow
                          rw [c135, c137, c138, c139, zof_cl hx, c136, if_pos ⟨by have z := q1003i; omega, by omega⟩]
                        exact tw_vret rfl ⟨rfl, gf1056, mCo_r hr pf1056 (Sf1056.trans rB_A.symm) Df1056 hrow⟩
                      · try dsimp only [tvI_i, tvJ_j, tvR_r] at q1055
                        have q1055i := zeqi (Y := 3) (by decide) q1055
                        exfalso
                        have z1 := q1003i
                        have z2 := q1055i
                        omega
                  · have gwp1045 := id gp1045
                    have gzp1045 : mFz I h hp1045 := mFz_t gf1042 (mFz_w gwp1045)
                    have m9 := mp1045
                    rw [Sf1042, show stN 1 = 1 from rfl] at m9
                    have hr := rCl2_e K2 (by have z := q1043i; omega) m9
                    refine tw_aload rfl rfl ?_
                    refine tw_getS rfl (hs_111_41 gzp1045.1) ?_
                    refine tw_iload rfl rfl ?_
                    refine tw_aload rfl rfl ?_
                    refine tw_getS rfl (hi_111_31 gzp1045.1) ?_
                    refine tw_iast rfl (fun f1057 => ?_)
                    refine tG_ast f1057 (gzp1045).1 (fun hf1057 af1057 => ?_)
                    try dsimp only [tvI_i, tvR_r] at af1057
                    rw [hI9] at af1057
                    have gf1057 : mFz I h hf1057 := mFz_a gzp1045 af1057 (by decide) (Nat.le_refl _)
                    have Ff1057 := mAs_F af1057 Fp1045
                    have Zf1057 := mAs_Z af1057 Zp1045
                    refine tw_aload rfl rfl ?_
                    refine tw_virt0 rfl (y_blanks hG hX (gf1057).1 Ff1057 ((mFz_T gf1057).trans hT) ((mFz_n gf1057).trans hN) Zf1057) (fun wp1058 hp1058 p1058 => ?_)
                    obtain ⟨rfl, gp1058, Fp1058, Zp1058⟩ := p1058
                    have gwp1058 := mFw_f gp1058
                    have gzp1058 : mFz I h hp1058 := mFz_t gf1057 (mFz_w gwp1058)
                    refine tw_aload rfl rfl ?_
                    refine tw_push rfl ?_
                    refine tw_virt1 rfl (g_stands hG hX (gzp1058).1 ((mFz_T gzp1058).trans hT) ((mFz_n gzp1058).trans hN) (q := 21) (by decide +kernel) Zp1058.1 ⟨by have := Zp1058.2; omega, Zp1058.2.2⟩) (fun w9 h9 p1059 => ?_)
                    obtain ⟨⟨p1059, rfl⟩ | ⟨p1059, rfl⟩, rfl⟩ := p1059
                    · try dsimp only [tvI_i, tvJ_j, tvR_r] at p1059
                      refine tw_istore rfl ?_
                      refine tw_iload rfl rfl ?_
                      refine tw_push rfl ?_
                      refine tw_ic_ne rfl (fun q1060 => ?_) (fun q1060 => ?_)
                      · try dsimp only [tvI_i, tvJ_j, tvR_r] at q1060
                        have q1060i := zneq (Y := 3) (by decide) q1060
                        refine tw_iload rfl rfl ?_
                        refine tw_if_eq rfl (fun z => absurd z (by decide)) (fun _ => ?_)
                        refine tw_aload rfl rfl ?_
                        refine tw_getS rfl (hi_111_29 gzp1058.1) ?_
                        refine tw_if_ne rfl (fun q1061 => ?_) (fun q1061 => ?_)
                        · try dsimp only [tvI_i, tvJ_j, tvR_r] at q1061
                          have q1061i := zneq (Y := 0) (by decide) q1061
                          refine tw_aload rfl rfl ?_
                          refine tw_getS rfl (hs_111_42 gzp1058.1) ?_
                          refine tw_iload rfl rfl ?_
                          refine tw_aload rfl rfl ?_
                          refine tw_getS rfl (hi_111_31 gzp1058.1) ?_
                          refine tw_iast rfl (fun f1062 => ?_)
                          refine tG_ast f1062 (gzp1058).1 (fun hf1062 af1062 => ?_)
                          try dsimp only [tvI_i, tvR_r] at af1062
                          rw [hI9] at af1062
                          have gf1062 : mFz I h hf1062 := mFz_a gzp1058 af1062 (by decide) (Nat.le_refl _)
                          have Ff1062 := mAs_F af1062 Fp1058
                          have Zf1062 := mAs_Z af1062 Zp1058
                          exact tw_vret rfl ⟨rfl, gf1062, mCo_l hr Ff1062 Zf1062⟩
                        · try dsimp only [tvI_i, tvJ_j, tvR_r] at q1061
                          have q1061i := zeqi (Y := 0) (by decide) q1061
                          exact absurd q1061 (mFt_n Fp1058)
                      · try dsimp only [tvI_i, tvJ_j, tvR_r] at q1060
                        have q1060i := zeqi (Y := 3) (by decide) q1060
                        exfalso
                        have z1 := q1003i
                        have z2 := q1060i
                        omega
                    · try dsimp only [tvI_i, tvJ_j, tvR_r] at p1059
                      refine tw_istore rfl ?_
                      refine tw_iload rfl rfl ?_
                      refine tw_push rfl ?_
                      refine tw_ic_ne rfl (fun q1063 => ?_) (fun q1063 => ?_)
                      · try dsimp only [tvI_i, tvJ_j, tvR_r] at q1063
                        have q1063i := zneq (Y := 3) (by decide) q1063
                        refine tw_iload rfl rfl ?_
                        refine tw_if_eq rfl (fun _ => ?_) (fun z => absurd z (by decide))
                        refine tw_aload rfl rfl ?_
                        refine tw_getS rfl (hs_111_42 gzp1058.1) ?_
                        refine tw_iload rfl rfl ?_
                        refine tw_aload rfl rfl ?_
                        refine tw_getS rfl (hi_111_31 gzp1058.1) ?_
                        refine tw_iast rfl (fun f1064 => ?_)
                        refine tG_ast f1064 (gzp1058).1 (fun hf1064 af1064 => ?_)
                        try dsimp only [tvI_i, tvR_r] at af1064
                        rw [hI9] at af1064
                        have gf1064 : mFz I h hf1064 := mFz_a gzp1058 af1064 (by decide) (Nat.le_refl _)
                        have Ff1064 := mAs_F af1064 Fp1058
                        have Zf1064 := mAs_Z af1064 Zp1058
                        exact tw_vret rfl ⟨rfl, gf1064, mCo_l hr Ff1064 Zf1064⟩
                      · try dsimp only [tvI_i, tvJ_j, tvR_r] at q1063
                        have q1063i := zeqi (Y := 3) (by decide) q1063
                        exfalso
                        have z1 := q1003i
                        have z2 := q1063i
                        omega
            · have gwp1040 := mFw_f gp1040
              have gzp1040 : mFz I h hp1040 := mFz_t gzp1039 (mFz_w gwp1040)
              have hr : r = .inl ep1040 := rCl1_e K1 (by have z := q1003i; omega) (by rw [← rM_bb]; have z := Np1040; rw [Sp1039, rA_1] at z; exact z)
              refine tw_iast rfl (fun f1065 => ?_)
              refine tG_ast f1065 (gzp1040).1 (fun hf1065 af1065 => ?_)
              try dsimp only [tvI_i, tvR_r] at af1065
              rw [hI9] at af1065
              have gf1065 : mFz I h hf1065 := mFz_a gzp1040 af1065 (by decide) (Nat.le_refl _)
              have Ff1065 := mAs_F af1065 Fp1040
              have Zf1065 := mAs_Z af1065 Zp1040
              refine tw_aload rfl rfl ?_
              refine tw_getS rfl (hs_111_40 (gf1065).1) ?_
              refine tw_iload rfl rfl ?_
              refine tw_aload rfl rfl ?_
              refine tw_getS rfl (hi_111_31 (gf1065).1) ?_
              refine tw_iast rfl (fun f1066 => ?_)
              refine tG_ast f1066 (gf1065).1 (fun hf1066 af1066 => ?_)
              try dsimp only [tvI_i, tvR_r] at af1066
              rw [hI9] at af1066
              have gf1066 : mFz I h hf1066 := mFz_a gf1065 af1066 (by decide) (Nat.le_refl _)
              have Ff1066 := mAs_F af1066 Ff1065
              have Zf1066 := mAs_Z af1066 Zf1065
              refine tw_iload rfl rfl ?_
              refine tw_push rfl ?_
              refine tw_ic_eq rfl (fun q1067 => ?_) (fun q1067 => ?_)
              · try dsimp only [tvI_i, tvJ_j, tvR_r] at q1067
                have q1067i := zeqi (Y := 3) (by decide) q1067
                exfalso
                have z1 := q1003i
                have z2 := q1067i
                omega
              · try dsimp only [tvI_i, tvJ_j, tvR_r] at q1067
                have q1067i := zneq (Y := 3) (by decide) q1067
                refine tw_aload rfl rfl ?_
                refine tw_getS rfl (hi_111_29 (gf1066).1) ?_
                refine tw_if_ne rfl (fun q1068 => ?_) (fun q1068 => ?_)
                · try dsimp only [tvI_i, tvJ_j, tvR_r] at q1068
                  have q1068i := zneq (Y := 0) (by decide) q1068
                  refine tw_aload rfl rfl ?_
                  refine tw_getS rfl (hs_111_41 (gf1066).1) ?_
                  refine tw_iload rfl rfl ?_
                  refine tw_aload rfl rfl ?_
                  refine tw_getS rfl (hi_111_31 (gf1066).1) ?_
                  refine tw_iast rfl (fun f1069 => ?_)
                  refine tG_ast f1069 (gf1066).1 (fun hf1069 af1069 => ?_)
                  try dsimp only [tvI_i, tvR_r] at af1069
                  rw [hI9] at af1069
                  have gf1069 : mFz I h hf1069 := mFz_a gf1066 af1069 (by decide) (Nat.le_refl _)
                  have Ff1069 := mAs_F af1069 Ff1066
                  have Zf1069 := mAs_Z af1069 Zf1066
                  refine tw_aload rfl rfl ?_
                  refine tw_virt0 rfl (y_blanks hG hX (gf1069).1 Ff1069 ((mFz_T gf1069).trans hT) ((mFz_n gf1069).trans hN) Zf1069) (fun wp1070 hp1070 p1070 => ?_)
                  obtain ⟨rfl, gp1070, Fp1070, Zp1070⟩ := p1070
                  have gwp1070 := mFw_f gp1070
                  have gzp1070 : mFz I h hp1070 := mFz_t gf1069 (mFz_w gwp1070)
                  refine tw_aload rfl rfl ?_
                  refine tw_push rfl ?_
                  refine tw_virt1 rfl (g_stands hG hX (gzp1070).1 ((mFz_T gzp1070).trans hT) ((mFz_n gzp1070).trans hN) (q := 21) (by decide +kernel) Zp1070.1 ⟨by have := Zp1070.2; omega, Zp1070.2.2⟩) (fun w9 h9 p1071 => ?_)
                  obtain ⟨⟨p1071, rfl⟩ | ⟨p1071, rfl⟩, rfl⟩ := p1071
                  · try dsimp only [tvI_i, tvJ_j, tvR_r] at p1071
                    refine tw_istore rfl ?_
                    refine tw_iload rfl rfl ?_
                    refine tw_push rfl ?_
                    refine tw_ic_ne rfl (fun q1072 => ?_) (fun q1072 => ?_)
                    · try dsimp only [tvI_i, tvJ_j, tvR_r] at q1072
                      have q1072i := zneq (Y := 3) (by decide) q1072
                      refine tw_iload rfl rfl ?_
                      refine tw_if_eq rfl (fun z => absurd z (by decide)) (fun _ => ?_)
                      refine tw_aload rfl rfl ?_
                      refine tw_getS rfl (hi_111_29 gzp1070.1) ?_
                      refine tw_if_ne rfl (fun q1073 => ?_) (fun q1073 => ?_)
                      · try dsimp only [tvI_i, tvJ_j, tvR_r] at q1073
                        have q1073i := zneq (Y := 0) (by decide) q1073
                        refine tw_aload rfl rfl ?_
                        refine tw_getS rfl (hs_111_42 gzp1070.1) ?_
                        refine tw_iload rfl rfl ?_
                        refine tw_aload rfl rfl ?_
                        refine tw_getS rfl (hi_111_31 gzp1070.1) ?_
                        refine tw_iast rfl (fun f1074 => ?_)
                        refine tG_ast f1074 (gzp1070).1 (fun hf1074 af1074 => ?_)
                        try dsimp only [tvI_i, tvR_r] at af1074
                        rw [hI9] at af1074
                        have gf1074 : mFz I h hf1074 := mFz_a gzp1070 af1074 (by decide) (Nat.le_refl _)
                        have Ff1074 := mAs_F af1074 Fp1070
                        have Zf1074 := mAs_Z af1074 Zp1070
                        exact tw_vret rfl ⟨rfl, gf1074, mCo_l hr Ff1074 Zf1074⟩
                      · try dsimp only [tvI_i, tvJ_j, tvR_r] at q1073
                        have q1073i := zeqi (Y := 0) (by decide) q1073
                        exact absurd q1073 (mFt_n Fp1070)
                    · try dsimp only [tvI_i, tvJ_j, tvR_r] at q1072
                      have q1072i := zeqi (Y := 3) (by decide) q1072
                      exfalso
                      have z1 := q1003i
                      have z2 := q1072i
                      omega
                  · try dsimp only [tvI_i, tvJ_j, tvR_r] at p1071
                    refine tw_istore rfl ?_
                    refine tw_iload rfl rfl ?_
                    refine tw_push rfl ?_
                    refine tw_ic_ne rfl (fun q1075 => ?_) (fun q1075 => ?_)
                    · try dsimp only [tvI_i, tvJ_j, tvR_r] at q1075
                      have q1075i := zneq (Y := 3) (by decide) q1075
                      refine tw_iload rfl rfl ?_
                      refine tw_if_eq rfl (fun _ => ?_) (fun z => absurd z (by decide))
                      refine tw_aload rfl rfl ?_
                      refine tw_getS rfl (hs_111_42 gzp1070.1) ?_
                      refine tw_iload rfl rfl ?_
                      refine tw_aload rfl rfl ?_
                      refine tw_getS rfl (hi_111_31 gzp1070.1) ?_
                      refine tw_iast rfl (fun f1076 => ?_)
                      refine tG_ast f1076 (gzp1070).1 (fun hf1076 af1076 => ?_)
                      try dsimp only [tvI_i, tvR_r] at af1076
                      rw [hI9] at af1076
                      have gf1076 : mFz I h hf1076 := mFz_a gzp1070 af1076 (by decide) (Nat.le_refl _)
                      have Ff1076 := mAs_F af1076 Fp1070
                      have Zf1076 := mAs_Z af1076 Zp1070
                      exact tw_vret rfl ⟨rfl, gf1076, mCo_l hr Ff1076 Zf1076⟩
                    · try dsimp only [tvI_i, tvJ_j, tvR_r] at q1075
                      have q1075i := zeqi (Y := 3) (by decide) q1075
                      exfalso
                      have z1 := q1003i
                      have z2 := q1075i
                      omega
                · try dsimp only [tvI_i, tvJ_j, tvR_r] at q1068
                  have q1068i := zeqi (Y := 0) (by decide) q1068
                  exact absurd q1068 (mFt_n Ff1066)
        · try dsimp only [tvI_i, tvJ_j, tvR_r] at q998
          have q998i := zeqi (Y := 12) (by decide) q998
          refine tw_aload rfl rfl ?_
          refine tw_push rfl ?_
          refine tw_iload rfl rfl ?_
          refine tw_virt2 rfl (g_fails hG hX (gzp991).1 pp991e ((mFz_T gzp991).trans hT) ((mFz_n gzp991).trans hN) (w := 4) rfl (by decide) (mPl pp991e) (by have := mPle pp991e ((mFz_n gzp991).trans hN); have := mNl pp991e ((mFz_n gzp991).trans hN); have := pp991e.2.1; omega)) (fun wp1077 hp1077 p1077 => ?_)
          obtain ⟨rfl, gp1077, Fp1077, ip1077, jp1077⟩ := p1077
          have gwp1077 := mFw_f gp1077
          have gzp1077 : mFz I h hp1077 := mFz_t gzp991 (mFz_w gwp1077)
          have Zp1077 : mZp hp1077 := mZp_k (mZp_p pp991e) ip1077 jp1077
          rw [Sp991, rA_1] at Fp1077
          have hk4 : k < 4 := by have z := q992; omega
          have hw : rW T n (rB T n (ms h).1) (rWd (k + 12)) = true := by have z := p996; rw [Sp991, rA_1] at z; rw [rWd_14 hk4]; exact z
          have hr := rCl_cc hr0 (k := k + 12) (by omega) (by omega) hw (by have z := q998i; omega)
          exact tw_vret rfl ⟨rfl, gzp1077, mCo_l hr Fp1077 Zp1077⟩
      · try dsimp only [tvI_i, tvJ_j, tvR_r] at q997
        have q997i := zeqi (Y := 4) (by decide) q997
        exfalso
        have z1 := q992
        have z2 := q997i
        omega
    · try dsimp only [tvI_i, tvJ_j, tvR_r] at p996
      refine tw_if_ne rfl (fun z => absurd z (by decide)) (fun _ => ?_)
      refine tw_iinc rfl rfl ?_
      refine tw_goto rfl ?_
      have hk4 : k < 4 := by have z := q992; omega
      have hno : ¬ rW T n (rB T n (ms h).1) (rWd (k + 12)) = true := by have z := p996; rw [Sp991, rA_1] at z; rw [rWd_14 hk4]; exact z
      exact tG_cut (zW_mono zTt G dp) (Or.inr ⟨rfl, rfl, rfl, k + 1, x + 1, zincN hx (by omega), by omega, fun i hi => (Classical.em (i = k)).elim (fun z => by rw [z]; exact hno) (fun z => hall i (by omega)), rfl⟩)
/-! the reference's whole rule: what its loop stands on -/
section R9
variable {T : Nat → Int32} {n f : Nat} {s : rS} {cl : List rCt} {r : Nat ⊕ (rS × List rCt)}
/-- what follows a clause -/
noncomputable def rNx (T : Nat → Int32) (n : Nat) (cl : List rCt) (r : Nat ⊕ (rS × List rCt)) : Nat ⊕ (rS × rCt) → Prop
  | .inl e => r = .inl e
  | .inr x => (¬ rB T n x.1.1 < n ∧ r = .inr (rA (rB T n x.1.1) x.1, cl ++ [x.2])) ∨ ((rB T n x.1.1 < n ∧ T (rB T n x.1.1) = 59) ∧ ∃ f, rRu T n f (rA (rB T n x.1.1 + 1) x.1) (cl ++ [x.2]) r) ∨ ((rB T n x.1.1 < n ∧ ¬ T (rB T n x.1.1) = 59) ∧ r = .inl (1 + 8 * rB T n x.1.1 + 0))
theorem rRu_st (h : rRu T n f s cl r) : ∃ r2, rCl T n cl.length s r2 ∧ rNx T n cl r r2 := by
  cases f with
  | zero => exact h.elim
  | succ f =>
    rcases h with ⟨e, h1, h2⟩ | ⟨s1, c, h1, h2⟩
    · exact ⟨.inl e, h1, h2⟩
    · refine ⟨.inr (s1, c), h1, ?_⟩
      rcases h2 with h2 | ⟨h2, h3⟩ | h2
      · exact Or.inl h2
      · exact Or.inr (Or.inl ⟨h2, f, h3⟩)
      · exact Or.inr (Or.inr h2)
theorem mCo_w {I : Nat} {r2 : Nat ⊕ (rS × rCt)} {h h2 : zH} {w : Option Value} (k : w = none ∧ mFz I h h2 ∧ mCo T n I r2 h2) (q : rNx T n cl r r2) : w = none ∧ mFz I h h2 ∧ ((∃ e, r = .inl e ∧ mFt h2 e ∧ mZp h2) ∨ ∃ s1 c1, r2 = .inr (s1, c1) ∧ mP h2 ∧ ms h2 = rA (rB T n s1.1) s1 ∧ tvI (tF h2 111 32) = 0 ∧ mRow h2 I = c1 ∧ rNx T n cl r (.inr (s1, c1))) := by
  refine ⟨k.1, k.2.1, ?_⟩
  cases r2 with
  | inl e => exact Or.inl ⟨e, q, k.2.2.1, k.2.2.2⟩
  | inr x => exact Or.inr ⟨x.1, x.2, rfl, k.2.2.1, k.2.2.2.1, k.2.2.2.2.1, k.2.2.2.2.2, q⟩
/-- what the reference's reader keeps between rules -/
noncomputable def mK (h : zH) : Prop := (0 ≤ (tvI (tF h 111 27)).toInt ∧ (tvI (tF h 111 27)).toInt ≤ 400) ∧ 0 ≤ (tvI (tF h 111 34)).toInt ∧ (0 ≤ (tvI (tF h 111 30)).toInt ∧ (tvI (tF h 111 30)).toInt ≤ 10) ∧ (∀ i, i < tN h 142 → 0 ≤ (tA h 142 i).toInt) ∧ (∀ i : Nat, i = i) ∧ tN h 133 ≤ 100000 ∧ tN h 142 ≤ 100000
theorem mRs9 {h a b c d e : zH} {lo : Nat} (hs : tSh h) (k : mK h) (e28 : mSet 28 0 h a) (e29 : mSet 29 0 a b) (e31 : mSet 31 0 b c) (e32 : mSet 32 0 c d) (e33 : mSet 33 0 d e) : mFz lo h e ∧ mP e ∧ ms e = (0, 0, []) ∧ tvI (tF e 111 32) = 0 := by
  have z0 : mFz lo h h := mFz_r hs
  have z1 := mFz_s z0 e28 (Or.inl (by unfold mFs; omega))
  have z2 := mFz_s z1 e29 (Or.inl (by unfold mFs; omega))
  have z3 := mFz_s z2 e31 (Or.inl (by unfold mFs; omega))
  have z4 := mFz_s z3 e32 (Or.inl (by unfold mFs; omega))
  have z5 := mFz_s z4 e33 (Or.inl (by unfold mFs; omega))
  have f28 : tF e 111 28 = .int 0 := (e33.2.2.1 111 28 (by decide)).trans ((e32.2.2.1 111 28 (by decide)).trans ((e31.2.2.1 111 28 (by decide)).trans ((e29.2.2.1 111 28 (by decide)).trans e28.2.1)))
  have f29 : tF e 111 29 = .int 0 := (e33.2.2.1 111 29 (by decide)).trans ((e32.2.2.1 111 29 (by decide)).trans ((e31.2.2.1 111 29 (by decide)).trans e29.2.1))
  have f31 : tF e 111 31 = .int 0 := (e33.2.2.1 111 31 (by decide)).trans ((e32.2.2.1 111 31 (by decide)).trans e31.2.1)
  have f32 : tF e 111 32 = .int 0 := (e33.2.2.1 111 32 (by decide)).trans e32.2.1
  have f33 : tF e 111 33 = .int 0 := e33.2.1
  have f34 : tF e 111 34 = tF h 111 34 := (e33.2.2.1 111 34 (by decide)).trans ((e32.2.2.1 111 34 (by decide)).trans ((e31.2.2.1 111 34 (by decide)).trans ((e29.2.2.1 111 34 (by decide)).trans (e28.2.2.1 111 34 (by decide)))))
  have A : tA e = tA h := e33.2.2.2.1.trans (e32.2.2.2.1.trans (e31.2.2.2.1.trans (e29.2.2.2.1.trans e28.2.2.2.1)))
  have N : tN e = tN h := z5.2.2.2.1
  obtain ⟨k1, k2, k3, k4, k5, k6, k7⟩ := k
  refine ⟨z5, ⟨f29, ?_, ?_, ?_, ?_, ?_, ?_, ?_, by rw [N]; exact k6, by rw [N]; exact k7⟩, ?_, ?_⟩
  · rw [f28, mFz_27 z5]
    refine ⟨by decide, ?_, k1.2⟩
    show (0 : Int) ≤ _
    exact k1.1
  · rw [f33]; decide
  · rw [f31]; decide
  · rw [f34]; exact k2
  · rw [mFz_30 z5]; exact k3
  · rw [A, N]; exact k4
  · exact k5
  · unfold ms mEn
    rw [f28, f33, f31]
    rfl
  · rw [f32]; rfl
/-- the codes of rule q, k of them -/
noncomputable def mEk (h : zH) (q k : Nat) : List Nat := (List.range k).map (fun i => mCode (tA h 133 (500 * q + i)).toNatClampNeg (tA h 134 (500 * q + i)).toNatClampNeg)
theorem mEn_k {h : zH} : mEn h = mEk h (tvI (tF h 111 30)).toNatClampNeg (tvI (tF h 111 31)).toNatClampNeg := rfl
end R9
section R10
variable {T : Nat → Int32} {n : Nat} {h h1 h2 : zH}
theorem mRow_z {lo j : Nat} (a : mFz lo h h2) (hj : j < lo) : mRow h2 j = mRow h j := by
  unfold mRow
  rw [a.2.2.2.2.2 135 j (by decide) (by decide) hj, a.2.2.2.2.2 136 j (by decide) (by decide) hj, a.2.2.2.2.2 137 j (by decide) (by decide) hj, a.2.2.2.2.2 138 j (by decide) (by decide) hj, a.2.2.2.2.2 139 j (by decide) (by decide) hj]
noncomputable def mRw (h : zH) (b : Nat) (cl : List rCt) : Prop := ∀ i, i < cl.length → cl[i]? = some (mRow h (b + i))
theorem mRw_0 {b : Nat} : mRw h b [] := fun i hi => absurd hi (Nat.not_lt_zero _)
theorem mRw_z {b lo : Nat} {cl : List rCt} (k : mRw h b cl) (a : mFz lo h h2) (hl : b + cl.length ≤ lo) : mRw h2 b cl := fun i hi => by
  rw [mRow_z a (by omega)]
  exact k i hi
theorem mRw_s {b : Nat} {cl : List rCt} {c1 : rCt} (k : mRw h b cl) (e : mRow h (b + cl.length) = c1) : mRw h b (cl ++ [c1]) := fun i hi => by
  rcases Nat.lt_or_ge i cl.length with z | z
  · rw [List.getElem?_append_left z]
    exact k i z
  · have hi : i < cl.length + 1 := by rw [List.length_append] at hi; exact hi
    obtain rfl : i = cl.length := by omega
    rw [List.getElem?_append_right (Nat.le_refl _), Nat.sub_self, e]
    rfl
/-- a whole rule's frame -/
noncomputable def mFy (h h2 : zH) : Prop := tSh h2 ∧ (∀ p b, ¬ (p = 111 ∧ (mFs b ∨ b = 46 ∨ b = 47 ∨ b = 27 ∨ b = 30)) → tF h2 p b = tF h p b) ∧ (∀ p, p ≠ 133 → p ≠ 134 → p ≠ 142 → (p < 135 ∨ 141 < p) → tA h2 p = tA h p) ∧ tN h2 = tN h ∧ mLo h h2 ∧ (∀ p q, 135 ≤ p → p ≤ 139 → q < 12 * (tvI (tF h 111 30)).toNatClampNeg → tA h2 p q = tA h p q)
noncomputable def mRo (y : Int32) (r : Nat ⊕ (rS × List rCt)) (w : Option Value) (h h2 : zH) : Prop := mFy h h2 ∧ tvI (tF h2 111 27) = 0 ∧ match r with
  | .inl e => e < 100000 ∧ w = some (.int (-2 - Int32.ofNat e)) ∧ tF h2 111 30 = tF h 111 30 ∧ tA h2 140 = tA h 140 ∧ tA h2 141 = tA h 141
  | .inr x => w = some (.int (tvI (tF h 111 30) + 1 - 1)) ∧ tvI (tF h2 111 30) = tvI (tF h 111 30) + 1 ∧ (tA h2 140 (tvI (tF h 111 30)).toNatClampNeg).toNatClampNeg = x.2.length ∧ tA h2 141 (tvI (tF h 111 30)).toNatClampNeg = y ∧ (∀ q, q ≠ (tvI (tF h 111 30)).toNatClampNeg → tA h2 140 q = tA h 140 q ∧ tA h2 141 q = tA h 141 q) ∧ mRw h2 (12 * (tvI (tF h 111 30)).toNatClampNeg) x.2 ∧ x.1.2.2 = mEk h2 (tvI (tF h 111 30)).toNatClampNeg x.1.2.2.length
/-- the loop's end, and its middle -/
noncomputable def mLp (T : Nat → Int32) (n : Nat) (r : Nat ⊕ (rS × List rCt)) (b k : Nat) (m : Int32) (h1 : zH) : Prop :=
  (m ≠ 0 ∧ k ≤ 12 ∧ mP h1 ∧ tvI (tF h1 111 32) = 0 ∧ ∃ cl f, cl.length = k ∧ mRw h1 b cl ∧ rRu T n f (ms h1) cl r)
  ∨ (m = 0 ∧ ((∃ e, r = .inl e ∧ mFt h1 e) ∨ ∃ s cl, r = .inr (s, cl) ∧ cl.length = k ∧ mRw h1 b cl ∧ tF h1 111 29 = .int 0 ∧ mEn h1 = s.2.2))
theorem nx_1 {cl : List rCt} {c1 : rCt} {s1 : rS} {r : Nat ⊕ (rS × List rCt)} (q : rNx T n cl r (.inr (s1, c1))) (h1 : ¬ rB T n s1.1 < n) : r = .inr (rA (rB T n s1.1) s1, cl ++ [c1]) := by
  rcases q with ⟨_, q⟩ | ⟨z, _⟩ | ⟨z, _⟩
  · exact q
  · exact absurd z.1 h1
  · exact absurd z.1 h1
theorem nx_2 {cl : List rCt} {c1 : rCt} {s1 : rS} {r : Nat ⊕ (rS × List rCt)} (q : rNx T n cl r (.inr (s1, c1))) (h1 : rB T n s1.1 < n ∧ T (rB T n s1.1) = 59) : ∃ f, rRu T n f (rA (rB T n s1.1 + 1) s1) (cl ++ [c1]) r := by
  rcases q with ⟨z, _⟩ | ⟨_, q⟩ | ⟨z, _⟩
  · exact absurd h1.1 z
  · exact q
  · exact absurd h1.2 z.2
theorem nx_3 {cl : List rCt} {c1 : rCt} {s1 : rS} {r : Nat ⊕ (rS × List rCt)} (q : rNx T n cl r (.inr (s1, c1))) (h1 : rB T n s1.1 < n) (h2 : ¬ (rB T n s1.1 < n ∧ T (rB T n s1.1) = 59)) : r = .inl (1 + 8 * rB T n s1.1 + 0) := by
  rcases q with ⟨z, _⟩ | ⟨z, _⟩ | ⟨_, q⟩
  · exact absurd h1 z
  · exact absurd z h2
  · exact q
theorem mFt_m {b w : Nat} {X : Int32} {h3 : zH} (k : mSet b X h h3) (hb : b ≠ 29) (F : mFt h w) : mFt h3 w := ⟨(k.2.2.1 111 29 (fun z => hb z.2.symm)).trans F.1, F.2⟩
theorem mRw_m {b q : Nat} {X : Int32} {h3 : zH} {cl : List rCt} (k : mRw h b cl) (e : mSet q X h h3) : mRw h3 b cl := fun i hi => by
  rw [k i hi]
  unfold mRow
  rw [e.2.2.2.1]
theorem mRw_a {b q i : Nat} {x : Int32} {h3 : zH} {cl : List rCt} (k : mRw h b cl) (e : mAs q i x h h3) (hq : 139 < q) : mRw h3 b cl := fun j hj => by
  rw [k j hj]
  unfold mRow
  rw [mAs_A e (q := 135) (by omega), mAs_A e (q := 136) (by omega), mAs_A e (q := 137) (by omega), mAs_A e (q := 138) (by omega), mAs_A e (q := 139) (by omega)]
theorem mFy_1 {X : Int32} {h3 : zH} (g : mFz (12 * (tvI (tF h 111 30)).toNatClampNeg) h h1) (e : mSet 27 X h1 h3) : mFy h h3 := ⟨e.1, fun p b z => (e.2.2.1 p b (fun w => z ⟨w.1, by omega⟩)).trans (g.2.1 p b (fun w => z ⟨w.1, w.2.elim Or.inl (fun y => y.elim (fun y => Or.inr (Or.inl y)) (fun y => Or.inr (Or.inr (Or.inl y))))⟩)), fun p a b c d => (congrFun e.2.2.2.1 p).trans (g.2.2.1 p a b c (by omega)), e.2.2.2.2.trans g.2.2.2.1, mLo_A e.2.2.2.1 g.2.2.2.2.1, fun p q a b c => (congrFun (congrFun e.2.2.2.1 p) q).trans (g.2.2.2.2.2 p q a b c)⟩
theorem mFy_2 {q i : Nat} {x : Int32} {h3 : zH} (a : mFy h h1) (e : mAs q i x h1 h3) (hq : q = 140 ∨ q = 141) : mFy h h3 := ⟨e.1, fun p b z => by rw [e.2.1]; exact a.2.1 p b z, fun p w1 w2 w3 w4 => (mAs_A e (by omega)).trans (a.2.2.1 p w1 w2 w3 w4), e.2.2.1.trans a.2.2.2.1, fun j hj => ⟨(mAs_o e (by omega)).trans (a.2.2.2.2.1 j hj).1, (mAs_o e (by omega)).trans (a.2.2.2.2.1 j hj).2⟩, fun p j w1 w2 w3 => (mAs_o e (by omega)).trans (a.2.2.2.2.2 p j w1 w2 w3)⟩
theorem mFy_3 {X : Int32} {h3 : zH} (a : mFy h h1) (e : mSet 30 X h1 h3) : mFy h h3 := ⟨e.1, fun p b z => (e.2.2.1 p b (fun w => z ⟨w.1, by omega⟩)).trans (a.2.1 p b z), fun p w1 w2 w3 w4 => (congrFun e.2.2.2.1 p).trans (a.2.2.1 p w1 w2 w3 w4), e.2.2.2.2.trans a.2.2.2.1, mLo_A e.2.2.2.1 a.2.2.2.2.1, fun p j w1 w2 w3 => (congrFun (congrFun e.2.2.2.1 p) j).trans (a.2.2.2.2.2 p j w1 w2 w3)⟩
theorem mEk_c {q k : Nat} (a : tA h2 133 = tA h 133) (b : tA h2 134 = tA h 134) : mEk h2 q k = mEk h q k := by
  unfold mEk
  rw [a, b]
/-- the end, with a fault; the end without one -/
theorem mRo_l {y : Int32} {r : Nat ⊕ (rS × List rCt)} {e : Nat} {hA : zH} (hr : r = .inl e) (g1 : mFz (12 * (tvI (tF h 111 30)).toNatClampNeg) h h1) (k : mSet 27 0 h1 hA) (F : mFt h1 e) : mRo y r (some (.int (-2 - tvI (tF hA 111 29)))) h hA := by
  subst hr
  refine ⟨mFy_1 g1 k, mI_x k, F.2.2, ?_, (k.2.2.1 111 30 (by decide)).trans (mFz_30 g1), (congrFun k.2.2.2.1 140).trans (g1.2.2.1 140 (by decide) (by decide) (by decide) (by decide)), (congrFun k.2.2.2.1 141).trans (g1.2.2.1 141 (by decide) (by decide) (by decide) (by decide))⟩
  rw [(k.2.2.1 111 29 (by decide)).trans F.1]
  rfl
theorem mRo_r {y x : Int32} {r : Nat ⊕ (rS × List rCt)} {s9 : rS} {cl9 : List rCt} {i1 i2 X : Int32} {hA hB hC hD : zH} (hr : r = .inr (s9, cl9)) (g1 : mFz (12 * (tvI (tF h 111 30)).toNatClampNeg) h h1) (k : mSet 27 0 h1 hA) (a1 : mAs 140 i1.toNatClampNeg x hA hB) (hi1 : i1 = tvI (tF hA 111 30)) (a2 : mAs 141 i2.toNatClampNeg y hB hC) (hi2 : i2 = tvI (tF hB 111 30)) (k2 : mSet 30 X hC hD) (hX : X = tvI (tF hC 111 30) + 1) (hx : x.toInt = cl9.length) (rw9 : mRw h1 (12 * (tvI (tF h 111 30)).toNatClampNeg) cl9) (h5 : mEn h1 = s9.2.2) : mRo y r (some (.int (tvI (tF hD 111 30) - 1))) h hD := by
  subst hr
  have EA : tF hA 111 30 = tF h 111 30 := (k.2.2.1 111 30 (by decide)).trans (mFz_30 g1)
  have EB : tF hB 111 30 = tF h 111 30 := by rw [a1.2.1]; exact EA
  have EC : tF hC 111 30 = tF h 111 30 := by rw [a2.2.1]; exact EB
  rw [hi1, EA] at a1
  rw [hi2, EB] at a2
  have ED : tvI (tF hD 111 30) = tvI (tF h 111 30) + 1 := (mI_x k2).trans (by rw [hX, EC])
  refine ⟨mFy_3 (mFy_2 (mFy_2 (mFy_1 g1 k) a1 (Or.inl rfl)) a2 (Or.inr rfl)) k2, ?_, by rw [ED], ED, ?_, ?_, fun q hq => ⟨?_, ?_⟩, mRw_m (mRw_a (mRw_a (mRw_m rw9 k) a1 (by decide)) a2 (by decide)) k2, ?_⟩
  · rw [k2.2.2.1 111 27 (by decide), a2.2.1, a1.2.1]
    exact mI_x k
  · rw [k2.2.2.2.1, mAs_o a2 (by decide), mAs_x a1]
    exact zof_cl hx
  · rw [k2.2.2.2.1]
    exact mAs_x a2
  · rw [k2.2.2.2.1, mAs_o a2 (by decide), a1.2.2.2]
    refine (if_neg (fun z => hq z.2)).trans ?_
    rw [k.2.2.2.1, g1.2.2.1 140 (by decide) (by decide) (by decide) (by decide)]
  · rw [k2.2.2.2.1, a2.2.2.2]
    refine (if_neg (fun z => hq z.2)).trans ?_
    rw [mAs_A a1 (by decide), k.2.2.2.1, g1.2.2.1 141 (by decide) (by decide) (by decide) (by decide)]
  · rw [← h5, mEn_len, mEn_k, mFz_30 g1]
    refine (mEk_c ?_ ?_).symm
    · rw [k2.2.2.2.1, mAs_A a2 (by decide), mAs_A a1 (by decide), k.2.2.2.1]
    · rw [k2.2.2.2.1, mAs_A a2 (by decide), mAs_A a1 (by decide), k.2.2.2.1]
end R10
theorem g_rule {G : zG} (hG : G.1 = zProg) (hX : G.2.1 = ztx) {h : zH} {T : Nat → Int32} {n : Nat} (hs : tSh h) (hk : mK h) (hT : tA h 132 = T) (hN : mn h = n) {y : Int32} {r : Nat ⊕ (rS × List rCt)} (hr0 : ∃ f, rRu T n f (0, 0, []) [] r) : tC zTt G 225 [.ref 111, .int y] h (fun w h2 => (¬ (¬ tvI (tF h 111 30) = 10 ∧ (tvI (tF h 111 1)).toInt ≤ y.toInt ∧ y.toInt ≤ 599) ∧ w = some (.int (-1)) ∧ h2 = h) ∨ ((¬ tvI (tF h 111 30) = 10 ∧ (tvI (tF h 111 1)).toInt ≤ y.toInt ∧ y.toInt ≤ 599) ∧ mRo y r w h h2)) := by
  refine tC_in (by rw [hG]; rfl) (fun dp => ?_)
  have g0 : mFz (12 * (tvI (tF h 111 30)).toNatClampNeg) h h := mFz_r hs
  refine tw_aload rfl rfl ?_
  refine tw_getS rfl (hi_111_30 hs) ?_
  refine tw_push rfl ?_
  refine tw_ic_eq rfl (fun q1078 => ?_) (fun q1078 => ?_)
  · try dsimp only [tvI_i, tvJ_j, tvR_r] at q1078
    have q1078i := zeqi (Y := 10) (by decide) q1078
    refine tw_push rfl ?_
    exact tw_iret rfl (Or.inl ⟨fun z => z.1 q1078, rfl, rfl⟩)
  · try dsimp only [tvI_i, tvJ_j, tvR_r] at q1078
    have q1078i := zneq (Y := 10) (by decide) q1078
    refine tw_iload rfl rfl ?_
    refine tw_i2l rfl ?_
    refine tw_aload rfl rfl ?_
    refine tw_getS rfl (hi_111_1 hs) ?_
    refine tw_i2l rfl ?_
    refine tw_push rfl ?_
    refine tw_stat3 rfl (f_in hG   (HI := 599) (Int32.toInt_toInt64 _) (Int32.toInt_toInt64 _) (by decide)) (fun w9 h9 p1079 => ?_)
    obtain ⟨⟨p1079, rfl⟩ | ⟨p1079, rfl⟩, e9⟩ := p1079
    · try dsimp only [tvI_i, tvJ_j, tvR_r] at p1079
      obtain rfl := e9.symm
      refine tw_if_ne rfl (fun _ => ?_) (fun z => absurd z (by decide))
      refine tw_aload rfl rfl ?_
      refine tw_push rfl ?_
      refine tw_put rfl (fun f1080 => ?_)
      refine tG_setm f1080 (hw_111_28 f1080 (g0).1) (fun hf1080 ef1080 => ?_)
      try dsimp only [tvI_i] at ef1080
      have gf1080 : mFz (12 * (tvI (tF h 111 30)).toNatClampNeg) h hf1080 := mFz_s g0 ef1080 (Or.inl (by unfold mFs; omega))
      refine tw_aload rfl rfl ?_
      refine tw_push rfl ?_
      refine tw_put rfl (fun f1081 => ?_)
      refine tG_setm f1081 (hw_111_29 f1081 (gf1080).1) (fun hf1081 ef1081 => ?_)
      try dsimp only [tvI_i] at ef1081
      have gf1081 : mFz (12 * (tvI (tF h 111 30)).toNatClampNeg) h hf1081 := mFz_s gf1080 ef1081 (Or.inl (by unfold mFs; omega))
      refine tw_aload rfl rfl ?_
      refine tw_push rfl ?_
      refine tw_put rfl (fun f1082 => ?_)
      refine tG_setm f1082 (hw_111_31 f1082 (gf1081).1) (fun hf1082 ef1082 => ?_)
      try dsimp only [tvI_i] at ef1082
      have gf1082 : mFz (12 * (tvI (tF h 111 30)).toNatClampNeg) h hf1082 := mFz_s gf1081 ef1082 (Or.inl (by unfold mFs; omega))
      refine tw_aload rfl rfl ?_
      refine tw_push rfl ?_
      refine tw_put rfl (fun f1083 => ?_)
      refine tG_setm f1083 (hw_111_32 f1083 (gf1082).1) (fun hf1083 ef1083 => ?_)
      try dsimp only [tvI_i] at ef1083
      have gf1083 : mFz (12 * (tvI (tF h 111 30)).toNatClampNeg) h hf1083 := mFz_s gf1082 ef1083 (Or.inl (by unfold mFs; omega))
      refine tw_aload rfl rfl ?_
      refine tw_push rfl ?_
      refine tw_put rfl (fun f1084 => ?_)
      refine tG_setm f1084 (hw_111_33 f1084 (gf1083).1) (fun hf1084 ef1084 => ?_)
      try dsimp only [tvI_i] at ef1084
      have gf1084 : mFz (12 * (tvI (tF h 111 30)).toNatClampNeg) h hf1084 := mFz_s gf1083 ef1084 (Or.inl (by unfold mFs; omega))
      refine tw_push rfl ?_
      refine tw_istore rfl ?_
      refine tw_push rfl ?_
      refine tw_istore rfl ?_
      refine tG_loop (zW_mono zTt G dp) (zW_conj zTt G dp) (V := fun pc L st h9 _ _ => pc = 56 ∧ st = [] ∧ ∃ (h1 : zH) (k : Nat) (x m : Int32), h1 = h9 ∧ x.toInt = k ∧ k ≤ 13 ∧ mFz (12 * (tvI (tF h 111 30)).toNatClampNeg) h h1 ∧ mLp T n r (12 * (tvI (tF h 111 30)).toNatClampNeg) k m h1 ∧ L = [some (.ref 111), some (.int y), some (.int x), some (.int m)]) ?_ (⟨rfl, rfl, _, 0, 0, 1, rfl, rfl, by decide, (mRs9 (lo := (12 * (tvI (tF h 111 30)).toNatClampNeg)) hs hk ef1080 ef1081 ef1082 ef1083 ef1084).1, Or.inl ⟨by decide, by decide, (mRs9 (lo := (12 * (tvI (tF h 111 30)).toNatClampNeg)) hs hk ef1080 ef1081 ef1082 ef1083 ef1084).2.1, (mRs9 (lo := (12 * (tvI (tF h 111 30)).toNatClampNeg)) hs hk ef1080 ef1081 ef1082 ef1083 ef1084).2.2.2, [], hr0.choose, rfl, mRw_0, by rw [(mRs9 (lo := (12 * (tvI (tF h 111 30)).toNatClampNeg)) hs hk ef1080 ef1081 ef1082 ef1083 ef1084).2.2.1]; exact hr0.choose_spec⟩, rfl⟩)
      rintro _ _ _ _ _ _ ⟨rfl, rfl, h1, k, x, m, rfl, hx, hk13, g1, hlp, rfl⟩
      refine tw_iload rfl rfl ?_
      refine tw_if_eq rfl (fun q1085 => ?_) (fun q1085 => ?_)
      · try dsimp only [tvI_i, tvJ_j, tvR_r] at q1085
        have q1085i := zeqi (Y := 0) (by decide) q1085
        refine tw_aload rfl rfl ?_
        refine tw_push rfl ?_
        refine tw_put rfl (fun f1086 => ?_)
        refine tG_setm f1086 (hw_111_27 f1086 (g1).1) (fun hf1086 ef1086 => ?_)
        try dsimp only [tvI_i] at ef1086
        have gf1086 : tSh hf1086 ∧ True := ⟨ef1086.1, trivial⟩
        refine tw_aload rfl rfl ?_
        refine tw_getS rfl (hi_111_29 (gf1086).1) ?_
        refine tw_if_le rfl (fun q1087 => ?_) (fun q1087 => ?_)
        · try dsimp only [tvI_i, tvJ_j, tvR_r] at q1087
          refine tw_aload rfl rfl ?_
          refine tw_getS rfl (hs_111_43 (gf1086).1) ?_
          refine tw_aload rfl rfl ?_
          refine tw_getS rfl (hi_111_30 (gf1086).1) ?_
          refine tw_iload rfl rfl ?_
          refine tw_iast rfl (fun f1088 => ?_)
          refine tG_ast f1088 (gf1086).1 (fun hf1088 af1088 => ?_)
          try dsimp only [tvI_i, tvR_r] at af1088
          have gf1088 : tSh hf1088 ∧ True := ⟨af1088.1, trivial⟩
          refine tw_aload rfl rfl ?_
          refine tw_getS rfl (hs_111_44 (gf1088).1) ?_
          refine tw_aload rfl rfl ?_
          refine tw_getS rfl (hi_111_30 (gf1088).1) ?_
          refine tw_iload rfl rfl ?_
          refine tw_iast rfl (fun f1089 => ?_)
          refine tG_ast f1089 (gf1088).1 (fun hf1089 af1089 => ?_)
          try dsimp only [tvI_i, tvR_r] at af1089
          have gf1089 : tSh hf1089 ∧ True := ⟨af1089.1, trivial⟩
          refine tw_aload rfl rfl ?_
          refine tw_dup rfl ?_
          refine tw_getS rfl (hi_111_30 (gf1089).1) ?_
          refine tw_push rfl ?_
          refine tw_iadd rfl ?_
          refine tw_put rfl (fun f1090 => ?_)
          refine tG_setm f1090 (hw_111_30 f1090 (gf1089).1) (fun hf1090 ef1090 => ?_)
          try dsimp only [tvI_i] at ef1090
          have gf1090 : tSh hf1090 ∧ True := ⟨ef1090.1, trivial⟩
          refine tw_aload rfl rfl ?_
          refine tw_getS rfl (hi_111_30 (gf1090).1) ?_
          refine tw_push rfl ?_
          refine tw_isub rfl ?_
          have hend := (hlp.resolve_left (fun z => z.1 q1085)).2
          rcases hend with ⟨e9, hr, F9⟩ | ⟨s9, cl9, hr, l9, w9, f9, n9⟩
          · exfalso
            have z := q1087
            have c09 : (0 : Int32).toInt = 0 := rfl
            have y9 : (tvI (tF h1 111 29)).toInt = e9 := by rw [F9.1]; exact zofI (by have := F9.2.2; omega)
            rw [ef1086.2.2.1 111 29 (by decide)] at z
            have := F9.2.1
            omega
          · exact tw_iret rfl (Or.inr ⟨⟨q1078, p1079⟩, mRo_r hr g1 ef1086 af1088 rfl af1089 rfl ef1090 rfl (by rw [l9]; exact hx) w9 n9⟩)
        · try dsimp only [tvI_i, tvJ_j, tvR_r] at q1087
          refine tw_push rfl ?_
          refine tw_aload rfl rfl ?_
          refine tw_getS rfl (hi_111_29 (gf1086).1) ?_
          refine tw_isub rfl ?_
          have hend := (hlp.resolve_left (fun z => z.1 q1085)).2
          rcases hend with ⟨e9, hr, F9⟩ | ⟨s9, cl9, hr, l9, w9, f9, n9⟩
          · exact tw_iret rfl (Or.inr ⟨⟨q1078, p1079⟩, mRo_l hr g1 ef1086 F9⟩)
          · exfalso
            have z := q1087
            rw [ef1086.2.2.1 111 29 (by decide), f9] at z
            exact absurd z (by decide)
      · try dsimp only [tvI_i, tvJ_j, tvR_r] at q1085
        have q1085i := zneq (Y := 0) (by decide) q1085
        refine tw_aload rfl rfl ?_
        refine tw_iload rfl rfl ?_
        obtain ⟨hk12, p1, d1, cl, f, hcl, hrw, hru⟩ := (hlp.resolve_right (fun z => q1085 z.1)).2
        obtain ⟨r2, hc2, hnx⟩ := rRu_st hru
        refine tw_virt1 rfl (g_clause hG hX g1.1 p1 ((mFz_T g1).trans hT) ((mFz_n g1).trans hN) (c := cl.length) (by rw [hcl]; exact hx) (by omega) rfl d1 hc2) (fun w9 hp1091 p1091 => ?_)
        obtain ⟨rfl, gp1091, ⟨e2, he2, Fp1091, Zp1091⟩ | ⟨s1, c1, hc1, pp1091, sp1091, dp1091, wp1091, nxp1091⟩⟩ := mCo_w p1091 hnx
        · have gzp1091 : mFz (12 * (tvI (tF h 111 30)).toNatClampNeg) h hp1091 := mFz_t g1 (mFz_l (by rw [mFz_30 g1]; omega) gp1091)
          refine tw_iinc rfl rfl ?_
          refine tw_aload rfl rfl ?_
          refine tw_virt0 rfl (y_blanks hG hX (gzp1091).1 Fp1091 ((mFz_T gzp1091).trans hT) ((mFz_n gzp1091).trans hN) Zp1091) (fun wp1092 hp1092 p1092 => ?_)
          obtain ⟨rfl, gp1092, Fp1092, Zp1092⟩ := p1092
          have gzp1092 : mFz (12 * (tvI (tF h 111 30)).toNatClampNeg) h hp1092 := mFz_t gzp1091 (mFz_w (mFw_f gp1092))
          refine tw_aload rfl rfl ?_
          refine tw_getS rfl (hi_111_29 gzp1092.1) ?_
          refine tw_if_ne rfl (fun q1093 => ?_) (fun q1093 => ?_)
          · try dsimp only [tvI_i, tvJ_j, tvR_r] at q1093
            have q1093i := zneq (Y := 0) (by decide) q1093
            refine tw_aload rfl rfl ?_
            refine tw_getS rfl (hi_111_29 gzp1092.1) ?_
            refine tw_if_ne rfl (fun q1094 => ?_) (fun q1094 => ?_)
            · try dsimp only [tvI_i, tvJ_j, tvR_r] at q1094
              have q1094i := zneq (Y := 0) (by decide) q1094
              refine tw_push rfl ?_
              refine tw_istore rfl ?_
              refine tw_aload rfl rfl ?_
              refine tw_dup rfl ?_
              refine tw_getS rfl (hi_111_28 gzp1092.1) ?_
              refine tw_push rfl ?_
              refine tw_iadd rfl ?_
              refine tw_put rfl (fun f1095 => ?_)
              refine tG_setm f1095 (hw_111_28 f1095 (gzp1092).1) (fun hf1095 ef1095 => ?_)
              try dsimp only [tvI_i] at ef1095
              have gf1095 : mFz (12 * (tvI (tF h 111 30)).toNatClampNeg) h hf1095 := mFz_s gzp1092 ef1095 (Or.inl (by unfold mFs; omega))
              refine tw_goto rfl ?_
              exact tG_cut (zW_mono zTt G dp) (Or.inr ⟨rfl, rfl, _, k + 1, x + 1, 0, rfl, zincN hx (by omega), by omega, gf1095, Or.inr ⟨rfl, Or.inl ⟨_, he2, mFt_m ef1095 (by decide) Fp1092⟩⟩, rfl⟩)
            · try dsimp only [tvI_i, tvJ_j, tvR_r] at q1094
              have q1094i := zeqi (Y := 0) (by decide) q1094
              exact absurd q1094 (mFt_n Fp1092)
          · try dsimp only [tvI_i, tvJ_j, tvR_r] at q1093
            have q1093i := zeqi (Y := 0) (by decide) q1093
            exact absurd q1093 (mFt_n Fp1092)
        · have gzp1091 : mFz (12 * (tvI (tF h 111 30)).toNatClampNeg) h hp1091 := mFz_t g1 (mFz_l (by rw [mFz_30 g1]; omega) gp1091)
          have hwp1091 : mRw hp1091 (12 * (tvI (tF h 111 30)).toNatClampNeg) (cl ++ [c1]) := mRw_s (mRw_z hrw gp1091 (by rw [mFz_30 g1]; exact Nat.le_refl _)) (by have z := wp1091; rw [mFz_30 g1] at z; exact z)
          refine tw_iinc rfl rfl ?_
          refine tw_aload rfl rfl ?_
          refine tw_virt0 rfl (g_blanks hG hX (gzp1091).1 pp1091 ((mFz_T gzp1091).trans hT) ((mFz_n gzp1091).trans hN)) (fun wp1096 hp1096 p1096 => ?_)
          obtain ⟨rfl, gp1096, pp1096, sp1096, tp1096, dp1096⟩ := p1096
          have gzp1096 : mFz (12 * (tvI (tF h 111 30)).toNatClampNeg) h hp1096 := mFz_t gzp1091 (mFz_w (mFw_f gp1096))
          have Sp1096 : ms hp1096 = rA (rB T n s1.1) s1 := by rw [sp1096, sp1091]; exact rB_A
          have Dp1096 : tvI (tF hp1096 111 32) = 0 := by rw [dp1096]; exact dp1091
          have hwp1096 : mRw hp1096 (12 * (tvI (tF h 111 30)).toNatClampNeg) (cl ++ [c1]) := mRw_z hwp1091 (mFz_w (lo := (12 * (tvI (tF h 111 30)).toNatClampNeg) + (cl ++ [c1]).length) (mFw_f gp1096)) (Nat.le_refl _)
          refine tw_aload rfl rfl ?_
          refine tw_getS rfl (hi_111_29 gzp1096.1) ?_
          refine tw_if_ne rfl (fun q1097 => ?_) (fun q1097 => ?_)
          · try dsimp only [tvI_i, tvJ_j, tvR_r] at q1097
            have q1097i := zneq (Y := 0) (by decide) q1097
            exact absurd (mP_0 pp1096) q1097
          · try dsimp only [tvI_i, tvJ_j, tvR_r] at q1097
            have q1097i := zeqi (Y := 0) (by decide) q1097
            refine tw_aload rfl rfl ?_
            refine tw_getS rfl (hi_111_28 gzp1096.1) ?_
            refine tw_aload rfl rfl ?_
            refine tw_getS rfl (hi_111_27 gzp1096.1) ?_
            refine tw_ic_ge rfl (fun q1098 => ?_) (fun q1098 => ?_)
            · try dsimp only [tvI_i, tvJ_j, tvR_r] at q1098
              refine tw_aload rfl rfl ?_
              refine tw_getS rfl (hi_111_29 gzp1096.1) ?_
              refine tw_if_ne rfl (fun q1099 => ?_) (fun q1099 => ?_)
              · try dsimp only [tvI_i, tvJ_j, tvR_r] at q1099
                have q1099i := zneq (Y := 0) (by decide) q1099
                exact absurd (mP_0 pp1096) q1099
              · try dsimp only [tvI_i, tvJ_j, tvR_r] at q1099
                have q1099i := zeqi (Y := 0) (by decide) q1099
                refine tw_aload rfl rfl ?_
                refine tw_getS rfl (hi_111_28 gzp1096.1) ?_
                refine tw_aload rfl rfl ?_
                refine tw_getS rfl (hi_111_27 gzp1096.1) ?_
                refine tw_ic_ge rfl (fun q1100 => ?_) (fun q1100 => ?_)
                · try dsimp only [tvI_i, tvJ_j, tvR_r] at q1100
                  refine tw_push rfl ?_
                  refine tw_istore rfl ?_
                  refine tw_aload rfl rfl ?_
                  refine tw_dup rfl ?_
                  refine tw_getS rfl (hi_111_28 gzp1096.1) ?_
                  refine tw_push rfl ?_
                  refine tw_iadd rfl ?_
                  refine tw_put rfl (fun f1101 => ?_)
                  refine tG_setm f1101 (hw_111_28 f1101 (gzp1096).1) (fun hf1101 ef1101 => ?_)
                  try dsimp only [tvI_i] at ef1101
                  have gf1101 : mFz (12 * (tvI (tF h 111 30)).toNatClampNeg) h hf1101 := mFz_s gzp1096 ef1101 (Or.inl (by unfold mFs; omega))
                  refine tw_goto rfl ?_
                  have hlt : ¬ rB T n s1.1 < n := by have z := fun y => Int.not_lt.mpr q1098 ((mpos ⟨pp1096.2.1.1, by have := pp1096.2.1; omega⟩).mpr y); rw [Sp1096, rA_1, (mFz_n gzp1096).trans hN] at z; exact z
                  have hwn := mRw_m hwp1096 ef1101
                  have hln : (cl ++ [c1]).length = k + 1 := by rw [List.length_append, hcl]; rfl
                  have hr := nx_1 nxp1091 hlt
                  exact tG_cut (zW_mono zTt G dp) (Or.inr ⟨rfl, rfl, _, k + 1, x + 1, 0, rfl, zincN hx (by omega), by omega, gf1101, Or.inr ⟨rfl, Or.inr ⟨_, _, hr, hln, hwn, (ef1101.2.2.1 111 29 (by decide)).trans pp1096.1, (mEn_o ef1101 (by decide) (by decide)).trans (congrArg (fun z : rS => z.2.2) Sp1096)⟩⟩, rfl⟩)
                · try dsimp only [tvI_i, tvJ_j, tvR_r] at q1100
                  exact absurd q1100 (Int.not_lt.mpr q1098)
            · try dsimp only [tvI_i, tvJ_j, tvR_r] at q1098
              refine tw_aload rfl rfl ?_
              refine tw_virt0 rfl (g_sign hG hX (gzp1096).1 ((mFz_T gzp1096).trans hT) ((mFz_n gzp1096).trans hN) ⟨pp1096.2.1.1, by have := pp1096.2.1; omega⟩) (fun wp1102 hp1102 p1102 => ?_)
              obtain ⟨⟨cp1102, rfl, kp1102⟩, rfl⟩ := p1102
              refine tw_push rfl ?_
              refine tw_ic_eq rfl (fun q1103 => ?_) (fun q1103 => ?_)
              · try dsimp only [tvI_i, tvJ_j, tvR_r] at q1103
                have q1103i := zeqi (Y := 59) (by decide) q1103
                refine tw_aload rfl rfl ?_
                refine tw_getS rfl (hi_111_29 (gzp1096).1) ?_
                refine tw_if_ne rfl (fun q1104 => ?_) (fun q1104 => ?_)
                · try dsimp only [tvI_i, tvJ_j, tvR_r] at q1104
                  have q1104i := zneq (Y := 0) (by decide) q1104
                  exact absurd (mP_0 pp1096) q1104
                · try dsimp only [tvI_i, tvJ_j, tvR_r] at q1104
                  have q1104i := zeqi (Y := 0) (by decide) q1104
                  refine tw_aload rfl rfl ?_
                  refine tw_getS rfl (hi_111_28 (gzp1096).1) ?_
                  refine tw_aload rfl rfl ?_
                  refine tw_getS rfl (hi_111_27 (gzp1096).1) ?_
                  refine tw_ic_ge rfl (fun q1105 => ?_) (fun q1105 => ?_)
                  · try dsimp only [tvI_i, tvJ_j, tvR_r] at q1105
                    exact absurd q1098 (Int.not_lt.mpr q1105)
                  · try dsimp only [tvI_i, tvJ_j, tvR_r] at q1105
                    refine tw_push rfl ?_
                    refine tw_goto rfl ?_
                    refine tw_istore rfl ?_
                    refine tw_aload rfl rfl ?_
                    refine tw_dup rfl ?_
                    refine tw_getS rfl (hi_111_28 (gzp1096).1) ?_
                    refine tw_push rfl ?_
                    refine tw_iadd rfl ?_
                    refine tw_put rfl (fun f1106 => ?_)
                    refine tG_setm f1106 (hw_111_28 f1106 (gzp1096).1) (fun hf1106 ef1106 => ?_)
                    try dsimp only [tvI_i] at ef1106
                    have gf1106 : mFz (12 * (tvI (tF h 111 30)).toNatClampNeg) h hf1106 := mFz_s gzp1096 ef1106 (Or.inl (by unfold mFs; omega))
                    refine tw_goto rfl ?_
                    have hlt : rB T n s1.1 < n := by have z := (mpos ⟨pp1096.2.1.1, by have := pp1096.2.1; omega⟩).mp q1098; rw [Sp1096, rA_1, (mFz_n gzp1096).trans hN] at z; exact z
                    have h59 : cp1102 = 59 ↔ rB T n s1.1 < n ∧ T (rB T n s1.1) = 59 := by have y := sgm_k kp1102 59 (by decide); rw [Sp1096, rA_1] at y; exact y
                    have hwn := mRw_m hwp1096 ef1106
                    have hln : (cl ++ [c1]).length = k + 1 := by rw [List.length_append, hcl]; rfl
                    have hcn := rCl_12 (by rw [hc1] at hc2; exact hc2)
                    obtain ⟨f9, hf9⟩ := nx_2 nxp1091 (h59.mp q1103)
                    have hn4 : n ≤ 400 := by have a := mNl pp1096 ((mFz_n gzp1096).trans hN); have b := pp1096.2.1; omega
                    obtain ⟨pn, sn, tn⟩ := mTo pp1096 ((mFz_n gzp1096).trans hN) ef1106 (v := rB T n s1.1 + 1) (zincN (n := rB T n s1.1) (by rw [mPl pp1096, Sp1096, rA_1]) (by omega)) hlt
                    rw [Sp1096, rA_A] at sn
                    exact tG_cut (zW_mono zTt G dp) (Or.inr ⟨rfl, rfl, _, k + 1, x + 1, 1, rfl, zincN hx (by omega), by omega, gf1106, Or.inl ⟨by decide, by omega, pn, (by rw [mI_o ef1106 (by decide)]; exact Dp1096), _, f9, hln, hwn, by rw [sn]; exact hf9⟩, rfl⟩)
              · try dsimp only [tvI_i, tvJ_j, tvR_r] at q1103
                have q1103i := zneq (Y := 59) (by decide) q1103
                refine tw_aload rfl rfl ?_
                refine tw_push rfl ?_
                refine tw_aload rfl rfl ?_
                refine tw_getS rfl (hi_111_28 (gzp1096).1) ?_
                refine tw_virt2 rfl (g_fails hG hX (gzp1096).1 pp1096 ((mFz_T gzp1096).trans hT) ((mFz_n gzp1096).trans hN) (w := 0) rfl (by decide) (mPl pp1096) (by have := mPle pp1096 ((mFz_n gzp1096).trans hN); have := mNl pp1096 ((mFz_n gzp1096).trans hN); have := pp1096.2.1; omega)) (fun wp1107 hp1107 p1107 => ?_)
                obtain ⟨rfl, gp1107, Fp1107, ip1107, jp1107⟩ := p1107
                have gzp1107 : mFz (12 * (tvI (tF h 111 30)).toNatClampNeg) h hp1107 := mFz_t gzp1096 (mFz_w (mFw_f gp1107))
                have Zp1107 : mZp hp1107 := mZp_k (mZp_p pp1096) ip1107 jp1107
                rw [Sp1096, rA_1] at Fp1107
                refine tw_aload rfl rfl ?_
                refine tw_getS rfl (hi_111_29 gzp1107.1) ?_
                refine tw_if_ne rfl (fun q1108 => ?_) (fun q1108 => ?_)
                · try dsimp only [tvI_i, tvJ_j, tvR_r] at q1108
                  have q1108i := zneq (Y := 0) (by decide) q1108
                  refine tw_push rfl ?_
                  refine tw_istore rfl ?_
                  refine tw_aload rfl rfl ?_
                  refine tw_dup rfl ?_
                  refine tw_getS rfl (hi_111_28 gzp1107.1) ?_
                  refine tw_push rfl ?_
                  refine tw_iadd rfl ?_
                  refine tw_put rfl (fun f1109 => ?_)
                  refine tG_setm f1109 (hw_111_28 f1109 (gzp1107).1) (fun hf1109 ef1109 => ?_)
                  try dsimp only [tvI_i] at ef1109
                  have gf1109 : mFz (12 * (tvI (tF h 111 30)).toNatClampNeg) h hf1109 := mFz_s gzp1107 ef1109 (Or.inl (by unfold mFs; omega))
                  refine tw_goto rfl ?_
                  have hlt : rB T n s1.1 < n := by have z := (mpos ⟨pp1096.2.1.1, by have := pp1096.2.1; omega⟩).mp q1098; rw [Sp1096, rA_1, (mFz_n gzp1096).trans hN] at z; exact z
                  have h59 : cp1102 = 59 ↔ rB T n s1.1 < n ∧ T (rB T n s1.1) = 59 := by have y := sgm_k kp1102 59 (by decide); rw [Sp1096, rA_1] at y; exact y
                  have hr := nx_3 nxp1091 hlt (fun z => q1103 (h59.mpr z))
                  exact tG_cut (zW_mono zTt G dp) (Or.inr ⟨rfl, rfl, _, k + 1, x + 1, 0, rfl, zincN hx (by omega), by omega, gf1109, Or.inr ⟨rfl, Or.inl ⟨_, hr, mFt_m ef1109 (by decide) Fp1107⟩⟩, rfl⟩)
                · try dsimp only [tvI_i, tvJ_j, tvR_r] at q1108
                  have q1108i := zeqi (Y := 0) (by decide) q1108
                  exact absurd q1108 (mFt_n Fp1107)
    · try dsimp only [tvI_i, tvJ_j, tvR_r] at p1079
      obtain rfl := e9.symm
      refine tw_if_ne rfl (fun z => absurd z (by decide)) (fun _ => ?_)
      refine tw_push rfl ?_
      exact tw_iret rfl (Or.inl ⟨fun z => p1079 z.2, rfl, rfl⟩)
/-- what an array holds -/
noncomputable def tK (h : zH) (p : Nat) : Nat := match h[p]? with
  | some (.inl (k, _, _)) => k
  | _ => 0
theorem tK_tSF (h : zH) (r : Nat) (b : Nat) (w : Value) : tK (tSF h r b w) = tK h := by
  unfold tSF
  split
  · rename_i e
    funext p
    unfold tK
    rw [tup_at e]
    by_cases q : p = r
    · subst q; rw [if_pos rfl, e]
    · rw [if_neg q]
  · rfl
theorem tK_tSA (h : zH) (r : Nat) (i : Nat) (x : Int32) : tK (tSA h r i x) = tK h := by
  unfold tSA
  split
  · rename_i e
    funext p
    unfold tK
    rw [tup_at e]
    by_cases q : p = r
    · subst q; rw [if_pos rfl, e]
    · rw [if_neg q]
  · rfl
theorem tK_tSJ (h : zH) (r : Nat) (i : Nat) (x : Int64) : tK (tSJ h r i x) = tK h := by
  unfold tSJ
  split
  · rename_i e
    funext p
    unfold tK
    rw [tup_at e]
    by_cases q : p = r
    · subst q; rw [if_pos rfl, e]
    · rw [if_neg q]
  · rfl
theorem tK_tSO (h : zH) (r : Nat) (i : Nat) (x : Option Nat) : tK (tSO h r i x) = tK h := by
  unfold tSO
  split
  · rename_i e
    funext p
    unfold tK
    rw [tup_at e]
    by_cases q : p = r
    · subst q; rw [if_pos rfl, e]
    · rw [if_neg q]
  · rfl
theorem tIn.kd {h : zH} {r kd : Nat} {i : Int32} (k : tIn h r kd i) : tK h r = kd := by
  obtain ⟨N, f, e, -⟩ := k
  unfold tK
  rw [e]
theorem tkd_k {xs : Nat → Int32} {τ : List Nat} {h : zH} {p t k nlo nhi : Nat} {vt : yT} (hB : zBs xs τ h) (ht : zTG[p]? = some t) (hT : zTTy[t]? = some (.inr (k, nlo, nhi, vt))) : tK h p = k := by
  obtain ⟨ct, c, a1, a2, a3⟩ := hB.1.2 _ _ (hB.2.1 _ _ ht)
  rw [hT] at a1
  cases a1
  obtain ⟨N, x, rfl, -⟩ := a3
  unfold tK
  rw [a2]
theorem bst_k {h : zH} {r kd : Nat} {i : Int32} {x : Int32} (hk : tK h r = 2) (f : tIn h r kd i) : vp_nar (if kd = 1 then .boolean else .byte) x = vp_nar .byte x := by
  have := f.kd
  rw [if_neg (by omega)]
/-- a byte of a number -/
noncomputable def bF (x s : Int32) : Int32 := vp_nar .byte (x >>> (s &&& 31)).toInt8.toInt32
/-- four bytes behind a tape -/
noncomputable def f4 (f : Nat → Int32) (n x : Int32) : Nat → Int32 := fun j => if j = (n + 1 + 1 + 1).toNatClampNeg then bF x (24 + -8 + -8 + -8) else if j = (n + 1 + 1).toNatClampNeg then bF x (24 + -8 + -8) else if j = (n + 1).toNatClampNeg then bF x (24 + -8) else if j = n.toNatClampNeg then bF x 24 else f j
noncomputable abbrev z4 (n : Int32) : Int32 := n + 1 + 1 + 1 + 1
theorem zi1n {x : Int32} {k : Int} (h : x.toInt = k) (h0 : 0 ≤ k ∧ k ≤ 1000) : (x + 1).toInt = k + 1 := (zincN (n := k.toNat) (by omega) (by omega)).trans (by omega)
theorem z4n {x : Int32} {k : Int} (h : x.toInt = k) (h0 : 0 ≤ k ∧ k ≤ 900) : (z4 x).toInt = k + 4 := by
  have e1 := zi1n h (by omega)
  have e2 := zi1n e1 (by omega)
  have e3 := zi1n e2 (by omega)
  have e4 := zi1n e3 (by omega)
  show (x + 1 + 1 + 1 + 1).toInt = _
  omega
theorem z20n {x : Int32} (h : 0 ≤ x.toInt ∧ x.toInt ≤ 1000) : (x + 20).toInt = x.toInt + 20 := by
  rw [Int32.toInt_add, show (20 : Int32).toInt = 20 from rfl]
  exact Int.bmod_eq_of_le (by show (-2147483648 : Int) ≤ x.toInt + 20; omega) (by show x.toInt + 20 < (2147483648 : Int); omega)
noncomputable abbrev f20 (f : Nat → Int32) (n a b c d e : Int32) : Nat → Int32 := f4 (f4 (f4 (f4 (f4 f n a) (z4 n) b) (z4 (z4 n)) c) (z4 (z4 (z4 n))) d) (z4 (z4 (z4 (z4 n)))) e
noncomputable abbrev z20 (n : Int32) : Int32 := z4 (z4 (z4 (z4 (z4 n))))
section CP11
variable {tt : zT} {G : zG} {cd : zK} {bc bs : Nat} {rt : Option FieldType} {dp : Nat} {Q : zQ} {Z : zX} {f : Bool} {pc : Nat} {L : zL} {s : List Value} {h : zH} {c n nx a b d r y : Nat} {v : Value} {m x1 x2 : Int32}
theorem tw_clone (hc : cd[pc]? = some (some (.castore, nx, a, b, d, v))) (k : ∀ (N : Nat) (g : Nat → Int32), h[r]? = some (.inl (0, N, .inl g)) → tG tt G cd bc bs rt (zW tt G dp) Q Z true nx L (.ref h.length :: s) (h ++ [.inl (0, N, .inl g)]) (c + 1) (n + N)) : tG tt G cd bc bs rt (zW tt G dp) Q Z f pc L (.ref r :: s) h c n := tG_row hc (fun z => Or.elim z (fun z => False.elim z) (fun z => by
  obtain ⟨N, g, e, e2, z⟩ := z
  exact Or.inr ⟨N, g, e, e2, k N g e z⟩))
theorem tw_cast (hc : cd[pc]? = some (some (.fmul, nx, a, b, d, v))) (k : tG tt G cd bc bs rt (zW tt G dp) Q Z true nx L (.ref r :: s) h c n) : tG tt G cd bc bs rt (zW tt G dp) Q Z f pc L (.ref r :: s) h c n := tG_row hc (fun z => Or.elim z (fun z => False.elim z) (fun z => by
  obtain ⟨N, g, e, e2, z⟩ := z
  exact Or.inr ⟨N, g, e, e2, k z⟩))
theorem tw_acpy (hc : cd[pc]? = some (some (.sastore, nx, a, b, d, v))) (k : ∀ (N K : Nat) (f1 g1 : Nat → Int32), h[r]? = some (.inl (0, N, .inl f1)) → h[y]? = some (.inl (0, K, .inl g1)) → tG tt G cd bc bs rt (zW tt G dp) Q Z true nx L s (h.set y (.inl (0, K, .inl (va_cpy f1 g1 0 0 m.toNatClampNeg)))) c n) : tG tt G cd bc bs rt (zW tt G dp) Q Z f pc L (.int m :: .int x1 :: .ref y :: .int x2 :: .ref r :: s) h c n := tG_row hc (fun z => Or.elim z (fun z => False.elim z) (fun z => by
  obtain ⟨N, K, f1, g1, e1, e2, e3, z⟩ := z
  exact Or.inr ⟨N, K, f1, g1, e1, e2, e3, k N K f1 g1 e1 e2 z⟩))
end CP11
/-- one array more, the first of another one's -/
noncomputable def cpy (h h2 : zH) (r : Nat) (m : Int32) : Prop := h2.length = h.length + 1 ∧ (∀ p b, p < h.length → tF h2 p b = tF h p b) ∧ (∀ p, p < h.length → tA h2 p = tA h p ∧ tO h2 p = tO h p ∧ tN h2 p = tN h p) ∧ tN h2 h.length = m.toNatClampNeg ∧ ∀ i, i < m.toNatClampNeg → tA h2 h.length i = tA h r i
theorem cpy_of {h : zH} {r N : Nat} {m : Int32} {f g : Nat → Int32} (hr : h[r]? = some (.inl (0, N, .inl f))) (hg : ∀ i, i < m.toNatClampNeg → g i = f i) : cpy h (h ++ [.inl (0, m.toNatClampNeg, .inl g)]) r m := by
  have hf : tA h r = f := by
    funext i
    unfold tA
    rw [hr]
  refine ⟨by rw [List.length_append]; rfl, fun p b hp => ?_, fun p hp => ⟨?_, ?_, ?_⟩, ?_, fun i hi => ?_⟩
  · unfold tF
    rw [List.getElem?_append_left hp]
  · funext i
    unfold tA
    rw [List.getElem?_append_left hp]
  · funext i
    unfold tO
    rw [List.getElem?_append_left hp]
  · unfold tN
    rw [List.getElem?_append_left hp]
  · unfold tN
    rw [List.getElem?_append_right (Nat.le_refl _), Nat.sub_self]
    rfl
  · rw [hf, ← hg i hi]
    unfold tA
    rw [List.getElem?_append_right (Nat.le_refl _), Nat.sub_self]
    rfl
theorem cpy_sh {h h2 : zH} {r : Nat} {m : Int32} (hl : 182 ≤ h.length) (k : cpy h h2 r m) (hs : tSh h) : tSh h2 := by
  have a1 : tSr.all (fun q => Nat.blt q.1 182) = true := by decide +kernel
  have a2 : tSi.all (fun q => Nat.blt q.1 182) = true := by decide +kernel
  refine ⟨fun q hq => ?_, fun q hq => ?_⟩
  · have := Nat.le_of_ble_eq_true (List.all_eq_true.mp a1 q hq)
    rw [k.2.1 _ _ (by omega)]; exact hs.1 q hq
  · have := Nat.le_of_ble_eq_true (List.all_eq_true.mp a2 q hq)
    rw [k.2.1 _ _ (by omega)]; exact hs.2 q hq
theorem tw_alenF {tt : zT} {G : zG} {cd : zK} {bc bs : Nat} {rt : Option FieldType} {dp : Nat} {Q : zQ} {Z : zX} {f : Bool} {pc : Nat} {L : zL} {s : List Value} {h : zH} {c n nx a b d r : Nat} {v : Value} (hc : cd[pc]? = some (some (.arraylength, nx, a, b, d, v))) (k : ∀ (kd N : Nat) (x : (Nat → Int32) ⊕ (Nat → Int64) ⊕ (Nat → UInt32) ⊕ (Nat → UInt64) ⊕ (Nat → Option Nat)), h[r]? = some (.inl (kd, N, x)) → tG tt G cd bc bs rt (zW tt G dp) Q Z true nx L (.int (Int32.ofNat N) :: s) h c n) : tG tt G cd bc bs rt (zW tt G dp) Q Z f pc L (.ref r :: s) h c n := tG_row hc (fun z => Or.elim z (fun z => False.elim z) (fun z => by
  obtain ⟨kd, N, x, hk, e, z⟩ := z
  exact Or.inr ⟨kd, N, x, hk, e, k kd N x e z⟩))
theorem f_copyOf {G : zG} (hG : G.1 = zProg) {h : zH} {r : Nat} {m : Int32} (hm : 0 ≤ m.toInt ∧ m.toInt ≤ (tN h r : Int) ∧ tN h r ≤ 1000) : tC zTt G 283 [.ref r, .int m] h (fun w h2 => w = some (.ref h.length) ∧ cpy h h2 r m) := by
  refine tC_in (by rw [hG]; rfl) (fun dp => ?_)
  refine tw_iload rfl rfl ?_
  refine tw_aload rfl rfl ?_
  refine tw_alenF rfl (fun kd N x e0 => ?_)
  have hl : r < h.length := by
    rcases Nat.lt_or_ge r h.length with z | z
    · exact z
    · rw [List.getElem?_eq_none z] at e0; cases e0
  have hN : tN h r = N := by unfold tN; rw [e0]
  rw [hN] at hm
  refine tw_ic_ne rfl (fun q => ?_) (fun q => ?_)
  · have q : ¬ m = Int32.ofNat N := q
    have hlt : m < Int32.ofNat N := Int32.lt_iff_toInt_lt.mpr (by
      rw [yofN (by omega)]
      have : m.toInt ≠ (N : Int) := fun z => q (Int32.toInt_inj.mp (by rw [yofN (by omega)]; exact z))
      omega)
    refine tw_iload rfl rfl ?_
    refine tw_newa rfl ?_
    refine tw_astore rfl ?_
    refine tw_aload rfl rfl ?_
    refine tw_push rfl ?_
    refine tw_aload rfl rfl ?_
    refine tw_push rfl ?_
    refine tw_aload rfl rfl ?_
    refine tw_alenF rfl (fun k5 N5 x5 e5 => ?_)
    have e5 : (h ++ [zarr (zkind .int) m.toNatClampNeg])[r]? = some (.inl (k5, N5, x5)) := e5
    rw [List.getElem?_append_left hl, e0] at e5
    cases e5
    refine tw_iload rfl rfl ?_
    refine tw_imin rfl ?_
    refine tw_acpy rfl (fun N2 K f1 g1 e1 e2 => ?_)
    have e1 : (h ++ [zarr (zkind .int) m.toNatClampNeg])[r]? = some (.inl (0, N2, .inl f1)) := e1
    have e2 : (h ++ [zarr (zkind .int) m.toNatClampNeg])[h.length]? = some (.inl (0, K, .inl g1)) := e2
    rw [List.getElem?_append_left hl, e0] at e1
    cases e1
    rw [List.getElem?_append_right (Nat.le_refl _), Nat.sub_self] at e2
    have e3 : zarr (zkind .int) m.toNatClampNeg = .inl (0, m.toNatClampNeg, .inl (fun _ => 0)) := rfl
    have e2 : some (zarr (zkind .int) m.toNatClampNeg) = some (.inl (0, K, .inl g1)) := e2
    rw [e3] at e2
    cases e2
    refine tw_aload rfl rfl ?_
    refine tw_aret rfl ⟨rfl, ?_⟩
    show cpy h ((h ++ [zarr (zkind .int) m.toNatClampNeg]).set h.length (.inl (0, m.toNatClampNeg, .inl (va_cpy f1 (fun _ => 0) 0 0 (if m < Int32.ofNat N then m else Int32.ofNat N).toNatClampNeg)))) r m
    rw [List.set_append_right _ _ (Nat.le_refl _), Nat.sub_self, if_pos hlt]
    exact cpy_of e0 (fun i hi => by
      unfold va_cpy
      rw [if_pos ⟨Nat.zero_le _, by omega⟩, Nat.zero_add, Nat.sub_zero])
  · have q : m = Int32.ofNat N := q
    have hmN : m.toNatClampNeg = N := by
      rw [zclE, q, yofN (by omega)]
      rfl
    refine tw_aload rfl rfl ?_
    refine tw_clone rfl (fun N2 g e => ?_)
    have e : h[r]? = some (.inl (0, N2, .inl g)) := e
    rw [e0] at e
    cases e
    refine tw_cast rfl ?_
    refine tw_aret rfl ⟨rfl, ?_⟩
    have := cpy_of (m := m) (g := g) e0 (fun _ _ => rfl)
    rw [hmN] at this
    exact this
theorem tO_st {h : zH} {r i : Nat} {x : Option Nat} {z : Int32} (hf : tInO h r z) {f : Nat → Option Nat} (k : tO h r = f) : tO (tSO h r i x) r = fun j => if j = i then x else f j := by
  rw [tO_tSO hf.cell]
  funext j
  dsimp only
  rw [k]
  by_cases e : j = i
  · rw [if_pos ⟨rfl, e⟩, if_pos e]
  · rw [if_neg (fun z => e z.2), if_neg e]
theorem tO_nz {h : zH} {r i p : Nat} {x : Option Nat} {z : Int32} (hf : tInO h r z) (hn : p ≠ r) : tO (tSO h r i x) p = tO h p := by
  rw [tO_tSO hf.cell]
  funext j
  exact if_neg (fun z => hn z.1)
/-- one rule more -/
noncomputable def cAdd (m : Int32) (h h2 : zH) : Prop := tF h2 48 3 = .int (tvI (tF h 48 3) + 1) ∧ tA h2 49 = (fun j => if j = (tvI (tF h 48 3)).toNatClampNeg then m else tA h 49 j) ∧ tO h2 50 = (fun j => if j = (tvI (tF h 48 3)).toNatClampNeg then some h.length else tO h 50 j) ∧ tO h2 51 = (fun j => if j = (tvI (tF h 48 3)).toNatClampNeg then some (h.length + 1) else tO h 51 j) ∧ tN h2 h.length = (tvI (tF h 44 5)).toNatClampNeg ∧ (∀ i, i < (tvI (tF h 44 5)).toNatClampNeg → tA h2 h.length i = tA h 46 i) ∧ tN h2 (h.length + 1) = (tvI (tF h 44 7) * 4).toNatClampNeg ∧ (∀ i, i < (tvI (tF h 44 7) * 4).toNatClampNeg → tA h2 (h.length + 1) i = tA h 47 i) ∧ (∀ p, p < h.length → p ≠ 49 → tA h2 p = tA h p) ∧ (∀ p b, p < h.length → ¬ (p = 48 ∧ b = 3) → tF h2 p b = tF h p b) ∧ (∀ p, p < h.length → p ≠ 50 → p ≠ 51 → tO h2 p = tO h p) ∧ ∀ p, p < h.length → tN h2 p = tN h p
theorem cAdd_of {h a b : zH} {m i : Int32} {kd : Nat} (hl : 182 ≤ h.length) (e : i = tvI (tF h 48 3)) (f1 : tIn h 49 kd i) (k1 : cpy (tSA h 49 i.toNatClampNeg m) a 46 (tvI (tF h 44 5))) (f2 : tInO a 50 i) (k2 : cpy (tSO a 50 i.toNatClampNeg (some (tSA h 49 i.toNatClampNeg m).length)) b 47 (tvI (tF h 44 7) * 4)) (f3 : tInO b 51 i) (f4 : tFd (tSO b 51 i.toNatClampNeg (some (tSO a 50 i.toNatClampNeg (some (tSA h 49 i.toNatClampNeg m).length)).length)) 48 3) : cAdd m h (tSF (tSO b 51 i.toNatClampNeg (some (tSO a 50 i.toNatClampNeg (some (tSA h 49 i.toNatClampNeg m).length)).length)) 48 3 (.int (i + 1))) := by
  subst e
  have L1 : (tSA h 49 (tvI (tF h 48 3)).toNatClampNeg m).length = h.length := tlen_tSA _ _ _ _
  rw [L1] at k2 f4 ⊢
  have La : a.length = h.length + 1 := by rw [k1.1, L1]
  have L2 : (tSO a 50 (tvI (tF h 48 3)).toNatClampNeg (some h.length)).length = h.length + 1 := by rw [tlen_tSO, La]
  rw [L2] at f4 ⊢
  obtain ⟨-, u1, u2, u3, u4⟩ := k1
  obtain ⟨-, v1, v2, v3, v4⟩ := k2
  rw [L1] at u1 u2 u3 u4
  rw [L2] at v1 v2 v3 v4
  refine ⟨tF_same f4, ?_, ?_, ?_, ?_, ?_, ?_, ?_, ?_, ?_, ?_, ?_⟩
  · rw [tA_tSF, tA_tSO, (v2 49 (by omega)).1, tA_tSO, (u2 49 (by omega)).1]
    exact tA_st f1 rfl
  · rw [tO_tSF, tO_nz f3 (by decide), (v2 50 (by omega)).2.1]
    refine tO_st f2 ?_
    rw [(u2 50 (by omega)).2.1, tO_tSA]
  · rw [tO_tSF]
    refine tO_st f3 ?_
    rw [(v2 51 (by omega)).2.1, tO_nz f2 (by decide), (u2 51 (by omega)).2.1, tO_tSA]
  · rw [tN_tSF, tN_tSO, (v2 h.length (by omega)).2.2, tN_tSO]
    exact u3
  · intro j hj
    rw [tA_tSF, tA_tSO, (v2 h.length (by omega)).1, tA_tSO, u4 j hj, tA_nz (by decide)]
  · rw [tN_tSF, tN_tSO]
    exact v3
  · intro j hj
    rw [tA_tSF, tA_tSO, v4 j hj, tA_tSO, (u2 47 (by omega)).1, tA_nz (by decide)]
  · intro p hp hn
    rw [tA_tSF, tA_tSO, (v2 p (by omega)).1, tA_tSO, (u2 p hp).1, tA_nz hn]
  · intro p c hp hn
    rw [tF_nz hn, tF_tSO, v1 p c (by omega), tF_tSO, u1 p c hp, tF_tSA]
  · intro p hp n1 n2
    rw [tO_tSF, tO_nz f3 n2, (v2 p (by omega)).2.1, tO_nz f2 n1, (u2 p hp).2.1, tO_tSA]
  · intro p hp
    rw [tN_tSF, tN_tSO, (v2 p (by omega)).2.2, tN_tSO, (u2 p hp).2.2, tN_tSA]
theorem f_bfull {G : zG} (hG : G.1 = zProg) {h : zH} (hs : tSh h) : tC zTt G 63 [.ref 48] h (fun w h2 => tBo ((tvI (tF h 48 3)).toInt = 10) w ∧ h2 = h) := by
  refine tC_in (by rw [hG]; rfl) (fun dp => ?_)
  refine tw_aload rfl rfl ?_
  refine tw_getS rfl (hi_48_3 hs) ?_
  refine tw_push rfl ?_
  refine tw_ic_ne rfl (fun q1110 => ?_) (fun q1110 => ?_)
  · try dsimp only [tvI_i, tvJ_j, tvR_r] at q1110
    have q1110i := zneq (Y := 10) (by decide) q1110
    refine tw_push rfl ?_
    exact tw_iret rfl ⟨Or.inr ⟨by omega, rfl⟩, rfl⟩
  · try dsimp only [tvI_i, tvJ_j, tvR_r] at q1110
    have q1110i := zeqi (Y := 10) (by decide) q1110
    refine tw_push rfl ?_
    refine tw_goto rfl ?_
    exact tw_iret rfl ⟨Or.inl ⟨by omega, rfl⟩, rfl⟩
theorem f_addRule {G : zG} (hG : G.1 = zProg) {h : zH} {m : Int32} (hs : tSh h) (hl : 182 ≤ h.length) (hc : 0 ≤ (tvI (tF h 44 5)).toInt ∧ (tvI (tF h 44 5)).toInt ≤ 400) (hk : 0 ≤ (tvI (tF h 44 7)).toInt ∧ (tvI (tF h 44 7)).toInt ≤ 12) (h46 : tN h 46 = 400) (h47 : tN h 47 = 48) : tC zTt G 64 [.ref 48, .int m, .ref 44] h (fun w h2 => (¬ (tvI (tF h 48 3)).toInt = 10 ∧ w = some (tF h 48 3) ∧ cAdd m h h2) ∨ (¬ ¬ (tvI (tF h 48 3)).toInt = 10 ∧ w = some (.int (-1)) ∧ h2 = h)) := by
  refine tC_in (by rw [hG]; rfl) (fun dp => ?_)
  have m4 : (tvI (tF h 44 7) * 4).toInt = (tvI (tF h 44 7)).toInt * 4 := zi32_4 hk.1 (by omega)
  refine tw_aload rfl rfl ?_
  refine tw_virt0 rfl (f_bfull hG hs) (fun w9 h9 p1111 => ?_)
  obtain ⟨⟨p1111, rfl⟩ | ⟨p1111, rfl⟩, e9⟩ := p1111
  · try dsimp only [tvI_i, tvJ_j, tvR_r] at p1111
    obtain rfl := e9.symm
    refine tw_if_eq rfl (fun z => absurd z (by decide)) (fun _ => ?_)
    refine tw_push rfl ?_
    exact tw_iret rfl (Or.inr ⟨by omega, rfl, rfl⟩)
  · try dsimp only [tvI_i, tvJ_j, tvR_r] at p1111
    obtain rfl := e9.symm
    refine tw_if_eq rfl (fun _ => ?_) (fun z => absurd z (by decide))
    refine tw_aload rfl rfl ?_
    refine tw_getS rfl (hs_48_0 hs) ?_
    refine tw_aload rfl rfl ?_
    refine tw_getS rfl (hi_48_3 hs) ?_
    refine tw_iload rfl rfl ?_
    refine tw_iast rfl (fun f1112 => ?_)
    refine tw_aload rfl rfl ?_
    refine tw_getS rfl (hs_48_1 (tSh_SA hs)) ?_
    refine tw_aload rfl rfl ?_
    refine tw_getS rfl (tF_a (hi_48_3 hs)) ?_
    refine tw_aload rfl rfl ?_
    refine tw_getS rfl (hs_44_4 (tSh_SA hs)) ?_
    refine tw_aload rfl rfl ?_
    refine tw_getS rfl (tF_a (hi_44_5 hs)) ?_
    refine tw_stat2 rfl (f_copyOf hG (r := 46) (by rw [tN_tSA, h46]; omega)) (fun wp1113 hp1113 p1113 => ?_)
    obtain ⟨rfl, cp1113⟩ := p1113
    refine tw_aast rfl (fun f1114 => ?_)
    refine tw_aload rfl rfl ?_
    refine tw_getS rfl (hs_48_2 (tSh_SO (cpy_sh (by rw [tlen_tSA]; exact hl) cp1113 (tSh_SA hs)))) ?_
    refine tw_aload rfl rfl ?_
    refine tw_getS rfl (tF_o ((cp1113.2.1 48 3 (by rw [tlen_tSA]; omega)).trans (tF_a (hi_48_3 hs)))) ?_
    refine tw_aload rfl rfl ?_
    refine tw_getS rfl (hs_44_6 (tSh_SO (cpy_sh (by rw [tlen_tSA]; exact hl) cp1113 (tSh_SA hs)))) ?_
    refine tw_aload rfl rfl ?_
    refine tw_getS rfl (tF_o ((cp1113.2.1 44 7 (by rw [tlen_tSA]; omega)).trans (tF_a (hi_44_7 hs)))) ?_
    refine tw_push rfl ?_
    refine tw_imul rfl ?_
    refine tw_stat2 rfl (f_copyOf hG (r := 47) (by rw [tN_tSO, (cp1113.2.2.1 47 (by rw [tlen_tSA]; omega)).2.2, tN_tSA, h47]; show 0 ≤ (tvI (tF h 44 7) * 4).toInt ∧ (tvI (tF h 44 7) * 4).toInt ≤ ((48 : Nat) : Int) ∧ 48 ≤ 1000; rw [m4]; omega)) (fun wp1115 hp1115 p1115 => ?_)
    obtain ⟨rfl, cp1115⟩ := p1115
    refine tw_aast rfl (fun f1116 => ?_)
    refine tw_aload rfl rfl ?_
    refine tw_dup rfl ?_
    refine tw_getS rfl (tF_o ((cp1115.2.1 48 3 (by rw [tlen_tSO, cp1113.1, tlen_tSA]; omega)).trans (tF_o ((cp1113.2.1 48 3 (by rw [tlen_tSA]; omega)).trans (tF_a (hi_48_3 hs)))))) ?_
    refine tw_dup_x1 rfl ?_
    refine tw_push rfl ?_
    refine tw_iadd rfl ?_
    refine tw_put rfl (fun f1117 => ?_)
    exact tw_iret rfl (Or.inl ⟨by omega, congrArg some (hi_48_3 hs).symm, cAdd_of hl rfl f1112 cp1113 f1114 cp1115 f1116 f1117⟩)
noncomputable def R_tlen (h : zH) : Prop := tF h 44 1 = tF h 111 27
noncomputable def R_tape (h : zH) : Prop := tA h 45 = tA h 132
noncomputable def R_rules (h : zH) : Prop := tF h 48 3 = tF h 111 30
noncomputable def R_froms (h : zH) : Prop := tA h 49 = tA h 141
theorem len_181 {h : zH} (e : tN h 181 = 81) : 182 ≤ h.length := by
  rcases Nat.lt_or_ge 181 h.length with q | q
  · omega
  · unfold tN at e
    rw [List.getElem?_eq_none q] at e
    cases e
theorem tN_lt {h : zH} {p : Nat} (e : 0 < tN h p) : p < h.length := by
  refine Classical.byContradiction (fun z => ?_)
  unfold tN at e
  rw [List.getElem?_eq_none (by omega)] at e
  exact absurd e (Nat.lt_irrefl 0)
theorem tC_and {tt : zT} {G : zG} {j : Nat} {as : List Value} {h : zH} {P Q : zQ} (k : tC tt G j as h P) (k2 : tC tt G j as h Q) : tC tt G j as h (fun w h2 => P w h2 ∧ Q w h2) := fun d z => zW_conj tt G d _ _ _ _ _ (k d z) (k2 d z)
theorem tC_triv {tt : zT} {G : zG} {j : Nat} {as : List Value} {h : zH} {Q : zQ} (k : ∀ w h2, Q w h2) : tC tt G j as h Q := fun d z => zW_mono tt G d _ _ _ _ _ (fun w h2 _ => k w h2) z
theorem f_cutTo2 {G : zG} (hG : G.1 = zProg) {h : zH} {n : Int32} : tC zTt G 74 [.ref 44, .int n] h (fun w h2 => w = some (.int n) ∧ h2 = tSF h 44 1 (.int n) ∧ tFd h 44 1) := by
  refine tC_in (by rw [hG]; rfl) (fun dp => ?_)
  refine tw_aload rfl rfl ?_
  refine tw_iload rfl rfl ?_
  refine tw_put rfl (fun f2 => ?_)
  refine tw_iload rfl rfl ?_
  exact tw_iret rfl ⟨rfl, rfl, f2⟩
/-- the codes in an array; a rule's clauses in one -/
noncomputable def cArr (h : zH) (a : Nat) : List Nat := (List.range (tN h a)).map (fun i => (tA h a i).toNatClampNeg)
noncomputable def cCls (h : zH) (b k : Nat) : List rCt := (List.range k).map (fun i => ((tA h b (4 * i)).toNatClampNeg, (tA h b (4 * i + 1)).toNatClampNeg, (tA h b (4 * i + 2)).toNatClampNeg, (tA h b (4 * i + 3)).toNatClampNeg))
/-- what the class's rule leaves -/
noncomputable def cRo (y : Int32) (r : Nat ⊕ (rS × List rCt)) (w : Option Value) (h h2 : zH) : Prop := match r with
  | .inl e => 100000 ≤ e ∨ (tF h2 44 1 = .int 0 ∧ w = some (.int (-2 - Int32.ofNat e)) ∧ tF h2 48 3 = tF h 48 3 ∧ tA h2 49 = tA h 49 ∧ (∀ p, 182 ≤ p → tA h2 p = tA h p) ∧ tO h2 50 = tO h 50 ∧ tO h2 51 = tO h 51)
  | .inr x => tF h2 44 1 = .int 0 ∧ w = some (tF h 48 3) ∧ tF h2 48 3 = .int (tvI (tF h 48 3) + 1) ∧ tA h2 49 = (fun j => if j = (tvI (tF h 48 3)).toNatClampNeg then y else tA h 49 j) ∧ ∃ a, 182 ≤ a ∧ tO h2 50 = (fun j => if j = (tvI (tF h 48 3)).toNatClampNeg then some a else tO h 50 j) ∧ tO h2 51 = (fun j => if j = (tvI (tF h 48 3)).toNatClampNeg then some (a + 1) else tO h 51 j) ∧ cArr h2 a = x.1.2.2 ∧ tN h2 (a + 1) = 4 * x.2.length ∧ cCls h2 (a + 1) x.2.length = x.2 ∧ ∀ p, 182 ≤ p → 0 < tN h p → tA h2 p = tA h p
theorem cRo_r {y : Int32} {h ha : zH} {b : zH} {w : Option Value} (hF : cFq h ha) (hP : cP ha) (hQ : cQ ha) (f1 : tFd ha 44 1) (hl : 182 ≤ ha.length) (hO : tO ha 50 = tO h 50 ∧ tO ha 51 = tO h 51) (k : cAdd y (tSF ha 44 1 (.int 0)) b) (hw : w = some (tF (tSF ha 44 1 (.int 0)) 48 3)) : cRo y (.inr (cs ha, cCl ha)) w h b := by
  have E : tF (tSF ha 44 1 (.int 0)) 48 3 = tF h 48 3 := (tF_nz (by decide)).trans (hF.2.1 48 3 (by decide))
  have E5 : tF (tSF ha 44 1 (.int 0)) 44 5 = tF ha 44 5 := tF_nz (by decide)
  have E7 : tF (tSF ha 44 1 (.int 0)) 44 7 = tF ha 44 7 := tF_nz (by decide)
  have L : (tSF ha 44 1 (.int 0)).length = ha.length := tlen_tSF _ _ _ _
  obtain ⟨k1, k2, k3, k4, k5, k6, k7, k8, k9, k10, k11, k12⟩ := k
  rw [E] at k1 k2 k3 k4
  rw [E5] at k5 k6
  rw [E7] at k7 k8
  rw [L] at k3 k4 k5 k6 k7 k8 k9 k10 k11 k12
  have m4 : (tvI (tF ha 44 7) * 4).toNatClampNeg = 4 * (tvI (tF ha 44 7)).toNatClampNeg := by
    rw [zclE, zi32_4 hQ.1 (by have := hQ.2.1; omega), zclE]
    have := hQ.1
    omega
  have hlen : (cCl ha).length = (tvI (tF ha 44 7)).toNatClampNeg := by unfold cCl; rw [List.length_map, List.length_range]
  refine ⟨?_, hw.trans (by rw [E]), k1, ?_, ha.length, hl, ?_, ?_, ?_, ?_, ?_, fun p hp h0 => ?_⟩
  · rw [k10 44 1 (by omega) (by decide)]
    exact tF_same f1
  · rw [k2]
    funext j
    rw [tA_tSF, hF.2.2.1 49 (by decide) (by decide)]
  · rw [k3, tO_tSF, hO.1]
  · rw [k4, tO_tSF, hO.2]
  · show cArr b ha.length = cCo ha
    unfold cArr cCo
    rw [k5]
    refine List.map_congr_left (fun i hi => ?_)
    have hi := List.mem_range.mp hi
    rw [k6 i hi, tA_tSF]
  · show tN b (ha.length + 1) = 4 * (cCl ha).length
    rw [k7, m4, hlen]
  · show cCls b (ha.length + 1) (cCl ha).length = cCl ha
    rw [hlen]
    unfold cCls cCl
    refine List.map_congr_left (fun i hi => ?_)
    have hi := List.mem_range.mp hi
    rw [k8 (4 * i) (by omega), k8 (4 * i + 1) (by omega), k8 (4 * i + 2) (by omega), k8 (4 * i + 3) (by omega), tA_tSF]
  · have h1 : p < ha.length := tN_lt (by rw [hF.2.2.2]; exact h0)
    rw [k9 p h1 (by omega), tA_tSF, hF.2.2.1 p (by omega) (by omega)]
theorem ofN_ne {e : Nat} (h : e < 100000) : ¬ Int32.ofNat e = -1 := by
  intro z
  have := congrArg Int32.toInt z
  rw [yofN (by omega)] at this
  have m : (-1 : Int32).toInt = -1 := rfl
  omega
noncomputable def ph_ruc (y : Int32) (h : zH) (w : Option Value) (h2 : zH) : Prop := (¬ ((tvI (tF h 48 3)).toInt ≠ 10 ∧ (tvI (tF h 0 14)).toInt ≤ y.toInt ∧ y.toInt ≤ 599) ∧ w = some (.int (-1)) ∧ h2 = h) ∨ (((tvI (tF h 48 3)).toInt ≠ 10 ∧ (tvI (tF h 0 14)).toInt ≤ y.toInt ∧ y.toInt ≤ 599) ∧ ∃ r, (∃ f, rRu (tA h 45) (cn h) f (0, 0, []) [] r) ∧ cRo y r w h h2)
theorem f_rule {G : zG} (hG : G.1 = zProg) (hX : G.2.1 = ztx) (hN : G.2.2.1 ≤ 4096) {τ : List Nat} {h : zH} {y : Int32} (hB : zBs G.2.2.2 τ h) (hs : tSh h) (hl : 0 ≤ (tvI (tF h 44 1)).toInt ∧ (tvI (tF h 44 1)).toInt ≤ 400) (hT9 : ∀ i, i < 400 → -128 ≤ (tA h 45 i).toInt ∧ (tA h 45 i).toInt ≤ 127) (h46 : tN h 46 = 400) (h47 : tN h 47 = 48) (h181 : tN h 181 = 81) : tC zTt G 124 [.ref 0, .int y] h (ph_ruc y h) := by
  by_cases hcnd : ((tvI (tF h 48 3)).toInt ≠ 10 ∧ (tvI (tF h 0 14)).toInt ≤ y.toInt ∧ y.toInt ≤ 599)
  · by_cases hbig : ∃ e f, rRu (tA h 45) (cn h) f (0, 0, []) [] (.inl e) ∧ 100000 ≤ e
    · obtain ⟨e, f, h1, h2⟩ := hbig
      exact tC_triv (fun _ _ => Or.inr ⟨hcnd, .inl e, ⟨f, h1⟩, Or.inl h2⟩)
    · refine tC_in (by rw [hG]; rfl) (fun dp => ?_)
      refine tw_aload rfl rfl ?_
      refine tw_getS rfl (hs_0_3 hs) ?_
      refine tw_virt0 rfl (f_bfull hG hs) (fun w9 h9 p1118 => ?_)
      obtain ⟨⟨p1118, rfl⟩ | ⟨p1118, rfl⟩, e9⟩ := p1118
      · try dsimp only [tvI_i, tvJ_j, tvR_r] at p1118
        obtain rfl := e9.symm
        refine tw_if_ne rfl (fun _ => ?_) (fun z => absurd z (by decide))
        refine tw_push rfl ?_
        exact tw_iret rfl (Or.inl ⟨fun z => by have := z.1; omega, rfl, rfl⟩)
      · try dsimp only [tvI_i, tvJ_j, tvR_r] at p1118
        obtain rfl := e9.symm
        refine tw_if_ne rfl (fun z => absurd z (by decide)) (fun _ => ?_)
        refine tw_iload rfl rfl ?_
        refine tw_aload rfl rfl ?_
        refine tw_getS rfl (hi_0_14 hs) ?_
        refine tw_push rfl ?_
        refine tw_stat3 rfl (f_isWithin hG  (HI := 599) rfl (by decide)) (fun w9 h9 p1119 => ?_)
        obtain ⟨⟨p1119, rfl⟩ | ⟨p1119, rfl⟩, e9⟩ := p1119
        · try dsimp only [tvI_i, tvJ_j, tvR_r] at p1119
          obtain rfl := e9.symm
          refine tw_if_ne rfl (fun _ => ?_) (fun z => absurd z (by decide))
          refine tw_aload rfl rfl ?_
          refine tw_getS rfl (hs_0_2 hs) ?_
          refine tw_virt0 rfl (tC_and (f_readRule hG hX hs rfl rfl hl hT9 h46 h47) (tC_of (zpub hG hX hN (j := 75) (x := 44) (bs := []) (xs := []) (ct := kt_75_0) (g := false) (kd := 0) (lv := 42) (cts := [kt_75_0]) (by rfl) List.mem_cons_self (by rfl) (by rfl) (by decide) (by decide +kernel) (by decide +kernel) trivial hB))) (fun w9 hp1120 p1120 => ?_)
          obtain ⟨⟨Fp1120, ⟨Np1120, rp1120, rfl, Pp1120, Qp1120⟩ | ⟨ep1120, Np1120, rp1120, rfl⟩⟩, -, -, Yp1120⟩ := p1120
          · refine tw_istore rfl ?_
            refine tw_aload rfl rfl ?_
            refine tw_getS rfl (hs_0_2 Fp1120.1) ?_
            refine tw_push rfl ?_
            refine tw_virt1 rfl (f_cutTo2 hG) (fun wp1121 hp1121 p1121 => ?_)
            obtain ⟨rfl, rfl, fp1121⟩ := p1121
            refine tw_pop rfl ?_
            refine tw_iload rfl rfl ?_
            refine tw_push rfl ?_
            refine tw_ic_ne rfl (fun z => absurd z (by decide)) (fun _ => ?_)
            refine tw_aload rfl rfl ?_
            refine tw_getS rfl (hs_0_3 (hw_44_1 fp1121 Fp1120.1)) ?_
            refine tw_iload rfl rfl ?_
            refine tw_aload rfl rfl ?_
            refine tw_getS rfl (hs_0_2 (hw_44_1 fp1121 Fp1120.1)) ?_
            refine tw_virt2 rfl (f_addRule hG (hw_44_1 fp1121 Fp1120.1) (by rw [tlen_tSF]; exact len_181 ((congrFun Fp1120.2.2.2 181).trans h181)) (by rw [tF_nz (by decide)]; exact ⟨Pp1120.2.2.1.1, by have a := Pp1120.2.2.1.2; have b := Pp1120.1.2.1; have c := Pp1120.1.2.2; omega⟩) (by rw [tF_nz (by decide)]; exact ⟨Qp1120.1, Qp1120.2.1⟩) (by rw [tN_tSF, Fp1120.2.2.2]; exact h46) (by rw [tN_tSF, Fp1120.2.2.2]; exact h47)) (fun wp1122 hp1122 p1122 => ?_)
            refine tw_goto rfl ?_
            have E48 : tF (tSF hp1120 44 1 (.int 0)) 48 3 = tF h 48 3 := (tF_nz (by decide)).trans (Fp1120.2.1 48 3 (by decide))
            rcases p1122 with ⟨c9, w9, k9⟩ | ⟨c9, w9, k9⟩
            · subst w9; exact tw_iret rfl (Or.inr ⟨⟨by omega, by omega⟩, _, ⟨Np1120, rp1120⟩, cRo_r Fp1120 Pp1120 Qp1120 fp1121 (len_181 ((congrFun Fp1120.2.2.2 181).trans h181)) ⟨(tfr_A hB Yp1120 (p := 50) rfl rfl).2.2, (tfr_A hB Yp1120 (p := 51) rfl rfl).2.2⟩ k9 (congrArg some (hi_48_3 (hw_44_1 fp1121 Fp1120.1)).symm)⟩)
            · exfalso
              rw [E48] at c9
              omega
          · refine tw_istore rfl ?_
            refine tw_aload rfl rfl ?_
            refine tw_getS rfl (hs_0_2 Fp1120.1) ?_
            refine tw_push rfl ?_
            refine tw_virt1 rfl (f_cutTo2 hG) (fun wp1123 hp1123 p1123 => ?_)
            obtain ⟨rfl, rfl, fp1123⟩ := p1123
            refine tw_pop rfl ?_
            refine tw_iload rfl rfl ?_
            refine tw_push rfl ?_
            refine tw_ic_ne rfl (fun q1124 => ?_) (fun q1124 => ?_)
            · try dsimp only [tvI_i, tvJ_j, tvR_r] at q1124
              have q1124i := zneq (Y := (-1)) (by decide) q1124
              refine tw_push rfl ?_
              refine tw_iload rfl rfl ?_
              refine tw_isub rfl ?_
              exact tw_iret rfl (Or.inr ⟨⟨by omega, by omega⟩, .inl ep1120, ⟨Np1120, rp1120⟩, Or.inr ⟨tF_same fp1123, rfl, (tF_nz (by decide)).trans (Fp1120.2.1 48 3 (by decide)), (congrFun (tA_tSF _ _ _ _) 49).trans (Fp1120.2.2.1 49 (by decide) (by decide)), fun p9 hp9 => (congrFun (tA_tSF _ _ _ _) p9).trans (Fp1120.2.2.1 p9 (by omega) (by omega)), (congrFun (tO_tSF _ _ _ _) 50).trans (tfr_A hB Yp1120 (p := 50) rfl rfl).2.2, (congrFun (tO_tSF _ _ _ _) 51).trans (tfr_A hB Yp1120 (p := 51) rfl rfl).2.2⟩⟩)
            · try dsimp only [tvI_i, tvJ_j, tvR_r] at q1124
              have q1124i := zeqi (Y := (-1)) (by decide) q1124
              exact absurd q1124 (ofN_ne (Nat.lt_of_not_le (fun z => hbig ⟨_, _, rp1120, z⟩)))
        · try dsimp only [tvI_i, tvJ_j, tvR_r] at p1119
          obtain rfl := e9.symm
          refine tw_if_ne rfl (fun z => absurd z (by decide)) (fun _ => ?_)
          refine tw_push rfl ?_
          exact tw_iret rfl (Or.inl ⟨fun z => by have := z.1; omega, rfl, rfl⟩)
  · refine tC_in (by rw [hG]; rfl) (fun dp => ?_)
    refine tw_aload rfl rfl ?_
    refine tw_getS rfl (hs_0_3 hs) ?_
    refine tw_virt0 rfl (f_bfull hG hs) (fun w9 h9 p1125 => ?_)
    obtain ⟨⟨p1125, rfl⟩ | ⟨p1125, rfl⟩, e9⟩ := p1125
    · try dsimp only [tvI_i, tvJ_j, tvR_r] at p1125
      obtain rfl := e9.symm
      refine tw_if_ne rfl (fun _ => ?_) (fun z => absurd z (by decide))
      refine tw_push rfl ?_
      exact tw_iret rfl (Or.inl ⟨fun z => by have := z.1; omega, rfl, rfl⟩)
    · try dsimp only [tvI_i, tvJ_j, tvR_r] at p1125
      obtain rfl := e9.symm
      refine tw_if_ne rfl (fun z => absurd z (by decide)) (fun _ => ?_)
      refine tw_iload rfl rfl ?_
      refine tw_aload rfl rfl ?_
      refine tw_getS rfl (hi_0_14 hs) ?_
      refine tw_push rfl ?_
      refine tw_stat3 rfl (f_isWithin hG  (HI := 599) rfl (by decide)) (fun w9 h9 p1126 => ?_)
      obtain ⟨⟨p1126, rfl⟩ | ⟨p1126, rfl⟩, e9⟩ := p1126
      · try dsimp only [tvI_i, tvJ_j, tvR_r] at p1126
        obtain rfl := e9.symm
        refine tw_if_ne rfl (fun _ => ?_) (fun z => absurd z (by decide))
        refine tw_aload rfl rfl ?_
        refine tw_getS rfl (hs_0_2 hs) ?_
        refine tw_virt0 rfl (tC_and (f_readRule hG hX hs rfl rfl hl hT9 h46 h47) (tC_of (zpub hG hX hN (j := 75) (x := 44) (bs := []) (xs := []) (ct := kt_75_0) (g := false) (kd := 0) (lv := 42) (cts := [kt_75_0]) (by rfl) List.mem_cons_self (by rfl) (by rfl) (by decide) (by decide +kernel) (by decide +kernel) trivial hB))) (fun w9 hp1127 p1127 => ?_)
        obtain ⟨⟨Fp1127, ⟨Np1127, rp1127, rfl, Pp1127, Qp1127⟩ | ⟨ep1127, Np1127, rp1127, rfl⟩⟩, -, -, Yp1127⟩ := p1127
        · exact absurd ⟨by omega, by omega⟩ hcnd
        · exact absurd ⟨by omega, by omega⟩ hcnd
      · try dsimp only [tvI_i, tvJ_j, tvR_r] at p1126
        obtain rfl := e9.symm
        refine tw_if_ne rfl (fun z => absurd z (by decide)) (fun _ => ?_)
        refine tw_push rfl ?_
        exact tw_iret rfl (Or.inl ⟨fun z => by have := z.1; omega, rfl, rfl⟩)
theorem mK_of {xs : Nat → Int32} {τ : List Nat} {h : zH} (hB : zBs xs τ h) : mK h := ⟨kb_111_27 hB, (kb_111_34 hB).1, kb_111_30 hB, fun i hi => ((ka_142 hB).2 i (by rw [(ka_142 hB).1] at hi; exact hi)).1, fun _ => rfl, by rw [(ka_133 hB).1]; decide, by rw [(ka_142 hB).1]; decide⟩
theorem zAr_dep {G : zG} (hG : G.1 = zProg) (hT : G.2.1 = ztx) (hN : G.2.2.1 ≤ 4096) {R : zH → Prop} {cmp : Bool} {φ1 : List Int32 → zH → Option Value → zH → Prop} {φ2 : List Int32 → zH → Option Value → zH → Option Value → zH → Prop} {j1 j2 kd : Nat} {bs : List (Int × Int)} {ct1 ct2 : yCt} {g1 g2 : Bool} {l1 l2 : Nat} {cs1 cs2 : List yCt} (c1 : zCT[j1]? = some cs1) (i1 : ct1 ∈ cs1) (p1 : ct1.1 = zpM 0 bs g1) (v1 : ct1.2.2.1 = (.ofNat l1, [])) (v1' : l1 ≤ 64) (k1 : zpT kd ct1.2.2.2 = true) (q1 : zpG (ywf ct1.2.1) ct1.2.2.2 = true)
  (c2 : zCT[j2]? = some cs2) (i2 : ct2 ∈ cs2) (p2 : ct2.1 = zpM 111 bs g2) (v2 : ct2.2.2.1 = (.ofNat l2, [])) (v2' : l2 ≤ 64) (k2 : zpT kd ct2.2.2.2 = true) (q2 : zpG (ywf ct2.2.1) ct2.2.2.2 = true)
  (f1 : ∀ xs τ h, zpB bs xs → zBs G.2.2.2 τ h → R h → tC zTt G j1 (.ref 0 :: xs.map Value.int) h (fun w h2 => φ1 xs h w h2)) (f2 : ∀ xs τ h w h2 τ2, zpB bs xs → zBs G.2.2.2 τ h → R h → φ1 xs h w h2 → zBs G.2.2.2 τ2 h2 → yFr (ywf ct1.2.1) τ h h2 → tC zTt G j2 (.ref 111 :: xs.map Value.int) h2 (fun w2 h3 => φ2 xs h w h2 w2 h3))
  (fin : ∀ xs τ h w h2 τ2 w2 h3 τ3, zpB bs xs → zBs G.2.2.2 τ h → R h → φ1 xs h w h2 → zBs G.2.2.2 τ2 h2 → yFr (ywf ct1.2.1) τ h h2 → φ2 xs h w h2 w2 h3 → zBs G.2.2.2 τ3 h3 → yFr (ywf ct2.2.1) τ2 h2 h3 → (cmp = true → w2 = w) ∧ R h3) : zAr G R j1 j2 kd bs cmp := by
  intro xs h hb ⟨⟨τ, hB⟩, hR⟩
  refine zW_mono zTt G 64 _ _ _ _ _ ?_ ((f1 xs τ h hb hB hR).both (zpub hG hT hN c1 i1 p1 v1 v1' k1 q1 hb hB))
  rintro w h2 ⟨⟨t1, ⟨τ2, hB2⟩, r1⟩, h1⟩
  refine ⟨t1, zBs_111 hB2, zW_mono zTt G 64 _ _ _ _ _ ?_ ((f2 xs τ h w h2 τ2 hb hB hR h1 hB2 r1).both (zpub hG hT hN c2 i2 p2 v2 v2' k2 q2 hb hB2))⟩
  rintro w2 h3 ⟨⟨t2, ⟨τ3, hB3⟩, r2⟩, hh2⟩
  obtain ⟨e1, e2⟩ := fin xs τ h w h2 τ2 w2 h3 τ3 hb hB hR h1 hB2 r1 hh2 hB3 r2
  exact ⟨t2, e1, ⟨τ3, hB3⟩, e2⟩
noncomputable def ph_rum (y : Int32) (h : zH) (w : Option Value) (h2 : zH) (w2 : Option Value) (h3 : zH) : Prop := (w = some (.int (-1)) ∧ h2 = h ∧ w2 = some (.int (-1)) ∧ h3 = h2) ∨ ∃ r, (∃ f, rRu (tA h 45) (cn h) f (0, 0, []) [] r) ∧ cRo y r w h h2 ∧ mRo y r w2 h2 h3
theorem g_rule0 {G : zG} (hG : G.1 = zProg) {h : zH} {y : Int32} (hs : tSh h) (hc : ¬ ((tvI (tF h 111 30)).toInt ≠ 10 ∧ (tvI (tF h 111 1)).toInt ≤ y.toInt ∧ y.toInt ≤ 599)) : tC zTt G 225 [.ref 111, .int y] h (fun w h2 => w = some (.int (-1)) ∧ h2 = h) := by
  refine tC_in (by rw [hG]; rfl) (fun dp => ?_)
  refine tw_aload rfl rfl ?_
  refine tw_getS rfl (hi_111_30 hs) ?_
  refine tw_push rfl ?_
  refine tw_ic_eq rfl (fun q1128 => ?_) (fun q1128 => ?_)
  · try dsimp only [tvI_i, tvJ_j, tvR_r] at q1128
    have q1128i := zeqi (Y := 10) (by decide) q1128
    refine tw_push rfl ?_
    exact tw_iret rfl ⟨rfl, rfl⟩
  · try dsimp only [tvI_i, tvJ_j, tvR_r] at q1128
    have q1128i := zneq (Y := 10) (by decide) q1128
    refine tw_iload rfl rfl ?_
    refine tw_i2l rfl ?_
    refine tw_aload rfl rfl ?_
    refine tw_getS rfl (hi_111_1 hs) ?_
    refine tw_i2l rfl ?_
    refine tw_push rfl ?_
    refine tw_stat3 rfl (f_in hG   (HI := 599) (Int32.toInt_toInt64 _) (Int32.toInt_toInt64 _) (by decide)) (fun w9 h9 p1129 => ?_)
    obtain ⟨⟨p1129, rfl⟩ | ⟨p1129, rfl⟩, e9⟩ := p1129
    · try dsimp only [tvI_i, tvJ_j, tvR_r] at p1129
      obtain rfl := e9.symm
      exact absurd ⟨by omega, by omega⟩ hc
    · try dsimp only [tvI_i, tvJ_j, tvR_r] at p1129
      obtain rfl := e9.symm
      refine tw_if_ne rfl (fun z => absurd z (by decide)) (fun _ => ?_)
      refine tw_push rfl ?_
      exact tw_iret rfl ⟨rfl, rfl⟩
theorem g_ruleD {G : zG} (hG : G.1 = zProg) (hX : G.2.1 = ztx) {τ τ2 : List Nat} {y : Int32} {h h2 : zH} {w : Option Value} (hB : zBs G.2.2.2 τ h) (hB2 : zBs G.2.2.2 τ2 h2) (hL : R_tlen h) (hT : R_tape h) (hN : R_rules h) (hW : R_now h) (e1 : tF h2 111 27 = tF h 111 27) (e2 : tF h2 111 30 = tF h 111 30) (e3 : tF h2 111 1 = tF h 111 1) (o1 : tA h2 132 = tA h 132) (k1 : ph_ruc y h w h2) : tC zTt G 225 [.ref 111, .int y] h2 (ph_rum y h w h2) := by
  unfold R_tlen at hL
  unfold R_tape at hT
  unfold R_rules at hN
  unfold R_now at hW
  rcases k1 with ⟨c1, rfl, rfl⟩ | ⟨c1, r, ⟨f, hr⟩, k1⟩
  · refine (g_rule0 hG (zBs_sh hB2) ?_).mono (fun w2 h3 z => Or.inl ⟨rfl, rfl, z.1, z.2⟩)
    rw [← hN, ← hW]
    exact c1
  · have hmn : mn h2 = cn h := by unfold mn cn; rw [e1, ← hL]
    refine (g_rule hG hX (zBs_sh hB2) (mK_of hB2) (o1.trans hT.symm) hmn ⟨f, hr⟩).mono (fun w2 h3 z => ?_)
    rcases z with ⟨c2, -⟩ | ⟨-, z⟩
    · refine absurd ?_ c2
      rw [e2, e3, ← hN, ← hW]
      exact ⟨fun y9 => c1.1 (by rw [y9]; rfl), c1.2.1, c1.2.2⟩
    · exact Or.inr ⟨r, ⟨f, hr⟩, k1, z⟩
theorem a_rule {xs : Nat → Int32} {τ : List Nat} {y : Int32} {h h2 h3 : zH} {w w2 : Option Value} (hB : zBs xs τ h) (hL : R_tlen h) (hN : R_rules h) (hF : R_froms h) (e1 : tF h2 111 27 = tF h 111 27) (e2 : tF h2 111 30 = tF h 111 30) (o2 : tA h2 141 = tA h 141) (t1 : tF h3 44 1 = tF h2 44 1) (t2 : tF h3 48 3 = tF h2 48 3) (t3 : tA h3 49 = tA h2 49) (k2 : ph_rum y h w h2 w2 h3) : w2 = w ∧ R_tlen h3 ∧ R_rules h3 ∧ R_froms h3 := by
  have hN0 := hN
  have hF0 := hF
  unfold R_rules at hN0
  unfold R_froms at hF0
  have i48 := hi_48_3 (zBs_sh hB)
  rcases k2 with ⟨rfl, rfl, rfl, rfl⟩ | ⟨r, -, k1, k2⟩
  · exact ⟨rfl, hL, hN, hF⟩
  · obtain ⟨m1, m2, k2⟩ := k2
    have E27 : tF h3 111 27 = .int 0 := by rw [hi_111_27 m1.1, m2]
    cases r with
    | inl e =>
      obtain ⟨m3, rfl, m4, -, m5⟩ := k2
      rcases k1 with k1 | ⟨k1, rfl, k3, k4, -⟩
      · exact absurd m3 (Nat.not_lt_of_le k1)
      · refine ⟨rfl, ?_, ?_, ?_⟩
        · unfold R_tlen
          rw [t1, k1, E27]
        · unfold R_rules
          rw [t2, k3, m4, e2]
          exact hN0
        · unfold R_froms
          rw [t3, k4, m5, o2]
          exact hF0
    | inr x =>
      obtain ⟨rfl, m4, m5, m6, m7, -⟩ := k2
      obtain ⟨k1, rfl, k3, k4, -⟩ := k1
      have E30 : tvI (tF h2 111 30) = tvI (tF h 48 3) := by rw [e2, ← hN0]
      refine ⟨?_, ?_, ?_, ?_⟩
      · rw [zi1, E30]
        exact congrArg some i48.symm
      · unfold R_tlen
        rw [t1, k1, E27]
      · unfold R_rules
        rw [t2, k3, hi_111_30 m1.1, m4, E30]
      · unfold R_froms
        rw [t3, k4]
        funext q
        rw [E30] at m6 m7
        by_cases z : q = (tvI (tF h 48 3)).toNatClampNeg
        · rw [if_pos z, z, m6]
        · rw [if_neg z, (m7 q z).2, o2, ← hF0]
/-! what the codes of a rule are worth: facts are 0 or 1 -/
noncomputable def tyS (S : List Bool) (c : Nat) : Option (List Bool) :=
  if c < 100012 then some (false :: S)
  else if c = 100110 then (match S with
    | true :: r => some (true :: r)
    | _ => none)
  else if c = 100108 ∨ c = 100109 then (match S with
    | true :: true :: r => some (true :: r)
    | _ => none)
  else if 100100 ≤ c ∧ c < 100103 then (match S with
    | false :: false :: r => some (false :: r)
    | _ => none)
  else if 100103 ≤ c ∧ c < 100108 then (match S with
    | false :: false :: r => some (true :: r)
    | _ => none)
  else none
noncomputable def tyL : List Bool → List Nat → Option (List Bool)
  | S, [] => some S
  | S, c :: e => match tyS S c with
    | none => none
    | some S1 => tyL S1 e
theorem tyL_app {e1 e2 : List Nat} {S S1 S2 : List Bool} (h1 : tyL S e1 = some S1) (h2 : tyL S1 e2 = some S2) : tyL S (e1 ++ e2) = some S2 := by
  induction e1 generalizing S with
  | nil =>
    have h1 : some S = some S1 := h1
    cases h1
    exact h2
  | cons c e1 ih =>
    have h1 : (match tyS S c with | none => none | some S1 => tyL S1 e1) = some S1 := h1
    show (match tyS S c with | none => none | some S1 => tyL S1 (e1 ++ e2)) = some S2
    cases hc : tyS S c with
    | none => rw [hc] at h1; cases h1
    | some S3 =>
      rw [hc] at h1
      exact ih h1
/-- how many values -/
noncomputable def nVl : List Nat → Nat
  | [] => 0
  | c :: e => (if c < 100100 then 1 else 0) + nVl e
theorem nVl_app {e1 e2 : List Nat} : nVl (e1 ++ e2) = nVl e1 + nVl e2 := by
  induction e1 with
  | nil => show nVl e2 = 0 + nVl e2; omega
  | cons c e ih =>
    show (if c < 100100 then 1 else 0) + nVl (e ++ e2) = (if c < 100100 then 1 else 0) + nVl e + nVl e2
    rw [ih]
    omega
noncomputable def tyH (A B : List Bool → List Bool) (s s2 : rS) : Prop := ∃ e, s2.2.2 = s.2.2 ++ e ∧ nVl e + s.2.1 ≤ s2.2.1 ∧ (s.2.1 ≤ 80 → s2.2.1 ≤ 80) ∧ ∀ S, tyL (A S) e = some (B S)
section TYH
variable {A B C : List Bool → List Bool} {s s1 s2 : rS} {c p : Nat}
theorem tyH_r : tyH A A s s := ⟨[], (List.append_nil _).symm, by show 0 + _ ≤ _; omega, id, fun _ => rfl⟩
theorem tyH_t (h1 : tyH A B s s1) (h2 : tyH B C s1 s2) : tyH A C s s2 := by
  obtain ⟨e1, a1, a2, a3, a4⟩ := h1
  obtain ⟨e2, b1, b2, b3, b4⟩ := h2
  exact ⟨e1 ++ e2, by rw [b1, a1, List.append_assoc], by rw [nVl_app]; omega, fun z => b3 (a3 z), fun S => tyL_app (a4 S) (b4 S)⟩
theorem tyH_a (h : tyH A B s s1) : tyH A B s (rA p s1) := h
theorem tyH_b (h : tyH A B (rA p s) s1) : tyH A B s s1 := h
theorem tyH_c (h : s.2.1 ≠ 80) : tyH A A s (s.1, s.2.1 + 1, s.2.2) := ⟨[], (List.append_nil _).symm, by show 0 + _ ≤ _ + 1; omega, fun z => by show _ + 1 ≤ 80; omega, fun _ => rfl⟩
theorem tyH_u (hv : 100100 ≤ c) (hc : ∀ S, tyS (A S) c = some (B S)) : tyH A B s (rU c s) := ⟨[c], rfl, by show (if c < 100100 then 1 else 0) + 0 + _ ≤ _; rw [if_neg (by omega)]; show 0 + 0 + s.2.1 ≤ s.2.1; omega, id, fun S => by
  show (match tyS (A S) c with | none => none | some S1 => tyL S1 []) = some (B S)
  rw [hc S]
  rfl⟩
theorem tyH_v (h : s.2.1 ≠ 80) (hv : c < 100012) : tyH A (fun S => false :: A S) s (rU c (rA p (s.1, s.2.1 + 1, s.2.2))) := ⟨[c], rfl, by show (if c < 100100 then 1 else 0) + 0 + s.2.1 ≤ s.2.1 + 1; rw [if_pos (by omega)]; omega, fun z => by show _ + 1 ≤ 80; omega, fun S => by
  have e : tyS (A S) c = some (false :: A S) := by
    unfold tyS
    rw [if_pos hv]
  show (match tyS (A S) c with | none => none | some S1 => tyL S1 []) = some (false :: A S)
  rw [e]
  rfl⟩
theorem tyH_S (g : List Bool → List Bool) (h : tyH A B s s2) : tyH (fun S => A (g S)) (fun S => B (g S)) s s2 := by
  obtain ⟨e, a1, a2, a3, a4⟩ := h
  exact ⟨e, a1, a2, a3, fun S => a4 (g S)⟩
theorem rK_ok {x : rR} {k : rS → rR} (h : rK x k = some (.inr s2)) : ∃ s1, x = some (.inr s1) ∧ k s1 = some (.inr s2) := by
  match x, h with
  | none, h => cases h
  | some (.inl f), h => cases h
  | some (.inr s1), h => exact ⟨s1, rfl, h⟩
theorem rC_ok (h : rC p s = some (.inr s1)) : s.2.1 ≠ 80 ∧ s1 = (s.1, s.2.1 + 1, s.2.2) := by
  unfold rC at h
  by_cases z : s.2.1 = 80
  · rw [if_pos z] at h; cases h
  · rw [if_neg z] at h; cases h; exact ⟨z, rfl⟩
theorem rO_ok (h : rO s = some (.inr s1)) : s1 = s := by cases h; rfl
theorem rF_no {w : Nat} (h : rF p w = some (.inr s1)) : False := by cases h
end TYH
noncomputable def mIn : Nat → List Bool → List Bool
  | 2 => fun S => false :: S
  | 4 => fun S => false :: S
  | 8 => fun S => true :: S
  | 10 => fun S => true :: S
  | _ => fun S => S
noncomputable def mOu : Nat → List Bool → List Bool
  | 0 => fun S => false :: S
  | 1 => fun S => false :: S
  | 2 => fun S => false :: S
  | 3 => fun S => false :: S
  | 4 => fun S => false :: S
  | _ => fun S => true :: S
theorem rM_le {T : Nat → Int32} {n most p : Nat} {q : Nat × Nat} (h : rM T n most p = .inr q) : q.2 ≤ most := by
  unfold rM at h
  split at h
  · cases h
  · split at h
    · cases h
    · rename_i z
      cases h
      exact Nat.le_of_not_lt (fun y => z (Or.inr y))
theorem rCm_le {T : Nat → Int32} {n b : Nat} {q : Nat × Nat} (h : rCm T n b = some q) : 100103 ≤ q.1 ∧ q.1 < 100108 := by
  unfold rCm at h
  split at h
  · cases h; exact ⟨Nat.le_of_ble_eq_true rfl, Nat.le_of_ble_eq_true rfl⟩
  · split at h
    · split at h <;> cases h <;> exact ⟨Nat.le_of_ble_eq_true rfl, Nat.le_of_ble_eq_true rfl⟩
    · split at h
      · split at h <;> cases h <;> exact ⟨Nat.le_of_ble_eq_true rfl, Nat.le_of_ble_eq_true rfl⟩
      · cases h
theorem ty_pm {c : Nat} (hc : 100100 ≤ c ∧ c < 100103) (S : List Bool) : tyS (false :: false :: S) c = some (false :: S) := by
  unfold tyS
  rw [if_neg (by omega), if_neg (by omega), if_neg (by omega), if_pos hc]
theorem ty_cm {c : Nat} (hc : 100103 ≤ c ∧ c < 100108) (S : List Bool) : tyS (false :: false :: S) c = some (true :: S) := by
  unfold tyS
  rw [if_neg (by omega), if_neg (by omega), if_neg (by omega), if_neg (by omega), if_pos hc]
theorem ty_ao {c : Nat} (hc : c = 100108 ∨ c = 100109) (S : List Bool) : tyS (true :: true :: S) c = some (true :: S) := by
  unfold tyS
  rw [if_neg (by omega), if_neg (by omega), if_pos hc]
theorem ty_no (S : List Bool) : tyS (true :: S) 100110 = some (true :: S) := by
  unfold tyS
  rw [if_neg (by omega), if_pos rfl]
theorem rX_ty {T : Nat → Int32} {n : Nat} : ∀ (f m d : Nat) (s s2 : rS), m ≤ 10 → rX T n f m d s = some (.inr s2) → tyH (mIn m) (mOu m) s s2 := by
  intro f
  induction f with
  | zero =>
    intro m d s s2 hm h
    have h : (none : rR) = some (.inr s2) := h
    cases h
  | succ f ih =>
    have i0 : ∀ d s s2, rX T n f 0 d s = some (.inr s2) → tyH (fun S => S) (fun S => false :: S) s s2 := fun d s s2 h => ih 0 d s s2 (by decide) h
    have i1 : ∀ d s s2, rX T n f 1 d s = some (.inr s2) → tyH (fun S => S) (fun S => false :: S) s s2 := fun d s s2 h => ih 1 d s s2 (by decide) h
    have i2 : ∀ d s s2, rX T n f 2 d s = some (.inr s2) → tyH (fun S => false :: S) (fun S => false :: S) s s2 := fun d s s2 h => ih 2 d s s2 (by decide) h
    have i3 : ∀ d s s2, rX T n f 3 d s = some (.inr s2) → tyH (fun S => S) (fun S => false :: S) s s2 := fun d s s2 h => ih 3 d s s2 (by decide) h
    have i4 : ∀ d s s2, rX T n f 4 d s = some (.inr s2) → tyH (fun S => false :: S) (fun S => false :: S) s s2 := fun d s s2 h => ih 4 d s s2 (by decide) h
    have i5 : ∀ d s s2, rX T n f 5 d s = some (.inr s2) → tyH (fun S => S) (fun S => true :: S) s s2 := fun d s s2 h => ih 5 d s s2 (by decide) h
    have i6 : ∀ d s s2, rX T n f 6 d s = some (.inr s2) → tyH (fun S => S) (fun S => true :: S) s s2 := fun d s s2 h => ih 6 d s s2 (by decide) h
    have i7 : ∀ d s s2, rX T n f 7 d s = some (.inr s2) → tyH (fun S => S) (fun S => true :: S) s s2 := fun d s s2 h => ih 7 d s s2 (by decide) h
    have i8 : ∀ d s s2, rX T n f 8 d s = some (.inr s2) → tyH (fun S => true :: S) (fun S => true :: S) s s2 := fun d s s2 h => ih 8 d s s2 (by decide) h
    have i9 : ∀ d s s2, rX T n f 9 d s = some (.inr s2) → tyH (fun S => S) (fun S => true :: S) s s2 := fun d s s2 h => ih 9 d s s2 (by decide) h
    have i10 : ∀ d s s2, rX T n f 10 d s = some (.inr s2) → tyH (fun S => true :: S) (fun S => true :: S) s s2 := fun d s s2 h => ih 10 d s s2 (by decide) h
    intro m d s s2 hm h
    rcases (by omega : m = 0 ∨ m = 1 ∨ m = 2 ∨ m = 3 ∨ m = 4 ∨ m = 5 ∨ m = 6 ∨ m = 7 ∨ m = 8 ∨ m = 9 ∨ m = 10) with rfl | rfl | rfl | rfl | rfl | rfl | rfl | rfl | rfl | rfl | rfl
    · have h : (if rB T n s.1 < n ∧ T (rB T n s.1) = 40 then (if d = 10 then rF (rB T n s.1) 2 else rK (rC (rB T n s.1) s) (fun s1 => rK (rX T n f 3 (d + 1) (rA (rB T n s.1 + 1) s1)) (rT T n 41)))
      else (match rK12 T n (rB T n s.1) with
        | some k => rK (rC (rB T n s.1) s) (fun s1 => rO (rU (100000 + k) (rA (rE T n (rB T n s.1)) s1)))
        | none => (match rM T n 99999 (rB T n s.1) with
          | .inl e => some (.inl e)
          | .inr q => rK (rC (rB T n s.1) s) (fun s1 => rO (rU q.2 (rA q.1 s1)))))) = some (.inr s2) := h
      show tyH (fun S => S) (fun S => false :: S) s s2
      split at h
      · split at h
        · exact (rF_no h).elim
        · obtain ⟨s1, h1, h⟩ := rK_ok h
          obtain ⟨k1, rfl⟩ := rC_ok h1
          obtain ⟨s3, h3, h⟩ := rK_ok h
          obtain ⟨-, rfl⟩ := rTon h
          exact tyH_a (tyH_t (tyH_c k1) (tyH_b (i3 _ _ _ h3)))
      · cases hk : rK12 T n (rB T n s.1) with
        | some k =>
          rw [hk] at h
          obtain ⟨s1, h1, h⟩ := rK_ok h
          obtain ⟨k1, rfl⟩ := rC_ok h1
          rw [rO_ok h]
          have := (rK12_s hk).1
          exact tyH_v k1 (by omega)
        | none =>
          rw [hk] at h
          cases hM : rM T n 99999 (rB T n s.1) with
          | inl e => simp only [hM] at h; cases h
          | inr q =>
            simp only [hM] at h
            obtain ⟨s1, h1, h⟩ := rK_ok h
            obtain ⟨k1, rfl⟩ := rC_ok h1
            rw [rO_ok h]
            have := rM_le hM
            exact tyH_v k1 (by omega)
    · have h : rK (rX T n f 0 d s) (rX T n f 2 d) = some (.inr s2) := h
      obtain ⟨s1, h1, h⟩ := rK_ok h
      exact tyH_t (i0 _ _ _ h1) (i2 _ _ _ h)
    · have h : (if rB T n s.1 < n ∧ T (rB T n s.1) = 42 then rK (rX T n f 0 d (rA (rB T n s.1 + 1) s)) (fun s1 => rX T n f 2 d (rU 100102 s1)) else rO (rA (rB T n s.1) s)) = some (.inr s2) := h
      show tyH (fun S => false :: S) (fun S => false :: S) s s2
      split at h
      · obtain ⟨s1, h1, h⟩ := rK_ok h
        exact tyH_t (tyH_S (fun S => false :: S) (tyH_b (i0 _ _ _ h1))) (tyH_t (tyH_u (by decide) (ty_pm (by decide))) (i2 _ _ _ h))
      · rw [rO_ok h]
        exact tyH_a tyH_r
    · have h : rK (rX T n f 1 d s) (rX T n f 4 d) = some (.inr s2) := h
      obtain ⟨s1, h1, h⟩ := rK_ok h
      exact tyH_t (i1 _ _ _ h1) (i4 _ _ _ h)
    · have h : (if rB T n s.1 < n ∧ T (rB T n s.1) = 43 then rK (rX T n f 1 d (rA (rB T n s.1 + 1) s)) (fun s1 => rX T n f 4 d (rU 100100 s1))
      else if rB T n s.1 < n ∧ T (rB T n s.1) = 45 then rK (rX T n f 1 d (rA (rB T n s.1 + 1) s)) (fun s1 => rX T n f 4 d (rU 100101 s1))
      else rO (rA (rB T n s.1) s)) = some (.inr s2) := h
      show tyH (fun S => false :: S) (fun S => false :: S) s s2
      split at h
      · obtain ⟨s1, h1, h⟩ := rK_ok h
        exact tyH_t (tyH_S (fun S => false :: S) (tyH_b (i1 _ _ _ h1))) (tyH_t (tyH_u (by decide) (ty_pm (by decide))) (i4 _ _ _ h))
      · split at h
        · obtain ⟨s1, h1, h⟩ := rK_ok h
          exact tyH_t (tyH_S (fun S => false :: S) (tyH_b (i1 _ _ _ h1))) (tyH_t (tyH_u (by decide) (ty_pm (by decide))) (i4 _ _ _ h))
        · rw [rO_ok h]
          exact tyH_a tyH_r
    · have h : rK (rX T n f 3 d s) (fun s1 => match rCm T n (rB T n s1.1) with
        | none => rF (rB T n s1.1) 0
        | some q => rK (rC (rB T n s1.1) s1) (fun s2 => rK (rX T n f 3 d (rA q.2 s2)) (fun s3 => rO (rU q.1 s3)))) = some (.inr s2) := h
      show tyH (fun S => S) (fun S => true :: S) s s2
      obtain ⟨s1, h1, h⟩ := rK_ok h
      cases hq : rCm T n (rB T n s1.1) with
      | none => simp only [hq] at h; exact (rF_no h).elim
      | some q =>
        simp only [hq] at h
        obtain ⟨s3, h3, h⟩ := rK_ok h
        obtain ⟨k3, rfl⟩ := rC_ok h3
        obtain ⟨s4, h4, h⟩ := rK_ok h
        rw [rO_ok h]
        have := rCm_le hq
        exact tyH_t (i3 _ _ _ h1) (tyH_t (tyH_c k3) (tyH_t (tyH_S (fun S => false :: S) (tyH_b (i3 _ _ _ h4))) (tyH_u (by omega) (ty_cm this))))
    · have h : (if rW T n (rB T n s.1) (rWd 19) = true then (if d = 10 then rF (rB T n s.1) 2 else rK (rX T n f 6 (d + 1) (rA (rB T n s.1 + 3) s)) (fun s1 => rO (rU 100110 s1)))
      else if rB T n s.1 < n ∧ T (rB T n s.1) = 91 then (if d = 10 then rF (rB T n s.1) 2 else rK (rX T n f 9 (d + 1) (rA (rB T n s.1 + 1) s)) (rT T n 93))
      else rX T n f 5 d (rA (rB T n s.1) s)) = some (.inr s2) := h
      show tyH (fun S => S) (fun S => true :: S) s s2
      split at h
      · split at h
        · exact (rF_no h).elim
        · obtain ⟨s1, h1, h⟩ := rK_ok h
          rw [rO_ok h]
          exact tyH_t (tyH_b (i6 _ _ _ h1)) (tyH_u (by decide) ty_no)
      · split at h
        · split at h
          · exact (rF_no h).elim
          · obtain ⟨s1, h1, h⟩ := rK_ok h
            obtain ⟨-, rfl⟩ := rTon h
            exact tyH_a (tyH_b (i9 _ _ _ h1))
        · exact tyH_b (i5 _ _ _ h)
    · have h : rK (rX T n f 6 d s) (rX T n f 8 d) = some (.inr s2) := h
      obtain ⟨s1, h1, h⟩ := rK_ok h
      exact tyH_t (i6 _ _ _ h1) (i8 _ _ _ h)
    · have h : (if rW T n (rB T n s.1) (rWd 18) = true then rK (rX T n f 6 d (rA (rB T n s.1 + 3) s)) (fun s1 => rX T n f 8 d (rU 100109 s1)) else rO (rA (rB T n s.1) s)) = some (.inr s2) := h
      show tyH (fun S => true :: S) (fun S => true :: S) s s2
      split at h
      · obtain ⟨s1, h1, h⟩ := rK_ok h
        exact tyH_t (tyH_S (fun S => true :: S) (tyH_b (i6 _ _ _ h1))) (tyH_t (tyH_u (by decide) (ty_ao (by decide))) (i8 _ _ _ h))
      · rw [rO_ok h]
        exact tyH_a tyH_r
    · have h : rK (rX T n f 7 d s) (rX T n f 10 d) = some (.inr s2) := h
      obtain ⟨s1, h1, h⟩ := rK_ok h
      exact tyH_t (i7 _ _ _ h1) (i10 _ _ _ h)
    · have h : (if rW T n (rB T n s.1) (rWd 17) = true then rK (rX T n f 7 d (rA (rB T n s.1 + 2) s)) (fun s1 => rX T n f 10 d (rU 100108 s1)) else rO (rA (rB T n s.1) s)) = some (.inr s2) := h
      show tyH (fun S => true :: S) (fun S => true :: S) s s2
      split at h
      · obtain ⟨s1, h1, h⟩ := rK_ok h
        exact tyH_t (tyH_S (fun S => true :: S) (tyH_b (i7 _ _ _ h1))) (tyH_t (tyH_u (by decide) (ty_ao (by decide))) (i10 _ _ _ h))
      · rw [rO_ok h]
        exact tyH_a tyH_r
theorem pE_ty {T : Nat → Int32} {n m d : Nat} {s s2 : rS} (hm : m ≤ 10) (h : pE T n m d s (.inr s2)) : tyH (mIn m) (mOu m) s s2 := by
  obtain ⟨N, h⟩ := h
  exact rX_ty N m d s s2 hm (h N (Nat.le_refl _))
/-- a clause and the codes that it stands over -/
noncomputable def rOk (cs : List Nat) (c : rCt) : Prop := ∃ p e1 e2 q, cs = p ++ (e1 ++ (e2 ++ q)) ∧ c.2.1 = p.length ∧ c.2.2.1 = p.length + e1.length ∧ c.2.2.2 = p.length + e1.length + e2.length ∧ (c.1 ≠ 15 → tyL [] e1 = some [false]) ∧ (e2 = [] ∨ tyL [] e2 = some [true])
theorem rOk_m {cs e : List Nat} {c : rCt} (h : rOk cs c) : rOk (cs ++ e) c := by
  obtain ⟨p, e1, e2, q, h1, h2⟩ := h
  exact ⟨p, e1, e2, q ++ e, by rw [h1, List.append_assoc, List.append_assoc, List.append_assoc], h2⟩
noncomputable def rOi (s : rS) : Prop := nVl s.2.2 ≤ s.2.1 ∧ s.2.1 ≤ 80
theorem rOi_h {A B : List Bool → List Bool} {s s2 : rS} (h : tyH A B s s2) (i : rOi s) : rOi s2 := by
  obtain ⟨e, a1, a2, a3, -⟩ := h
  refine ⟨?_, a3 i.2⟩
  rw [a1, nVl_app]
  have := i.1
  omega
noncomputable def rOj (s : rS) (x : rS × rCt) : Prop := (∃ e, x.1.2.2 = s.2.2 ++ e) ∧ rOk x.1.2.2 x.2 ∧ (rOi s → rOi x.1)
theorem rCl3_ok {T : Nat → Int32} {n k th : Nat} {s s2 : rS} {e1 : List Nat} {x : rS × rCt} (hs : s2.2.2 = s.2.2 ++ e1) (hi : rOi s → rOi s2) (h1 : th ≠ 15 → tyL [] e1 = some [false]) (h : rCl3 T n k th s.2.2.length s2 (.inr x)) : rOj s x := by
  rcases h with ⟨-, ⟨e, -, h⟩ | ⟨s3, h, h9⟩⟩ | ⟨-, -, h⟩ | ⟨-, -, h9⟩
  · cases h
  · cases h9
    have ht := pE_ty (by decide) h
    obtain ⟨e2, b1, b2, b3, b4⟩ := ht
    have b1 : s3.2.2 = s2.2.2 ++ e2 := b1
    have b4 : tyL [] e2 = some [true] := b4 []
    refine ⟨⟨e1 ++ e2, by show s3.2.2 = _; rw [b1, hs, List.append_assoc]⟩, ⟨s.2.2, e1, e2, [], ?_, rfl, ?_, ?_, h1, Or.inr b4⟩, fun z => rOi_h (pE_ty (by decide) h) (hi z)⟩
    · show s3.2.2 = _
      rw [b1, hs, List.append_nil, List.append_assoc]
    · show s2.2.2.length = _
      rw [hs, List.length_append]
    · show s3.2.2.length = _
      rw [b1, hs, List.length_append, List.length_append]
  · cases h
  · cases h9
    refine ⟨⟨e1, hs⟩, ⟨s.2.2, e1, [], [], ?_, rfl, ?_, ?_, h1, Or.inl rfl⟩, hi⟩
    · show s2.2.2 = _
      rw [hs, List.append_nil, List.append_nil]
    · show s2.2.2.length = _
      rw [hs, List.length_append]
    · show s2.2.2.length = _
      rw [hs, List.length_append]
      rfl
theorem rCl2_ok {T : Nat → Int32} {n k th : Nat} {s : rS} {x : rS × rCt} (hk : k ≠ 15 → th ≠ 15) (hk2 : k = 15 → th = 15) (h : rCl2 T n k th s (.inr x)) : rOj s x := by
  rcases h with ⟨a, h⟩ | ⟨a, ⟨e, -, h⟩ | ⟨s2, h2, h⟩⟩
  · exact rCl3_ok (e1 := []) (List.append_nil _).symm id (fun z => absurd (hk2 a) z) h
  · cases h
  · have ht := pE_ty (by decide) h2
    have hi : rOi s → rOi s2 := rOi_h ht
    obtain ⟨e1, b1, b2, b3, b4⟩ := ht
    exact rCl3_ok b1 hi (fun _ => b4 []) h
theorem rCl_ok {T : Nat → Int32} {n c : Nat} {s : rS} {x : rS × rCt} (h : rCl T n c s (.inr x)) : rOj s x := by
  rcases h with ⟨-, h⟩ | ⟨k, -, -, -, ⟨-, h⟩ | ⟨-, h⟩⟩
  · cases h
  · cases h
  · rcases h with ⟨a, ⟨e, -, h⟩ | ⟨q, h1, h⟩⟩ | ⟨a, h⟩
    · cases h
    · have := rM_le h1
      have h := rCl2_ok (fun _ => by omega) (fun z => by omega) h
      exact h
    · have y := rCl2_ok (s := rA (rE T n (rB T n s.1)) s) id id h
      exact y
theorem rRu_ok {T : Nat → Int32} {n : Nat} : ∀ (f : Nat) (s : rS) (cl : List rCt) (x : rS × List rCt), rRu T n f s cl (.inr x) → rOi s → (∀ c ∈ cl, rOk s.2.2 c) → rOi x.1 ∧ ∀ c ∈ x.2, rOk x.1.2.2 c
  | 0, _, _, _, h, _, _ => h.elim
  | f + 1, s, cl, x, h, hi, hc => by
    rcases h with ⟨e, -, h⟩ | ⟨s1, c, h1, h⟩
    · cases h
    · obtain ⟨⟨e, a1⟩, a2, a3⟩ := rCl_ok h1
      have a1 : s1.2.2 = s.2.2 ++ e := a1
      have hc2 : ∀ c2 ∈ cl ++ [c], rOk s1.2.2 c2 := by
        intro c2 hm
        rcases List.mem_append.mp hm with z | z
        · rw [a1]; exact rOk_m (hc c2 z)
        · rcases List.mem_singleton.mp z with rfl
          exact a2
      rcases h with ⟨-, h⟩ | ⟨-, h⟩ | ⟨-, h⟩
      · cases h
        exact ⟨a3 hi, hc2⟩
      · exact rRu_ok f (rA _ s1) _ x h (a3 hi) hc2
      · cases h
/-! what codes are worth -/
noncomputable def b64 (p : Prop) [Decidable p] : Int64 := if p then 1 else 0
theorem b64_f (p : Prop) [Decidable p] : b64 p = 0 ∨ b64 p = 1 := by
  unfold b64
  by_cases h : p
  · rw [if_pos h]; exact Or.inr rfl
  · rw [if_neg h]; exact Or.inl rfl
theorem b64_1 {p : Prop} [Decidable p] (h : p) : b64 p = 1 := if_pos h
theorem b64_0 {p : Prop} [Decidable p] (h : ¬ p) : b64 p = 0 := if_neg h
noncomputable def vOf (W : Nat → Int64) (c : Nat) : Int64 := if 100000 ≤ c then W (c - 100000) else (Int32.ofNat c).toInt64
noncomputable def jo (c : Nat) (a b : Int64) : Int64 := if c = 100100 then a + b else if c = 100101 then a - b else if c = 100102 then a * b else if c = 100103 then b64 (a.toInt < b.toInt) else if c = 100104 then b64 (a.toInt ≤ b.toInt) else if c = 100105 then b64 (a = b) else if c = 100106 then b64 (b.toInt ≤ a.toInt) else if c = 100108 then a ||| b else if c = 100109 then a &&& b else b64 (b.toInt < a.toInt)
noncomputable def jp (c : Nat) (a b : Int64) : Int64 := if c = 100108 then b64 (a ≠ 0 ∨ b ≠ 0) else if c = 100109 then b64 (a ≠ 0 ∧ b ≠ 0) else jo c a b
theorem jp_o {c : Nat} {a b : Int64} (h1 : c ≠ 100108) (h2 : c ≠ 100109) : jp c a b = jo c a b := by
  unfold jp
  rw [if_neg h1, if_neg h2]
theorem jp_8 {a b : Int64} : jp 100108 a b = b64 (a ≠ 0 ∨ b ≠ 0) := by
  unfold jp
  rw [if_pos rfl]
theorem jp_9 {a b : Int64} : jp 100109 a b = b64 (a ≠ 0 ∧ b ≠ 0) := by
  unfold jp
  rw [if_neg (by decide), if_pos rfl]
theorem jo_8 {a b : Int64} : jo 100108 a b = a ||| b := by
  unfold jo
  rw [if_neg (by decide), if_neg (by decide), if_neg (by decide), if_neg (by decide), if_neg (by decide), if_neg (by decide), if_neg (by decide), if_pos rfl]
theorem jo_9 {a b : Int64} : jo 100109 a b = a &&& b := by
  unfold jo
  rw [if_neg (by decide), if_neg (by decide), if_neg (by decide), if_neg (by decide), if_neg (by decide), if_neg (by decide), if_neg (by decide), if_neg (by decide), if_pos rfl]
theorem jo_f {c : Nat} {a b : Int64} (h : 100103 ≤ c ∧ c < 100108) : jo c a b = 0 ∨ jo c a b = 1 := by
  unfold jo
  rw [if_neg (by omega), if_neg (by omega), if_neg (by omega)]
  repeat' split
  all_goals first | exact b64_f _ | (exfalso; omega)
noncomputable def ev1 (W : Nat → Int64) (c : Nat) (X : List Int64) : List Int64 :=
  if c < 100100 then vOf W c :: X
  else if c = 100110 then (match X with
    | x :: r => (1 - x) :: r
    | [] => [])
  else (match X with
    | b :: a :: r => jo c a b :: r
    | X => X)
noncomputable def et1 (W : Nat → Int64) (c : Nat) (X : List Int64) : List Int64 :=
  if c < 100100 then vOf W c :: X
  else if c = 100110 then (match X with
    | x :: r => b64 (x = 0) :: r
    | [] => [])
  else (match X with
    | b :: a :: r => jp c a b :: r
    | X => X)
noncomputable def ev (W : Nat → Int64) : List Nat → List Int64 → List Int64
  | [], X => X
  | c :: e, X => ev W e (ev1 W c X)
noncomputable def et (W : Nat → Int64) : List Nat → List Int64 → List Int64
  | [], X => X
  | c :: e, X => et W e (et1 W c X)
noncomputable def okS : List Bool → List Int64 → Prop
  | [], [] => True
  | t :: S, x :: r => (t = true → x = 0 ∨ x = 1) ∧ okS S r
  | _, _ => False
theorem okS_1 {t : Bool} {S : List Bool} {X : List Int64} (k : okS (t :: S) X) : ∃ x r, X = x :: r ∧ (t = true → x = 0 ∨ x = 1) ∧ okS S r := by
  cases X with
  | nil => exact False.elim k
  | cons x r => exact ⟨x, r, rfl, k.1, k.2⟩
theorem okS_2 {t u : Bool} {S : List Bool} {X : List Int64} (k : okS (t :: u :: S) X) : ∃ b a r, X = b :: a :: r ∧ (t = true → b = 0 ∨ b = 1) ∧ (u = true → a = 0 ∨ a = 1) ∧ okS S r := by
  obtain ⟨b, r, rfl, h1, h2⟩ := okS_1 k
  obtain ⟨a, r, rfl, h3, h4⟩ := okS_1 h2
  exact ⟨b, a, r, rfl, h1, h3, h4⟩
theorem ev_v {W : Nat → Int64} {c : Nat} {X : List Int64} (hc : c < 100100) : ev1 W c X = vOf W c :: X := by
  unfold ev1
  rw [if_pos hc]
theorem ev_n {W : Nat → Int64} {x : Int64} {X : List Int64} : ev1 W 100110 (x :: X) = (1 - x) :: X := rfl
theorem ev_j {W : Nat → Int64} {c : Nat} {a b : Int64} {X : List Int64} (h1 : ¬ c < 100100) (h2 : c ≠ 100110) : ev1 W c (b :: a :: X) = jo c a b :: X := by
  unfold ev1
  rw [if_neg h1, if_neg h2]
theorem et_v {W : Nat → Int64} {c : Nat} {X : List Int64} (hc : c < 100100) : et1 W c X = vOf W c :: X := by
  unfold et1
  rw [if_pos hc]
theorem et_n {W : Nat → Int64} {x : Int64} {X : List Int64} : et1 W 100110 (x :: X) = b64 (x = 0) :: X := rfl
theorem et_j {W : Nat → Int64} {c : Nat} {a b : Int64} {X : List Int64} (h1 : ¬ c < 100100) (h2 : c ≠ 100110) : et1 W c (b :: a :: X) = jp c a b :: X := by
  unfold et1
  rw [if_neg h1, if_neg h2]
/-- a step on a stack of its types: what is done, and what it needs -/
theorem ev1_ty {W : Nat → Int64} {c : Nat} {S S1 : List Bool} {X : List Int64} (h : tyS S c = some S1) (k : okS S X) : ev1 W c X = et1 W c X ∧ okS S1 (ev1 W c X) ∧ ((c < 100012 ∧ (ev1 W c X).length = X.length + 1) ∨ (c = 100110 ∧ ∃ x r, X = x :: r) ∨ (100100 ≤ c ∧ c < 100110 ∧ ∃ b a r, X = b :: a :: r)) := by
  unfold tyS at h
  split at h
  · rename_i h1
    cases h
    rw [ev_v (by omega), et_v (by omega)]
    exact ⟨rfl, ⟨(fun z => by cases z), k⟩, Or.inl ⟨h1, rfl⟩⟩
  · split at h
    · rename_i h1 h2
      subst h2
      match S, h, k with
      | true :: S, h, k =>
        cases h
        obtain ⟨x, r, rfl, hx, hr⟩ := okS_1 k
        rw [ev_n, et_n]
        refine ⟨?_, ⟨fun _ => ?_, hr⟩, Or.inr (Or.inl ⟨rfl, x, r, rfl⟩)⟩
        · rcases hx rfl with rfl | rfl
          · rw [b64_1 rfl]; rfl
          · rw [b64_0 (by decide)]; rfl
        · rcases hx rfl with rfl | rfl
          · exact Or.inr rfl
          · exact Or.inl rfl
    · split at h
      · rename_i h1 h2 h3
        match S, h, k with
        | true :: true :: S, h, k =>
          cases h
          obtain ⟨b, a, r, rfl, hb, ha, hr⟩ := okS_2 k
          rw [ev_j (by omega) h2, et_j (by omega) h2]
          have e : jo c a b = jp c a b ∧ (jo c a b = 0 ∨ jo c a b = 1) := by
            rcases h3 with rfl | rfl
            · rw [jo_8, jp_8]
              rcases hb rfl with rfl | rfl <;> rcases ha rfl with rfl | rfl <;> decide
            · rw [jo_9, jp_9]
              rcases hb rfl with rfl | rfl <;> rcases ha rfl with rfl | rfl <;> decide
          exact ⟨by rw [e.1], ⟨fun _ => e.2, hr⟩, Or.inr (Or.inr ⟨by omega, by omega, b, a, r, rfl⟩)⟩
      · split at h
        · rename_i h1 h2 h3 h4
          match S, h, k with
          | false :: false :: S, h, k =>
            cases h
            obtain ⟨b, a, r, rfl, hb, ha, hr⟩ := okS_2 k
            rw [ev_j (by omega) h2, et_j (by omega) h2]
            have e : jo c a b = jp c a b := (jp_o (by omega) (by omega)).symm
            exact ⟨by rw [e], ⟨(fun z => by cases z), hr⟩, Or.inr (Or.inr ⟨by omega, by omega, b, a, r, rfl⟩)⟩
        · split at h
          · rename_i h1 h2 h3 h4 h5
            match S, h, k with
            | false :: false :: S, h, k =>
              cases h
              obtain ⟨b, a, r, rfl, hb, ha, hr⟩ := okS_2 k
              rw [ev_j (by omega) h2, et_j (by omega) h2]
              have e : jo c a b = jp c a b ∧ (jo c a b = 0 ∨ jo c a b = 1) := ⟨(jp_o (by omega) (by omega)).symm, jo_f h5⟩
              exact ⟨by rw [e.1], ⟨fun _ => e.2, hr⟩, Or.inr (Or.inr ⟨by omega, by omega, b, a, r, rfl⟩)⟩
          · cases h
theorem ev_ty {W : Nat → Int64} {e : List Nat} {S S1 : List Bool} {X : List Int64} (h : tyL S e = some S1) (k : okS S X) : ev W e X = et W e X ∧ okS S1 (ev W e X) := by
  induction e generalizing S X with
  | nil =>
    have h : some S = some S1 := h
    cases h
    exact ⟨rfl, k⟩
  | cons c e ih =>
    have h : (match tyS S c with | none => none | some S1 => tyL S1 e) = some S1 := h
    cases hc : tyS S c with
    | none => rw [hc] at h; cases h
    | some S3 =>
      rw [hc] at h
      obtain ⟨a1, a2, -⟩ := ev1_ty hc k
      obtain ⟨b1, b2⟩ := ih h a2
      refine ⟨?_, b2⟩
      show ev W e (ev1 W c X) = et W e (et1 W c X)
      rw [b1, a1]
/-- what a clause's codes are worth -/
noncomputable def wv (W : Nat → Int64) (e : List Nat) : Int64 := (ev W e []).headD 0
theorem ev_one {W : Nat → Int64} {e : List Nat} {t : Bool} (h : tyL [] e = some [t]) : ev W e [] = [wv W e] ∧ et W e [] = [wv W e] := by
  obtain ⟨a, k⟩ := ev_ty (W := W) (X := []) h trivial
  obtain ⟨x, r, e1, -, k2⟩ := okS_1 k
  cases r with
  | cons y r => exact False.elim k2
  | nil =>
    have : wv W e = x := by unfold wv; rw [e1]; rfl
    rw [this, ← a, e1]
    exact ⟨rfl, rfl⟩
/-- a stack in an array -/
noncomputable def stk (g : Nat → Int64) : List Int64 → Prop
  | [] => True
  | x :: r => g r.length = x ∧ stk g r
theorem stk_n {g g2 : Nat → Int64} {X : List Int64} (k : stk g X) (h : ∀ i, i < X.length → g2 i = g i) : stk g2 X := by
  induction X with
  | nil => trivial
  | cons x r ih =>
    refine ⟨?_, ih k.2 (fun i hi => h i (Nat.lt_succ_of_lt hi))⟩
    rw [h r.length (Nat.lt_succ_self _)]
    exact k.1
theorem stk_p {g : Nat → Int64} {X : List Int64} {x : Int64} {m : Nat} (k : stk g X) (hm : m = X.length) : stk (fun j => if j = m then x else g j) (x :: X) := by
  subst hm
  refine ⟨if_pos rfl, stk_n k (fun i hi => if_neg (by omega))⟩
/-- where the codes stand that are still to come -/
noncomputable def cdAt (f : Nat → Nat) (b : Nat) : List Nat → Prop
  | [] => True
  | c :: e => f b = c ∧ cdAt f (b + 1) e
theorem cdAt_of {f : Nat → Nat} {N : Nat} : ∀ {p e q : List Nat}, (List.range N).map f = p ++ (e ++ q) → cdAt f p.length e := by
  intro p e
  induction e generalizing p with
  | nil => intro q _; trivial
  | cons c e ih =>
    intro q h
    refine ⟨?_, ?_⟩
    · have hl : p.length < N := by
        have := congrArg List.length h
        rw [List.length_map, List.length_range, List.length_append, List.length_append, List.length_cons] at this
        omega
      have h2 : ((List.range N).map f)[p.length]? = (p ++ (c :: e ++ q))[p.length]? := congrArg (fun l => l[p.length]?) h
      rw [List.getElem?_append_right (Nat.le_refl _), Nat.sub_self, List.getElem?_map, List.getElem?_range hl] at h2
      exact Option.some.inj h2
    · have := ih (p := p ++ [c]) (q := q) (by rw [h, List.append_assoc]; rfl)
      rw [List.length_append] at this
      exact this
/-- where the class and the reference stand in the codes -/
noncomputable def evA (W : Nat → Int64) (f : Nat → Nat) (g : Nat → Int64) (F : List Int64) (b : Nat) (top : Nat) (e : List Nat) (X : List Int64) (S : List Bool) : Prop := (cdAt f b e) ∧ (stk g X) ∧ (∃ S1, tyL S e = some S1) ∧ (okS S X) ∧ (ev W e X = F) ∧ (top = X.length) ∧ (X.length + nVl e ≤ 80)
theorem evA.at_ {W : Nat → Int64} {f : Nat → Nat} {g : Nat → Int64} {F : List Int64} {b : Nat} {top : Nat} {e : List Nat} {X : List Int64} {S : List Bool} (k : evA W f g F b top e X S) : cdAt f b e := k.1
theorem evA.st {W : Nat → Int64} {f : Nat → Nat} {g : Nat → Int64} {F : List Int64} {b : Nat} {top : Nat} {e : List Nat} {X : List Int64} {S : List Bool} (k : evA W f g F b top e X S) : stk g X := k.2.1
theorem evA.ty {W : Nat → Int64} {f : Nat → Nat} {g : Nat → Int64} {F : List Int64} {b : Nat} {top : Nat} {e : List Nat} {X : List Int64} {S : List Bool} (k : evA W f g F b top e X S) : ∃ S1, tyL S e = some S1 := k.2.2.1
theorem evA.ok {W : Nat → Int64} {f : Nat → Nat} {g : Nat → Int64} {F : List Int64} {b : Nat} {top : Nat} {e : List Nat} {X : List Int64} {S : List Bool} (k : evA W f g F b top e X S) : okS S X := k.2.2.2.1
theorem evA.out {W : Nat → Int64} {f : Nat → Nat} {g : Nat → Int64} {F : List Int64} {b : Nat} {top : Nat} {e : List Nat} {X : List Int64} {S : List Bool} (k : evA W f g F b top e X S) : ev W e X = F := k.2.2.2.2.1
theorem evA.len {W : Nat → Int64} {f : Nat → Nat} {g : Nat → Int64} {F : List Int64} {b : Nat} {top : Nat} {e : List Nat} {X : List Int64} {S : List Bool} (k : evA W f g F b top e X S) : top = X.length := k.2.2.2.2.2.1
theorem evA.few {W : Nat → Int64} {f : Nat → Nat} {g : Nat → Int64} {F : List Int64} {b : Nat} {top : Nat} {e : List Nat} {X : List Int64} {S : List Bool} (k : evA W f g F b top e X S) : X.length + nVl e ≤ 80 := k.2.2.2.2.2.2
theorem tyL_c {S S1 : List Bool} {c : Nat} {e : List Nat} (h : tyL S (c :: e) = some S1) : ∃ S2, tyS S c = some S2 ∧ tyL S2 e = some S1 := by
  have h : (match tyS S c with | none => none | some S1 => tyL S1 e) = some S1 := h
  cases hc : tyS S c with
  | none => rw [hc] at h; cases h
  | some S3 => rw [hc] at h; exact ⟨S3, rfl, h⟩
section EVA
variable {W : Nat → Int64} {f : Nat → Nat} {g : Nat → Int64} {F X : List Int64} {b top c : Nat} {e : List Nat} {S : List Bool}
/-- a value -/
theorem evA_v (k : evA W f g F b top (c :: e) X S) (h : c < 100100) : top < 80 ∧ c < 100012 ∧ ∃ X2 S2, evA W f (fun j => if j = top then vOf W c else g j) F (b + 1) (top + 1) e X2 S2 := by
  obtain ⟨S1, h1⟩ := k.ty
  obtain ⟨S2, h2, h3⟩ := tyL_c h1
  obtain ⟨a1, a2, a3⟩ := ev1_ty (W := W) h2 k.ok
  have hf := k.few
  have hn : nVl (c :: e) = 1 + nVl e := by
    show (if c < 100100 then 1 else 0) + nVl e = _
    rw [if_pos h]
  have ho := k.out
  have ho : ev W e (ev1 W c X) = F := ho
  rw [ev_v h] at a2 ho
  have hl := k.len
  refine ⟨by omega, ?_, vOf W c :: X, S2, ⟨k.at_.2, stk_p k.st k.len, ⟨S1, h3⟩, a2, ho, by rw [hl]; rfl, by show X.length + 1 + nVl e ≤ 80; omega⟩⟩
  rcases a3 with a3 | a3 | a3
  · exact a3.1
  · omega
  · omega
theorem nVl_k (h : ¬ c < 100100) : nVl (c :: e) = nVl e := by
  show (if c < 100100 then 1 else 0) + nVl e = _
  rw [if_neg h, Nat.zero_add]
/-- not -/
theorem evA_n (k : evA W f g F b top (c :: e) X S) (h : c = 100110) : 0 < top ∧ 1 - g (top - 1) = b64 (g (top - 1) = 0) ∧ ∃ X2 S2, evA W f (fun j => if j = top - 1 then 1 - g (top - 1) else g j) F (b + 1) top e X2 S2 := by
  subst h
  obtain ⟨S1, h1⟩ := k.ty
  obtain ⟨S2, h2, h3⟩ := tyL_c h1
  obtain ⟨a1, a2, a3⟩ := ev1_ty (W := W) h2 k.ok
  have hf := k.few
  have ho := k.out
  have ho : ev W e (ev1 W 100110 X) = F := ho
  have hl := k.len
  have hs := k.st
  have hn := nVl_k (e := e) (c := 100110) (by decide)
  rcases a3 with ⟨a3, -⟩ | ⟨-, x, r, rfl⟩ | ⟨-, a3, -⟩
  · omega
  · rw [ev_n] at a2 ho a1
    rw [et_n] at a1
    have hl : top = r.length + 1 := hl
    have e1 : top - 1 = r.length := by omega
    have e2 : g (top - 1) = x := by rw [e1]; exact hs.1
    refine ⟨by omega, ?_, (1 - x) :: r, S2, ⟨k.at_.2, ?_, ⟨S1, h3⟩, a2, ho, hl, by rw [hn] at hf; exact hf⟩⟩
    · rw [e2]
      exact (List.cons.inj a1).1
    · rw [e2]
      exact stk_p hs.2 e1
  · omega
/-- two into one -/
theorem evA_j (k : evA W f g F b top (c :: e) X S) (h1 : ¬ c < 100100) (h2 : c ≠ 100110) : 1 < top ∧ 100100 ≤ c ∧ c < 100110 ∧ jo c (g (top - 2)) (g (top - 1)) = jp c (g (top - 2)) (g (top - 1)) ∧ ∃ X2 S2, evA W f (fun j => if j = top - 2 then jo c (g (top - 2)) (g (top - 1)) else g j) F (b + 1) (top - 1) e X2 S2 := by
  obtain ⟨S1, t1⟩ := k.ty
  obtain ⟨S2, t2, t3⟩ := tyL_c t1
  obtain ⟨a1, a2, a3⟩ := ev1_ty (W := W) t2 k.ok
  have hf := k.few
  have ho := k.out
  have ho : ev W e (ev1 W c X) = F := ho
  have hl := k.len
  have hs := k.st
  have hn := nVl_k (e := e) h1
  rcases a3 with ⟨a3, -⟩ | ⟨a3, -⟩ | ⟨a3, a4, y, x, r, rfl⟩
  · omega
  · omega
  · rw [ev_j h1 h2] at a2 ho a1
    rw [et_j h1 h2] at a1
    have hl : top = r.length + 1 + 1 := hl
    have hf : r.length + 1 + 1 + nVl (c :: e) ≤ 80 := hf
    have e1 : top - 1 = (x :: r).length := by show top - 1 = r.length + 1; omega
    have e3 : top - 2 = r.length := by omega
    have e2 : g (top - 1) = y := by rw [e1]; exact hs.1
    have e4 : g (top - 2) = x := by rw [e3]; exact hs.2.1
    rw [e2, e4]
    refine ⟨by omega, a3, a4, (List.cons.inj a1).1, jo c x y :: r, S2, ⟨k.at_.2, ?_, ⟨S1, t3⟩, a2, ho, by show top - 1 = r.length + 1; omega, by show r.length + 1 + nVl e ≤ 80; omega⟩⟩
    exact stk_p hs.2.2 e3
theorem evA_0 {t : Bool} (h : cdAt f b e) (ht : tyL [] e = some [t]) (hn : nVl e ≤ 80) : evA W f g [wv W e] b 0 e [] [] := ⟨h, trivial, ⟨_, ht⟩, trivial, (ev_one ht).1, rfl, by show 0 + nVl e ≤ 80; omega⟩
theorem evA_e {x : Int64} (k : evA W f g [x] b top [] X S) : top = 1 ∧ g 0 = x := by
  have ho : X = [x] := k.out
  have hs := k.st
  have hl := k.len
  rw [ho] at hs hl
  exact ⟨hl, hs.1⟩
end EVA
/-! arrays by their tags -/
section TAGV
variable {xs : Nat → Int32} {τ : List Nat} {h h2 : zH} {W : Nat → Nat → Bool}
theorem tkd_v {p t k nlo nhi : Nat} {lo hi : Int} {tg : Nat} (hB : zBs xs τ h) (ht : τ[p]? = some t) (hT : zTTy[t]? = some (.inr (k, nlo, nhi, (0, lo, hi, tg)))) : nlo ≤ tN h p ∧ tN h p ≤ nhi ∧ ∀ i, i < tN h p → lo ≤ (tA h p i).toInt ∧ (tA h p i).toInt ≤ hi := by
  obtain ⟨ct, c, a1, a2, a3⟩ := hB.1.2 _ _ ht
  rw [hT] at a1
  cases a1
  obtain ⟨N, x, rfl, h1, h2, f, rfl, h3⟩ := a3
  unfold tN tA
  rw [a2]
  exact ⟨h1, h2, h3⟩
theorem tkd_j {p t k nlo nhi : Nat} {lo hi : Int} {tg : Nat} (hB : zBs xs τ h) (ht : zTG[p]? = some t) (hT : zTTy[t]? = some (.inr (k, nlo, nhi, (1, lo, hi, tg)))) : nlo ≤ tN h p ∧ tN h p ≤ nhi := by
  obtain ⟨ct, c, a1, a2, a3⟩ := hB.1.2 _ _ (hB.2.1 _ _ ht)
  rw [hT] at a1
  cases a1
  obtain ⟨N, x, rfl, h1, h2, -⟩ := a3
  unfold tN
  rw [a2]
  exact ⟨h1, h2⟩
theorem tfr_v {p t : Nat} (hB : zBs xs τ h) (hf : yFr W τ h h2) (ht : τ[p]? = some t) (hW : W t 0 = false) : tA h2 p = tA h p ∧ tN h2 p = tN h p := by
  obtain ⟨ct, c, a1, a2, -⟩ := hB.1.2 _ _ ht
  obtain ⟨c2, b1, b2⟩ := hf _ _ _ ht a2
  unfold tA tN
  constructor
  · funext i
    rw [a2, b1]
    match c, c2, b2 with
    | .inr (x, fs), .inr (y, gs), b2 => rfl
    | .inl (k, N, x), .inl (k2, N2, y), b2 =>
      have := b2.2.2 hW
      subst this
      cases y with
      | inl f => rfl
      | inr y => rfl
  · rw [a2, b1]
    match c, c2, b2 with
    | .inr (x, fs), .inr (y, gs), b2 => rfl
    | .inl (k, N, x), .inl (k2, N2, y), b2 => exact b2.2.1.symm
theorem arr_tag {p q a t k nlo nhi tg : Nat} {lo hi : Int} (hB : zBs xs τ h) (ht : zTG[p]? = some t) (hT : zTTy[t]? = some (.inr (k, nlo, nhi, (2, lo, hi, tg)))) (hq : q < nlo) (hg : tg ≠ 0) (ha : tO h p q = some a) : τ[a]? = some tg := by
  obtain ⟨a1, a2, a3⟩ := tkd_o hB ht hT
  obtain ⟨-, -, y⟩ := a3 q (by omega)
  rw [ha] at y
  rcases y with y | y | y
  · exact absurd y hg
  · exact absurd y (by show ¬ ((a : Int) < 0); omega)
  · exact y
end TAGV
theorem zsbM {x y : Int32} {a b : Nat} (hx : x.toInt = a) (hy : y.toInt = b) (ha : a ≤ 1000000) (hb : b ≤ 1000000) : (x - y).toInt = (a : Int) - b := by
  rw [Int32.toInt_sub, hx, hy]
  exact Int.bmod_eq_of_le (by show (-2147483648 : Int) ≤ (a : Int) - b; omega) (by show (a : Int) - b < (2147483648 : Int); omega)
/-! a long array is written, the rest stays -/
noncomputable def mJs (p i : Nat) (x : Int64) (h h3 : zH) : Prop := tSh h3 ∧ tF h3 = tF h ∧ tA h3 = tA h ∧ tO h3 = tO h ∧ tN h3 = tN h ∧ tJ h3 = fun q j => if q = p ∧ j = i then x else tJ h q j
noncomputable def wFr (p : Nat) (h h2 : zH) : Prop := tSh h2 ∧ tF h2 = tF h ∧ tA h2 = tA h ∧ tO h2 = tO h ∧ tN h2 = tN h ∧ ∀ q, q ≠ p → tJ h2 q = tJ h q
section WFR
variable {h h1 h2 h3 : zH} {p i : Nat} {x : Int64}
theorem wFr_r (hs : tSh h) : wFr p h h := ⟨hs, rfl, rfl, rfl, rfl, fun _ _ => rfl⟩
theorem wFr_t (a : wFr p h h1) (k : wFr p h1 h2) : wFr p h h2 := ⟨k.1, k.2.1.trans a.2.1, k.2.2.1.trans a.2.2.1, k.2.2.2.1.trans a.2.2.2.1, k.2.2.2.2.1.trans a.2.2.2.2.1, fun q hq => (k.2.2.2.2.2 q hq).trans (a.2.2.2.2.2 q hq)⟩
theorem wFr_s (a : wFr p h h1) (k : mJs p i x h1 h3) : wFr p h h3 := wFr_t a ⟨k.1, k.2.1, k.2.2.1, k.2.2.2.1, k.2.2.2.2.1, fun q hq => by rw [k.2.2.2.2.2]; funext j; exact if_neg (fun z => hq z.1)⟩
theorem mJs_g {g : Nat → Int64} (k : mJs p i x h1 h3) (e : tJ h1 p = g) : tJ h3 p = fun j => if j = i then x else g j := by
  rw [k.2.2.2.2.2]
  funext j
  dsimp only
  rw [e]
  by_cases z : j = i
  · rw [if_pos ⟨rfl, z⟩, if_pos z]
  · rw [if_neg (fun y => z y.2), if_neg z]
theorem tG_lst {tt : zT} {G : zG} {cd : zK} {bc bs : Nat} {rt : Option FieldType} {M : zM} {Q : zQ} {Z : zX} {f : Bool} {pc : Nat} {L : zL} {st : List Value} {c n : Nat} {i : Int32} (hf : tInJ h p i) (hs : tSh h) (k : ∀ h3, mJs p i.toNatClampNeg x h h3 → tG tt G cd bc bs rt M Q Z f pc L st h3 c n) : tG tt G cd bc bs rt M Q Z f pc L st (tSJ h p i.toNatClampNeg x) c n := by
  obtain ⟨N, g, e, -⟩ := hf
  exact k _ ⟨tSh_SJ hs, tF_tSJ _ _ _ _, tA_tSJ _ _ _ _, tO_tSJ _ _ _ _, tN_tSJ _ _ _ _, tJ_tSJ ⟨_, _, _, e⟩ _ _⟩
end WFR
/-! a rule in the class's arrays and in the reference's -/
noncomputable def slc (cs : List Nat) (p q : Nat) : List Nat := (cs.drop p).take (q - p)
theorem slc_m {p e q : List Nat} : slc (p ++ (e ++ q)) p.length (p.length + e.length) = e := by
  unfold slc
  rw [List.drop_left, show p.length + e.length - p.length = e.length by omega, List.take_left]
noncomputable def rDt (h : zH) (a b K : Nat) (cs : List Nat) (cl : Nat → rCt) : Prop := ((List.range (tN h a)).map (fun i => (tA h a i).toNatClampNeg) = cs) ∧ (tN h a ≤ 400) ∧ (∀ i, i < tN h a → 0 ≤ (tA h a i).toInt) ∧ (tN h b = 4 * K) ∧ (K ≤ 12) ∧ (∀ i, i < K → (tA h b (4 * i)).toInt = ((cl i).1 : Int) ∧ (tA h b (4 * i + 1)).toInt = ((cl i).2.1 : Int) ∧ (tA h b (4 * i + 2)).toInt = ((cl i).2.2.1 : Int) ∧ (tA h b (4 * i + 3)).toInt = ((cl i).2.2.2 : Int)) ∧ (∀ i, i < K → rOk cs (cl i)) ∧ (nVl cs ≤ 80)
theorem rDt.arr {h : zH} {a b K : Nat} {cs : List Nat} {cl : Nat → rCt} (k : rDt h a b K cs cl) : (List.range (tN h a)).map (fun i => (tA h a i).toNatClampNeg) = cs := k.1
theorem rDt.big {h : zH} {a b K : Nat} {cs : List Nat} {cl : Nat → rCt} (k : rDt h a b K cs cl) : tN h a ≤ 400 := k.2.1
theorem rDt.pos {h : zH} {a b K : Nat} {cs : List Nat} {cl : Nat → rCt} (k : rDt h a b K cs cl) : ∀ i, i < tN h a → 0 ≤ (tA h a i).toInt := k.2.2.1
theorem rDt.len {h : zH} {a b K : Nat} {cs : List Nat} {cl : Nat → rCt} (k : rDt h a b K cs cl) : tN h b = 4 * K := k.2.2.2.1
theorem rDt.few {h : zH} {a b K : Nat} {cs : List Nat} {cl : Nat → rCt} (k : rDt h a b K cs cl) : K ≤ 12 := k.2.2.2.2.1
theorem rDt.row {h : zH} {a b K : Nat} {cs : List Nat} {cl : Nat → rCt} (k : rDt h a b K cs cl) : ∀ i, i < K → (tA h b (4 * i)).toInt = ((cl i).1 : Int) ∧ (tA h b (4 * i + 1)).toInt = ((cl i).2.1 : Int) ∧ (tA h b (4 * i + 2)).toInt = ((cl i).2.2.1 : Int) ∧ (tA h b (4 * i + 3)).toInt = ((cl i).2.2.2 : Int) := k.2.2.2.2.2.1
theorem rDt.ok {h : zH} {a b K : Nat} {cs : List Nat} {cl : Nat → rCt} (k : rDt h a b K cs cl) : ∀ i, i < K → rOk cs (cl i) := k.2.2.2.2.2.2.1
theorem rDt.nv {h : zH} {a b K : Nat} {cs : List Nat} {cl : Nat → rCt} (k : rDt h a b K cs cl) : nVl cs ≤ 80 := k.2.2.2.2.2.2.2
theorem rDt.frame {h h2 : zH} {a b K p : Nat} {cs : List Nat} {cl : Nat → rCt} (D : rDt h a b K cs cl) (k : wFr p h h2) : rDt h2 a b K cs cl := by
  obtain ⟨h1, h2, h3, h4, h5, h6, h7, h8⟩ := D
  have eN := k.2.2.2.2.1
  have eA := k.2.2.1
  exact ⟨by rw [eN, eA]; exact h1, by rw [eN]; exact h2, by rw [eN, eA]; exact h3, by rw [eN]; exact h4, h5, by rw [eA]; exact h6, h7, h8⟩
/-- a clause tells its thing -/
noncomputable def hit (W : Nat → Int64) (cs : List Nat) (c : rCt) (th : Nat) : Prop := c.1 = th ∧ (c.2.2.1 = c.2.2.2 ∨ wv W (slc cs c.2.2.1 c.2.2.2) ≠ 0)
noncomputable def fTr (W : Nat → Int64) (cs : List Nat) (cl : Nat → rCt) (K th : Nat) (ix : Nat → Nat) (w : Option Value) : Prop := (w = some (.int (-1)) ∧ ∀ i, i < K → ¬ hit W cs (cl i) th) ∨ ∃ i, i < K ∧ hit W cs (cl i) th ∧ (∀ j, j < i → ¬ hit W cs (cl j) th) ∧ ∃ x : Int32, w = some (.int x) ∧ x.toInt = (ix i : Int)
theorem nVl_m {p e q : List Nat} : nVl e ≤ nVl (p ++ (e ++ q)) := by
  rw [nVl_app, nVl_app]
  omega
/-- the test of a clause, the sum of a clause -/
theorem rOk_t {cs : List Nat} {c : rCt} (h : rOk cs c) (hn : nVl cs ≤ 80) (hne : c.2.2.1 ≠ c.2.2.2) : c.2.2.2 = c.2.2.1 + (slc cs c.2.2.1 c.2.2.2).length ∧ c.2.2.2 ≤ cs.length ∧ tyL [] (slc cs c.2.2.1 c.2.2.2) = some [true] ∧ nVl (slc cs c.2.2.1 c.2.2.2) ≤ 80 ∧ ∃ p q, p.length = c.2.2.1 ∧ cs = p ++ (slc cs c.2.2.1 c.2.2.2 ++ q) := by
  obtain ⟨p, e1, e2, q, h1, h2, h3, h4, -, h6⟩ := h
  have e : cs = (p ++ e1) ++ (e2 ++ q) := by rw [h1, List.append_assoc]
  have es : slc cs c.2.2.1 c.2.2.2 = e2 := by
    rw [e, h3, h4, ← List.length_append]
    exact slc_m
  rw [es]
  have hl := congrArg List.length e
  rw [List.length_append, List.length_append, List.length_append] at hl
  refine ⟨by omega, by omega, ?_, ?_, p ++ e1, q, by rw [List.length_append, h3], e⟩
  · rcases h6 with h6 | h6
    · rw [h6] at h4
      exact absurd (h3.trans h4.symm) hne
    · exact h6
  · have := nVl_m (p := p ++ e1) (e := e2) (q := q)
    rw [← e] at this
    omega
theorem rOk_s {cs : List Nat} {c : rCt} (h : rOk cs c) (hn : nVl cs ≤ 80) (hne : c.1 ≠ 15) : c.2.2.1 = c.2.1 + (slc cs c.2.1 c.2.2.1).length ∧ c.2.2.1 ≤ cs.length ∧ tyL [] (slc cs c.2.1 c.2.2.1) = some [false] ∧ nVl (slc cs c.2.1 c.2.2.1) ≤ 80 ∧ ∃ p q, p.length = c.2.1 ∧ cs = p ++ (slc cs c.2.1 c.2.2.1 ++ q) := by
  obtain ⟨p, e1, e2, q, h1, h2, h3, h4, h5, -⟩ := h
  have es : slc cs c.2.1 c.2.2.1 = e1 := by
    rw [h1, h2, h3]
    exact slc_m
  rw [es]
  have hl := congrArg List.length h1
  rw [List.length_append, List.length_append, List.length_append] at hl
  refine ⟨by omega, by omega, h5 hne, ?_, p, e2 ++ q, h2.symm, h1⟩
  have := nVl_m (p := p) (e := e1) (q := e2 ++ q)
  rw [← h1] at this
  omega
theorem cdAt_c {cs p e q : List Nat} {f : Nat → Nat} {N b : Nat} (ha : (List.range N).map f = cs) (hc : cs = p ++ (e ++ q)) (hb : p.length = b) : cdAt f b e := by
  rw [← hb]
  exact cdAt_of (ha.trans hc)
theorem cs_len {cs : List Nat} {f : Nat → Nat} {N : Nat} (ha : (List.range N).map f = cs) : cs.length = N := by rw [← ha, List.length_map, List.length_range]
/-- a rule's codes and clauses in the reference's arrays -/
noncomputable def rDm (h : zH) (q K : Nat) (cs : List Nat) (cl : Nat → rCt) : Prop := (∀ i, i < cs.length → mCode (tA h 133 (500 * q + i)).toNatClampNeg (tA h 134 (500 * q + i)).toNatClampNeg = (cs[i]?).getD 0) ∧ (cs.length ≤ 400) ∧ ((tA h 140 q).toInt = (K : Int)) ∧ (K ≤ 12) ∧ (∀ i, i < K → mRow h (12 * q + i) = cl i) ∧ (∀ i, i < K → rOk cs (cl i)) ∧ (nVl cs ≤ 80)
theorem rDm.cod {h : zH} {q K : Nat} {cs : List Nat} {cl : Nat → rCt} (k : rDm h q K cs cl) : ∀ i, i < cs.length → mCode (tA h 133 (500 * q + i)).toNatClampNeg (tA h 134 (500 * q + i)).toNatClampNeg = (cs[i]?).getD 0 := k.1
theorem rDm.big {h : zH} {q K : Nat} {cs : List Nat} {cl : Nat → rCt} (k : rDm h q K cs cl) : cs.length ≤ 400 := k.2.1
theorem rDm.cnt {h : zH} {q K : Nat} {cs : List Nat} {cl : Nat → rCt} (k : rDm h q K cs cl) : (tA h 140 q).toInt = (K : Int) := k.2.2.1
theorem rDm.few {h : zH} {q K : Nat} {cs : List Nat} {cl : Nat → rCt} (k : rDm h q K cs cl) : K ≤ 12 := k.2.2.2.1
theorem rDm.row {h : zH} {q K : Nat} {cs : List Nat} {cl : Nat → rCt} (k : rDm h q K cs cl) : ∀ i, i < K → mRow h (12 * q + i) = cl i := k.2.2.2.2.1
theorem rDm.ok {h : zH} {q K : Nat} {cs : List Nat} {cl : Nat → rCt} (k : rDm h q K cs cl) : ∀ i, i < K → rOk cs (cl i) := k.2.2.2.2.2.1
theorem rDm.nv {h : zH} {q K : Nat} {cs : List Nat} {cl : Nat → rCt} (k : rDm h q K cs cl) : nVl cs ≤ 80 := k.2.2.2.2.2.2
theorem rDm.frame {h h2 : zH} {q K p : Nat} {cs : List Nat} {cl : Nat → rCt} (D : rDm h q K cs cl) (k : wFr p h h2) : rDm h2 q K cs cl := by
  obtain ⟨h1, h2, h3, h4, h5, h6, h7⟩ := D
  have eA := k.2.2.1
  exact ⟨by rw [eA]; exact h1, h2, by rw [eA]; exact h3, h4, fun i hi => by rw [← h5 i hi]; unfold mRow; rw [eA], h6, h7⟩
theorem cdAt_g {cs e : List Nat} {f : Nat → Nat} : ∀ {p q : List Nat}, cs = p ++ (e ++ q) → (∀ i, i < cs.length → f i = (cs[i]?).getD 0) → cdAt f p.length e := by
  induction e with
  | nil => intro p q _ _; trivial
  | cons c e ih =>
    intro p q h hf
    refine ⟨?_, ?_⟩
    · have hl : p.length < cs.length := by
        rw [h, List.length_append, List.length_append, List.length_cons]
        omega
      rw [hf _ hl, h, List.getElem?_append_right (Nat.le_refl _), Nat.sub_self]
      rfl
    · have := ih (p := p ++ [c]) (q := q) (by rw [h, List.append_assoc]; rfl) hf
      rw [List.length_append] at this
      exact this
theorem cdAt_h {cs p e q : List Nat} {f : Nat → Nat} {b : Nat} (hb : p.length = b) (h : cs = p ++ (e ++ q)) (hf : ∀ i, i < cs.length → f i = (cs[i]?).getD 0) : cdAt f b e := by
  rw [← hb]
  exact cdAt_g h hf
/-- which thing a row tells -/
noncomputable def thc (a b : Nat) : Nat := if a = 0 ∧ b < 12 then b else 12 + a + 100 * b
theorem thc_i {a b c d : Nat} (ha : a ≤ 3) (hc : c ≤ 3) : thc a b = thc c d ↔ a = c ∧ b = d := by
  unfold thc
  split <;> split <;> omega
theorem mRow_1 {h : zH} {i : Nat} : (mRow h i).1 = thc (tA h 135 i).toNatClampNeg (tA h 136 i).toNatClampNeg := rfl
/-- a code that is a value, not, or a sign -/
theorem mC_v {s v : Nat} {c : Nat} (e : mCode s v = c) (h : c < 100012) (hv : v ≤ 99999) : (s = 0 ∧ c = v) ∨ (s = 1 ∧ c = 100000 + v ∧ v < 12) := by
  unfold mCode at e
  split at e
  · exact Or.inl ⟨by omega, e.symm⟩
  · split at e
    · split at e
      · exact Or.inr ⟨by omega, e.symm, by omega⟩
      · omega
    · exfalso
      repeat' (split at e)
      all_goals omega
theorem mC_n {s v : Nat} {c : Nat} (e : mCode s v = c) (h : c = 100110) (hv : v ≤ 99999) (hs : s ≤ 14) : s = 10 := by
  unfold mCode at e
  repeat' (split at e)
  all_goals omega
theorem mC_t {s v : Nat} (h : 2 ≤ s) : mCode s v = mCode s 0 := by
  unfold mCode
  rw [if_neg (show ¬ s = 0 by omega), if_neg (show ¬ s = 1 by omega), if_neg (show ¬ s = 0 by omega), if_neg (show ¬ s = 1 by omega)]
theorem mC_j {s v : Nat} {c : Nat} (e : mCode s v = c) (h1 : 100100 ≤ c) (h2 : c < 100110) (hv : v ≤ 99999) : 2 ≤ s ∧ s ≤ 12 ∧ s ≠ 10 ∧ c = mCode s 0 := by
  have h : 2 ≤ s ∧ s ≤ 12 ∧ s ≠ 10 := by
    unfold mCode at e
    repeat' (split at e)
    all_goals omega
  exact ⟨h.1, h.2.1, h.2.2, e.symm.trans (mC_t h.1)⟩
theorem zmul5 {y : Int32} {q : Nat} (hy : y.toInt = q) (hq : q < 10) : (500 * y).toInt = ((500 * q : Nat) : Int) := by
  rw [Int32.toInt_mul, hy, show (500 : Int32).toInt = 500 from rfl]
  exact Int.bmod_eq_of_le (by show (-2147483648 : Int) ≤ 500 * (q : Int); omega) (by show 500 * (q : Int) < (2147483648 : Int); omega)
theorem zmul12 {y : Int32} {q : Nat} (hy : y.toInt = q) (hq : q < 10) : (12 * y).toInt = ((12 * q : Nat) : Int) := by
  rw [Int32.toInt_mul, hy, show (12 : Int32).toInt = 12 from rfl]
  exact Int.bmod_eq_of_le (by show (-2147483648 : Int) ≤ 12 * (q : Int); omega) (by show 12 * (q : Int) < (2147483648 : Int); omega)
theorem vOf_n {W : Nat → Int64} {y : Int32} {c : Nat} (h : c < 100000) (hy : y.toInt = c) : vOf W c = y.toInt64 := by
  unfold vOf
  rw [if_neg (by omega)]
  have e : Int32.ofNat c = y := Int32.toInt_inj.mp ((yofN (by omega)).trans hy.symm)
  rw [e]
theorem vOf_w {W : Nat → Int64} {c : Nat} (h : 100000 ≤ c) : vOf W c = W (c - 100000) := if_pos h
theorem f_valueOf {G : zG} (hG : G.1 = zProg) {h : zH} {y : Int32} {c : Nat} (hs : tSh h) (h52 : tN h 52 = 12) (hy : y.toInt = c) (hc : c < 100012) : tC zTt G 69 [.ref 48, .int y] h (fun w h2 => w = some (.long (vOf (tJ h 52) c)) ∧ h2 = h) := by
  refine tC_in (by rw [hG]; rfl) (fun dp => ?_)
  have hd : (y - 100000).toInt = (c : Int) - 100000 := zsbM hy rfl (by omega) (by decide)
  have h12 : (Int32.ofNat (tN h 52)).toInt = 12 := by rw [h52]; rfl
  refine tw_iload rfl rfl ?_
  refine tw_push rfl ?_
  refine tw_isub rfl ?_
  refine tw_istore rfl ?_
  refine tw_iload rfl rfl ?_
  refine tw_if_lt rfl (fun q1130 => ?_) (fun q1130 => ?_)
  · try dsimp only [tvI_i, tvJ_j, tvR_r] at q1130
    refine tw_iload rfl rfl ?_
    refine tw_i2l rfl ?_
    exact tw_lret rfl ⟨by rw [vOf_n (by omega) hy]; rfl, rfl⟩
  · try dsimp only [tvI_i, tvJ_j, tvR_r] at q1130
    refine tw_iload rfl rfl ?_
    refine tw_aload rfl rfl ?_
    refine tw_getS rfl (hs_48_4 hs) ?_
    refine tw_alen rfl ?_
    refine tw_ic_ge rfl (fun q1131 => ?_) (fun q1131 => ?_)
    · try dsimp only [tvI_i, tvJ_j, tvR_r] at q1131
      exfalso
      omega
    · try dsimp only [tvI_i, tvJ_j, tvR_r] at q1131
      refine tw_aload rfl rfl ?_
      refine tw_getS rfl (hs_48_4 hs) ?_
      refine tw_iload rfl rfl ?_
      refine tw_lald rfl (fun f1132 => ?_)
      refine tw_goto rfl ?_
      have e9 : (y - 100000).toNatClampNeg = c - 100000 := zof_cl (by omega)
      exact tw_lret rfl ⟨congrArg (fun z => some (Value.long z)) (show tJ h 52 (y - 100000).toNatClampNeg = _ from by rw [e9, vOf_w (by omega)]), rfl⟩
theorem f_join {G : zG} (hG : G.1 = zProg) {h : zH} {y : Int32} {c : Nat} {a b : Int64} (hy : y.toInt = c) (h1 : 100100 ≤ c) (h2 : c < 100110) : tC zTt G 70 [.int y, .long a, .long b] h (fun w h2 => w = some (.long (jo c a b)) ∧ h2 = h) := by
  refine tC_in (by rw [hG]; rfl) (fun dp => ?_)
  refine tw_iload rfl rfl ?_
  refine tw_table rfl (fun q1133 => ?_) (fun t9 q1133a q1133b q1133c => ?_)
  · try dsimp only [tvI_i, tvJ_j, tvR_r] at q1133
    exfalso
    omega
  · have q1133d : (tvI (.int y)).toInt = 100100 ∨ (tvI (.int y)).toInt = 100101 ∨ (tvI (.int y)).toInt = 100102 ∨ (tvI (.int y)).toInt = 100103 ∨ (tvI (.int y)).toInt = 100104 ∨ (tvI (.int y)).toInt = 100105 ∨ (tvI (.int y)).toInt = 100106 ∨ (tvI (.int y)).toInt = 100107 ∨ (tvI (.int y)).toInt = 100108 ∨ (tvI (.int y)).toInt = 100109 := by omega
    rcases q1133d with q1133 | q1133 | q1133 | q1133 | q1133 | q1133 | q1133 | q1133 | q1133 | q1133
    · obtain rfl : t9 = 56 := by rw [q1133] at q1133c; exact Option.some.inj (q1133c.symm.trans rfl)
      try dsimp only [tvI_i, tvJ_j, tvR_r] at q1133
      refine tw_lload rfl rfl ?_
      refine tw_lload rfl rfl ?_
      refine tw_ladd rfl ?_
      obtain rfl : c = 100100 := by omega
      exact tw_lret rfl ⟨rfl, rfl⟩
    · obtain rfl : t9 = 60 := by rw [q1133] at q1133c; exact Option.some.inj (q1133c.symm.trans rfl)
      try dsimp only [tvI_i, tvJ_j, tvR_r] at q1133
      refine tw_lload rfl rfl ?_
      refine tw_lload rfl rfl ?_
      refine tw_lsub rfl ?_
      obtain rfl : c = 100101 := by omega
      exact tw_lret rfl ⟨rfl, rfl⟩
    · obtain rfl : t9 = 64 := by rw [q1133] at q1133c; exact Option.some.inj (q1133c.symm.trans rfl)
      try dsimp only [tvI_i, tvJ_j, tvR_r] at q1133
      refine tw_lload rfl rfl ?_
      refine tw_lload rfl rfl ?_
      refine tw_lmul rfl ?_
      obtain rfl : c = 100102 := by omega
      exact tw_lret rfl ⟨rfl, rfl⟩
    · obtain rfl : t9 = 76 := by rw [q1133] at q1133c; exact Option.some.inj (q1133c.symm.trans rfl)
      try dsimp only [tvI_i, tvJ_j, tvR_r] at q1133
      refine tw_lload rfl rfl ?_
      refine tw_lload rfl rfl ?_
      refine tw_lc_ge rfl rfl (fun q1134 => ?_) (fun q1134 => ?_)
      · try dsimp only [tvI_i, tvJ_j, tvR_r] at q1134
        refine tw_push rfl ?_
        obtain rfl : c = 100103 := by omega
        exact tw_lret rfl ⟨congrArg (fun z => some (Value.long z)) (b64_0 (p := a.toInt < b.toInt) (by omega)).symm, rfl⟩
      · try dsimp only [tvI_i, tvJ_j, tvR_r] at q1134
        refine tw_push rfl ?_
        refine tw_goto rfl ?_
        obtain rfl : c = 100103 := by omega
        exact tw_lret rfl ⟨congrArg (fun z => some (Value.long z)) (b64_1 (p := a.toInt < b.toInt) (by omega)).symm, rfl⟩
    · obtain rfl : t9 = 88 := by rw [q1133] at q1133c; exact Option.some.inj (q1133c.symm.trans rfl)
      try dsimp only [tvI_i, tvJ_j, tvR_r] at q1133
      refine tw_lload rfl rfl ?_
      refine tw_lload rfl rfl ?_
      refine tw_lc_gt rfl rfl (fun q1135 => ?_) (fun q1135 => ?_)
      · try dsimp only [tvI_i, tvJ_j, tvR_r] at q1135
        refine tw_push rfl ?_
        obtain rfl : c = 100104 := by omega
        exact tw_lret rfl ⟨congrArg (fun z => some (Value.long z)) (b64_0 (p := a.toInt ≤ b.toInt) (by omega)).symm, rfl⟩
      · try dsimp only [tvI_i, tvJ_j, tvR_r] at q1135
        refine tw_push rfl ?_
        refine tw_goto rfl ?_
        obtain rfl : c = 100104 := by omega
        exact tw_lret rfl ⟨congrArg (fun z => some (Value.long z)) (b64_1 (p := a.toInt ≤ b.toInt) (by omega)).symm, rfl⟩
    · obtain rfl : t9 = 100 := by rw [q1133] at q1133c; exact Option.some.inj (q1133c.symm.trans rfl)
      try dsimp only [tvI_i, tvJ_j, tvR_r] at q1133
      refine tw_lload rfl rfl ?_
      refine tw_lload rfl rfl ?_
      refine tw_lc_ne rfl rfl (fun q1136 => ?_) (fun q1136 => ?_)
      · try dsimp only [tvI_i, tvJ_j, tvR_r] at q1136
        refine tw_push rfl ?_
        obtain rfl : c = 100105 := by omega
        exact tw_lret rfl ⟨congrArg (fun z => some (Value.long z)) (b64_0 (p := a = b) q1136).symm, rfl⟩
      · try dsimp only [tvI_i, tvJ_j, tvR_r] at q1136
        refine tw_push rfl ?_
        refine tw_goto rfl ?_
        obtain rfl : c = 100105 := by omega
        exact tw_lret rfl ⟨congrArg (fun z => some (Value.long z)) (b64_1 (p := a = b) q1136).symm, rfl⟩
    · obtain rfl : t9 = 112 := by rw [q1133] at q1133c; exact Option.some.inj (q1133c.symm.trans rfl)
      try dsimp only [tvI_i, tvJ_j, tvR_r] at q1133
      refine tw_lload rfl rfl ?_
      refine tw_lload rfl rfl ?_
      refine tw_lc_lt rfl rfl (fun q1137 => ?_) (fun q1137 => ?_)
      · try dsimp only [tvI_i, tvJ_j, tvR_r] at q1137
        refine tw_push rfl ?_
        obtain rfl : c = 100106 := by omega
        exact tw_lret rfl ⟨congrArg (fun z => some (Value.long z)) (b64_0 (p := b.toInt ≤ a.toInt) (by omega)).symm, rfl⟩
      · try dsimp only [tvI_i, tvJ_j, tvR_r] at q1137
        refine tw_push rfl ?_
        refine tw_goto rfl ?_
        obtain rfl : c = 100106 := by omega
        exact tw_lret rfl ⟨congrArg (fun z => some (Value.long z)) (b64_1 (p := b.toInt ≤ a.toInt) (by omega)).symm, rfl⟩
    · obtain rfl : t9 = 124 := by rw [q1133] at q1133c; exact Option.some.inj (q1133c.symm.trans rfl)
      try dsimp only [tvI_i, tvJ_j, tvR_r] at q1133
      refine tw_lload rfl rfl ?_
      refine tw_lload rfl rfl ?_
      refine tw_lc_le rfl rfl (fun q1138 => ?_) (fun q1138 => ?_)
      · try dsimp only [tvI_i, tvJ_j, tvR_r] at q1138
        refine tw_push rfl ?_
        obtain rfl : c = 100107 := by omega
        exact tw_lret rfl ⟨congrArg (fun z => some (Value.long z)) (b64_0 (p := b.toInt < a.toInt) (by omega)).symm, rfl⟩
      · try dsimp only [tvI_i, tvJ_j, tvR_r] at q1138
        refine tw_push rfl ?_
        refine tw_goto rfl ?_
        obtain rfl : c = 100107 := by omega
        exact tw_lret rfl ⟨congrArg (fun z => some (Value.long z)) (b64_1 (p := b.toInt < a.toInt) (by omega)).symm, rfl⟩
    · obtain rfl : t9 = 68 := by rw [q1133] at q1133c; exact Option.some.inj (q1133c.symm.trans rfl)
      try dsimp only [tvI_i, tvJ_j, tvR_r] at q1133
      refine tw_lload rfl rfl ?_
      refine tw_lload rfl rfl ?_
      refine tw_lor rfl ?_
      obtain rfl : c = 100108 := by omega
      exact tw_lret rfl ⟨rfl, rfl⟩
    · obtain rfl : t9 = 72 := by rw [q1133] at q1133c; exact Option.some.inj (q1133c.symm.trans rfl)
      try dsimp only [tvI_i, tvJ_j, tvR_r] at q1133
      refine tw_lload rfl rfl ?_
      refine tw_lload rfl rfl ?_
      refine tw_land rfl ?_
      obtain rfl : c = 100109 := by omega
      exact tw_lret rfl ⟨rfl, rfl⟩
theorem zdecM {x : Int32} {a : Nat} (hx : x.toInt = a) (h : 1 ≤ a) (ha : a ≤ 1000000) : (x + (-1)).toInt = (a : Int) - 1 := by
  rw [Int32.toInt_add, hx, show (-1 : Int32).toInt = -1 from rfl]
  exact Int.bmod_eq_of_le (by show (-2147483648 : Int) ≤ (a : Int) + -1; omega) (by show (a : Int) + -1 < (2147483648 : Int); omega)
theorem f_work {G : zG} (hG : G.1 = zProg) {h : zH} {a b : Nat} {x y : Int32} {e : List Nat} {t : Bool} (hs : tSh h) (h52 : tN h 52 = 12) (h53 : tN h 53 = 80) (hx : x.toInt = b) (hy : y.toInt = ((b + e.length : Nat) : Int)) (hN : b + e.length ≤ tN h a ∧ tN h a ≤ 400) (hv : ∀ i, i < tN h a → 0 ≤ (tA h a i).toInt) (hc : cdAt (fun i => (tA h a i).toNatClampNeg) b e) (ht : tyL [] e = some [t]) (hn : nVl e ≤ 80) : tC zTt G 68 [.ref 48, .ref a, .int x, .int y] h (fun w h2 => w = some (.long (wv (tJ h 52) e)) ∧ wFr 53 h h2) := by
  refine tC_in (by rw [hG]; rfl) (fun dp => ?_)
  refine tw_push rfl ?_
  refine tw_istore rfl ?_
  refine tw_iload rfl rfl ?_
  refine tw_istore rfl ?_
  refine tG_loop (zW_mono zTt G dp) (zW_conj zTt G dp) (V := fun pc L st h9 _ _ => pc = 6 ∧ st = [] ∧ ∃ (h1 : zH) (k top : Nat) (z u : Int32) (e2 : List Nat) (X : List Int64) (S : List Bool) (l6 : Option Value), h1 = h9 ∧ wFr 53 h h1 ∧ z.toInt = k ∧ u.toInt = top ∧ k + e2.length = b + e.length ∧ evA (tJ h 52) (fun i => (tA h a i).toNatClampNeg) (tJ h1 53) [wv (tJ h 52) e] k top e2 X S ∧ L = [some (.ref 48), some (.ref a), some (.int x), some (.int y), some (.int u), some (.int z), l6]) ?_ (⟨rfl, rfl, h, b, 0, x, 0, e, [], [], _, rfl, wFr_r hs, hx, rfl, rfl, evA_0 hc ht hn, rfl⟩)
  rintro _ _ _ _ _ _ ⟨rfl, rfl, h1, k, top, z, u, e2, X, S, l6, rfl, hF, hz, hu, hke, hE, rfl⟩
  have k19 : (1 : Int32).toInt = 1 := rfl
  have k29 : (100100 : Int32).toInt = 100100 := rfl
  have h80 : (Int32.ofNat (tN h1 53)).toInt = 80 := by rw [hF.2.2.2.2.1, h53]; rfl
  have hla : (Int32.ofNat (tN h1 a)).toInt = tN h a := by rw [hF.2.2.2.2.1]; exact yofN (by omega)
  refine tw_iload rfl rfl ?_
  refine tw_iload rfl rfl ?_
  refine tw_ic_ge rfl (fun q1139 => ?_) (fun q1139 => ?_)
  · try dsimp only [tvI_i, tvJ_j, tvR_r] at q1139
    refine tw_iload rfl rfl ?_
    refine tw_if_le rfl (fun q1140 => ?_) (fun q1140 => ?_)
    · try dsimp only [tvI_i, tvJ_j, tvR_r] at q1140
      exfalso
      have e2n : e2 = [] := List.length_eq_zero_iff.mp (by omega)
      subst e2n
      have y1 := evA_e hE
      omega
    · try dsimp only [tvI_i, tvJ_j, tvR_r] at q1140
      refine tw_aload rfl rfl ?_
      refine tw_getS rfl (hs_48_5 hF.1) ?_
      refine tw_push rfl ?_
      refine tw_lald rfl (fun f1141 => ?_)
      refine tw_goto rfl ?_
      have e2n : e2 = [] := List.length_eq_zero_iff.mp (by omega)
      subst e2n
      have y1 := evA_e hE
      exact tw_lret rfl ⟨congrArg (fun z => some (Value.long z)) (show tJ h1 53 0 = _ from y1.2), hF⟩
  · try dsimp only [tvI_i, tvJ_j, tvR_r] at q1139
    refine tw_iload rfl rfl ?_
    refine tw_aload rfl rfl ?_
    refine tw_alen rfl ?_
    refine tw_ic_ge rfl (fun q1142 => ?_) (fun q1142 => ?_)
    · try dsimp only [tvI_i, tvJ_j, tvR_r] at q1142
      exfalso
      omega
    · try dsimp only [tvI_i, tvJ_j, tvR_r] at q1142
      rcases e2 with _ | ⟨c, e3⟩
      · exfalso; have hke : k + 0 = b + e.length := hke; omega
      have hke : k + (e3.length + 1) = b + e.length := hke
      have hcl : (tA h a k).toNatClampNeg = c := hE.at_.1
      have hcv : (tA h1 a z.toNatClampNeg).toInt = (c : Int) := by rw [hF.2.2.1, zof_cl hz]; have y1 := hv k (by omega); rw [zclE] at hcl; omega
      have hc0 : (tA h1 a z.toNatClampNeg).toInt = (c : Int) := hcv
      have h79 : top ≤ 80 := by have y1 := hE.few; have y2 := hE.len; omega
      refine tw_aload rfl rfl ?_
      refine tw_iload rfl rfl ?_
      refine tw_iald rfl (fun f1143 => ?_)
      refine tw_istore rfl ?_
      refine tw_iload rfl rfl ?_
      refine tw_push rfl ?_
      refine tw_ic_ge rfl (fun q1144 => ?_) (fun q1144 => ?_)
      · try dsimp only [tvI_i, tvJ_j, tvR_r] at q1144
        refine tw_iload rfl rfl ?_
        refine tw_push rfl ?_
        refine tw_ic_ne rfl (fun q1145 => ?_) (fun q1145 => ?_)
        · try dsimp only [tvI_i, tvJ_j, tvR_r] at q1145
          have q1145i := zneq (Y := 100110) (by decide) q1145
          refine tw_iload rfl rfl ?_
          refine tw_push rfl ?_
          refine tw_ic_le rfl (fun q1146 => ?_) (fun q1146 => ?_)
          · try dsimp only [tvI_i, tvJ_j, tvR_r] at q1146
            exfalso
            have y1 := (evA_j hE (by omega) (by omega)).1
            omega
          · try dsimp only [tvI_i, tvJ_j, tvR_r] at q1146
            obtain ⟨y0, y1, y2, -, X2, S2, E2⟩ := evA_j hE (by omega) (by omega)
            have hd1 : (u + (-1)).toInt = ((top - 1 : Nat) : Int) := (zdecM hu (by omega) (by omega)).trans (by omega)
            have hd2 : (u + (-1) - 1).toNatClampNeg = top - 2 := zof_cl ((zsbM (b := 1) hd1 rfl (by omega) (by decide)).trans (by omega))
            have hd3 : (u + (-1)).toNatClampNeg = top - 1 := zof_cl hd1
            refine tw_iinc rfl rfl ?_
            refine tw_aload rfl rfl ?_
            refine tw_getS rfl (hs_48_5 hF.1) ?_
            refine tw_iload rfl rfl ?_
            refine tw_push rfl ?_
            refine tw_isub rfl ?_
            refine tw_iload rfl rfl ?_
            refine tw_aload rfl rfl ?_
            refine tw_getS rfl (hs_48_5 hF.1) ?_
            refine tw_iload rfl rfl ?_
            refine tw_push rfl ?_
            refine tw_isub rfl ?_
            refine tw_lald rfl (fun f1147 => ?_)
            refine tw_aload rfl rfl ?_
            refine tw_getS rfl (hs_48_5 hF.1) ?_
            refine tw_iload rfl rfl ?_
            refine tw_lald rfl (fun f1148 => ?_)
            refine tw_stat3 rfl (f_join hG hcv (by omega) (by omega)) (fun w9 h9 p1149 => ?_)
            obtain ⟨rfl, e9⟩ := p1149
            obtain rfl := e9.symm
            refine tw_last rfl (fun f1150 => ?_)
            refine tG_lst f1150 hF.1 (fun h3 a3 => ?_)
            try dsimp only [tvI_i, tvJ_j, tvR_r] at a3
            have hF3 := wFr_s hF a3
            refine tw_iinc rfl rfl ?_
            refine tw_goto rfl ?_
            have hk1 : (z + 1).toInt = ((k + 1 : Nat) : Int) := zincN hz (by omega)
            have hkl : k + 1 + e3.length = b + e.length := by omega
            rw [hd2, hd3] at a3
            have E3 : evA (tJ h 52) (fun i => (tA h a i).toNatClampNeg) (tJ h3 53) [wv (tJ h 52) e] (k + 1) (top - 1) e3 X2 S2 := by rw [mJs_g a3 rfl]; exact E2
            exact tG_cut (zW_mono zTt G dp) (Or.inr ⟨rfl, rfl, h3, k + 1, top - 1, z + 1, u + (-1), e3, X2, S2, _, rfl, hF3, hk1, hd1, hkl, E3, rfl⟩)
        · try dsimp only [tvI_i, tvJ_j, tvR_r] at q1145
          have q1145i := zeqi (Y := 100110) (by decide) q1145
          refine tw_iload rfl rfl ?_
          refine tw_if_le rfl (fun q1151 => ?_) (fun q1151 => ?_)
          · try dsimp only [tvI_i, tvJ_j, tvR_r] at q1151
            exfalso
            have y1 := (evA_n hE (by omega)).1
            omega
          · try dsimp only [tvI_i, tvJ_j, tvR_r] at q1151
            obtain ⟨y0, -, X2, S2, E2⟩ := evA_n hE (by omega)
            have hu1 : (u - 1).toNatClampNeg = top - 1 := zof_cl ((zsbM (b := 1) hu rfl (by omega) (by decide)).trans (by omega))
            refine tw_aload rfl rfl ?_
            refine tw_getS rfl (hs_48_5 hF.1) ?_
            refine tw_iload rfl rfl ?_
            refine tw_push rfl ?_
            refine tw_isub rfl ?_
            refine tw_push rfl ?_
            refine tw_aload rfl rfl ?_
            refine tw_getS rfl (hs_48_5 hF.1) ?_
            refine tw_iload rfl rfl ?_
            refine tw_push rfl ?_
            refine tw_isub rfl ?_
            refine tw_lald rfl (fun f1152 => ?_)
            refine tw_lsub rfl ?_
            refine tw_last rfl (fun f1153 => ?_)
            refine tG_lst f1153 hF.1 (fun h3 a3 => ?_)
            try dsimp only [tvI_i, tvJ_j, tvR_r] at a3
            have hF3 := wFr_s hF a3
            refine tw_goto rfl ?_
            refine tw_iinc rfl rfl ?_
            refine tw_goto rfl ?_
            have hk1 : (z + 1).toInt = ((k + 1 : Nat) : Int) := zincN hz (by omega)
            have hkl : k + 1 + e3.length = b + e.length := by omega
            rw [hu1] at a3
            have E3 : evA (tJ h 52) (fun i => (tA h a i).toNatClampNeg) (tJ h3 53) [wv (tJ h 52) e] (k + 1) top e3 X2 S2 := by rw [mJs_g a3 rfl]; exact E2
            exact tG_cut (zW_mono zTt G dp) (Or.inr ⟨rfl, rfl, h3, k + 1, top, z + 1, u, e3, X2, S2, _, rfl, hF3, hk1, hu, hkl, E3, rfl⟩)
      · try dsimp only [tvI_i, tvJ_j, tvR_r] at q1144
        refine tw_iload rfl rfl ?_
        refine tw_aload rfl rfl ?_
        refine tw_getS rfl (hs_48_5 hF.1) ?_
        refine tw_alen rfl ?_
        refine tw_ic_ge rfl (fun q1154 => ?_) (fun q1154 => ?_)
        · try dsimp only [tvI_i, tvJ_j, tvR_r] at q1154
          exfalso
          have y1 := (evA_v hE (by omega)).1
          omega
        · try dsimp only [tvI_i, tvJ_j, tvR_r] at q1154
          obtain ⟨y80, y12, X2, S2, E2⟩ := evA_v hE (by omega)
          refine tw_aload rfl rfl ?_
          refine tw_getS rfl (hs_48_5 hF.1) ?_
          refine tw_iload rfl rfl ?_
          refine tw_aload rfl rfl ?_
          refine tw_iload rfl rfl ?_
          refine tw_virt1 rfl (f_valueOf hG hF.1 (by rw [hF.2.2.2.2.1]; exact h52) hcv y12) (fun w9 h9 p1155 => ?_)
          obtain ⟨rfl, e9⟩ := p1155
          obtain rfl := e9.symm
          refine tw_last rfl (fun f1156 => ?_)
          refine tG_lst f1156 hF.1 (fun h3 a3 => ?_)
          try dsimp only [tvI_i, tvJ_j, tvR_r] at a3
          have hF3 := wFr_s hF a3
          refine tw_iinc rfl rfl ?_
          refine tw_goto rfl ?_
          refine tw_iinc rfl rfl ?_
          refine tw_goto rfl ?_
          have hk1 : (z + 1).toInt = ((k + 1 : Nat) : Int) := zincN hz (by omega)
          have hkl : k + 1 + e3.length = b + e.length := by omega
          rw [zof_cl hu, hF.2.2.2.2.2 52 (by decide)] at a3
          have E3 : evA (tJ h 52) (fun i => (tA h a i).toNatClampNeg) (tJ h3 53) [wv (tJ h 52) e] (k + 1) (top + 1) e3 X2 S2 := by rw [mJs_g a3 rfl]; exact E2
          exact tG_cut (zW_mono zTt G dp) (Or.inr ⟨rfl, rfl, h3, k + 1, top + 1, z + 1, u + 1, e3, X2, S2, _, rfl, hF3, hk1, zincN hu (by omega), hkl, E3, rfl⟩)
theorem f_firstTrue {G : zG} (hG : G.1 = zProg) {h : zH} {a b q K th : Nat} {y t : Int32} {cs : List Nat} {cl : Nat → rCt} (hs : tSh h) (h52 : tN h 52 = 12) (h53 : tN h 53 = 80) (D : rDt h a b K cs cl) (hy : y.toInt = q) (hq : (q : Int) < (tvI (tF h 48 3)).toInt) (h50 : tO h 50 q = some a) (h51 : tO h 51 q = some b) (ht : t.toInt = th) : tC zTt G 66 [.ref 48, .int y, .int t] h (fun w h2 => wFr 53 h h2 ∧ fTr (tJ h 52) cs cl K th (fun i => 4 * i) w) := by
  refine tC_in (by rw [hG]; rfl) (fun dp => ?_)
  have hyq : y.toNatClampNeg = q := zof_cl hy
  have o50 : ∀ h1, wFr 53 h h1 → zrf (tO h1 50 y.toNatClampNeg) = .ref a := fun h1 k => by rw [k.2.2.2.1, hyq, h50]; rfl
  have o51 : zrf (tO h 51 y.toNatClampNeg) = .ref b := by rw [hyq, h51]; rfl
  refine tw_iload rfl rfl ?_
  refine tw_if_lt rfl (fun q1157 => ?_) (fun q1157 => ?_)
  · try dsimp only [tvI_i, tvJ_j, tvR_r] at q1157
    exfalso
    omega
  · try dsimp only [tvI_i, tvJ_j, tvR_r] at q1157
    refine tw_iload rfl rfl ?_
    refine tw_aload rfl rfl ?_
    refine tw_getS rfl (hi_48_3 hs) ?_
    refine tw_ic_lt rfl (fun q1158 => ?_) (fun q1158 => ?_)
    · try dsimp only [tvI_i, tvJ_j, tvR_r] at q1158
      refine tw_aload rfl rfl ?_
      refine tw_getS rfl (hs_48_2 hs) ?_
      refine tw_iload rfl rfl ?_
      refine tw_aaldS rfl (fun _ => o51) ?_
      refine tw_astore rfl ?_
      refine tw_push rfl ?_
      refine tw_istore rfl ?_
      refine tG_loop (zW_mono zTt G dp) (zW_conj zTt G dp) (V := fun pc L st h9 _ _ => pc = 24 ∧ st = [] ∧ ∃ (h1 : zH) (i : Nat) (x : Int32) (l5 : Option Value), h1 = h9 ∧ wFr 53 h h1 ∧ i ≤ K ∧ x.toInt = ((4 * i : Nat) : Int) ∧ (∀ j, j < i → ¬ hit (tJ h 52) cs (cl j) th) ∧ L = [some (.ref 48), some (.int y), some (.int t), some (.ref b), some (.int x), l5]) ?_ (⟨rfl, rfl, h, 0, 0, _, rfl, wFr_r hs, Nat.zero_le _, rfl, fun j hj => absurd hj (Nat.not_lt_zero _), rfl⟩)
      rintro _ _ _ _ _ _ ⟨rfl, rfl, h1, i, x, l5, rfl, hF, hiK, hx, hall, rfl⟩
      have hlb : (Int32.ofNat (tN h1 b)).toInt = ((4 * K : Nat) : Int) := by rw [hF.2.2.2.2.1, D.len]; exact yofN (by have := D.few; omega)
      have hx4 : (x + 4).toInt = ((4 * i + 4 : Nat) : Int) := zadN (b := 4) hx rfl (by have := D.few; omega) (by decide)
      refine tw_iload rfl rfl ?_
      refine tw_push rfl ?_
      refine tw_iadd rfl ?_
      refine tw_aload rfl rfl ?_
      refine tw_alen rfl ?_
      refine tw_ic_gt rfl (fun q1160 => ?_) (fun q1160 => ?_)
      · try dsimp only [tvI_i, tvJ_j, tvR_r] at q1160
        refine tw_push rfl ?_
        exact tw_iret rfl ⟨hF, Or.inl ⟨rfl, fun i9 h9 => hall i9 (by have y2 := hlb; omega)⟩⟩
      · try dsimp only [tvI_i, tvJ_j, tvR_r] at q1160
        have hi : i < K := by have y1 := hx4; have y2 := hlb; omega
        obtain ⟨d0, d1, d2, d3⟩ := D.row i hi
        have x0 : x.toNatClampNeg = 4 * i := zof_cl hx
        have x2 : (x + 2).toNatClampNeg = 4 * i + 2 := zof_cl (zadN (b := 2) hx rfl (by have := D.few; omega) (by decide))
        have x3 : (x + 3).toNatClampNeg = 4 * i + 3 := zof_cl (zadN (b := 3) hx rfl (by have := D.few; omega) (by decide))
        have eA := hF.2.2.1
        have v0 : (tA h1 b x.toNatClampNeg).toInt = ((cl i).1 : Int) := by rw [eA, x0]; exact d0
        have v2 : (tA h1 b (x + 2).toNatClampNeg).toInt = ((cl i).2.2.1 : Int) := by rw [eA, x2]; exact d2
        have v3 : (tA h1 b (x + 3).toNatClampNeg).toInt = ((cl i).2.2.2 : Int) := by rw [eA, x3]; exact d3
        refine tw_aload rfl rfl ?_
        refine tw_iload rfl rfl ?_
        refine tw_push rfl ?_
        refine tw_iadd rfl ?_
        refine tw_iald rfl (fun f1161 => ?_)
        refine tw_aload rfl rfl ?_
        refine tw_iload rfl rfl ?_
        refine tw_push rfl ?_
        refine tw_iadd rfl ?_
        refine tw_iald rfl (fun f1162 => ?_)
        refine tw_ic_ne rfl (fun q1163 => ?_) (fun q1163 => ?_)
        · try dsimp only [tvI_i, tvJ_j, tvR_r] at q1163
          have q1163i := zneq rfl q1163
          refine tw_push rfl ?_
          refine tw_istore rfl ?_
          refine tw_aload rfl rfl ?_
          refine tw_iload rfl rfl ?_
          refine tw_iald rfl (fun f1164 => ?_)
          refine tw_iload rfl rfl ?_
          refine tw_ic_ne rfl (fun q1165 => ?_) (fun q1165 => ?_)
          · try dsimp only [tvI_i, tvJ_j, tvR_r] at q1165
            have q1165i := zneq rfl q1165
            refine tw_iinc rfl rfl ?_
            refine tw_goto rfl ?_
            have hx9 : (x + 4).toInt = ((4 * (i + 1) : Nat) : Int) := (zadN (b := 4) hx rfl (by have := D.few; omega) (by decide)).trans (by omega)
            have hno : ¬ hit (tJ h 52) cs (cl i) th := (fun z => q1165i (by have y1 := z.1; omega))
            exact tG_cut (zW_mono zTt G dp) (Or.inr ⟨rfl, rfl, _, i + 1, x + 4, _, rfl, hF, by omega, hx9, fun j hj => (Classical.em (j = i)).elim (fun z => by rw [z]; exact hno) (fun z => hall j (by omega)), rfl⟩)
          · try dsimp only [tvI_i, tvJ_j, tvR_r] at q1165
            have q1165i := zeqi rfl q1165
            refine tw_iload rfl rfl ?_
            refine tw_if_ne rfl (fun z => absurd z (by decide)) (fun _ => ?_)
            refine tw_aload rfl rfl ?_
            refine tw_aload rfl rfl ?_
            refine tw_getS rfl (hs_48_1 hF.1) ?_
            refine tw_iload rfl rfl ?_
            refine tw_aaldS rfl (fun _ => o50 _ hF) ?_
            refine tw_aload rfl rfl ?_
            refine tw_iload rfl rfl ?_
            refine tw_push rfl ?_
            refine tw_iadd rfl ?_
            refine tw_iald rfl (fun f1167 => ?_)
            refine tw_aload rfl rfl ?_
            refine tw_iload rfl rfl ?_
            refine tw_push rfl ?_
            refine tw_iadd rfl ?_
            refine tw_iald rfl (fun f1168 => ?_)
            obtain ⟨s1, s2, s3, s4, p, qq, s5, s6⟩ := rOk_t (D.ok i hi) D.nv (fun z => q1163 (Int32.toInt_inj.mp (by omega)))
            refine tw_virt3 rfl (f_work hG hF.1 (by rw [hF.2.2.2.2.1]; exact h52) (by rw [hF.2.2.2.2.1]; exact h53) v2 (e := slc cs (cl i).2.2.1 (cl i).2.2.2) (t := true) (v3.trans (congrArg Nat.cast s1)) ⟨by rw [← s1, hF.2.2.2.2.1, ← cs_len D.arr]; exact s2, by rw [hF.2.2.2.2.1]; exact D.big⟩ (by rw [hF.2.2.2.2.1, hF.2.2.1]; exact D.pos) (by rw [hF.2.2.1]; exact cdAt_c D.arr s6 s5) s3 s4) (fun wp1169 hp1169 p1169 => ?_)
            obtain ⟨rfl, Fp1169⟩ := p1169
            have hF2 := wFr_t hF Fp1169
            rw [hF.2.2.2.2.2 52 (by decide)]
            refine tw_push rfl ?_
            refine tw_lc_eq rfl rfl (fun q1170 => ?_) (fun q1170 => ?_)
            · try dsimp only [tvI_i, tvJ_j, tvR_r] at q1170
              refine tw_iinc rfl rfl ?_
              refine tw_goto rfl ?_
              have hx9 : (x + 4).toInt = ((4 * (i + 1) : Nat) : Int) := (zadN (b := 4) hx rfl (by have := D.few; omega) (by decide)).trans (by omega)
              have s0 : ¬ (cl i).2.2.1 = (cl i).2.2.2 := fun z => q1163 (Int32.toInt_inj.mp (by omega))
              have hno : ¬ hit (tJ h 52) cs (cl i) th := (fun z => z.2.elim (fun y => s0 y) (fun y => y q1170))
              exact tG_cut (zW_mono zTt G dp) (Or.inr ⟨rfl, rfl, _, i + 1, x + 4, _, rfl, hF2, by omega, hx9, fun j hj => (Classical.em (j = i)).elim (fun z => by rw [z]; exact hno) (fun z => hall j (by omega)), rfl⟩)
            · try dsimp only [tvI_i, tvJ_j, tvR_r] at q1170
              refine tw_iload rfl rfl ?_
              exact tw_iret rfl ⟨hF2, Or.inr ⟨i, hi, ⟨by have y1 := q1165i; omega, Or.inr q1170⟩, hall, _, rfl, hx⟩⟩
        · try dsimp only [tvI_i, tvJ_j, tvR_r] at q1163
          have q1163i := zeqi rfl q1163
          refine tw_push rfl ?_
          refine tw_goto rfl ?_
          refine tw_istore rfl ?_
          refine tw_aload rfl rfl ?_
          refine tw_iload rfl rfl ?_
          refine tw_iald rfl (fun f1171 => ?_)
          refine tw_iload rfl rfl ?_
          refine tw_ic_ne rfl (fun q1172 => ?_) (fun q1172 => ?_)
          · try dsimp only [tvI_i, tvJ_j, tvR_r] at q1172
            have q1172i := zneq rfl q1172
            refine tw_iinc rfl rfl ?_
            refine tw_goto rfl ?_
            have hx9 : (x + 4).toInt = ((4 * (i + 1) : Nat) : Int) := (zadN (b := 4) hx rfl (by have := D.few; omega) (by decide)).trans (by omega)
            have hno : ¬ hit (tJ h 52) cs (cl i) th := (fun z => q1172i (by have y1 := z.1; omega))
            exact tG_cut (zW_mono zTt G dp) (Or.inr ⟨rfl, rfl, _, i + 1, x + 4, _, rfl, hF, by omega, hx9, fun j hj => (Classical.em (j = i)).elim (fun z => by rw [z]; exact hno) (fun z => hall j (by omega)), rfl⟩)
          · try dsimp only [tvI_i, tvJ_j, tvR_r] at q1172
            have q1172i := zeqi rfl q1172
            refine tw_iload rfl rfl ?_
            refine tw_if_ne rfl (fun _ => ?_) (fun z => absurd z (by decide))
            refine tw_iload rfl rfl ?_
            exact tw_iret rfl ⟨hF, Or.inr ⟨i, hi, ⟨by have y1 := q1172i; omega, Or.inl (by have y1 := q1163i; omega)⟩, hall, _, rfl, hx⟩⟩
    · try dsimp only [tvI_i, tvJ_j, tvR_r] at q1158
      exfalso
      omega
theorem f_sumOf {G : zG} (hG : G.1 = zProg) {h : zH} {a b q K i : Nat} {y x : Int32} {cs : List Nat} {cl : Nat → rCt} (hs : tSh h) (h52 : tN h 52 = 12) (h53 : tN h 53 = 80) (D : rDt h a b K cs cl) (hy : y.toInt = q) (h50 : tO h 50 q = some a) (h51 : tO h 51 q = some b) (hx : x.toInt = ((4 * i : Nat) : Int)) (hi : i < K) (h15 : (cl i).1 ≠ 15) : tC zTt G 67 [.ref 48, .int y, .int x] h (fun w h2 => w = some (.long (wv (tJ h 52) (slc cs (cl i).2.1 (cl i).2.2.1))) ∧ wFr 53 h h2) := by
  refine tC_in (by rw [hG]; rfl) (fun dp => ?_)
  have hyq : y.toNatClampNeg = q := zof_cl hy
  have o50 : zrf (tO h 50 y.toNatClampNeg) = .ref a := by rw [hyq, h50]; rfl
  have o51 : zrf (tO h 51 y.toNatClampNeg) = .ref b := by rw [hyq, h51]; rfl
  have hK := D.few
  obtain ⟨d0, d1, d2, d3⟩ := D.row i hi
  have x1 : (x + 1).toNatClampNeg = 4 * i + 1 := zof_cl (zadN (b := 1) hx rfl (by omega) (by decide))
  have x2 : (x + 2).toNatClampNeg = 4 * i + 2 := zof_cl (zadN (b := 2) hx rfl (by omega) (by decide))
  have v1 : (tA h b (x + 1).toNatClampNeg).toInt = ((cl i).2.1 : Int) := by rw [x1]; exact d1
  have v2 : (tA h b (x + 2).toNatClampNeg).toInt = ((cl i).2.2.1 : Int) := by rw [x2]; exact d2
  obtain ⟨s1, s2, s3, s4, p, qq, s5, s6⟩ := rOk_s (D.ok i hi) D.nv h15
  refine tw_aload rfl rfl ?_
  refine tw_aload rfl rfl ?_
  refine tw_getS rfl (hs_48_1 hs) ?_
  refine tw_iload rfl rfl ?_
  refine tw_aaldS rfl (fun _ => o50) ?_
  refine tw_aload rfl rfl ?_
  refine tw_getS rfl (hs_48_2 hs) ?_
  refine tw_iload rfl rfl ?_
  refine tw_aaldS rfl (fun _ => o51) ?_
  refine tw_iload rfl rfl ?_
  refine tw_push rfl ?_
  refine tw_iadd rfl ?_
  refine tw_iald rfl (fun f1175 => ?_)
  refine tw_aload rfl rfl ?_
  refine tw_getS rfl (hs_48_2 hs) ?_
  refine tw_iload rfl rfl ?_
  refine tw_aaldS rfl (fun _ => o51) ?_
  refine tw_iload rfl rfl ?_
  refine tw_push rfl ?_
  refine tw_iadd rfl ?_
  refine tw_iald rfl (fun f1177 => ?_)
  refine tw_virt3 rfl (f_work hG hs h52 h53 v1 (e := slc cs (cl i).2.1 (cl i).2.2.1) (t := false) (v2.trans (congrArg Nat.cast s1)) ⟨by rw [← s1, ← cs_len D.arr]; exact s2, D.big⟩ D.pos (cdAt_c D.arr s6 s5) s3 s4) (fun wp1178 hp1178 p1178 => ?_)
  obtain ⟨rfl, Fp1178⟩ := p1178
  exact tw_lret rfl ⟨rfl, Fp1178⟩
theorem g_truth1 {G : zG} (hG : G.1 = zProg) {h : zH} : tC zTt G 229 [.int 1] h (fun w h2 => w = some (.long 1) ∧ h2 = h) := by
  refine tC_in (by rw [hG]; rfl) (fun dp => ?_)
  refine tw_iload rfl rfl ?_
  refine tw_if_eq rfl (fun z => absurd z (by decide)) (fun _ => ?_)
  refine tw_push rfl ?_
  refine tw_goto rfl ?_
  exact tw_lret rfl ⟨rfl, rfl⟩
theorem g_truth0 {G : zG} (hG : G.1 = zProg) {h : zH} : tC zTt G 229 [.int 0] h (fun w h2 => w = some (.long 0) ∧ h2 = h) := by
  refine tC_in (by rw [hG]; rfl) (fun dp => ?_)
  refine tw_iload rfl rfl ?_
  refine tw_if_eq rfl (fun _ => ?_) (fun z => absurd z (by decide))
  refine tw_push rfl ?_
  exact tw_lret rfl ⟨rfl, rfl⟩
theorem g_two {G : zG} (hG : G.1 = zProg) {h : zH} {y : Int32} {s : Nat} {a b : Int64} (hy : y.toInt = s) (h1 : 2 ≤ s) (h2 : s ≤ 12) (h3 : s ≠ 10) : tC zTt G 230 [.int y, .long a, .long b] h (fun w h2 => w = some (.long (jp (mCode s 0) a b)) ∧ h2 = h) := by
  refine tC_in (by rw [hG]; rfl) (fun dp => ?_)
  refine tw_iload rfl rfl ?_
  refine tw_table rfl (fun q1179 => ?_) (fun t9 q1179a q1179b q1179c => ?_)
  · try dsimp only [tvI_i, tvJ_j, tvR_r] at q1179
    refine tw_lload rfl rfl ?_
    refine tw_push rfl ?_
    refine tw_lc_ne rfl rfl (fun q1180 => ?_) (fun q1180 => ?_)
    · try dsimp only [tvI_i, tvJ_j, tvR_r] at q1180
      refine tw_push rfl ?_
      refine tw_goto rfl ?_
      refine tw_stat1 rfl (g_truth1 hG) (fun w9 h9 p1181 => ?_)
      obtain ⟨rfl, e9⟩ := p1181
      obtain rfl := e9.symm
      obtain rfl : s = 12 := by omega
      exact tw_lret rfl ⟨congrArg (fun z => some (Value.long z)) (b64_1 (p := a ≠ 0 ∨ b ≠ 0) (Or.inl q1180)).symm, rfl⟩
    · try dsimp only [tvI_i, tvJ_j, tvR_r] at q1180
      refine tw_lload rfl rfl ?_
      refine tw_push rfl ?_
      refine tw_lc_eq rfl rfl (fun q1182 => ?_) (fun q1182 => ?_)
      · try dsimp only [tvI_i, tvJ_j, tvR_r] at q1182
        refine tw_push rfl ?_
        refine tw_stat1 rfl (g_truth0 hG) (fun w9 h9 p1183 => ?_)
        obtain ⟨rfl, e9⟩ := p1183
        obtain rfl := e9.symm
        obtain rfl : s = 12 := by omega
        exact tw_lret rfl ⟨congrArg (fun z => some (Value.long z)) (b64_0 (p := a ≠ 0 ∨ b ≠ 0) (fun z => z.elim (fun y => y q1180) (fun y => y q1182))).symm, rfl⟩
      · try dsimp only [tvI_i, tvJ_j, tvR_r] at q1182
        refine tw_push rfl ?_
        refine tw_goto rfl ?_
        refine tw_stat1 rfl (g_truth1 hG) (fun w9 h9 p1184 => ?_)
        obtain ⟨rfl, e9⟩ := p1184
        obtain rfl := e9.symm
        obtain rfl : s = 12 := by omega
        exact tw_lret rfl ⟨congrArg (fun z => some (Value.long z)) (b64_1 (p := a ≠ 0 ∨ b ≠ 0) (Or.inr q1182)).symm, rfl⟩
  · have q1179d : (tvI (.int y)).toInt = 2 ∨ (tvI (.int y)).toInt = 3 ∨ (tvI (.int y)).toInt = 4 ∨ (tvI (.int y)).toInt = 5 ∨ (tvI (.int y)).toInt = 6 ∨ (tvI (.int y)).toInt = 7 ∨ (tvI (.int y)).toInt = 8 ∨ (tvI (.int y)).toInt = 9 ∨ (tvI (.int y)).toInt = 10 ∨ (tvI (.int y)).toInt = 11 := by omega
    rcases q1179d with q1179 | q1179 | q1179 | q1179 | q1179 | q1179 | q1179 | q1179 | q1179 | q1179
    · obtain rfl : t9 = 56 := by rw [q1179] at q1179c; exact Option.some.inj (q1179c.symm.trans rfl)
      try dsimp only [tvI_i, tvJ_j, tvR_r] at q1179
      refine tw_lload rfl rfl ?_
      refine tw_lload rfl rfl ?_
      refine tw_lmul rfl ?_
      obtain rfl : s = 2 := by omega
      exact tw_lret rfl ⟨rfl, rfl⟩
    · obtain rfl : t9 = 60 := by rw [q1179] at q1179c; exact Option.some.inj (q1179c.symm.trans rfl)
      try dsimp only [tvI_i, tvJ_j, tvR_r] at q1179
      refine tw_lload rfl rfl ?_
      refine tw_lload rfl rfl ?_
      refine tw_ladd rfl ?_
      obtain rfl : s = 3 := by omega
      exact tw_lret rfl ⟨rfl, rfl⟩
    · obtain rfl : t9 = 64 := by rw [q1179] at q1179c; exact Option.some.inj (q1179c.symm.trans rfl)
      try dsimp only [tvI_i, tvJ_j, tvR_r] at q1179
      refine tw_lload rfl rfl ?_
      refine tw_lload rfl rfl ?_
      refine tw_lsub rfl ?_
      obtain rfl : s = 4 := by omega
      exact tw_lret rfl ⟨rfl, rfl⟩
    · obtain rfl : t9 = 68 := by rw [q1179] at q1179c; exact Option.some.inj (q1179c.symm.trans rfl)
      try dsimp only [tvI_i, tvJ_j, tvR_r] at q1179
      refine tw_lload rfl rfl ?_
      refine tw_lload rfl rfl ?_
      refine tw_lc_ge rfl rfl (fun q1185 => ?_) (fun q1185 => ?_)
      · try dsimp only [tvI_i, tvJ_j, tvR_r] at q1185
        refine tw_push rfl ?_
        refine tw_stat1 rfl (g_truth0 hG) (fun w9 h9 p1186 => ?_)
        obtain ⟨rfl, e9⟩ := p1186
        obtain rfl := e9.symm
        obtain rfl : s = 5 := by omega
        exact tw_lret rfl ⟨congrArg (fun z => some (Value.long z)) (b64_0 (p := a.toInt < b.toInt) (by omega)).symm, rfl⟩
      · try dsimp only [tvI_i, tvJ_j, tvR_r] at q1185
        refine tw_push rfl ?_
        refine tw_goto rfl ?_
        refine tw_stat1 rfl (g_truth1 hG) (fun w9 h9 p1187 => ?_)
        obtain ⟨rfl, e9⟩ := p1187
        obtain rfl := e9.symm
        obtain rfl : s = 5 := by omega
        exact tw_lret rfl ⟨congrArg (fun z => some (Value.long z)) (b64_1 (p := a.toInt < b.toInt) (by omega)).symm, rfl⟩
    · obtain rfl : t9 = 83 := by rw [q1179] at q1179c; exact Option.some.inj (q1179c.symm.trans rfl)
      try dsimp only [tvI_i, tvJ_j, tvR_r] at q1179
      refine tw_lload rfl rfl ?_
      refine tw_lload rfl rfl ?_
      refine tw_lc_gt rfl rfl (fun q1188 => ?_) (fun q1188 => ?_)
      · try dsimp only [tvI_i, tvJ_j, tvR_r] at q1188
        refine tw_push rfl ?_
        refine tw_stat1 rfl (g_truth0 hG) (fun w9 h9 p1189 => ?_)
        obtain ⟨rfl, e9⟩ := p1189
        obtain rfl := e9.symm
        obtain rfl : s = 6 := by omega
        exact tw_lret rfl ⟨congrArg (fun z => some (Value.long z)) (b64_0 (p := a.toInt ≤ b.toInt) (by omega)).symm, rfl⟩
      · try dsimp only [tvI_i, tvJ_j, tvR_r] at q1188
        refine tw_push rfl ?_
        refine tw_goto rfl ?_
        refine tw_stat1 rfl (g_truth1 hG) (fun w9 h9 p1190 => ?_)
        obtain ⟨rfl, e9⟩ := p1190
        obtain rfl := e9.symm
        obtain rfl : s = 6 := by omega
        exact tw_lret rfl ⟨congrArg (fun z => some (Value.long z)) (b64_1 (p := a.toInt ≤ b.toInt) (by omega)).symm, rfl⟩
    · obtain rfl : t9 = 98 := by rw [q1179] at q1179c; exact Option.some.inj (q1179c.symm.trans rfl)
      try dsimp only [tvI_i, tvJ_j, tvR_r] at q1179
      refine tw_lload rfl rfl ?_
      refine tw_lload rfl rfl ?_
      refine tw_lc_ne rfl rfl (fun q1191 => ?_) (fun q1191 => ?_)
      · try dsimp only [tvI_i, tvJ_j, tvR_r] at q1191
        refine tw_push rfl ?_
        refine tw_stat1 rfl (g_truth0 hG) (fun w9 h9 p1192 => ?_)
        obtain ⟨rfl, e9⟩ := p1192
        obtain rfl := e9.symm
        obtain rfl : s = 7 := by omega
        exact tw_lret rfl ⟨congrArg (fun z => some (Value.long z)) (b64_0 (p := a = b) q1191).symm, rfl⟩
      · try dsimp only [tvI_i, tvJ_j, tvR_r] at q1191
        refine tw_push rfl ?_
        refine tw_goto rfl ?_
        refine tw_stat1 rfl (g_truth1 hG) (fun w9 h9 p1193 => ?_)
        obtain ⟨rfl, e9⟩ := p1193
        obtain rfl := e9.symm
        obtain rfl : s = 7 := by omega
        exact tw_lret rfl ⟨congrArg (fun z => some (Value.long z)) (b64_1 (p := a = b) q1191).symm, rfl⟩
    · obtain rfl : t9 = 113 := by rw [q1179] at q1179c; exact Option.some.inj (q1179c.symm.trans rfl)
      try dsimp only [tvI_i, tvJ_j, tvR_r] at q1179
      refine tw_lload rfl rfl ?_
      refine tw_lload rfl rfl ?_
      refine tw_lc_lt rfl rfl (fun q1194 => ?_) (fun q1194 => ?_)
      · try dsimp only [tvI_i, tvJ_j, tvR_r] at q1194
        refine tw_push rfl ?_
        refine tw_stat1 rfl (g_truth0 hG) (fun w9 h9 p1195 => ?_)
        obtain ⟨rfl, e9⟩ := p1195
        obtain rfl := e9.symm
        obtain rfl : s = 8 := by omega
        exact tw_lret rfl ⟨congrArg (fun z => some (Value.long z)) (b64_0 (p := b.toInt ≤ a.toInt) (by omega)).symm, rfl⟩
      · try dsimp only [tvI_i, tvJ_j, tvR_r] at q1194
        refine tw_push rfl ?_
        refine tw_goto rfl ?_
        refine tw_stat1 rfl (g_truth1 hG) (fun w9 h9 p1196 => ?_)
        obtain ⟨rfl, e9⟩ := p1196
        obtain rfl := e9.symm
        obtain rfl : s = 8 := by omega
        exact tw_lret rfl ⟨congrArg (fun z => some (Value.long z)) (b64_1 (p := b.toInt ≤ a.toInt) (by omega)).symm, rfl⟩
    · obtain rfl : t9 = 128 := by rw [q1179] at q1179c; exact Option.some.inj (q1179c.symm.trans rfl)
      try dsimp only [tvI_i, tvJ_j, tvR_r] at q1179
      refine tw_lload rfl rfl ?_
      refine tw_lload rfl rfl ?_
      refine tw_lc_le rfl rfl (fun q1197 => ?_) (fun q1197 => ?_)
      · try dsimp only [tvI_i, tvJ_j, tvR_r] at q1197
        refine tw_push rfl ?_
        refine tw_stat1 rfl (g_truth0 hG) (fun w9 h9 p1198 => ?_)
        obtain ⟨rfl, e9⟩ := p1198
        obtain rfl := e9.symm
        obtain rfl : s = 9 := by omega
        exact tw_lret rfl ⟨congrArg (fun z => some (Value.long z)) (b64_0 (p := b.toInt < a.toInt) (by omega)).symm, rfl⟩
      · try dsimp only [tvI_i, tvJ_j, tvR_r] at q1197
        refine tw_push rfl ?_
        refine tw_goto rfl ?_
        refine tw_stat1 rfl (g_truth1 hG) (fun w9 h9 p1199 => ?_)
        obtain ⟨rfl, e9⟩ := p1199
        obtain rfl := e9.symm
        obtain rfl : s = 9 := by omega
        exact tw_lret rfl ⟨congrArg (fun z => some (Value.long z)) (b64_1 (p := b.toInt < a.toInt) (by omega)).symm, rfl⟩
    · obtain rfl : t9 = 164 := by rw [q1179] at q1179c; exact Option.some.inj (q1179c.symm.trans rfl)
      try dsimp only [tvI_i, tvJ_j, tvR_r] at q1179
      exfalso
      omega
    · obtain rfl : t9 = 143 := by rw [q1179] at q1179c; exact Option.some.inj (q1179c.symm.trans rfl)
      try dsimp only [tvI_i, tvJ_j, tvR_r] at q1179
      refine tw_lload rfl rfl ?_
      refine tw_push rfl ?_
      refine tw_lc_eq rfl rfl (fun q1200 => ?_) (fun q1200 => ?_)
      · try dsimp only [tvI_i, tvJ_j, tvR_r] at q1200
        refine tw_push rfl ?_
        refine tw_stat1 rfl (g_truth0 hG) (fun w9 h9 p1201 => ?_)
        obtain ⟨rfl, e9⟩ := p1201
        obtain rfl := e9.symm
        obtain rfl : s = 11 := by omega
        exact tw_lret rfl ⟨congrArg (fun z => some (Value.long z)) (b64_0 (p := a ≠ 0 ∧ b ≠ 0) (fun z => z.1 q1200)).symm, rfl⟩
      · try dsimp only [tvI_i, tvJ_j, tvR_r] at q1200
        refine tw_lload rfl rfl ?_
        refine tw_push rfl ?_
        refine tw_lc_eq rfl rfl (fun q1202 => ?_) (fun q1202 => ?_)
        · try dsimp only [tvI_i, tvJ_j, tvR_r] at q1202
          refine tw_push rfl ?_
          refine tw_stat1 rfl (g_truth0 hG) (fun w9 h9 p1203 => ?_)
          obtain ⟨rfl, e9⟩ := p1203
          obtain rfl := e9.symm
          obtain rfl : s = 11 := by omega
          exact tw_lret rfl ⟨congrArg (fun z => some (Value.long z)) (b64_0 (p := a ≠ 0 ∧ b ≠ 0) (fun z => z.2 q1202)).symm, rfl⟩
        · try dsimp only [tvI_i, tvJ_j, tvR_r] at q1202
          refine tw_push rfl ?_
          refine tw_goto rfl ?_
          refine tw_stat1 rfl (g_truth1 hG) (fun w9 h9 p1204 => ?_)
          obtain ⟨rfl, e9⟩ := p1204
          obtain rfl := e9.symm
          obtain rfl : s = 11 := by omega
          exact tw_lret rfl ⟨congrArg (fun z => some (Value.long z)) (b64_1 (p := a ≠ 0 ∧ b ≠ 0) ⟨q1200, q1202⟩).symm, rfl⟩
theorem mC_o {s v c : Nat} (e : mCode s v = c) (h : s ≠ 0 ∧ s ≠ 1 ∧ s ≠ 10) : 100100 ≤ c ∧ c ≠ 100110 := by
  unfold mCode at e
  repeat' (split at e)
  all_goals omega
theorem g_answer {G : zG} (hG : G.1 = zProg) {h : zH} {q b : Nat} {y x1 x2 : Int32} {e : List Nat} {t : Bool} (hs : tSh h) (hy : y.toInt = q) (hq : q < 10) (hx1 : x1.toInt = b) (hx2 : x2.toInt = ((b + e.length : Nat) : Int)) (hN : b + e.length ≤ 400) (h133 : ∀ i, i < 5000 → 0 ≤ (tA h 133 i).toInt ∧ (tA h 133 i).toInt ≤ 14) (h134 : ∀ i, i < 5000 → 0 ≤ (tA h 134 i).toInt ∧ (tA h 134 i).toInt ≤ 99999) (hc : cdAt (fun i => mCode (tA h 133 (500 * q + i)).toNatClampNeg (tA h 134 (500 * q + i)).toNatClampNeg) b e) (ht : tyL [] e = some [t]) (hn : nVl e ≤ 80) : tC zTt G 231 [.ref 111, .int y, .int x1, .int x2] h (fun w h2 => w = some (.long (wv (tJ h 143) e)) ∧ wFr 144 h h2) := by
  refine tC_in (by rw [hG]; rfl) (fun dp => ?_)
  have m5 : (500 * y).toInt = ((500 * q : Nat) : Int) := zmul5 hy hq
  refine tw_push rfl ?_
  refine tw_istore rfl ?_
  refine tw_push rfl ?_
  refine tw_iload rfl rfl ?_
  refine tw_imul rfl ?_
  refine tw_iload rfl rfl ?_
  refine tw_iadd rfl ?_
  refine tw_istore rfl ?_
  refine tG_loop (zW_mono zTt G dp) (zW_conj zTt G dp) (V := fun pc L st h9 _ _ => pc = 12 ∧ st = [] ∧ ∃ (h1 : zH) (k top : Nat) (z u : Int32) (e2 : List Nat) (X : List Int64) (S : List Bool), h1 = h9 ∧ wFr 144 h h1 ∧ z.toInt = ((500 * q + k : Nat) : Int) ∧ u.toInt = top ∧ k + e2.length = b + e.length ∧ evA (tJ h 143) (fun i => mCode (tA h 133 (500 * q + i)).toNatClampNeg (tA h 134 (500 * q + i)).toNatClampNeg) (tJ h1 144) [wv (tJ h 143) e] k top e2 X S ∧ L = [some (.ref 111), some (.int y), some (.int x1), some (.int x2), some (.int u), some (.int z)]) ?_ (⟨rfl, rfl, h, b, 0, _, 0, e, [], [], rfl, wFr_r hs, zadN m5 hx1 (by omega) (by omega), rfl, rfl, evA_0 hc ht hn, rfl⟩)
  rintro _ _ _ _ _ _ ⟨rfl, rfl, h1, k, top, z, u, e2, X, S, rfl, hF, hz, hu, hke, hE, rfl⟩
  have hto : (500 * y + x2).toInt = ((500 * q + (b + e.length) : Nat) : Int) := zadN m5 hx2 (by omega) (by omega)
  refine tw_iload rfl rfl ?_
  refine tw_push rfl ?_
  refine tw_iload rfl rfl ?_
  refine tw_imul rfl ?_
  refine tw_iload rfl rfl ?_
  refine tw_iadd rfl ?_
  refine tw_ic_ge rfl (fun q1205 => ?_) (fun q1205 => ?_)
  · try dsimp only [tvI_i, tvJ_j, tvR_r] at q1205
    refine tw_aload rfl rfl ?_
    refine tw_getS rfl (hs_111_49 hF.1) ?_
    refine tw_push rfl ?_
    refine tw_lald rfl (fun f1206 => ?_)
    have e2n : e2 = [] := List.length_eq_zero_iff.mp (by omega)
    subst e2n
    have y1 := evA_e hE
    exact tw_lret rfl ⟨congrArg (fun z => some (Value.long z)) (show tJ h1 144 0 = _ from y1.2), hF⟩
  · try dsimp only [tvI_i, tvJ_j, tvR_r] at q1205
    rcases e2 with _ | ⟨c, e3⟩
    · exfalso; have hke : k + 0 = b + e.length := hke; omega
    have hke : k + (e3.length + 1) = b + e.length := hke
    have hcl : mCode (tA h 133 (500 * q + k)).toNatClampNeg (tA h 134 (500 * q + k)).toNatClampNeg = c := hE.at_.1
    have b1 := h133 (500 * q + k) (by omega)
    have b2 := h134 (500 * q + k) (by omega)
    have zz : z.toNatClampNeg = 500 * q + k := zof_cl hz
    have e1 : tA h1 133 z.toNatClampNeg = tA h 133 (500 * q + k) := by rw [hF.2.2.1, zz]
    have e4 : tA h1 134 z.toNatClampNeg = tA h 134 (500 * q + k) := by rw [hF.2.2.1, zz]
    have hs0 : (tA h1 133 z.toNatClampNeg).toInt = (((tA h 133 (500 * q + k)).toNatClampNeg : Nat) : Int) := by rw [e1]; exact (zclx b1.1).symm
    have hv9 : (tA h 134 (500 * q + k)).toNatClampNeg ≤ 99999 := by rw [zclE]; omega
    have h79 : top ≤ 80 := by have y1 := hE.few; have y2 := hE.len; omega
    have hval : (tA h1 134 z.toNatClampNeg).toInt = (((tA h 134 (500 * q + k)).toNatClampNeg : Nat) : Int) := by rw [e4]; exact (zclx b2.1).symm
    refine tw_aload rfl rfl ?_
    refine tw_getS rfl (hs_111_36 hF.1) ?_
    refine tw_iload rfl rfl ?_
    refine tw_iald rfl (fun f1207 => ?_)
    refine tw_if_ne rfl (fun q1208 => ?_) (fun q1208 => ?_)
    · try dsimp only [tvI_i, tvJ_j, tvR_r] at q1208
      have q1208i := zneq (Y := 0) (by decide) q1208
      refine tw_aload rfl rfl ?_
      refine tw_getS rfl (hs_111_36 hF.1) ?_
      refine tw_iload rfl rfl ?_
      refine tw_iald rfl (fun f1209 => ?_)
      refine tw_push rfl ?_
      refine tw_ic_ne rfl (fun q1210 => ?_) (fun q1210 => ?_)
      · try dsimp only [tvI_i, tvJ_j, tvR_r] at q1210
        have q1210i := zneq (Y := 1) (by decide) q1210
        refine tw_aload rfl rfl ?_
        refine tw_getS rfl (hs_111_36 hF.1) ?_
        refine tw_iload rfl rfl ?_
        refine tw_iald rfl (fun f1211 => ?_)
        refine tw_push rfl ?_
        refine tw_ic_ne rfl (fun q1212 => ?_) (fun q1212 => ?_)
        · try dsimp only [tvI_i, tvJ_j, tvR_r] at q1212
          have q1212i := zneq (Y := 10) (by decide) q1212
          have hsn : (tA h 133 (500 * q + k)).toNatClampNeg ≠ 0 ∧ (tA h 133 (500 * q + k)).toNatClampNeg ≠ 1 ∧ (tA h 133 (500 * q + k)).toNatClampNeg ≠ 10 := by have z1 := q1208i; have z2 := q1210i; have z3 := q1212i; omega
          have hcj := mC_o hcl hsn
          obtain ⟨y0, y1, y2, ye, X2, S2, E2⟩ := evA_j hE (by omega) (by omega)
          obtain ⟨y3, y4, y5, y6⟩ := mC_j hcl y1 y2 hv9
          have hu1 : (u - 1).toNatClampNeg = top - 1 := zof_cl ((zsbM (b := 1) hu rfl (by omega) (by decide)).trans (by omega))
          have hu2 : (u - 2).toNatClampNeg = top - 2 := zof_cl ((zsbM (b := 2) hu rfl (by omega) (by decide)).trans (by omega))
          refine tw_aload rfl rfl ?_
          refine tw_getS rfl (hs_111_49 hF.1) ?_
          refine tw_iload rfl rfl ?_
          refine tw_push rfl ?_
          refine tw_isub rfl ?_
          refine tw_aload rfl rfl ?_
          refine tw_getS rfl (hs_111_36 hF.1) ?_
          refine tw_iload rfl rfl ?_
          refine tw_iald rfl (fun f1213 => ?_)
          refine tw_aload rfl rfl ?_
          refine tw_getS rfl (hs_111_49 hF.1) ?_
          refine tw_iload rfl rfl ?_
          refine tw_push rfl ?_
          refine tw_isub rfl ?_
          refine tw_lald rfl (fun f1214 => ?_)
          refine tw_aload rfl rfl ?_
          refine tw_getS rfl (hs_111_49 hF.1) ?_
          refine tw_iload rfl rfl ?_
          refine tw_push rfl ?_
          refine tw_isub rfl ?_
          refine tw_lald rfl (fun f1215 => ?_)
          refine tw_stat3 rfl (g_two hG hs0 y3 y4 y5) (fun w9 h9 p1216 => ?_)
          obtain ⟨rfl, e9⟩ := p1216
          obtain rfl := e9.symm
          refine tw_last rfl (fun f1217 => ?_)
          refine tG_lst f1217 hF.1 (fun h3 a3 => ?_)
          try dsimp only [tvI_i, tvJ_j, tvR_r] at a3
          have hF3 := wFr_s hF a3
          refine tw_iinc rfl rfl ?_
          refine tw_iinc rfl rfl ?_
          refine tw_goto rfl ?_
          have hk1 : (z + 1).toInt = ((500 * q + (k + 1) : Nat) : Int) := (zincN hz (by omega)).trans (by omega)
          have hkl : k + 1 + e3.length = b + e.length := by omega
          rw [hu1, hu2] at a3
          rw [← y6, ← ye] at a3
          have E3 : evA (tJ h 143) (fun i => mCode (tA h 133 (500 * q + i)).toNatClampNeg (tA h 134 (500 * q + i)).toNatClampNeg) (tJ h3 144) [wv (tJ h 143) e] (k + 1) (top - 1) e3 X2 S2 := by rw [mJs_g a3 rfl]; exact E2
          have hd1 : (u + (-1)).toInt = ((top - 1 : Nat) : Int) := (zdecM hu (by omega) (by omega)).trans (by omega)
          exact tG_cut (zW_mono zTt G dp) (Or.inr ⟨rfl, rfl, h3, k + 1, top - 1, z + 1, u + (-1), e3, X2, S2, rfl, hF3, hk1, hd1, hkl, E3, rfl⟩)
        · try dsimp only [tvI_i, tvJ_j, tvR_r] at q1212
          have q1212i := zeqi (Y := 10) (by decide) q1212
          have hs9 : (tA h 133 (500 * q + k)).toNatClampNeg = 10 := by have y0 := q1212i; omega
          have hc9 : c = 100110 := by rw [hs9] at hcl; exact hcl.symm
          obtain ⟨y0, ye, X2, S2, E2⟩ := evA_n hE hc9
          have hu1 : (u - 1).toNatClampNeg = top - 1 := zof_cl ((zsbM (b := 1) hu rfl (by omega) (by decide)).trans (by omega))
          refine tw_aload rfl rfl ?_
          refine tw_getS rfl (hs_111_49 hF.1) ?_
          refine tw_iload rfl rfl ?_
          refine tw_push rfl ?_
          refine tw_isub rfl ?_
          refine tw_aload rfl rfl ?_
          refine tw_getS rfl (hs_111_49 hF.1) ?_
          refine tw_iload rfl rfl ?_
          refine tw_push rfl ?_
          refine tw_isub rfl ?_
          refine tw_lald rfl (fun f1218 => ?_)
          refine tw_push rfl ?_
          refine tw_lc_ne rfl rfl (fun q1219 => ?_) (fun q1219 => ?_)
          · try dsimp only [tvI_i, tvJ_j, tvR_r] at q1219
            refine tw_push rfl ?_
            refine tw_stat1 rfl (g_truth0 hG) (fun w9 h9 p1220 => ?_)
            obtain ⟨rfl, e9⟩ := p1220
            obtain rfl := e9.symm
            refine tw_last rfl (fun f1221 => ?_)
            refine tG_lst f1221 hF.1 (fun h3 a3 => ?_)
            try dsimp only [tvI_i, tvJ_j, tvR_r] at a3
            have hF3 := wFr_s hF a3
            refine tw_goto rfl ?_
            refine tw_iinc rfl rfl ?_
            refine tw_goto rfl ?_
            have hk1 : (z + 1).toInt = ((500 * q + (k + 1) : Nat) : Int) := (zincN hz (by omega)).trans (by omega)
            have hkl : k + 1 + e3.length = b + e.length := by omega
            rw [hu1] at a3 q1219
            have a3 : mJs 144 (top - 1) (1 - tJ h1 144 (top - 1)) h1 h3 := by rw [ye, b64_0 q1219]; exact a3
            have E3 : evA (tJ h 143) (fun i => mCode (tA h 133 (500 * q + i)).toNatClampNeg (tA h 134 (500 * q + i)).toNatClampNeg) (tJ h3 144) [wv (tJ h 143) e] (k + 1) top e3 X2 S2 := by rw [mJs_g a3 rfl]; exact E2
            exact tG_cut (zW_mono zTt G dp) (Or.inr ⟨rfl, rfl, h3, k + 1, top, z + 1, u, e3, X2, S2, rfl, hF3, hk1, hu, hkl, E3, rfl⟩)
          · try dsimp only [tvI_i, tvJ_j, tvR_r] at q1219
            refine tw_push rfl ?_
            refine tw_goto rfl ?_
            refine tw_stat1 rfl (g_truth1 hG) (fun w9 h9 p1222 => ?_)
            obtain ⟨rfl, e9⟩ := p1222
            obtain rfl := e9.symm
            refine tw_last rfl (fun f1223 => ?_)
            refine tG_lst f1223 hF.1 (fun h3 a3 => ?_)
            try dsimp only [tvI_i, tvJ_j, tvR_r] at a3
            have hF3 := wFr_s hF a3
            refine tw_goto rfl ?_
            refine tw_iinc rfl rfl ?_
            refine tw_goto rfl ?_
            have hk1 : (z + 1).toInt = ((500 * q + (k + 1) : Nat) : Int) := (zincN hz (by omega)).trans (by omega)
            have hkl : k + 1 + e3.length = b + e.length := by omega
            rw [hu1] at a3 q1219
            have a3 : mJs 144 (top - 1) (1 - tJ h1 144 (top - 1)) h1 h3 := by rw [ye, b64_1 q1219]; exact a3
            have E3 : evA (tJ h 143) (fun i => mCode (tA h 133 (500 * q + i)).toNatClampNeg (tA h 134 (500 * q + i)).toNatClampNeg) (tJ h3 144) [wv (tJ h 143) e] (k + 1) top e3 X2 S2 := by rw [mJs_g a3 rfl]; exact E2
            exact tG_cut (zW_mono zTt G dp) (Or.inr ⟨rfl, rfl, h3, k + 1, top, z + 1, u, e3, X2, S2, rfl, hF3, hk1, hu, hkl, E3, rfl⟩)
      · try dsimp only [tvI_i, tvJ_j, tvR_r] at q1210
        have q1210i := zeqi (Y := 1) (by decide) q1210
        have hs9 : (tA h 133 (500 * q + k)).toNatClampNeg = 1 := by have y0 := q1210i; omega
        have hc8 : (if (tA h 134 (500 * q + k)).toNatClampNeg < 12 then 100000 + (tA h 134 (500 * q + k)).toNatClampNeg else 200000 + (tA h 134 (500 * q + k)).toNatClampNeg) = c := by rw [hs9] at hcl; exact hcl
        have hc7 : (tA h 134 (500 * q + k)).toNatClampNeg < 12 := by
          refine Classical.byContradiction (fun y => ?_)
          rw [if_neg y] at hc8
          have y2 := (evA_j hE (by omega) (by omega)).2.2.1
          omega
        rw [if_pos hc7] at hc8
        obtain ⟨y80, y12, X2, S2, E2⟩ := evA_v hE (by omega)
        refine tw_aload rfl rfl ?_
        refine tw_getS rfl (hs_111_49 hF.1) ?_
        refine tw_iload rfl rfl ?_
        refine tw_aload rfl rfl ?_
        refine tw_getS rfl (hs_111_48 hF.1) ?_
        refine tw_aload rfl rfl ?_
        refine tw_getS rfl (hs_111_37 hF.1) ?_
        refine tw_iload rfl rfl ?_
        refine tw_iald rfl (fun f1224 => ?_)
        refine tw_lald rfl (fun f1225 => ?_)
        refine tw_last rfl (fun f1226 => ?_)
        refine tG_lst f1226 hF.1 (fun h3 a3 => ?_)
        try dsimp only [tvI_i, tvJ_j, tvR_r] at a3
        have hF3 := wFr_s hF a3
        refine tw_iinc rfl rfl ?_
        refine tw_goto rfl ?_
        refine tw_iinc rfl rfl ?_
        refine tw_goto rfl ?_
        have hk1 : (z + 1).toInt = ((500 * q + (k + 1) : Nat) : Int) := (zincN hz (by omega)).trans (by omega)
        have hkl : k + 1 + e3.length = b + e.length := by omega
        rw [zof_cl hu, hF.2.2.2.2.2 143 (by decide), e4, show (tA h 134 (500 * q + k)).toNatClampNeg = c - 100000 by omega, ← vOf_w (W := (tJ h 143)) (by omega)] at a3
        have E3 : evA (tJ h 143) (fun i => mCode (tA h 133 (500 * q + i)).toNatClampNeg (tA h 134 (500 * q + i)).toNatClampNeg) (tJ h3 144) [wv (tJ h 143) e] (k + 1) (top + 1) e3 X2 S2 := by rw [mJs_g a3 rfl]; exact E2
        exact tG_cut (zW_mono zTt G dp) (Or.inr ⟨rfl, rfl, h3, k + 1, top + 1, z + 1, u + 1, e3, X2, S2, rfl, hF3, hk1, zincN hu (by omega), hkl, E3, rfl⟩)
    · try dsimp only [tvI_i, tvJ_j, tvR_r] at q1208
      have q1208i := zeqi (Y := 0) (by decide) q1208
      have hs9 : (tA h 133 (500 * q + k)).toNatClampNeg = 0 := by have y0 := q1208i; omega
      have hc9 : c = (tA h 134 (500 * q + k)).toNatClampNeg := by rw [hs9] at hcl; exact hcl.symm
      obtain ⟨y80, y12, X2, S2, E2⟩ := evA_v hE (by omega)
      refine tw_aload rfl rfl ?_
      refine tw_getS rfl (hs_111_49 hF.1) ?_
      refine tw_iload rfl rfl ?_
      refine tw_aload rfl rfl ?_
      refine tw_getS rfl (hs_111_37 hF.1) ?_
      refine tw_iload rfl rfl ?_
      refine tw_iald rfl (fun f1227 => ?_)
      refine tw_i2l rfl ?_
      refine tw_last rfl (fun f1228 => ?_)
      refine tG_lst f1228 hF.1 (fun h3 a3 => ?_)
      try dsimp only [tvI_i, tvJ_j, tvR_r] at a3
      have hF3 := wFr_s hF a3
      refine tw_iinc rfl rfl ?_
      refine tw_goto rfl ?_
      refine tw_iinc rfl rfl ?_
      refine tw_goto rfl ?_
      have hk1 : (z + 1).toInt = ((500 * q + (k + 1) : Nat) : Int) := (zincN hz (by omega)).trans (by omega)
      have hkl : k + 1 + e3.length = b + e.length := by omega
      rw [zof_cl hu, ← vOf_n (W := (tJ h 143)) (c := c) (by omega) (by rw [hval, hc9])] at a3
      have E3 : evA (tJ h 143) (fun i => mCode (tA h 133 (500 * q + i)).toNatClampNeg (tA h 134 (500 * q + i)).toNatClampNeg) (tJ h3 144) [wv (tJ h 143) e] (k + 1) (top + 1) e3 X2 S2 := by rw [mJs_g a3 rfl]; exact E2
      exact tG_cut (zW_mono zTt G dp) (Or.inr ⟨rfl, rfl, h3, k + 1, top + 1, z + 1, u + 1, e3, X2, S2, rfl, hF3, hk1, zincN hu (by omega), hkl, E3, rfl⟩)
theorem g_tells {G : zG} (hG : G.1 = zProg) {h : zH} {q K kd t0 : Nat} {y k9 t9 : Int32} {cs : List Nat} {cl : Nat → rCt} (hs : tSh h) (D : rDm h q K cs cl) (hy : y.toInt = q) (hq : q < 10) (hk9 : k9.toInt = kd) (hkd : kd ≤ 3) (ht9 : t9.toInt = t0) (h133 : ∀ i, i < 5000 → 0 ≤ (tA h 133 i).toInt ∧ (tA h 133 i).toInt ≤ 14) (h134 : ∀ i, i < 5000 → 0 ≤ (tA h 134 i).toInt ∧ (tA h 134 i).toInt ≤ 99999) (h135 : ∀ i, i < 120 → 0 ≤ (tA h 135 i).toInt ∧ (tA h 135 i).toInt ≤ 3) (h136 : ∀ i, i < 120 → 0 ≤ (tA h 136 i).toInt ∧ (tA h 136 i).toInt ≤ 99999) (h138 : ∀ i, i < 120 → 0 ≤ (tA h 138 i).toInt ∧ (tA h 138 i).toInt ≤ 410) (h139 : ∀ i, i < 120 → 0 ≤ (tA h 139 i).toInt ∧ (tA h 139 i).toInt ≤ 410) : tC zTt G 232 [.ref 111, .int y, .int k9, .int t9] h (fun w h2 => wFr 144 h h2 ∧ fTr (tJ h 143) cs cl K (thc kd t0) (fun i => 12 * q + i) w) := by
  refine tC_in (by rw [hG]; rfl) (fun dp => ?_)
  have m12 : (12 * y).toInt = ((12 * q : Nat) : Int) := zmul12 hy hq
  have hyq : y.toNatClampNeg = q := zof_cl hy
  have hK12 := D.few
  refine tw_push rfl ?_
  refine tw_istore rfl ?_
  refine tG_loop (zW_mono zTt G dp) (zW_conj zTt G dp) (V := fun pc L st h9 _ _ => pc = 3 ∧ st = [] ∧ ∃ (h1 : zH) (i : Nat) (x : Int32) (l5 l6 : Option Value), h1 = h9 ∧ wFr 144 h h1 ∧ i ≤ K ∧ x.toInt = (i : Int) ∧ (∀ j, j < i → ¬ hit (tJ h 143) cs (cl j) (thc kd t0)) ∧ L = [some (.ref 111), some (.int y), some (.int k9), some (.int t9), some (.int x), l5, l6]) ?_ (⟨rfl, rfl, h, 0, 0, _, _, rfl, wFr_r hs, Nat.zero_le _, rfl, fun j hj => absurd hj (Nat.not_lt_zero _), rfl⟩)
  rintro _ _ _ _ _ _ ⟨rfl, rfl, h1, i, x, l5, l6, rfl, hF, hiK, hx, hall, rfl⟩
  have hcK : (tA h1 140 y.toNatClampNeg).toInt = (K : Int) := by rw [hF.2.2.1, hyq]; exact D.cnt
  refine tw_iload rfl rfl ?_
  refine tw_aload rfl rfl ?_
  refine tw_getS rfl (hs_111_43 hF.1) ?_
  refine tw_iload rfl rfl ?_
  refine tw_iald rfl (fun f1229 => ?_)
  refine tw_ic_ge rfl (fun q1230 => ?_) (fun q1230 => ?_)
  · try dsimp only [tvI_i, tvJ_j, tvR_r] at q1230
    refine tw_push rfl ?_
    exact tw_iret rfl ⟨hF, Or.inl ⟨rfl, fun i9 h9 => hall i9 (by have y2 := hcK; omega)⟩⟩
  · try dsimp only [tvI_i, tvJ_j, tvR_r] at q1230
    have eA := hF.2.2.1
    have hi : i < K := by have y1 := hcK; omega
    have hrow : (12 * y + x).toInt = ((12 * q + i : Nat) : Int) := zadN m12 hx (by omega) (by omega)
    have zz : (12 * y + x).toNatClampNeg = 12 * q + i := zof_cl hrow
    have hr := D.row i hi
    have c1 := h135 (12 * q + i) (by omega)
    have c2 := h136 (12 * q + i) (by omega)
    have c3 : ((cl i).1, (cl i).2.1, (cl i).2.2.1, (cl i).2.2.2) = (thc (tA h 135 (12 * q + i)).toNatClampNeg (tA h 136 (12 * q + i)).toNatClampNeg, (tA h 137 (12 * q + i)).toNatClampNeg, (tA h 138 (12 * q + i)).toNatClampNeg, (tA h 139 (12 * q + i)).toNatClampNeg) := by rw [← hr]; rfl
    have c4 := congrArg (fun z : rCt => z.1) c3
    have c6 := congrArg (fun z : rCt => z.2.2.1) c3
    have c7 := congrArg (fun z : rCt => z.2.2.2) c3
    dsimp only at c4 c6 c7
    have w1 : tA h1 135 (12 * y + x).toNatClampNeg = tA h 135 (12 * q + i) := by rw [eA, zz]
    have w2 : tA h1 136 (12 * y + x).toNatClampNeg = tA h 136 (12 * q + i) := by rw [eA, zz]
    have w3 : (tA h1 138 (12 * y + x).toNatClampNeg).toInt = ((cl i).2.2.1 : Int) := by rw [eA, zz, c6]; exact (zclx (h138 (12 * q + i) (by omega)).1).symm
    have w4 : (tA h1 139 (12 * y + x).toNatClampNeg).toInt = ((cl i).2.2.2 : Int) := by rw [eA, zz, c7]; exact (zclx (h139 (12 * q + i) (by omega)).1).symm
    have hth : (cl i).1 = thc kd t0 ↔ tA h1 135 (12 * y + x).toNatClampNeg = k9 ∧ tA h1 136 (12 * y + x).toNatClampNeg = t9 := by
      rw [c4, thc_i (by rw [zclE]; omega) hkd, w1, w2]
      constructor
      · rintro ⟨u1, u2⟩
        exact ⟨Int32.toInt_inj.mp (by rw [hk9, ← u1]; exact (zclx c1.1).symm), Int32.toInt_inj.mp (by rw [ht9, ← u2]; exact (zclx c2.1).symm)⟩
      · rintro ⟨u1, u2⟩
        exact ⟨by rw [u1]; exact zof_cl hk9, by rw [u2]; exact zof_cl ht9⟩
    refine tw_push rfl ?_
    refine tw_iload rfl rfl ?_
    refine tw_imul rfl ?_
    refine tw_iload rfl rfl ?_
    refine tw_iadd rfl ?_
    refine tw_istore rfl ?_
    refine tw_aload rfl rfl ?_
    refine tw_getS rfl (hs_111_38 hF.1) ?_
    refine tw_iload rfl rfl ?_
    refine tw_iald rfl (fun f1231 => ?_)
    refine tw_iload rfl rfl ?_
    refine tw_ic_ne rfl (fun q1232 => ?_) (fun q1232 => ?_)
    · try dsimp only [tvI_i, tvJ_j, tvR_r] at q1232
      have q1232i := zneq rfl q1232
      refine tw_push rfl ?_
      refine tw_istore rfl ?_
      refine tw_iload rfl rfl ?_
      refine tw_if_eq rfl (fun _ => ?_) (fun z => absurd z (by decide))
      refine tw_iinc rfl rfl ?_
      refine tw_goto rfl ?_
      have hx9 : (x + 1).toInt = ((i + 1 : Nat) : Int) := zincN hx (by omega)
      have hno : ¬ hit (tJ h 143) cs (cl i) (thc kd t0) := (fun z => q1232 (hth.mp z.1).1)
      exact tG_cut (zW_mono zTt G dp) (Or.inr ⟨rfl, rfl, _, i + 1, x + 1, _, _, rfl, hF, by omega, hx9, fun j hj => (Classical.em (j = i)).elim (fun z => by rw [z]; exact hno) (fun z => hall j (by omega)), rfl⟩)
    · try dsimp only [tvI_i, tvJ_j, tvR_r] at q1232
      have q1232i := zeqi rfl q1232
      refine tw_aload rfl rfl ?_
      refine tw_getS rfl (hs_111_39 hF.1) ?_
      refine tw_iload rfl rfl ?_
      refine tw_iald rfl (fun f1233 => ?_)
      refine tw_iload rfl rfl ?_
      refine tw_ic_ne rfl (fun q1234 => ?_) (fun q1234 => ?_)
      · try dsimp only [tvI_i, tvJ_j, tvR_r] at q1234
        have q1234i := zneq rfl q1234
        refine tw_push rfl ?_
        refine tw_istore rfl ?_
        refine tw_iload rfl rfl ?_
        refine tw_if_eq rfl (fun _ => ?_) (fun z => absurd z (by decide))
        refine tw_iinc rfl rfl ?_
        refine tw_goto rfl ?_
        have hx9 : (x + 1).toInt = ((i + 1 : Nat) : Int) := zincN hx (by omega)
        have hno : ¬ hit (tJ h 143) cs (cl i) (thc kd t0) := (fun z => q1234 (hth.mp z.1).2)
        exact tG_cut (zW_mono zTt G dp) (Or.inr ⟨rfl, rfl, _, i + 1, x + 1, _, _, rfl, hF, by omega, hx9, fun j hj => (Classical.em (j = i)).elim (fun z => by rw [z]; exact hno) (fun z => hall j (by omega)), rfl⟩)
      · try dsimp only [tvI_i, tvJ_j, tvR_r] at q1234
        have q1234i := zeqi rfl q1234
        refine tw_push rfl ?_
        refine tw_goto rfl ?_
        refine tw_istore rfl ?_
        refine tw_iload rfl rfl ?_
        refine tw_if_eq rfl (fun z => absurd z (by decide)) (fun _ => ?_)
        refine tw_aload rfl rfl ?_
        refine tw_getS rfl (hs_111_41 hF.1) ?_
        refine tw_iload rfl rfl ?_
        refine tw_iald rfl (fun f1235 => ?_)
        refine tw_aload rfl rfl ?_
        refine tw_getS rfl (hs_111_42 hF.1) ?_
        refine tw_iload rfl rfl ?_
        refine tw_iald rfl (fun f1236 => ?_)
        refine tw_ic_eq rfl (fun q1237 => ?_) (fun q1237 => ?_)
        · try dsimp only [tvI_i, tvJ_j, tvR_r] at q1237
          have q1237i := zeqi rfl q1237
          refine tw_iload rfl rfl ?_
          exact tw_iret rfl ⟨hF, Or.inr ⟨i, hi, ⟨(hth.mpr ⟨q1232, q1234⟩), Or.inl (by have y1 := q1237i; omega)⟩, hall, _, rfl, hrow⟩⟩
        · try dsimp only [tvI_i, tvJ_j, tvR_r] at q1237
          have q1237i := zneq rfl q1237
          refine tw_aload rfl rfl ?_
          refine tw_iload rfl rfl ?_
          refine tw_aload rfl rfl ?_
          refine tw_getS rfl (hs_111_41 hF.1) ?_
          refine tw_iload rfl rfl ?_
          refine tw_iald rfl (fun f1238 => ?_)
          refine tw_aload rfl rfl ?_
          refine tw_getS rfl (hs_111_42 hF.1) ?_
          refine tw_iload rfl rfl ?_
          refine tw_iald rfl (fun f1239 => ?_)
          obtain ⟨s1, s2, s3, s4, p, qq, s5, s6⟩ := rOk_t (D.ok i hi) D.nv (fun z => q1237 (Int32.toInt_inj.mp (by omega)))
          refine tw_virt3 rfl (g_answer hG hF.1 hy hq w3 (e := slc cs (cl i).2.2.1 (cl i).2.2.2) (t := true) (w4.trans (congrArg Nat.cast s1)) (by rw [← s1]; have := D.big; omega) (by rw [hF.2.2.1]; exact h133) (by rw [hF.2.2.1]; exact h134) (by rw [hF.2.2.1]; exact cdAt_h s5 s6 D.cod) s3 s4) (fun wp1240 hp1240 p1240 => ?_)
          obtain ⟨rfl, Fp1240⟩ := p1240
          have hF2 := wFr_t hF Fp1240
          rw [hF.2.2.2.2.2 143 (by decide)]
          refine tw_push rfl ?_
          refine tw_lc_eq rfl rfl (fun q1241 => ?_) (fun q1241 => ?_)
          · try dsimp only [tvI_i, tvJ_j, tvR_r] at q1241
            refine tw_iinc rfl rfl ?_
            refine tw_goto rfl ?_
            have hx9 : (x + 1).toInt = ((i + 1 : Nat) : Int) := zincN hx (by omega)
            have s0 : ¬ (cl i).2.2.1 = (cl i).2.2.2 := fun z => q1237 (Int32.toInt_inj.mp (by omega))
            have hno : ¬ hit (tJ h 143) cs (cl i) (thc kd t0) := (fun z => z.2.elim (fun y => s0 y) (fun y => y q1241))
            exact tG_cut (zW_mono zTt G dp) (Or.inr ⟨rfl, rfl, _, i + 1, x + 1, _, _, rfl, hF2, by omega, hx9, fun j hj => (Classical.em (j = i)).elim (fun z => by rw [z]; exact hno) (fun z => hall j (by omega)), rfl⟩)
          · try dsimp only [tvI_i, tvJ_j, tvR_r] at q1241
            refine tw_iload rfl rfl ?_
            exact tw_iret rfl ⟨hF2, Or.inr ⟨i, hi, ⟨(hth.mpr ⟨q1232, q1234⟩), Or.inr q1241⟩, hall, _, rfl, hrow⟩⟩
/-! a rule as it is kept, in the class and in the reference -/
noncomputable def cQd (h : zH) (b i : Nat) : rCt := ((tA h b (4 * i)).toNatClampNeg, (tA h b (4 * i + 1)).toNatClampNeg, (tA h b (4 * i + 2)).toNatClampNeg, (tA h b (4 * i + 3)).toNatClampNeg)
noncomputable def rCd (h : zH) (q a : Nat) : Prop := cArr h a = mEk h q (tN h a) ∧ tN h (a + 1) = 4 * (tA h 140 q).toNatClampNeg ∧ (∀ i, i < (tA h 140 q).toNatClampNeg → cQd h (a + 1) i = mRow h (12 * q + i) ∧ rOk (cArr h a) (mRow h (12 * q + i))) ∧ nVl (cArr h a) ≤ 80
theorem cArr_e {h h2 : zH} {a : Nat} (e1 : 0 < tN h a → tA h2 a = tA h a) (e2 : tN h2 a = tN h a) : cArr h2 a = cArr h a := by
  unfold cArr
  rw [e2]
  refine List.map_congr_left (fun i hi => ?_)
  have hi := List.mem_range.mp hi
  rw [e1 (by omega)]
theorem mEk_e {h h2 : zH} {q k : Nat} (e : ∀ i, i < 500 → tA h2 133 (500 * q + i) = tA h 133 (500 * q + i) ∧ tA h2 134 (500 * q + i) = tA h 134 (500 * q + i)) (hk : k ≤ 500) : mEk h2 q k = mEk h q k := by
  unfold mEk
  refine List.map_congr_left (fun i hi => ?_)
  have hi := List.mem_range.mp hi
  rw [(e i (by omega)).1, (e i (by omega)).2]
theorem cArr_len {h : zH} {a : Nat} : (cArr h a).length = tN h a := by unfold cArr; rw [List.length_map, List.length_range]
theorem rCd_fr {h h2 : zH} {q a : Nat} (k : rCd h q a) (hN : tN h a ≤ 400) (e1 : 0 < tN h a → tA h2 a = tA h a) (e2 : tN h2 a = tN h a) (e3 : 0 < tN h (a + 1) → tA h2 (a + 1) = tA h (a + 1)) (e4 : tN h2 (a + 1) = tN h (a + 1)) (o : ∀ i, i < 500 → tA h2 133 (500 * q + i) = tA h 133 (500 * q + i) ∧ tA h2 134 (500 * q + i) = tA h 134 (500 * q + i)) (o2 : tA h2 140 q = tA h 140 q) (o3 : ∀ i, i < (tA h 140 q).toNatClampNeg → mRow h2 (12 * q + i) = mRow h (12 * q + i)) : rCd h2 q a := by
  obtain ⟨k1, k2, k3, k4⟩ := k
  have eC := cArr_e e1 e2
  refine ⟨?_, ?_, fun i hi => ?_, ?_⟩
  · rw [eC, e2, k1]
    exact (mEk_e o (by omega)).symm
  · rw [e4, o2]
    exact k2
  · rw [o2] at hi
    rw [o3 i hi, eC]
    have y := k3 i hi
    refine ⟨?_, y.2⟩
    rw [← y.1]
    unfold cQd
    rw [e3 (by omega)]
  · rw [eC]
    exact k4
theorem mRow_e {h h2 : zH} {i : Nat} (o : ∀ p, 135 ≤ p → p ≤ 139 → tA h2 p i = tA h p i) : mRow h2 i = mRow h i := by
  unfold mRow
  rw [o 135 (by decide) (by decide), o 136 (by decide) (by decide), o 137 (by decide) (by decide), o 138 (by decide) (by decide), o 139 (by decide) (by decide)]
/-- what the two evaluators stand on -/
theorem rCd_D {xs : Nat → Int32} {τ : List Nat} {h : zH} {q a : Nat} (hB : zBs xs τ h) (hq : q < 10) (h50 : tO h 50 q = some a) (h51 : tO h 51 q = some (a + 1)) (k : rCd h q a) : rDt h a (a + 1) (tA h 140 q).toNatClampNeg (cArr h a) (fun i => mRow h (12 * q + i)) ∧ rDm h q (tA h 140 q).toNatClampNeg (cArr h a) (fun i => mRow h (12 * q + i)) := by
  obtain ⟨k1, k2, k3, k4⟩ := k
  have t1 := arr_tag hB (p := 50) (q := q) rfl rfl hq (by decide) h50
  have t2 := arr_tag hB (p := 51) (q := q) rfl rfl hq (by decide) h51
  obtain ⟨-, b2, b3⟩ := tkd_v hB t1 rfl
  obtain ⟨-, -, c3⟩ := tkd_v hB t2 rfl
  have d := (ka_140 hB).2 q hq
  have hK : (tA h 140 q).toNatClampNeg ≤ 12 := by rw [zclE]; omega
  refine ⟨⟨rfl, b2, fun i hi => (b3 i hi).1, k2, hK, fun i hi => ?_, fun i hi => (k3 i hi).2, k4⟩, ⟨fun i hi => ?_, by rw [cArr_len]; exact b2, (zclx d.1).symm, hK, fun i hi => rfl, fun i hi => (k3 i hi).2, k4⟩⟩
  · have y := (k3 i hi).1
    dsimp only
    rw [← y]
    exact ⟨(zclx (c3 _ (by omega)).1).symm, (zclx (c3 _ (by omega)).1).symm, (zclx (c3 _ (by omega)).1).symm, (zclx (c3 _ (by omega)).1).symm⟩
  · rw [cArr_len] at hi
    rw [k1]
    unfold mEk
    rw [List.getElem?_map, List.getElem?_range hi]
    rfl
theorem tfr_vn {xs : Nat → Int32} {τ : List Nat} {h h2 : zH} {W : Nat → Nat → Bool} {p t : Nat} (hB : zBs xs τ h) (hf : yFr W τ h h2) (ht : τ[p]? = some t) : tN h2 p = tN h p := by
  obtain ⟨ct, c, a1, a2, -⟩ := hB.1.2 _ _ ht
  obtain ⟨c2, b1, b2⟩ := hf _ _ _ ht a2
  unfold tN
  rw [a2, b1]
  match c, c2, b2 with
  | .inr (x, fs), .inr (y, gs), b2 => rfl
  | .inl (k, N, x), .inl (k2, N2, y), b2 => exact b2.2.1.symm
theorem cCls_at {h : zH} {b : Nat} {l : List rCt} (e : cCls h b l.length = l) {i : Nat} (hi : i < l.length) : l[i]? = some (cQd h b i) := by
  rw [← e]
  unfold cCls
  rw [List.getElem?_map, List.getElem?_range hi]
  rfl
noncomputable def R_rcd (h : zH) : Prop := ∀ q : Nat, (q : Int) < (tvI (tF h 48 3)).toInt → q < 10 → ∃ a, 182 ≤ a ∧ tO h 50 q = some a ∧ tO h 51 q = some (a + 1) ∧ rCd h q a
/-- rules stay what they were, and one may come -/
theorem a_rcd {xs : Nat → Int32} {τ τ2 τ3 : List Nat} {y : Int32} {h h2 h3 : zH} {w w2 : Option Value} {W1 W2 : Nat → Nat → Bool} (hB : zBs xs τ h) (hB2 : zBs xs τ2 h2) (hB3 : zBs xs τ3 h3) (r1 : yFr W1 τ h h2) (r2 : yFr W2 τ2 h2 h3) (v1 : W2 152 0 = false) (v2 : W2 153 0 = false) (hN : R_rules h) (hR : R_rcd h) (e2 : tF h2 111 30 = tF h 111 30) (oc : ∀ p, 133 ≤ p → p ≤ 140 → tA h2 p = tA h p) (t2 : tF h3 48 3 = tF h2 48 3) (t3 : tO h3 50 = tO h2 50) (t4 : tO h3 51 = tO h2 51) (k2 : ph_rum y h w h2 w2 h3) : R_rcd h3 := by
  have hN0 := hN
  unfold R_rules at hN0
  have i48 := hi_48_3 (zBs_sh hB)
  rcases k2 with ⟨-, rfl, -, rfl⟩ | ⟨r, ⟨f, hr⟩, k1, k2⟩
  · exact hR
  · obtain ⟨m1, m2, k2⟩ := k2
    have E30 : tvI (tF h2 111 30) = tvI (tF h 48 3) := by rw [e2, ← hN0]
    have b48 := kb_48_3 hB
    have hcl : (((tvI (tF h 48 3)).toNatClampNeg : Nat) : Int) = (tvI (tF h 48 3)).toInt := zclx b48.1
    -- an old rule
    have old : ∀ q a : Nat, (q : Int) < (tvI (tF h 48 3)).toInt → q < 10 → 182 ≤ a → tO h 50 q = some a → tO h 51 q = some (a + 1) → rCd h q a → (∀ p, 182 ≤ p → 0 < tN h p → tA h2 p = tA h p) → tO h2 50 q = some a → tO h2 51 q = some (a + 1) → tA h3 140 q = tA h2 140 q → rCd h3 q a := by
      intro q a hq h10 a1 a2 a3 k hfr b2 b3 m6
      have s1 := arr_tag hB (p := 50) (q := q) rfl rfl h10 (by decide) a2
      have s2 := arr_tag hB (p := 51) (q := q) rfl rfl h10 (by decide) a3
      have s3 := arr_tag hB2 (p := 50) (q := q) rfl rfl h10 (by decide) b2
      have s4 := arr_tag hB2 (p := 51) (q := q) rfl rfl h10 (by decide) b3
      have n1 := tfr_vn hB r1 s1
      have n2 := tfr_vn hB r1 s2
      have n3 := tfr_v hB2 r2 s3 v1
      have n4 := tfr_v hB2 r2 s4 v2
      have d := (ka_140 hB).2 q h10
      refine rCd_fr k (tkd_v hB s1 rfl).2.1 (fun z => n3.1.trans (hfr a a1 z)) (n3.2.trans n1) (fun z => n4.1.trans (hfr (a + 1) (by omega) z)) (n4.2.trans n2) (fun i hi => ?_) ?_ (fun i hi => mRow_e (fun p p1 p2 => ?_))
      · have z := m1.2.2.2.2.1 (500 * q + i) (by rw [E30]; omega)
        rw [z.1, z.2, oc 133 (by decide) (by decide), oc 134 (by decide) (by decide)]
        exact ⟨rfl, rfl⟩
      · rw [m6, oc 140 (by decide) (by decide)]
      · rw [m1.2.2.2.2.2 p (12 * q + i) p1 p2 (by rw [E30]; rw [zclE] at hi; omega), oc p (by omega) (by omega)]
    cases r with
    | inl e =>
      obtain ⟨m3, -, m4, m6, -⟩ := k2
      rcases k1 with k1 | ⟨k1, -, k3, k4, k5, k6, k7⟩
      · exact absurd m3 (Nat.not_lt_of_le k1)
      · intro q hq h10
        rw [t2, k3] at hq
        obtain ⟨a, a1, a2, a3, k⟩ := hR q hq h10
        have b2 : tO h2 50 q = some a := by rw [k6]; exact a2
        have b3 : tO h2 51 q = some (a + 1) := by rw [k7]; exact a3
        exact ⟨a, a1, by rw [t3]; exact b2, by rw [t4]; exact b3, old q a hq h10 a1 a2 a3 k (fun p hp _ => k5 p hp) b2 b3 (congrFun m6 q)⟩
    | inr x =>
      obtain ⟨-, m4, m5, -, m7, m8, m9⟩ := k2
      obtain ⟨k1, -, k3, k4, a0, g1, g2, g3, g4, g5, g6, g7⟩ := k1
      rw [E30] at m5 m7 m8 m9
      obtain ⟨i1, i2⟩ := rRu_ok f _ _ _ hr ⟨Nat.zero_le _, Nat.zero_le _⟩ (fun c hc => by cases hc)
      have n1 : (tvI (tF h 48 3) + 1).toInt = (tvI (tF h 48 3)).toInt + 1 := (zincN (n := (tvI (tF h 48 3)).toNatClampNeg) hcl.symm (by omega)).trans (by omega)
      intro q hq h10
      rw [t2, k3] at hq
      have hq : (q : Int) < (tvI (tF h 48 3) + 1).toInt := hq
      by_cases z : q = (tvI (tF h 48 3)).toNatClampNeg
      · have b2 : tO h2 50 q = some a0 := by rw [g2]; exact if_pos z
        have b3 : tO h2 51 q = some (a0 + 1) := by rw [g3]; exact if_pos z
        have s3 := arr_tag hB2 (p := 50) (q := q) rfl rfl h10 (by decide) b2
        have s4 := arr_tag hB2 (p := 51) (q := q) rfl rfl h10 (by decide) b3
        have n3 := tfr_v hB2 r2 s3 v1
        have n4 := tfr_v hB2 r2 s4 v2
        have eC : cArr h3 a0 = x.1.2.2 := (cArr_e (fun _ => n3.1) n3.2).trans g4
        have eL : tN h3 a0 = x.1.2.2.length := by rw [← eC, cArr_len]
        rw [← z] at m5 m8 m9
        refine ⟨a0, g1, by rw [t3]; exact b2, by rw [t4]; exact b3, ?_, ?_, fun i hi => ?_, ?_⟩
        · rw [eC, eL]
          exact m9
        · rw [n4.2, g5, m5]
        · rw [m5] at hi
          have y1 := m8 i hi
          have y2 := cCls_at g6 hi
          have y3 : cQd h3 (a0 + 1) i = cQd h2 (a0 + 1) i := by
            unfold cQd
            rw [n4.1]
          rw [y1] at y2
          have y4 := Option.some.inj y2
          refine ⟨by rw [y3, ← y4], ?_⟩
          rw [eC]
          exact i2 _ (List.mem_of_getElem? y1)
        · rw [eC]
          have := i1.1
          have := i1.2
          omega
      · have hq2 : (q : Int) < (tvI (tF h 48 3)).toInt := by rw [n1] at hq; omega
        obtain ⟨a, a1, a2, a3, k⟩ := hR q hq2 h10
        have b2 : tO h2 50 q = some a := by rw [g2]; exact (if_neg z).trans a2
        have b3 : tO h2 51 q = some (a + 1) := by rw [g3]; exact (if_neg z).trans a3
        exact ⟨a, a1, by rw [t3]; exact b2, by rw [t4]; exact b3, old q a hq2 h10 a1 a2 a3 k g7 b2 b3 (m7 q z).1⟩
theorem and_5 {A B C D E : Prop} (x : A ∧ B ∧ C ∧ D) (y : E) : A ∧ B ∧ C ∧ D ∧ E := ⟨x.1, x.2.1, x.2.2.1, x.2.2.2, y⟩
/-! counting by months -/
noncomputable def cN (w tl : Nat → Int) : Nat → Nat → Int
  | 0, _ => 0
  | n + 1, t => cN w tl n t + (if tl n = (t : Int) then w n else 0)
noncomputable def bN (w tl : Nat → Int) : Nat → Int → Int
  | 0, _ => 0
  | n + 1, t => bN w tl n t + (if tl n ≤ t then w n else 0)
noncomputable def aU (f : Nat → Int) : Nat → Int
  | 0 => f 0
  | t + 1 => aU f t + f (t + 1)
theorem aU_add (f g : Nat → Int) (m : Nat) : aU (fun t => f t + g t) m = aU f m + aU g m := by
  induction m with
  | zero => rfl
  | succ m ih =>
    show aU (fun t => f t + g t) m + (f (m + 1) + g (m + 1)) = aU f m + f (m + 1) + (aU g m + g (m + 1))
    rw [ih]
    omega
theorem aU_ite {c x : Int} (hc : 0 ≤ c) (m : Nat) : aU (fun t => if c = (t : Int) then x else 0) m = if c ≤ (m : Int) then x else 0 := by
  induction m with
  | zero =>
    show (if c = ((0 : Nat) : Int) then x else 0) = _
    by_cases h : c = ((0 : Nat) : Int)
    · rw [if_pos h, if_pos (by omega)]
    · rw [if_neg h, if_neg (by omega)]
  | succ m ih =>
    show aU (fun t => if c = (t : Int) then x else 0) m + (if c = ((m + 1 : Nat) : Int) then x else 0) = _
    rw [ih]
    by_cases h : c ≤ (m : Int)
    · rw [if_pos h, if_neg (by omega), if_pos (by omega), Int.add_zero]
    · rw [if_neg h]
      by_cases h2 : c = ((m + 1 : Nat) : Int)
      · rw [if_pos h2, if_pos (by omega), Int.zero_add]
      · rw [if_neg h2, if_neg (by omega), Int.zero_add]
theorem aU_0 (m : Nat) : aU (fun _ => 0) m = 0 := by
  induction m with
  | zero => rfl
  | succ m ih =>
    show aU (fun _ => 0) m + 0 = 0
    rw [ih]
    rfl
theorem aU_cN {w tl : Nat → Int} {n : Nat} (h : ∀ i, i < n → 0 ≤ tl i) (m : Nat) : aU (cN w tl n) m = bN w tl n m := by
  induction n with
  | zero => exact aU_0 m
  | succ n ih =>
    show aU (fun t => cN w tl n t + (if tl n = (t : Int) then w n else 0)) m = bN w tl n m + (if tl n ≤ (m : Int) then w n else 0)
    rw [aU_add, ih (fun i hi => h i (by omega)), aU_ite (h n (by omega))]
theorem bN_b {w tl : Nat → Int} {B : Int} {n : Nat} (h : ∀ i, i < n → 0 ≤ w i ∧ w i ≤ B) (hB : 0 ≤ B) (m : Int) : 0 ≤ bN w tl n m ∧ bN w tl n m ≤ B * n := by
  induction n with
  | zero => exact ⟨Int.le_refl _, by rw [Int.mul_comm]; show (0 : Int) ≤ 0 * B; rw [Int.zero_mul]; exact Int.le_refl _⟩
  | succ n ih =>
    have y := ih (fun i hi => h i (by omega))
    have z := h n (by omega)
    have e : B * ((n + 1 : Nat) : Int) = B * n + B := by rw [Int.natCast_add, Int.mul_add]; show _ + B * 1 = _; rw [Int.mul_one]
    show 0 ≤ bN w tl n m + (if tl n ≤ m then w n else 0) ∧ bN w tl n m + (if tl n ≤ m then w n else 0) ≤ _
    rw [e]
    by_cases q : tl n ≤ m
    · rw [if_pos q]; omega
    · rw [if_neg q]; omega
theorem cN_b {w tl : Nat → Int} {B : Int} {n : Nat} (h : ∀ i, i < n → 0 ≤ w i ∧ w i ≤ B) (hB : 0 ≤ B) (m : Nat) : 0 ≤ cN w tl n m ∧ cN w tl n m ≤ B * n := by
  induction n with
  | zero => exact ⟨Int.le_refl _, by rw [Int.mul_comm]; show (0 : Int) ≤ 0 * B; rw [Int.zero_mul]; exact Int.le_refl _⟩
  | succ n ih =>
    have y := ih (fun i hi => h i (by omega))
    have z := h n (by omega)
    have e : B * ((n + 1 : Nat) : Int) = B * n + B := by rw [Int.natCast_add, Int.mul_add]; show _ + B * 1 = _; rw [Int.mul_one]
    show 0 ≤ cN w tl n m + (if tl n = (m : Int) then w n else 0) ∧ cN w tl n m + (if tl n = (m : Int) then w n else 0) ≤ _
    rw [e]
    by_cases q : tl n = (m : Int)
    · rw [if_pos q]; omega
    · rw [if_neg q]; omega
theorem cN_y {w tl : Nat → Int} {n t : Nat} (h : tl n = (t : Int)) : cN w tl (n + 1) t = cN w tl n t + w n := by
  show cN w tl n t + (if tl n = (t : Int) then w n else 0) = _
  rw [if_pos h]
theorem cN_n {w tl : Nat → Int} {n t : Nat} (h : tl n = (t : Int) → w n = 0) : cN w tl (n + 1) t = cN w tl n t := by
  show cN w tl n t + (if tl n = (t : Int) then w n else 0) = _
  by_cases q : tl n = (t : Int)
  · rw [if_pos q, h q, Int.add_zero]
  · rw [if_neg q, Int.add_zero]
theorem bN_e {w w2 tl tl2 : Nat → Int} {n : Nat} {t : Int} (h : ∀ i, i < n → w i = w2 i ∧ tl i = tl2 i) : bN w tl n t = bN w2 tl2 n t := by
  induction n with
  | zero => rfl
  | succ n ih =>
    show bN w tl n t + (if tl n ≤ t then w n else 0) = bN w2 tl2 n t + (if tl2 n ≤ t then w2 n else 0)
    rw [ih (fun i hi => h i (by omega)), (h n (by omega)).1, (h n (by omega)).2]
/-! an int array is written, the rest stays -/
noncomputable def mIs (p i : Nat) (x : Int32) (h h3 : zH) : Prop := tSh h3 ∧ tF h3 = tF h ∧ tJ h3 = tJ h ∧ tO h3 = tO h ∧ tN h3 = tN h ∧ tA h3 = fun q j => if q = p ∧ j = i then x else tA h q j
noncomputable def aFr (P : Nat → Prop) (h h2 : zH) : Prop := tSh h2 ∧ tF h2 = tF h ∧ tJ h2 = tJ h ∧ tO h2 = tO h ∧ tN h2 = tN h ∧ ∀ q, ¬ P q → tA h2 q = tA h q
section AFR
variable {h h1 h2 h3 : zH} {P : Nat → Prop} {p i : Nat} {x : Int32}
theorem aFr_r (hs : tSh h) : aFr P h h := ⟨hs, rfl, rfl, rfl, rfl, fun _ _ => rfl⟩
theorem aFr_t (a : aFr P h h1) (k : aFr P h1 h2) : aFr P h h2 := ⟨k.1, k.2.1.trans a.2.1, k.2.2.1.trans a.2.2.1, k.2.2.2.1.trans a.2.2.2.1, k.2.2.2.2.1.trans a.2.2.2.2.1, fun q hq => (k.2.2.2.2.2 q hq).trans (a.2.2.2.2.2 q hq)⟩
theorem aFr_m {R : Nat → Prop} (a : aFr P h h1) (hR : ∀ q, P q → R q) : aFr R h h1 := ⟨a.1, a.2.1, a.2.2.1, a.2.2.2.1, a.2.2.2.2.1, fun q hq => a.2.2.2.2.2 q (fun z => hq (hR q z))⟩
theorem aFr_s (a : aFr P h h1) (k : mIs p i x h1 h3) (hp : P p) : aFr P h h3 := aFr_t a ⟨k.1, k.2.1, k.2.2.1, k.2.2.2.1, k.2.2.2.2.1, fun q hq => by rw [k.2.2.2.2.2]; funext j; exact if_neg (fun z => hq (by rw [z.1]; exact hp))⟩
theorem mIs_x (k : mIs p i x h1 h3) : tA h3 p i = x := by rw [k.2.2.2.2.2]; exact if_pos ⟨rfl, rfl⟩
theorem mIs_o {q j : Nat} (k : mIs p i x h1 h3) (hn : q ≠ p ∨ j ≠ i) : tA h3 q j = tA h1 q j := by rw [k.2.2.2.2.2]; exact if_neg (fun z => hn.elim (fun y => y z.1) (fun y => y z.2))
theorem tG_lsi {tt : zT} {G : zG} {cd : zK} {bc bs : Nat} {rt : Option FieldType} {M : zM} {Q : zQ} {Z : zX} {f : Bool} {pc : Nat} {L : zL} {st : List Value} {c n kd : Nat} {i : Int32} (hf : tIn h p kd i) (hs : tSh h) (k : ∀ h3, mIs p i.toNatClampNeg x h h3 → tG tt G cd bc bs rt M Q Z f pc L st h3 c n) : tG tt G cd bc bs rt M Q Z f pc L st (tSA h p i.toNatClampNeg x) c n := k _ ⟨tSh_SA hs, tF_tSA _ _ _ _, tJ_tSA _ _ _ _, tO_tSA _ _ _ _, tN_tSA _ _ _ _, tA_tSA hf.cell _ _⟩
end AFR
