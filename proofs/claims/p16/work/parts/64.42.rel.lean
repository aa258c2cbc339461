noncomputable def mAs (p i : Nat) (x : Int32) (h h3 : zH) : Prop := tSh h3 ∧ tF h3 = tF h ∧ tN h3 = tN h ∧ tA h3 = fun q j => if q = p ∧ j = i then x else tA h q j
section MZ
variable {h h1 h2 h3 : zH} {b e lo p i : Nat} {X x : Int32}
theorem mFz_r (hs : tSh h) : mFz lo h h := ⟨hs, fun _ _ _ => rfl, fun _ _ _ _ _ => rfl, rfl, mLo_r, fun _ _ _ _ _ => rfl⟩
theorem mFz_w (k : mFw h h2) : mFz lo h h2 := ⟨k.1, k.2.1, fun p a b c _ => k.2.2.1 p a b c, k.2.2.2.1, k.2.2.2.2, fun p q h1 h2 _ => congrFun (k.2.2.1 p (by omega) (by omega) (by omega)) q⟩
theorem mFw_f (k : mFr h h2) : mFw h h2 := mFw_q (mFq_f k)
theorem mFz_t (a : mFz lo h h1) (k : mFz lo h1 h2) : mFz lo h h2 := ⟨k.1, fun p q z => (k.2.1 p q z).trans (a.2.1 p q z), fun p z w y v => (k.2.2.1 p z w y v).trans (a.2.2.1 p z w y v), k.2.2.2.1.trans a.2.2.2.1, mLo_t (a.2.1 111 30 (fun z => by have z := z.2; unfold mFs at z; omega)) a.2.2.2.2.1 k.2.2.2.2.1, fun p q z w v => (k.2.2.2.2.2 p q z w v).trans (a.2.2.2.2.2 p q z w v)⟩
theorem mFz_l {l2 : Nat} (hl : l2 ≤ lo) (a : mFz lo h h1) : mFz l2 h h1 := ⟨a.1, a.2.1, a.2.2.1, a.2.2.2.1, a.2.2.2.2.1, fun p q z w v => a.2.2.2.2.2 p q z w (by omega)⟩
theorem mFz_s (a : mFz lo h h1) (k : mSet b X h1 h2) (hb : mFs b ∨ b = 46 ∨ b = 47) : mFz lo h h2 := mFz_t a (mFz_w (mFw_s ⟨a.1, fun _ _ _ => rfl, fun _ _ _ _ => rfl, rfl, mLo_r⟩ k hb))
theorem mFz_a (a : mFz lo h h1) (k : mAs p i x h1 h2) (hp : 135 ≤ p ∧ p ≤ 139) (hi : lo ≤ i) : mFz lo h h2 := mFz_t a ⟨k.1, fun p q _ => by rw [k.2.1], fun q h1 h2 h3 h4 => by rw [k.2.2.2]; funext j; exact if_neg (fun z => by omega), k.2.2.1, fun q _ => ⟨by rw [k.2.2.2]; exact if_neg (fun z => by omega), by rw [k.2.2.2]; exact if_neg (fun z => by omega)⟩, fun q j h1 h2 h3 => by rw [k.2.2.2]; exact if_neg (fun z => by omega)⟩
theorem mFz_T (a : mFz lo h h1) : tA h1 132 = tA h 132 := a.2.2.1 132 (by decide) (by decide) (by decide) (by decide)
theorem mFz_i {q : Nat} (a : mFz lo h h1) (hq : ¬ (mFs q ∨ q = 46 ∨ q = 47)) : tF h1 111 q = tF h 111 q := a.2.1 111 q (fun z => hq z.2)
theorem mFz_27 (a : mFz lo h h1) : tF h1 111 27 = tF h 111 27 := mFz_i a (fun z => by unfold mFs at z; omega)
theorem mFz_30 (a : mFz lo h h1) : tF h1 111 30 = tF h 111 30 := mFz_i a (fun z => by unfold mFs at z; omega)
theorem mFz_n (a : mFz lo h h1) : mn h1 = mn h := by
  unfold mn
  rw [mFz_27 a]
theorem tG_ast {tt : zT} {G : zG} {cd : zK} {bc bs : Nat} {rt : Option FieldType} {M : zM} {Q : zQ} {Z : zX} {f : Bool} {pc : Nat} {L : zL} {st : List Value} {c n kd : Nat} {i : Int32} (hf : tIn h p kd i) (hs : tSh h) (k : ∀ h3, mAs p i.toNatClampNeg x h h3 → tG tt G cd bc bs rt M Q Z f pc L st h3 c n) : tG tt G cd bc bs rt M Q Z f pc L st (tSA h p i.toNatClampNeg x) c n := k _ ⟨tSh_SA hs, tF_tSA _ _ _ _, tN_tSA _ _ _ _, tA_tSA hf.cell _ _⟩
theorem mAs_x (k : mAs p i x h h3) : tA h3 p i = x := by rw [k.2.2.2]; exact if_pos ⟨rfl, rfl⟩
theorem mAs_o {q j : Nat} (k : mAs p i x h h3) (hq : q ≠ p) : tA h3 q j = tA h q j := by rw [k.2.2.2]; exact if_neg (fun z => hq z.1)
theorem mAs_A {q : Nat} (k : mAs p i x h h3) (hq : q ≠ p) : tA h3 q = tA h q := by funext j; exact mAs_o k hq
theorem mAs_P (k : mAs p i x h h3) (hp : 135 ≤ p ∧ p ≤ 139) (P : mP h) : mP h3 := by
  unfold mP
  rw [k.2.1, k.2.2.1, mAs_A k (q := 142) (by omega)]
  exact P
theorem mAs_m (k : mAs p i x h h3) (hp : 135 ≤ p ∧ p ≤ 139) : ms h3 = ms h ∧ mSk h3 = mSk h := by
  unfold ms mEn mSk
  rw [k.2.1, mAs_A k (q := 142) (by omega), mAs_A k (q := 133) (by omega), mAs_A k (q := 134) (by omega)]
  exact ⟨rfl, rfl⟩
theorem mAs_F {w : Nat} (k : mAs p i x h h3) (F : mFt h w) : mFt h3 w := by
  unfold mFt
  rw [k.2.1]
  exact F
theorem mAs_Z (k : mAs p i x h h3) (z : mZp h) : mZp h3 := mZp_k z (by rw [k.2.1]) (by rw [k.2.1])
/-- a clause as it stands in its row -/
noncomputable def mRow (h : zH) (i : Nat) : rCt := (if (tA h 135 i).toNatClampNeg = 0 ∧ (tA h 136 i).toNatClampNeg < 12 then (tA h 136 i).toNatClampNeg else 12 + (tA h 135 i).toNatClampNeg + 100 * (tA h 136 i).toNatClampNeg, (tA h 137 i).toNatClampNeg, (tA h 138 i).toNatClampNeg, (tA h 139 i).toNatClampNeg)
theorem mEn_len : (mEn h).length = (tvI (tF h 111 31)).toNatClampNeg := by unfold mEn; rw [List.length_map, List.length_range]
theorem rB_A {T : Nat → Int32} {n : Nat} {s : rS} : rA (rB T n (rA (rB T n s.1) s).1) (rA (rB T n s.1) s) = rA (rB T n s.1) s := by
  show rA (rB T n (rB T n s.1)) _ = _
  rw [rB_2]
  rfl
end MZ
theorem zl_14 {k : Nat} (hk : k < 4) : (ztx (k + 14)).length ≤ 200 ∧ 0 < (ztx (k + 14)).length := zl_lo (k + 12) (by omega)
theorem rWd_14 {k : Nat} (hk : k < 4) : rWd (k + 12) = ztx (k + 14) := rWd_lo (k + 12) (by omega)
theorem mFw_A {h h2 : zH} {p : Nat} (k : mFw h h2) (hp : 135 ≤ p ∧ p ≤ 139) : tA h2 p = tA h p := k.2.2.1 p (by omega) (by omega) (by omega)
theorem mFt_pos {h : zH} {e : Nat} (k : mFt h e) : 0 < e ∧ e < 100000 := k.2
theorem mSk_0 {h : zH} (d : mD h) (e : mSk h = []) : tvI (tF h 111 32) = 0 := by
  refine Int32.toInt_inj.mp (d.trans ?_)
  rw [e]
  rfl
theorem rA_1 {b : Nat} {s : rS} : (rA b s).1 = b := rfl
theorem rA_A {b v : Nat} {s : rS} : rA v (rA b s) = rA v s := rfl
theorem mIx {a y : Int32} {c : Nat} (ha : 0 ≤ a.toInt ∧ a.toInt ≤ 10) (hy : y.toInt = c) (hc : c ≤ 12) : (12 * a + y).toNatClampNeg = 12 * a.toNatClampNeg + c := by
  have n1 : (12 * a).toInt = 12 * a.toInt := by
    rw [Int32.toInt_mul, show (12 : Int32).toInt = 12 from rfl]
    exact Int.bmod_eq_of_le (by show (-2147483648 : Int) ≤ 12 * a.toInt; omega) (by show 12 * a.toInt < (2147483648 : Int); omega)
  have n2 : (12 * a + y).toInt = 12 * a.toInt + c := by
    rw [Int32.toInt_add, n1, hy]
    exact Int.bmod_eq_of_le (by show (-2147483648 : Int) ≤ 12 * a.toInt + c; omega) (by show 12 * a.toInt + c < (2147483648 : Int); omega)
  rw [zclE, zclE, n2]
  omega
noncomputable def mCo (T : Nat → Int32) (n I : Nat) (r : Nat ⊕ (rS × rCt)) (h2 : zH) : Prop := match r with
  | .inl e => mFt h2 e ∧ mZp h2
  | .inr x => mP h2 ∧ ms h2 = rA (rB T n x.1.1) x.1 ∧ tvI (tF h2 111 32) = 0 ∧ mRow h2 I = x.2
theorem mCo_l {T : Nat → Int32} {n I e : Nat} {r : Nat ⊕ (rS × rCt)} {h2 : zH} (hr : r = .inl e) (F : mFt h2 e) (Z : mZp h2) : mCo T n I r h2 := by
  rw [hr]
  exact ⟨F, Z⟩
theorem mCo_r {T : Nat → Int32} {n I : Nat} {r : Nat ⊕ (rS × rCt)} {h2 : zH} {s : rS} {t : rCt} (hr : r = .inr (s, t)) (p : mP h2) (e : ms h2 = rA (rB T n s.1) s) (d : tvI (tF h2 111 32) = 0) (w : mRow h2 I = t) : mCo T n I r h2 := by
  rw [hr]
  exact ⟨p, e, d, w⟩
theorem y_blanks {G : zG} (hG : G.1 = zProg) (hX : G.2.1 = ztx) {h : zH} {T : Nat → Int32} {n : Nat} (hs : tSh h) {ef : Nat} (hp : mFt h ef) (hT : tA h 132 = T) (hN : mn h = n) (h0 : mZp h) : tC zTt G 203 [.ref 111] h (fun w h2 => w = none ∧ mFr h h2 ∧ mFt h2 ef ∧ mZp h2) := by
  refine tC_in (by rw [hG]; rfl) (fun dp => ?_)
  have g0 := mFr_r hs
  refine tG_loop (zW_mono zTt G dp) (zW_conj zTt G dp) (V := fun pc L st h9 _ _ => pc = 0 ∧ st = [] ∧ ∃ h1, h1 = h9 ∧ mFr h h1 ∧ mFt h1 ef ∧ mZp h1 ∧ L = [some (.ref 111)]) ?_ (⟨rfl, rfl, _, rfl, g0, hp, h0, rfl⟩)
  rintro _ _ _ _ _ _ ⟨rfl, rfl, h1, rfl, g1, z1, h0, rfl⟩
  refine tw_aload rfl rfl ?_
  refine tw_virt0 rfl (g_sign hG hX (g1).1 ((mFr_T g1).trans hT) ((mFr_n g1).trans hN) h0.1) (fun wp577 hp577 p577 => ?_)
  obtain ⟨⟨cp577, rfl, kp577⟩, rfl⟩ := p577
  refine tw_push rfl ?_
  refine tw_ic_ne rfl (fun q578 => ?_) (fun q578 => ?_)
  · try dsimp only [tvI_i, tvJ_j, tvR_r] at q578
    have q578i := zneq (Y := 32) (by decide) q578
    exact tw_vret rfl ⟨rfl, g1, z1, h0⟩
  · try dsimp only [tvI_i, tvJ_j, tvR_r] at q578
    have q578i := zeqi (Y := 32) (by decide) q578
    refine tw_aload rfl rfl ?_
    refine tw_dup rfl ?_
    refine tw_getS rfl (hi_111_28 (g1).1) ?_
    refine tw_push rfl ?_
    refine tw_iadd rfl ?_
    refine tw_put rfl (fun f579 => ?_)
    refine tG_setm f579 (hw_111_28 f579 (g1).1) (fun hf579 ef579 => ?_)
    try dsimp only [tvI_i] at ef579
    have gf579 := mFr_s g1 ef579 (by unfold mFs; omega)
    have zf579 := mFt_s z1 ef579 (by decide)
    have wf579 := (sgm_k kp577 32 (by decide)).mp q578
    have if579 : mZp hf579 := by
      have y := (mpos h0.1).mpr (by rw [((mFr_n g1).trans hN)]; exact wf579.1)
      have a := zj1 h0.1.1 y
      have b := h0
      unfold mZp at b ⊢
      rw [mI_x ef579, mI_o ef579 (by decide), a]
      exact ⟨⟨by omega, by omega⟩, by omega, by omega⟩
    refine tw_goto rfl ?_
    exact tG_cut (zW_mono zTt G dp) (Or.inr ⟨rfl, rfl, _, rfl, gf579, zf579, if579, rfl⟩)
theorem g_clause {G : zG} (hG : G.1 = zProg) (hX : G.2.1 = ztx) {h : zH} {T : Nat → Int32} {n : Nat} (hs : tSh h) (hp : mP h) (hT : tA h 132 = T) (hN : mn h = n) {y : Int32} {c I : Nat} (hy : y.toInt = c) (hc : c ≤ 12) (hI : I = 12 * (tvI (tF h 111 30)).toNatClampNeg + c) (hd9 : tvI (tF h 111 32) = 0) {r : Nat ⊕ (rS × rCt)} (hr0 : rCl T n c (ms h) r) : tC zTt G 224 [.ref 111, .int y] h (fun w h2 => w = none ∧ mFz I h h2 ∧ mCo T n I r h2) := by
  refine tC_in (by rw [hG]; rfl) (fun dp => ?_)
  have g0 : mFz I h h := mFz_r hs
  have hpn : (ms h).1 ≤ n := mPle hp hN
  have hn4 : n ≤ 400 := by have a := mNl hp hN; have b := hp.2.1; omega
  have c09 : (0 : Int32).toInt = 0 := rfl
  have c39 : (3 : Int32).toInt = 3 := rfl
  have c49 : (4 : Int32).toInt = 4 := rfl
  have c129 : (12 : Int32).toInt = 12 := rfl
  refine tw_aload rfl rfl ?_
  refine tw_virt0 rfl (g_blanks hG hX (g0).1 hp ((mFz_T g0).trans hT) ((mFz_n g0).trans hN)) (fun wp580 hp580 p580 => ?_)
  obtain ⟨rfl, gp580, pp580e, sp580, tp580, dp580⟩ := p580
  have gwp580 := mFw_f gp580
  have gzp580 : mFz I h hp580 := mFz_t g0 (mFz_w gwp580)
  have Dp580 : tvI (tF hp580 111 32) = 0 := by rw [dp580]; exact hd9
  have Sp580 : ms hp580 = (rA (rB T n (ms h).1) (ms h)) := sp580
  refine tw_aload rfl rfl ?_
  refine tw_getS rfl (hi_111_28 gzp580.1) ?_
  refine tw_istore rfl ?_
  refine tw_push rfl ?_
  refine tw_istore rfl ?_
  refine tG_loop (zW_mono zTt G dp) (zW_conj zTt G dp) (V := fun pc L st h9 _ _ => pc = 11 ∧ st = [] ∧ hp580 = h9 ∧ ∃ (k : Nat) (x : Int32), x.toInt = k ∧ k ≤ 4 ∧ (∀ i, i < k → ¬ rW T n (rB T n (ms h).1) (rWd (i + 12)) = true) ∧ L = [some (.ref 111), some (.int y), some (.int (tvI (tF hp580 111 28))), some (.int x), none, none]) ?_ (⟨rfl, rfl, rfl, 0, 0, rfl, by decide, fun i hi => absurd hi (Nat.not_lt_zero _), rfl⟩)
  rintro _ _ _ _ _ _ ⟨rfl, rfl, rfl, k, x, hx, hk5, hall, rfl⟩
  refine tw_iload rfl rfl ?_
  refine tw_push rfl ?_
  refine tw_ic_ge rfl (fun q581 => ?_) (fun q581 => ?_)
  · try dsimp only [tvI_i, tvJ_j, tvR_r] at q581
    refine tw_iload rfl rfl ?_
    refine tw_push rfl ?_
    refine tw_ic_ne rfl (fun q582 => ?_) (fun q582 => ?_)
    · try dsimp only [tvI_i, tvJ_j, tvR_r] at q582
      have q582i := zneq (Y := 4) (by decide) q582
      exfalso
      have z1 := q581
      have z2 := q582i
      omega
    · try dsimp only [tvI_i, tvJ_j, tvR_r] at q582
      have q582i := zeqi (Y := 4) (by decide) q582
      refine tw_aload rfl rfl ?_
      refine tw_push rfl ?_
      refine tw_iload rfl rfl ?_
      refine tw_virt2 rfl (g_fails hG hX (gzp580).1 pp580e ((mFz_T gzp580).trans hT) ((mFz_n gzp580).trans hN) (w := 0) rfl (by decide) (mPl pp580e) (by have := mPle pp580e ((mFz_n gzp580).trans hN); have := mNl pp580e ((mFz_n gzp580).trans hN); have := pp580e.2.1; omega)) (fun wp583 hp583 p583 => ?_)
      obtain ⟨rfl, gp583, Fp583, ip583, jp583⟩ := p583
      have gwp583 := mFw_f gp583
      have gzp583 : mFz I h hp583 := mFz_t gzp580 (mFz_w gwp583)
      have Zp583 : mZp hp583 := mZp_k (mZp_p pp580e) ip583 jp583
      rw [Sp580, rA_1] at Fp583
      have hk : k = 4 := by have z := q582i; omega
      have hr := rCl_0 hr0 (fun j h1 h2 => by have z := hall (j - 12) (by omega); rw [show j - 12 + 12 = j by omega] at z; exact z)
      exact tw_vret rfl ⟨rfl, gzp583, mCo_l hr Fp583 Zp583⟩
  · try dsimp only [tvI_i, tvJ_j, tvR_r] at q581
    refine tw_aload rfl rfl ?_
    refine tw_iload rfl rfl ?_
    refine tw_stat1 rfl (g_thingName hG (k := k) hx (by have z := q581; omega)) (fun wp584 hp584 p584 => ?_)
    obtain ⟨rfl, rfl⟩ := p584
    refine tw_virt1 rfl (g_stands hG hX (gzp580).1 ((mFz_T gzp580).trans hT) ((mFz_n gzp580).trans hN) (q := (k + 14)) (zl_14 (by have z := q581; omega)).1 ⟨pp580e.2.1.1, by have := pp580e.2.1; omega⟩ ⟨by have := pp580e.2.1; omega, pp580e.2.1.2.2⟩) (fun w9 h9 p585 => ?_)
    obtain ⟨⟨p585, rfl⟩ | ⟨p585, rfl⟩, rfl⟩ := p585
    · try dsimp only [tvI_i, tvJ_j, tvR_r] at p585
      refine tw_if_ne rfl (fun _ => ?_) (fun z => absurd z (by decide))
      refine tw_iload rfl rfl ?_
      refine tw_push rfl ?_
      refine tw_ic_ne rfl (fun q586 => ?_) (fun q586 => ?_)
      · try dsimp only [tvI_i, tvJ_j, tvR_r] at q586
        have q586i := zneq (Y := 4) (by decide) q586
        refine tw_iload rfl rfl ?_
        refine tw_push rfl ?_
        refine tw_ic_ne rfl (fun q587 => ?_) (fun q587 => ?_)
        · try dsimp only [tvI_i, tvJ_j, tvR_r] at q587
          have q587i := zneq (Y := 12) (by decide) q587
          refine tw_aload rfl rfl ?_
          refine tw_dup rfl ?_
          refine tw_getS rfl (hi_111_28 (gzp580).1) ?_
          refine tw_iload rfl rfl ?_
          have hk4 : k < 4 := by have z := q581; omega
          refine tw_stat1 rfl (g_thingName hG (k := k) hx hk4) (fun wp588 hp588 p588 => ?_)
          obtain ⟨rfl, rfl⟩ := p588
          refine tw_tlen rfl ?_
          refine tw_iadd rfl ?_
          refine tw_put rfl (fun f589 => ?_)
          refine tG_setm f589 (hw_111_28 f589 (gzp580).1) (fun hf589 ef589 => ?_)
          try dsimp only [tvI_i] at ef589
          have gf589 : mFz I h hf589 := mFz_s gzp580 ef589 (Or.inl (by unfold mFs; omega))
          have hk4 : k < 4 := by have z := q581; omega
          have hw : rW T n (rB T n (ms h).1) (rWd (k + 12)) = true := by have z := p585; rw [Sp580, rA_1] at z; rw [rWd_14 hk4]; exact z
          have hcn : c ≠ 12 := by have z := q587i; omega
          have K1 := rCl_g hr0 (k := k + 12) (by omega) (by omega) hw hcn
          have hre : rE T n (rB T n (ms h).1) = (rB T n (ms h).1) + (ztx (k + 14)).length := by rw [rW_e hw, rWd_14 hk4]
          have hre2 := rE_le (T := T) (rB_le (T := T) hpn)
          have hln : (Int32.ofNat (G.2.1 (k + 14)).length).toInt = ((ztx (k + 14)).length : Int) := by rw [hX]; exact zofI (by have := (zl_14 hk4).1; omega)
          obtain ⟨pf589, sf589, tf589⟩ := mTo pp580e ((mFz_n gzp580).trans hN) ef589 (v := (rB T n (ms h).1) + (ztx (k + 14)).length) (zadN (a := (rB T n (ms h).1)) (by rw [mPl pp580e, Sp580, rA_1]) hln (by omega) (by have := (zl_14 hk4).1; omega)) (by omega)
          have Sf589 : ms hf589 = (rA (rE T n (rB T n (ms h).1)) (ms h)) := by rw [sf589, Sp580, ← hre, rA_A]
          have Df589 : tvI (tF hf589 111 32) = 0 := by rw [mI_o ef589 (by decide)]; exact Dp580
          have gwf589 : tA hf589 = tA hp580 := ef589.2.2.2.1
          refine tw_push rfl ?_
          refine tw_aload rfl rfl ?_
          refine tw_getS rfl (hi_111_30 (gf589).1) ?_
          refine tw_imul rfl ?_
          refine tw_iload rfl rfl ?_
          refine tw_iadd rfl ?_
          refine tw_istore rfl ?_
          refine tw_aload rfl rfl ?_
          refine tw_getS rfl (hs_111_38 (gf589).1) ?_
          refine tw_iload rfl rfl ?_
          refine tw_iload rfl rfl ?_
          refine tw_iast rfl (fun f590 => ?_)
          have hI9 : (12 * tvI (tF hf589 111 30) + y).toNatClampNeg = I := by rw [mIx (pf589.2.2.2.2.2.1) hy hc, show tF hf589 111 30 = tF h 111 30 from mFz_30 gf589, ← hI]
          refine tG_ast f590 (gf589).1 (fun hf590 af590 => ?_)
          try dsimp only [tvI_i, tvR_r] at af590
          rw [hI9] at af590
          have gf590 : mFz I h hf590 := mFz_a gf589 af590 (by decide) (Nat.le_refl _)
          have pf590 := mAs_P af590 (by decide) pf589
          have Sf590 : ms hf590 = (rA (rE T n (rB T n (ms h).1)) (ms h)) := (mAs_m af590 (by decide)).1.trans Sf589
          have Df590 : tvI (tF hf590 111 32) = 0 := by rw [af590.2.1]; exact Df589
          refine tw_aload rfl rfl ?_
          refine tw_getS rfl (hs_111_39 (gf590).1) ?_
          refine tw_iload rfl rfl ?_
          refine tw_push rfl ?_
          refine tw_iast rfl (fun f591 => ?_)
          refine tG_ast f591 (gf590).1 (fun hf591 af591 => ?_)
          try dsimp only [tvI_i, tvR_r] at af591
          rw [hI9] at af591
          have gf591 : mFz I h hf591 := mFz_a gf590 af591 (by decide) (Nat.le_refl _)
          have pf591 := mAs_P af591 (by decide) pf590
          have Sf591 : ms hf591 = (rA (rE T n (rB T n (ms h).1)) (ms h)) := (mAs_m af591 (by decide)).1.trans Sf590
          have Df591 : tvI (tF hf591 111 32) = 0 := by rw [af591.2.1]; exact Df590
          refine tw_iload rfl rfl ?_
          refine tw_if_ne rfl (fun q592 => ?_) (fun q592 => ?_)
          · try dsimp only [tvI_i, tvJ_j, tvR_r] at q592
            have q592i := zneq (Y := 0) (by decide) q592
            refine tw_aload rfl rfl ?_
            refine tw_getS rfl (hs_111_40 (gf591).1) ?_
            refine tw_iload rfl rfl ?_
            refine tw_aload rfl rfl ?_
            refine tw_getS rfl (hi_111_31 (gf591).1) ?_
            refine tw_iast rfl (fun f593 => ?_)
            have Lf593 : (tvI (tF hf591 111 31)).toNatClampNeg = (rA (rE T n (rB T n (ms h).1)) (ms h)).2.2.length := by rw [← mEn_len]; exact congrArg (fun z : rS => z.2.2.length) Sf591
            have K2 : rCl2 T n (k + 12) (k + 12) (rA (rE T n (rB T n (ms h).1)) (ms h)) r := rCl1_n K1 (by have z := q592i; omega)
            refine tG_ast f593 (gf591).1 (fun hf593 af593 => ?_)
            try dsimp only [tvI_i, tvR_r] at af593
            rw [hI9] at af593
            have gf593 : mFz I h hf593 := mFz_a gf591 af593 (by decide) (Nat.le_refl _)
            have pf593 := mAs_P af593 (by decide) pf591
            have Sf593 : ms hf593 = (rA (rE T n (rB T n (ms h).1)) (ms h)) := (mAs_m af593 (by decide)).1.trans Sf591
            have Df593 : tvI (tF hf593 111 32) = 0 := by rw [af593.2.1]; exact Df591
            refine tw_iload rfl rfl ?_
            refine tw_push rfl ?_
            refine tw_ic_eq rfl (fun q594 => ?_) (fun q594 => ?_)
            · try dsimp only [tvI_i, tvJ_j, tvR_r] at q594
              have q594i := zeqi (Y := 3) (by decide) q594
              refine tw_aload rfl rfl ?_
              refine tw_getS rfl (hs_111_41 (gf593).1) ?_
              refine tw_iload rfl rfl ?_
              refine tw_aload rfl rfl ?_
              refine tw_getS rfl (hi_111_31 (gf593).1) ?_
              refine tw_iast rfl (fun f595 => ?_)
              have Lf595 : (tvI (tF hf593 111 31)).toNatClampNeg = (rA (rE T n (rB T n (ms h).1)) (ms h)).2.2.length := by rw [← mEn_len]; exact congrArg (fun z : rS => z.2.2.length) Sf593
              refine tG_ast f595 (gf593).1 (fun hf595 af595 => ?_)
              try dsimp only [tvI_i, tvR_r] at af595
              rw [hI9] at af595
              have gf595 : mFz I h hf595 := mFz_a gf593 af595 (by decide) (Nat.le_refl _)
              have pf595 := mAs_P af595 (by decide) pf593
              have Sf595 : ms hf595 = (rA (rE T n (rB T n (ms h).1)) (ms h)) := (mAs_m af595 (by decide)).1.trans Sf593
              have Df595 : tvI (tF hf595 111 32) = 0 := by rw [af595.2.1]; exact Df593
              refine tw_aload rfl rfl ?_
              obtain ⟨s2, hs2⟩ : ∃ s2, (rA (rE T n (rB T n (ms h).1)) (ms h)) = s2 := ⟨_, rfl⟩
              have K3 := rCl2_15 K2 (by have z := q594i; omega)
              rw [hs2] at K3
              have sm2 := Sf595.trans hs2
              refine tw_virt0 rfl (g_blanks hG hX (gf595).1 pf595 ((mFz_T gf595).trans hT) ((mFz_n gf595).trans hN)) (fun wp596 hp596 p596 => ?_)
              obtain ⟨rfl, gp596, pp596e, sp596, tp596, dp596⟩ := p596
              have gwp596 := mFw_f gp596
              have gzp596 : mFz I h hp596 := mFz_t gf595 (mFz_w gwp596)
              have Dp596 : tvI (tF hp596 111 32) = 0 := by rw [dp596]; exact Df595
              have Sp596 : ms hp596 = (rA (rB T n s2.1) s2) := (by rw [sp596, sm2])
              refine tw_aload rfl rfl ?_
              refine tw_push rfl ?_
              refine tw_virt1 rfl (g_stands hG hX (gzp596).1 ((mFz_T gzp596).trans hT) ((mFz_n gzp596).trans hN) (q := 21) (by decide +kernel) ⟨pp596e.2.1.1, by have := pp596e.2.1; omega⟩ ⟨by have := pp596e.2.1; omega, pp596e.2.1.2.2⟩) (fun w9 h9 p597 => ?_)
              obtain ⟨⟨p597, rfl⟩ | ⟨p597, rfl⟩, rfl⟩ := p597
              · try dsimp only [tvI_i, tvJ_j, tvR_r] at p597
                refine tw_istore rfl ?_
                refine tw_iload rfl rfl ?_
                refine tw_push rfl ?_
                refine tw_ic_ne rfl (fun q598 => ?_) (fun q598 => ?_)
                · try dsimp only [tvI_i, tvJ_j, tvR_r] at q598
                  have q598i := zneq (Y := 3) (by decide) q598
                  exact absurd q594 q598
                · try dsimp only [tvI_i, tvJ_j, tvR_r] at q598
                  have q598i := zeqi (Y := 3) (by decide) q598
                  refine tw_iload rfl rfl ?_
                  refine tw_if_ne rfl (fun _ => ?_) (fun z => absurd z (by decide))
                  refine tw_iload rfl rfl ?_
                  refine tw_if_eq rfl (fun z => absurd z (by decide)) (fun _ => ?_)
                  refine tw_aload rfl rfl ?_
                  refine tw_getS rfl (hi_111_29 gzp596.1) ?_
                  refine tw_if_ne rfl (fun q599 => ?_) (fun q599 => ?_)
                  · try dsimp only [tvI_i, tvJ_j, tvR_r] at q599
                    have q599i := zneq (Y := 0) (by decide) q599
                    exact absurd (mP_0 pp596e) q599
                  · try dsimp only [tvI_i, tvJ_j, tvR_r] at q599
                    have q599i := zeqi (Y := 0) (by decide) q599
                    refine tw_aload rfl rfl ?_
                    refine tw_dup rfl ?_
                    refine tw_getS rfl (hi_111_28 gzp596.1) ?_
                    refine tw_push rfl ?_
                    refine tw_iadd rfl ?_
                    refine tw_put rfl (fun f600 => ?_)
                    have hw16 : rW T n (rB T n s2.1) (rWd 16) = true := by have z := p597; rw [Sp596, rA_1] at z; exact z
                    refine tG_setm f600 (hw_111_28 f600 (gzp596).1) (fun hf600 ef600 => ?_)
                    try dsimp only [tvI_i] at ef600
                    have gf600 : mFz I h hf600 := mFz_s gzp596 ef600 (Or.inl (by unfold mFs; omega))
                    have h9w : rE T n (rB T n s2.1) = rB T n s2.1 + 2 := by rw [rW_e hw16, wlen_k.2.2.2]
                    have hpB : rB T n s2.1 ≤ n := by have z := mPle pp596e ((mFz_n gzp596).trans hN); rw [Sp596, rA_1] at z; exact z
                    have hr9 := rE_le (T := T) hpB
                    rw [h9w] at hr9
                    obtain ⟨pf600, sf600, tf600⟩ := mTo pp596e ((mFz_n gzp596).trans hN) ef600 (v := rB T n s2.1 + 2) (zadN (a := rB T n s2.1) (b := 2) (by rw [mPl pp596e, Sp596, rA_1]) rfl (by omega) (by decide)) (by omega)
                    have Sf600 : ms hf600 = (rA (rB T n s2.1 + 2) s2) := by rw [sf600, Sp596, rA_A]
                    have Df600 : tvI (tF hf600 111 32) = 0 := by rw [mI_o ef600 (by decide)]; exact Dp596
                    have gwf600 : tA hf600 = tA hp596 := ef600.2.2.2.1
                    refine tw_aload rfl rfl ?_
                    refine tw_push rfl ?_
                    refine tw_virt1 rfl (g_readsR hG hX (gf600).1 pf600 ((mFz_T gf600).trans hT) ((mFz_n gf600).trans hN) (x := 0) (tst := true) (by decide) (by decide) ⟨fun _ => rfl, fun _ => rfl⟩ Df600) (fun w9 hp601 p601 => ?_)
                    obtain ⟨rfl, gp601, ⟨pp601e, dp601, mp601⟩ | ⟨ep601, Fp601, Zp601, mp601⟩⟩ := p601
                    · have gwp601 := id gp601
                      have gzp601 : mFz I h hp601 := mFz_t gf600 (mFz_w gwp601)
                      have m9 := mp601
                      rw [Sf600, show stN 0 = 0 from rfl] at m9
                      obtain ⟨hS3, s3, hs3, hr⟩ := rCl3_s K3 hw16 m9
                      have Dp601 := mSk_0 dp601 hS3
                      refine tw_aload rfl rfl ?_
                      refine tw_getS rfl (hs_111_42 gzp601.1) ?_
                      refine tw_iload rfl rfl ?_
                      refine tw_aload rfl rfl ?_
                      refine tw_getS rfl (hi_111_31 gzp601.1) ?_
                      refine tw_iast rfl (fun f602 => ?_)
                      have Lf602 : (tvI (tF hp601 111 31)).toNatClampNeg = (rA (rB T n s3.1) s3).2.2.length := by rw [← mEn_len]; exact congrArg (fun z : rS => z.2.2.length) hs3
                      refine tG_ast f602 (gzp601).1 (fun hf602 af602 => ?_)
                      try dsimp only [tvI_i, tvR_r] at af602
                      rw [hI9] at af602
                      have gf602 : mFz I h hf602 := mFz_a gzp601 af602 (by decide) (Nat.le_refl _)
                      have pf602 := mAs_P af602 (by decide) pp601e
                      have Sf602 : ms hf602 = (rA (rB T n s3.1) s3) := (mAs_m af602 (by decide)).1.trans hs3
                      have Df602 : tvI (tF hf602 111 32) = 0 := by rw [af602.2.1]; exact Dp601
                      have c135 : tA hf602 135 I = x := ((congrFun ((mAs_A af602 (q := 135) (by decide)).trans ((mFw_A gwp601 (p := 135) (by decide)).trans ((congrFun gwf600 135).trans ((mFw_A gwp596 (p := 135) (by decide)).trans ((mAs_A af595 (q := 135) (by decide)).trans ((mAs_A af593 (q := 135) (by decide)).trans (mAs_A af591 (q := 135) (by decide)))))))) I).trans (mAs_x af590))
                      have c137 : (tA hf602 137 I).toNatClampNeg = (rA (rE T n (rB T n (ms h).1)) (ms h)).2.2.length := by rw [((congrFun ((mAs_A af602 (q := 137) (by decide)).trans ((mFw_A gwp601 (p := 137) (by decide)).trans ((congrFun gwf600 137).trans ((mFw_A gwp596 (p := 137) (by decide)).trans (mAs_A af595 (q := 137) (by decide)))))) I).trans (mAs_x af593))]; exact Lf593
                      have c138 : (tA hf602 138 I).toNatClampNeg = (rA (rE T n (rB T n (ms h).1)) (ms h)).2.2.length := by rw [((congrFun ((mAs_A af602 (q := 138) (by decide)).trans ((mFw_A gwp601 (p := 138) (by decide)).trans ((congrFun gwf600 138).trans (mFw_A gwp596 (p := 138) (by decide))))) I).trans (mAs_x af595))]; exact Lf595
                      have c139 : (tA hf602 139 I).toNatClampNeg = (rA (rB T n s3.1) s3).2.2.length := by rw [(mAs_x af602)]; exact Lf602
                      have c136 : (tA hf602 136 I).toNatClampNeg = 0 := by rw [((congrFun ((mAs_A af602 (q := 136) (by decide)).trans ((mFw_A gwp601 (p := 136) (by decide)).trans ((congrFun gwf600 136).trans ((mFw_A gwp596 (p := 136) (by decide)).trans ((mAs_A af595 (q := 136) (by decide)).trans (mAs_A af593 (q := 136) (by decide))))))) I).trans (mAs_x af591))]; rfl
                      have hrow : mRow hf602 I = ((k + 12), (rA (rE T n (rB T n (ms h).1)) (ms h)).2.2.length, (rA (rE T n (rB T n (ms h).1)) (ms h)).2.2.length, (rA (rB T n s3.1) s3).2.2.length) := by
                        unfold mRow
                        rw [c135, c137, c138, c139, zof_cl hx, c136, if_neg (fun y => by have z := q592i; have y := y.1; omega), Nat.mul_zero, Nat.add_zero, Nat.add_comm]
                      rw [hs2] at hrow
                      exact tw_vret rfl ⟨rfl, gf602, mCo_r hr pf602 Sf602 Df602 hrow⟩
                    · have gwp601 := id gp601
                      have gzp601 : mFz I h hp601 := mFz_t gf600 (mFz_w gwp601)
                      have m9 := mp601
                      rw [Sf600, show stN 0 = 0 from rfl] at m9
                      have hr := rCl3_e K3 hw16 m9
                      refine tw_aload rfl rfl ?_
                      refine tw_getS rfl (hs_111_42 gzp601.1) ?_
                      refine tw_iload rfl rfl ?_
                      refine tw_aload rfl rfl ?_
                      refine tw_getS rfl (hi_111_31 gzp601.1) ?_
                      refine tw_iast rfl (fun f603 => ?_)
                      refine tG_ast f603 (gzp601).1 (fun hf603 af603 => ?_)
                      try dsimp only [tvI_i, tvR_r] at af603
                      rw [hI9] at af603
                      have gf603 : mFz I h hf603 := mFz_a gzp601 af603 (by decide) (Nat.le_refl _)
                      have Ff603 := mAs_F af603 Fp601
                      have Zf603 := mAs_Z af603 Zp601
                      exact tw_vret rfl ⟨rfl, gf603, mCo_l hr Ff603 Zf603⟩
              · try dsimp only [tvI_i, tvJ_j, tvR_r] at p597
                refine tw_istore rfl ?_
                refine tw_iload rfl rfl ?_
                refine tw_push rfl ?_
                refine tw_ic_ne rfl (fun q604 => ?_) (fun q604 => ?_)
                · try dsimp only [tvI_i, tvJ_j, tvR_r] at q604
                  have q604i := zneq (Y := 3) (by decide) q604
                  exact absurd q594 q604
                · try dsimp only [tvI_i, tvJ_j, tvR_r] at q604
                  have q604i := zeqi (Y := 3) (by decide) q604
                  refine tw_iload rfl rfl ?_
                  refine tw_if_ne rfl (fun z => absurd z (by decide)) (fun _ => ?_)
                  refine tw_aload rfl rfl ?_
                  refine tw_push rfl ?_
                  refine tw_aload rfl rfl ?_
                  refine tw_getS rfl (hi_111_28 gzp596.1) ?_
                  refine tw_virt2 rfl (g_fails hG hX (gzp596).1 pp596e ((mFz_T gzp596).trans hT) ((mFz_n gzp596).trans hN) (w := 0) rfl (by decide) (mPl pp596e) (by have := mPle pp596e ((mFz_n gzp596).trans hN); have := mNl pp596e ((mFz_n gzp596).trans hN); have := pp596e.2.1; omega)) (fun wp605 hp605 p605 => ?_)
                  obtain ⟨rfl, gp605, Fp605, ip605, jp605⟩ := p605
                  have gwp605 := mFw_f gp605
                  have gzp605 : mFz I h hp605 := mFz_t gzp596 (mFz_w gwp605)
                  have Zp605 : mZp hp605 := mZp_k (mZp_p pp596e) ip605 jp605
                  rw [Sp596, rA_1] at Fp605
                  refine tw_iload rfl rfl ?_
                  refine tw_if_eq rfl (fun _ => ?_) (fun z => absurd z (by decide))
                  refine tw_aload rfl rfl ?_
                  refine tw_getS rfl (hs_111_42 gzp605.1) ?_
                  refine tw_iload rfl rfl ?_
                  refine tw_aload rfl rfl ?_
                  refine tw_getS rfl (hi_111_31 gzp605.1) ?_
                  refine tw_iast rfl (fun f606 => ?_)
                  refine tG_ast f606 (gzp605).1 (fun hf606 af606 => ?_)
                  try dsimp only [tvI_i, tvR_r] at af606
                  rw [hI9] at af606
                  have gf606 : mFz I h hf606 := mFz_a gzp605 af606 (by decide) (Nat.le_refl _)
                  have Ff606 := mAs_F af606 Fp605
                  have Zf606 := mAs_Z af606 Zp605
                  have hw16 : ¬ rW T n (rB T n s2.1) (rWd 16) = true := by have z := p597; rw [Sp596, rA_1] at z; exact z
                  have hr := rCl3_1 K3 hw16 (by have z := q604i; omega)
                  exact tw_vret rfl ⟨rfl, gf606, mCo_l hr Ff606 Zf606⟩
            · try dsimp only [tvI_i, tvJ_j, tvR_r] at q594
              have q594i := zneq (Y := 3) (by decide) q594
              refine tw_aload rfl rfl ?_
              refine tw_getS rfl (hi_111_29 (gf593).1) ?_
              refine tw_if_ne rfl (fun q607 => ?_) (fun q607 => ?_)
              · try dsimp only [tvI_i, tvJ_j, tvR_r] at q607
                have q607i := zneq (Y := 0) (by decide) q607
                exact absurd (mP_0 pf593) q607
              · try dsimp only [tvI_i, tvJ_j, tvR_r] at q607
                have q607i := zeqi (Y := 0) (by decide) q607
                refine tw_aload rfl rfl ?_
                refine tw_push rfl ?_
                refine tw_virt1 rfl (g_readsR hG hX (gf593).1 pf593 ((mFz_T gf593).trans hT) ((mFz_n gf593).trans hN) (x := 1) (tst := false) (by decide) (by decide) ⟨fun z => absurd z (by decide), fun z => absurd z (by decide)⟩ Df593) (fun w9 hp608 p608 => ?_)
                obtain ⟨rfl, gp608, ⟨pp608e, dp608, mp608⟩ | ⟨ep608, Fp608, Zp608, mp608⟩⟩ := p608
                · have gwp608 := id gp608
                  have gzp608 : mFz I h hp608 := mFz_t gf593 (mFz_w gwp608)
                  have m9 := mp608
                  rw [Sf593, show stN 1 = 1 from rfl] at m9
                  obtain ⟨hS, s2, hs2, K3⟩ := rCl2_s K2 (by have z := q594i; omega) m9
                  have Dp608 := mSk_0 dp608 hS
                  refine tw_aload rfl rfl ?_
                  refine tw_getS rfl (hs_111_41 gzp608.1) ?_
                  refine tw_iload rfl rfl ?_
                  refine tw_aload rfl rfl ?_
                  refine tw_getS rfl (hi_111_31 gzp608.1) ?_
                  refine tw_iast rfl (fun f609 => ?_)
                  have Lf609 : (tvI (tF hp608 111 31)).toNatClampNeg = (rA (rB T n s2.1) s2).2.2.length := by rw [← mEn_len]; exact congrArg (fun z : rS => z.2.2.length) hs2
                  refine tG_ast f609 (gzp608).1 (fun hf609 af609 => ?_)
                  try dsimp only [tvI_i, tvR_r] at af609
                  rw [hI9] at af609
                  have gf609 : mFz I h hf609 := mFz_a gzp608 af609 (by decide) (Nat.le_refl _)
                  have pf609 := mAs_P af609 (by decide) pp608e
                  have Sf609 : ms hf609 = (rA (rB T n s2.1) s2) := (mAs_m af609 (by decide)).1.trans hs2
                  have Df609 : tvI (tF hf609 111 32) = 0 := by rw [af609.2.1]; exact Dp608
                  refine tw_aload rfl rfl ?_
                  refine tw_virt0 rfl (g_blanks hG hX (gf609).1 pf609 ((mFz_T gf609).trans hT) ((mFz_n gf609).trans hN)) (fun wp610 hp610 p610 => ?_)
                  obtain ⟨rfl, gp610, pp610e, sp610, tp610, dp610⟩ := p610
                  have gwp610 := mFw_f gp610
                  have gzp610 : mFz I h hp610 := mFz_t gf609 (mFz_w gwp610)
                  have Dp610 : tvI (tF hp610 111 32) = 0 := by rw [dp610]; exact Df609
                  have Sp610 : ms hp610 = (rA (rB T n s2.1) s2) := (by rw [sp610, Sf609]; exact rB_A)
                  refine tw_aload rfl rfl ?_
                  refine tw_push rfl ?_
                  refine tw_virt1 rfl (g_stands hG hX (gzp610).1 ((mFz_T gzp610).trans hT) ((mFz_n gzp610).trans hN) (q := 21) (by decide +kernel) ⟨pp610e.2.1.1, by have := pp610e.2.1; omega⟩ ⟨by have := pp610e.2.1; omega, pp610e.2.1.2.2⟩) (fun w9 h9 p611 => ?_)
                  obtain ⟨⟨p611, rfl⟩ | ⟨p611, rfl⟩, rfl⟩ := p611
                  · try dsimp only [tvI_i, tvJ_j, tvR_r] at p611
                    refine tw_istore rfl ?_
                    refine tw_iload rfl rfl ?_
                    refine tw_push rfl ?_
                    refine tw_ic_ne rfl (fun q612 => ?_) (fun q612 => ?_)
                    · try dsimp only [tvI_i, tvJ_j, tvR_r] at q612
                      have q612i := zneq (Y := 3) (by decide) q612
                      refine tw_iload rfl rfl ?_
                      refine tw_if_eq rfl (fun z => absurd z (by decide)) (fun _ => ?_)
                      refine tw_aload rfl rfl ?_
                      refine tw_getS rfl (hi_111_29 gzp610.1) ?_
                      refine tw_if_ne rfl (fun q613 => ?_) (fun q613 => ?_)
                      · try dsimp only [tvI_i, tvJ_j, tvR_r] at q613
                        have q613i := zneq (Y := 0) (by decide) q613
                        exact absurd (mP_0 pp610e) q613
                      · try dsimp only [tvI_i, tvJ_j, tvR_r] at q613
                        have q613i := zeqi (Y := 0) (by decide) q613
                        refine tw_aload rfl rfl ?_
                        refine tw_dup rfl ?_
                        refine tw_getS rfl (hi_111_28 gzp610.1) ?_
                        refine tw_push rfl ?_
                        refine tw_iadd rfl ?_
                        refine tw_put rfl (fun f614 => ?_)
                        have hw16 : rW T n (rB T n s2.1) (rWd 16) = true := by have z := p611; rw [Sp610, rA_1] at z; exact z
                        refine tG_setm f614 (hw_111_28 f614 (gzp610).1) (fun hf614 ef614 => ?_)
                        try dsimp only [tvI_i] at ef614
                        have gf614 : mFz I h hf614 := mFz_s gzp610 ef614 (Or.inl (by unfold mFs; omega))
                        have h9w : rE T n (rB T n s2.1) = rB T n s2.1 + 2 := by rw [rW_e hw16, wlen_k.2.2.2]
                        have hpB : rB T n s2.1 ≤ n := by have z := mPle pp610e ((mFz_n gzp610).trans hN); rw [Sp610, rA_1] at z; exact z
                        have hr9 := rE_le (T := T) hpB
                        rw [h9w] at hr9
                        obtain ⟨pf614, sf614, tf614⟩ := mTo pp610e ((mFz_n gzp610).trans hN) ef614 (v := rB T n s2.1 + 2) (zadN (a := rB T n s2.1) (b := 2) (by rw [mPl pp610e, Sp610, rA_1]) rfl (by omega) (by decide)) (by omega)
                        have Sf614 : ms hf614 = (rA (rB T n s2.1 + 2) s2) := by rw [sf614, Sp610, rA_A]
                        have Df614 : tvI (tF hf614 111 32) = 0 := by rw [mI_o ef614 (by decide)]; exact Dp610
                        have gwf614 : tA hf614 = tA hp610 := ef614.2.2.2.1
                        refine tw_aload rfl rfl ?_
                        refine tw_push rfl ?_
                        refine tw_virt1 rfl (g_readsR hG hX (gf614).1 pf614 ((mFz_T gf614).trans hT) ((mFz_n gf614).trans hN) (x := 0) (tst := true) (by decide) (by decide) ⟨fun _ => rfl, fun _ => rfl⟩ Df614) (fun w9 hp615 p615 => ?_)
                        obtain ⟨rfl, gp615, ⟨pp615e, dp615, mp615⟩ | ⟨ep615, Fp615, Zp615, mp615⟩⟩ := p615
                        · have gwp615 := id gp615
                          have gzp615 : mFz I h hp615 := mFz_t gf614 (mFz_w gwp615)
                          have m9 := mp615
                          rw [Sf614, show stN 0 = 0 from rfl] at m9
                          obtain ⟨hS3, s3, hs3, hr⟩ := rCl3_s K3 hw16 m9
                          have Dp615 := mSk_0 dp615 hS3
                          refine tw_aload rfl rfl ?_
                          refine tw_getS rfl (hs_111_42 gzp615.1) ?_
                          refine tw_iload rfl rfl ?_
                          refine tw_aload rfl rfl ?_
                          refine tw_getS rfl (hi_111_31 gzp615.1) ?_
                          refine tw_iast rfl (fun f616 => ?_)
                          have Lf616 : (tvI (tF hp615 111 31)).toNatClampNeg = (rA (rB T n s3.1) s3).2.2.length := by rw [← mEn_len]; exact congrArg (fun z : rS => z.2.2.length) hs3
                          refine tG_ast f616 (gzp615).1 (fun hf616 af616 => ?_)
                          try dsimp only [tvI_i, tvR_r] at af616
                          rw [hI9] at af616
                          have gf616 : mFz I h hf616 := mFz_a gzp615 af616 (by decide) (Nat.le_refl _)
                          have pf616 := mAs_P af616 (by decide) pp615e
                          have Sf616 : ms hf616 = (rA (rB T n s3.1) s3) := (mAs_m af616 (by decide)).1.trans hs3
                          have Df616 : tvI (tF hf616 111 32) = 0 := by rw [af616.2.1]; exact Dp615
                          have c135 : tA hf616 135 I = x := ((congrFun ((mAs_A af616 (q := 135) (by decide)).trans ((mFw_A gwp615 (p := 135) (by decide)).trans ((congrFun gwf614 135).trans ((mFw_A gwp610 (p := 135) (by decide)).trans ((mAs_A af609 (q := 135) (by decide)).trans ((mFw_A gwp608 (p := 135) (by decide)).trans ((mAs_A af593 (q := 135) (by decide)).trans (mAs_A af591 (q := 135) (by decide))))))))) I).trans (mAs_x af590))
                          have c137 : (tA hf616 137 I).toNatClampNeg = (rA (rE T n (rB T n (ms h).1)) (ms h)).2.2.length := by rw [((congrFun ((mAs_A af616 (q := 137) (by decide)).trans ((mFw_A gwp615 (p := 137) (by decide)).trans ((congrFun gwf614 137).trans ((mFw_A gwp610 (p := 137) (by decide)).trans ((mAs_A af609 (q := 137) (by decide)).trans (mFw_A gwp608 (p := 137) (by decide))))))) I).trans (mAs_x af593))]; exact Lf593
                          have c138 : (tA hf616 138 I).toNatClampNeg = (rA (rB T n s2.1) s2).2.2.length := by rw [((congrFun ((mAs_A af616 (q := 138) (by decide)).trans ((mFw_A gwp615 (p := 138) (by decide)).trans ((congrFun gwf614 138).trans (mFw_A gwp610 (p := 138) (by decide))))) I).trans (mAs_x af609))]; exact Lf609
                          have c139 : (tA hf616 139 I).toNatClampNeg = (rA (rB T n s3.1) s3).2.2.length := by rw [(mAs_x af616)]; exact Lf616
                          have c136 : (tA hf616 136 I).toNatClampNeg = 0 := by rw [((congrFun ((mAs_A af616 (q := 136) (by decide)).trans ((mFw_A gwp615 (p := 136) (by decide)).trans ((congrFun gwf614 136).trans ((mFw_A gwp610 (p := 136) (by decide)).trans ((mAs_A af609 (q := 136) (by decide)).trans ((mFw_A gwp608 (p := 136) (by decide)).trans (mAs_A af593 (q := 136) (by decide)))))))) I).trans (mAs_x af591))]; rfl
                          have hrow : mRow hf616 I = ((k + 12), (rA (rE T n (rB T n (ms h).1)) (ms h)).2.2.length, (rA (rB T n s2.1) s2).2.2.length, (rA (rB T n s3.1) s3).2.2.length) := by
                            unfold mRow
                            rw [c135, c137, c138, c139, zof_cl hx, c136, if_neg (fun y => by have z := q592i; have y := y.1; omega), Nat.mul_zero, Nat.add_zero, Nat.add_comm]
                          exact tw_vret rfl ⟨rfl, gf616, mCo_r hr pf616 Sf616 Df616 hrow⟩
                        · have gwp615 := id gp615
                          have gzp615 : mFz I h hp615 := mFz_t gf614 (mFz_w gwp615)
                          have m9 := mp615
                          rw [Sf614, show stN 0 = 0 from rfl] at m9
                          have hr := rCl3_e K3 hw16 m9
                          refine tw_aload rfl rfl ?_
                          refine tw_getS rfl (hs_111_42 gzp615.1) ?_
                          refine tw_iload rfl rfl ?_
                          refine tw_aload rfl rfl ?_
                          refine tw_getS rfl (hi_111_31 gzp615.1) ?_
                          refine tw_iast rfl (fun f617 => ?_)
                          refine tG_ast f617 (gzp615).1 (fun hf617 af617 => ?_)
                          try dsimp only [tvI_i, tvR_r] at af617
                          rw [hI9] at af617
                          have gf617 : mFz I h hf617 := mFz_a gzp615 af617 (by decide) (Nat.le_refl _)
                          have Ff617 := mAs_F af617 Fp615
                          have Zf617 := mAs_Z af617 Zp615
                          exact tw_vret rfl ⟨rfl, gf617, mCo_l hr Ff617 Zf617⟩
                    · try dsimp only [tvI_i, tvJ_j, tvR_r] at q612
                      have q612i := zeqi (Y := 3) (by decide) q612
                      exact absurd q612 q594
                  · try dsimp only [tvI_i, tvJ_j, tvR_r] at p611
                    refine tw_istore rfl ?_
                    refine tw_iload rfl rfl ?_
                    refine tw_push rfl ?_
                    refine tw_ic_ne rfl (fun q618 => ?_) (fun q618 => ?_)
                    · try dsimp only [tvI_i, tvJ_j, tvR_r] at q618
                      have q618i := zneq (Y := 3) (by decide) q618
                      refine tw_iload rfl rfl ?_
                      refine tw_if_eq rfl (fun _ => ?_) (fun z => absurd z (by decide))
                      refine tw_aload rfl rfl ?_
                      refine tw_getS rfl (hs_111_42 gzp610.1) ?_
                      refine tw_iload rfl rfl ?_
                      refine tw_aload rfl rfl ?_
                      refine tw_getS rfl (hi_111_31 gzp610.1) ?_
                      refine tw_iast rfl (fun f619 => ?_)
                      have Lf619 : (tvI (tF hp610 111 31)).toNatClampNeg = (rA (rB T n s2.1) s2).2.2.length := by rw [← mEn_len]; exact congrArg (fun z : rS => z.2.2.length) Sp610
                      refine tG_ast f619 (gzp610).1 (fun hf619 af619 => ?_)
                      try dsimp only [tvI_i, tvR_r] at af619
                      rw [hI9] at af619
                      have gf619 : mFz I h hf619 := mFz_a gzp610 af619 (by decide) (Nat.le_refl _)
                      have pf619 := mAs_P af619 (by decide) pp610e
                      have Sf619 : ms hf619 = (rA (rB T n s2.1) s2) := (mAs_m af619 (by decide)).1.trans Sp610
                      have Df619 : tvI (tF hf619 111 32) = 0 := by rw [af619.2.1]; exact Dp610
                      have hw16 : ¬ rW T n (rB T n s2.1) (rWd 16) = true := by have z := p611; rw [Sp610, rA_1] at z; exact z
                      have hr := rCl3_2 K3 hw16 (by have z := q618i; omega)
                      have c135 : tA hf619 135 I = x := ((congrFun ((mAs_A af619 (q := 135) (by decide)).trans ((mFw_A gwp610 (p := 135) (by decide)).trans ((mAs_A af609 (q := 135) (by decide)).trans ((mFw_A gwp608 (p := 135) (by decide)).trans ((mAs_A af593 (q := 135) (by decide)).trans (mAs_A af591 (q := 135) (by decide))))))) I).trans (mAs_x af590))
                      have c137 : (tA hf619 137 I).toNatClampNeg = (rA (rE T n (rB T n (ms h).1)) (ms h)).2.2.length := by rw [((congrFun ((mAs_A af619 (q := 137) (by decide)).trans ((mFw_A gwp610 (p := 137) (by decide)).trans ((mAs_A af609 (q := 137) (by decide)).trans (mFw_A gwp608 (p := 137) (by decide))))) I).trans (mAs_x af593))]; exact Lf593
                      have c138 : (tA hf619 138 I).toNatClampNeg = (rA (rB T n s2.1) s2).2.2.length := by rw [((congrFun ((mAs_A af619 (q := 138) (by decide)).trans (mFw_A gwp610 (p := 138) (by decide))) I).trans (mAs_x af609))]; exact Lf609
                      have c139 : (tA hf619 139 I).toNatClampNeg = (rA (rB T n s2.1) s2).2.2.length := by rw [(mAs_x af619)]; exact Lf619
                      have c136 : (tA hf619 136 I).toNatClampNeg = 0 := by rw [((congrFun ((mAs_A af619 (q := 136) (by decide)).trans ((mFw_A gwp610 (p := 136) (by decide)).trans ((mAs_A af609 (q := 136) (by decide)).trans ((mFw_A gwp608 (p := 136) (by decide)).trans (mAs_A af593 (q := 136) (by decide)))))) I).trans (mAs_x af591))]; rfl
                      have hrow : mRow hf619 I = ((k + 12), (rA (rE T n (rB T n (ms h).1)) (ms h)).2.2.length, (rA (rB T n s2.1) s2).2.2.length, (rA (rB T n s2.1) s2).2.2.length) := by
                        unfold mRow
                        rw [c135, c137, c138, c139, zof_cl hx, c136, if_neg (fun y => by have z := q592i; have y := y.1; omega), Nat.mul_zero, Nat.add_zero, Nat.add_comm]
                      exact tw_vret rfl ⟨rfl, gf619, mCo_r hr pf619 (Sf619.trans rB_A.symm) Df619 hrow⟩
                    · try dsimp only [tvI_i, tvJ_j, tvR_r] at q618
                      have q618i := zeqi (Y := 3) (by decide) q618
                      exact absurd q618 q594
                · have gwp608 := id gp608
                  have gzp608 : mFz I h hp608 := mFz_t gf593 (mFz_w gwp608)
                  have m9 := mp608
                  rw [Sf593, show stN 1 = 1 from rfl] at m9
                  have hr := rCl2_e K2 (by have z := q594i; omega) m9
                  refine tw_aload rfl rfl ?_
                  refine tw_getS rfl (hs_111_41 gzp608.1) ?_
                  refine tw_iload rfl rfl ?_
                  refine tw_aload rfl rfl ?_
                  refine tw_getS rfl (hi_111_31 gzp608.1) ?_
                  refine tw_iast rfl (fun f620 => ?_)
                  refine tG_ast f620 (gzp608).1 (fun hf620 af620 => ?_)
                  try dsimp only [tvI_i, tvR_r] at af620
                  rw [hI9] at af620
                  have gf620 : mFz I h hf620 := mFz_a gzp608 af620 (by decide) (Nat.le_refl _)
                  have Ff620 := mAs_F af620 Fp608
                  have Zf620 := mAs_Z af620 Zp608
                  refine tw_aload rfl rfl ?_
                  refine tw_virt0 rfl (y_blanks hG hX (gf620).1 Ff620 ((mFz_T gf620).trans hT) ((mFz_n gf620).trans hN) Zf620) (fun wp621 hp621 p621 => ?_)
                  obtain ⟨rfl, gp621, Fp621, Zp621⟩ := p621
                  have gwp621 := mFw_f gp621
                  have gzp621 : mFz I h hp621 := mFz_t gf620 (mFz_w gwp621)
                  refine tw_aload rfl rfl ?_
                  refine tw_push rfl ?_
                  refine tw_virt1 rfl (g_stands hG hX (gzp621).1 ((mFz_T gzp621).trans hT) ((mFz_n gzp621).trans hN) (q := 21) (by decide +kernel) Zp621.1 ⟨by have := Zp621.2; omega, Zp621.2.2⟩) (fun w9 h9 p622 => ?_)
                  obtain ⟨⟨p622, rfl⟩ | ⟨p622, rfl⟩, rfl⟩ := p622
                  · try dsimp only [tvI_i, tvJ_j, tvR_r] at p622
                    refine tw_istore rfl ?_
                    refine tw_iload rfl rfl ?_
                    refine tw_push rfl ?_
                    refine tw_ic_ne rfl (fun q623 => ?_) (fun q623 => ?_)
                    · try dsimp only [tvI_i, tvJ_j, tvR_r] at q623
                      have q623i := zneq (Y := 3) (by decide) q623
                      refine tw_iload rfl rfl ?_
                      refine tw_if_eq rfl (fun z => absurd z (by decide)) (fun _ => ?_)
                      refine tw_aload rfl rfl ?_
                      refine tw_getS rfl (hi_111_29 gzp621.1) ?_
                      refine tw_if_ne rfl (fun q624 => ?_) (fun q624 => ?_)
                      · try dsimp only [tvI_i, tvJ_j, tvR_r] at q624
                        have q624i := zneq (Y := 0) (by decide) q624
                        refine tw_aload rfl rfl ?_
                        refine tw_getS rfl (hs_111_42 gzp621.1) ?_
                        refine tw_iload rfl rfl ?_
                        refine tw_aload rfl rfl ?_
                        refine tw_getS rfl (hi_111_31 gzp621.1) ?_
                        refine tw_iast rfl (fun f625 => ?_)
                        refine tG_ast f625 (gzp621).1 (fun hf625 af625 => ?_)
                        try dsimp only [tvI_i, tvR_r] at af625
                        rw [hI9] at af625
                        have gf625 : mFz I h hf625 := mFz_a gzp621 af625 (by decide) (Nat.le_refl _)
                        have Ff625 := mAs_F af625 Fp621
                        have Zf625 := mAs_Z af625 Zp621
                        exact tw_vret rfl ⟨rfl, gf625, mCo_l hr Ff625 Zf625⟩
                      · try dsimp only [tvI_i, tvJ_j, tvR_r] at q624
                        have q624i := zeqi (Y := 0) (by decide) q624
                        exact absurd q624 (mFt_n Fp621)
                    · try dsimp only [tvI_i, tvJ_j, tvR_r] at q623
                      have q623i := zeqi (Y := 3) (by decide) q623
                      exact absurd q623 q594
                  · try dsimp only [tvI_i, tvJ_j, tvR_r] at p622
                    refine tw_istore rfl ?_
                    refine tw_iload rfl rfl ?_
                    refine tw_push rfl ?_
                    refine tw_ic_ne rfl (fun q626 => ?_) (fun q626 => ?_)
                    · try dsimp only [tvI_i, tvJ_j, tvR_r] at q626
                      have q626i := zneq (Y := 3) (by decide) q626
                      refine tw_iload rfl rfl ?_
                      refine tw_if_eq rfl (fun _ => ?_) (fun z => absurd z (by decide))
                      refine tw_aload rfl rfl ?_
                      refine tw_getS rfl (hs_111_42 gzp621.1) ?_
                      refine tw_iload rfl rfl ?_
                      refine tw_aload rfl rfl ?_
                      refine tw_getS rfl (hi_111_31 gzp621.1) ?_
                      refine tw_iast rfl (fun f627 => ?_)
                      refine tG_ast f627 (gzp621).1 (fun hf627 af627 => ?_)
                      try dsimp only [tvI_i, tvR_r] at af627
                      rw [hI9] at af627
                      have gf627 : mFz I h hf627 := mFz_a gzp621 af627 (by decide) (Nat.le_refl _)
                      have Ff627 := mAs_F af627 Fp621
                      have Zf627 := mAs_Z af627 Zp621
                      exact tw_vret rfl ⟨rfl, gf627, mCo_l hr Ff627 Zf627⟩
                    · try dsimp only [tvI_i, tvJ_j, tvR_r] at q626
                      have q626i := zeqi (Y := 3) (by decide) q626
                      exact absurd q626 q594
          · try dsimp only [tvI_i, tvJ_j, tvR_r] at q592
            have q592i := zeqi (Y := 0) (by decide) q592
            refine tw_aload rfl rfl ?_
            refine tw_virt0 rfl (g_blanks hG hX (gf591).1 pf591 ((mFz_T gf591).trans hT) ((mFz_n gf591).trans hN)) (fun wp628 hp628 p628 => ?_)
            obtain ⟨rfl, gp628, pp628e, sp628, tp628, dp628⟩ := p628
            have gwp628 := mFw_f gp628
            have gzp628 : mFz I h hp628 := mFz_t gf591 (mFz_w gwp628)
            have Dp628 : tvI (tF hp628 111 32) = 0 := by rw [dp628]; exact Df591
            have Sp628 : ms hp628 = (rA (rB T n (rA (rE T n (rB T n (ms h).1)) (ms h)).1) (rA (rE T n (rB T n (ms h).1)) (ms h))) := (by rw [sp628, Sf591])
            refine tw_aload rfl rfl ?_
            refine tw_getS rfl (hs_111_39 gzp628.1) ?_
            refine tw_iload rfl rfl ?_
            refine tw_aload rfl rfl ?_
            refine tw_push rfl ?_
            refine tw_virt1 rfl (g_digits hG hX (gzp628).1 pp628e ((mFz_T gzp628).trans hT) ((mFz_n gzp628).trans hN) (m := 2) (M := 2) rfl (by decide) (by rw [Sp628, rA_1]; exact rB_2)) (fun w9 hp629 p629 => ?_)
            obtain ⟨gp629, ⟨vp629, Np629, rfl, pp629e, sp629, tp629, dp629⟩ | ⟨ep629, xp629, Np629, rfl, x0p629, Fp629, Zp629⟩⟩ := p629
            · have gwp629 := mFw_f gp629
              have gzp629 : mFz I h hp629 := mFz_t gzp628 (mFz_w gwp629)
              have Dp629 : tvI (tF hp629 111 32) = 0 := by rw [dp629]; exact Dp628
              have Sp629 : ms hp629 = (rA vp629.1 (rA (rE T n (rB T n (ms h).1)) (ms h))) := by rw [sp629, Sp628, rA_A, rA_A]
              have K2 : rCl2 T n (k + 12) vp629.2 (rA vp629.1 (rA (rE T n (rB T n (ms h).1)) (ms h))) r := by
                have y := rCl1_q K1 (by have z := q592i; omega) (q := vp629) (by rw [← rM_bb]; have z := Np629; rw [Sp628, rA_1] at z; exact z)
                exact y
              have hv2 : vp629.2 ≤ 2 := (rM_r (rE_le (rB_le hpn)) (by rw [← rM_bb]; have z := Np629; rw [Sp628, rA_1] at z; exact z)).2.2
              refine tw_iast rfl (fun f630 => ?_)
              refine tG_ast f630 (gzp629).1 (fun hf630 af630 => ?_)
              try dsimp only [tvI_i, tvR_r] at af630
              rw [hI9] at af630
              have gf630 : mFz I h hf630 := mFz_a gzp629 af630 (by decide) (Nat.le_refl _)
              have pf630 := mAs_P af630 (by decide) pp629e
              have Sf630 : ms hf630 = (rA vp629.1 (rA (rE T n (rB T n (ms h).1)) (ms h))) := (mAs_m af630 (by decide)).1.trans Sp629
              have Df630 : tvI (tF hf630 111 32) = 0 := by rw [af630.2.1]; exact Dp629
              refine tw_aload rfl rfl ?_
              refine tw_getS rfl (hs_111_40 (gf630).1) ?_
              refine tw_iload rfl rfl ?_
              refine tw_aload rfl rfl ?_
              refine tw_getS rfl (hi_111_31 (gf630).1) ?_
              refine tw_iast rfl (fun f631 => ?_)
              have Lf631 : (tvI (tF hf630 111 31)).toNatClampNeg = (rA vp629.1 (rA (rE T n (rB T n (ms h).1)) (ms h))).2.2.length := by rw [← mEn_len]; exact congrArg (fun z : rS => z.2.2.length) Sf630
              refine tG_ast f631 (gf630).1 (fun hf631 af631 => ?_)
              try dsimp only [tvI_i, tvR_r] at af631
              rw [hI9] at af631
              have gf631 : mFz I h hf631 := mFz_a gf630 af631 (by decide) (Nat.le_refl _)
              have pf631 := mAs_P af631 (by decide) pf630
              have Sf631 : ms hf631 = (rA vp629.1 (rA (rE T n (rB T n (ms h).1)) (ms h))) := (mAs_m af631 (by decide)).1.trans Sf630
              have Df631 : tvI (tF hf631 111 32) = 0 := by rw [af631.2.1]; exact Df630
              refine tw_iload rfl rfl ?_
              refine tw_push rfl ?_
              refine tw_ic_eq rfl (fun q632 => ?_) (fun q632 => ?_)
              · try dsimp only [tvI_i, tvJ_j, tvR_r] at q632
                have q632i := zeqi (Y := 3) (by decide) q632
                exfalso
                have z1 := q592i
                have z2 := q632i
                omega
              · try dsimp only [tvI_i, tvJ_j, tvR_r] at q632
                have q632i := zneq (Y := 3) (by decide) q632
                refine tw_aload rfl rfl ?_
                refine tw_getS rfl (hi_111_29 (gf631).1) ?_
                refine tw_if_ne rfl (fun q633 => ?_) (fun q633 => ?_)
                · try dsimp only [tvI_i, tvJ_j, tvR_r] at q633
                  have q633i := zneq (Y := 0) (by decide) q633
                  exact absurd (mP_0 pf631) q633
                · try dsimp only [tvI_i, tvJ_j, tvR_r] at q633
                  have q633i := zeqi (Y := 0) (by decide) q633
                  refine tw_aload rfl rfl ?_
                  refine tw_push rfl ?_
                  refine tw_virt1 rfl (g_readsR hG hX (gf631).1 pf631 ((mFz_T gf631).trans hT) ((mFz_n gf631).trans hN) (x := 1) (tst := false) (by decide) (by decide) ⟨fun z => absurd z (by decide), fun z => absurd z (by decide)⟩ Df631) (fun w9 hp634 p634 => ?_)
                  obtain ⟨rfl, gp634, ⟨pp634e, dp634, mp634⟩ | ⟨ep634, Fp634, Zp634, mp634⟩⟩ := p634
                  · have gwp634 := id gp634
                    have gzp634 : mFz I h hp634 := mFz_t gf631 (mFz_w gwp634)
                    have m9 := mp634
                    rw [Sf631, show stN 1 = 1 from rfl] at m9
                    obtain ⟨hS, s2, hs2, K3⟩ := rCl2_s K2 (by have z := q632i; omega) m9
                    have Dp634 := mSk_0 dp634 hS
                    refine tw_aload rfl rfl ?_
                    refine tw_getS rfl (hs_111_41 gzp634.1) ?_
                    refine tw_iload rfl rfl ?_
                    refine tw_aload rfl rfl ?_
                    refine tw_getS rfl (hi_111_31 gzp634.1) ?_
                    refine tw_iast rfl (fun f635 => ?_)
                    have Lf635 : (tvI (tF hp634 111 31)).toNatClampNeg = (rA (rB T n s2.1) s2).2.2.length := by rw [← mEn_len]; exact congrArg (fun z : rS => z.2.2.length) hs2
                    refine tG_ast f635 (gzp634).1 (fun hf635 af635 => ?_)
                    try dsimp only [tvI_i, tvR_r] at af635
                    rw [hI9] at af635
                    have gf635 : mFz I h hf635 := mFz_a gzp634 af635 (by decide) (Nat.le_refl _)
                    have pf635 := mAs_P af635 (by decide) pp634e
                    have Sf635 : ms hf635 = (rA (rB T n s2.1) s2) := (mAs_m af635 (by decide)).1.trans hs2
                    have Df635 : tvI (tF hf635 111 32) = 0 := by rw [af635.2.1]; exact Dp634
                    refine tw_aload rfl rfl ?_
                    refine tw_virt0 rfl (g_blanks hG hX (gf635).1 pf635 ((mFz_T gf635).trans hT) ((mFz_n gf635).trans hN)) (fun wp636 hp636 p636 => ?_)
                    obtain ⟨rfl, gp636, pp636e, sp636, tp636, dp636⟩ := p636
                    have gwp636 := mFw_f gp636
                    have gzp636 : mFz I h hp636 := mFz_t gf635 (mFz_w gwp636)
                    have Dp636 : tvI (tF hp636 111 32) = 0 := by rw [dp636]; exact Df635
                    have Sp636 : ms hp636 = (rA (rB T n s2.1) s2) := (by rw [sp636, Sf635]; exact rB_A)
                    refine tw_aload rfl rfl ?_
                    refine tw_push rfl ?_
                    refine tw_virt1 rfl (g_stands hG hX (gzp636).1 ((mFz_T gzp636).trans hT) ((mFz_n gzp636).trans hN) (q := 21) (by decide +kernel) ⟨pp636e.2.1.1, by have := pp636e.2.1; omega⟩ ⟨by have := pp636e.2.1; omega, pp636e.2.1.2.2⟩) (fun w9 h9 p637 => ?_)
                    obtain ⟨⟨p637, rfl⟩ | ⟨p637, rfl⟩, rfl⟩ := p637
                    · try dsimp only [tvI_i, tvJ_j, tvR_r] at p637
                      refine tw_istore rfl ?_
                      refine tw_iload rfl rfl ?_
                      refine tw_push rfl ?_
                      refine tw_ic_ne rfl (fun q638 => ?_) (fun q638 => ?_)
                      · try dsimp only [tvI_i, tvJ_j, tvR_r] at q638
                        have q638i := zneq (Y := 3) (by decide) q638
                        refine tw_iload rfl rfl ?_
                        refine tw_if_eq rfl (fun z => absurd z (by decide)) (fun _ => ?_)
                        refine tw_aload rfl rfl ?_
                        refine tw_getS rfl (hi_111_29 gzp636.1) ?_
                        refine tw_if_ne rfl (fun q639 => ?_) (fun q639 => ?_)
                        · try dsimp only [tvI_i, tvJ_j, tvR_r] at q639
                          have q639i := zneq (Y := 0) (by decide) q639
                          exact absurd (mP_0 pp636e) q639
                        · try dsimp only [tvI_i, tvJ_j, tvR_r] at q639
                          have q639i := zeqi (Y := 0) (by decide) q639
                          refine tw_aload rfl rfl ?_
                          refine tw_dup rfl ?_
                          refine tw_getS rfl (hi_111_28 gzp636.1) ?_
                          refine tw_push rfl ?_
                          refine tw_iadd rfl ?_
                          refine tw_put rfl (fun f640 => ?_)
                          have hw16 : rW T n (rB T n s2.1) (rWd 16) = true := by have z := p637; rw [Sp636, rA_1] at z; exact z
                          refine tG_setm f640 (hw_111_28 f640 (gzp636).1) (fun hf640 ef640 => ?_)
                          try dsimp only [tvI_i] at ef640
                          have gf640 : mFz I h hf640 := mFz_s gzp636 ef640 (Or.inl (by unfold mFs; omega))
                          have h9w : rE T n (rB T n s2.1) = rB T n s2.1 + 2 := by rw [rW_e hw16, wlen_k.2.2.2]
                          have hpB : rB T n s2.1 ≤ n := by have z := mPle pp636e ((mFz_n gzp636).trans hN); rw [Sp636, rA_1] at z; exact z
                          have hr9 := rE_le (T := T) hpB
                          rw [h9w] at hr9
                          obtain ⟨pf640, sf640, tf640⟩ := mTo pp636e ((mFz_n gzp636).trans hN) ef640 (v := rB T n s2.1 + 2) (zadN (a := rB T n s2.1) (b := 2) (by rw [mPl pp636e, Sp636, rA_1]) rfl (by omega) (by decide)) (by omega)
                          have Sf640 : ms hf640 = (rA (rB T n s2.1 + 2) s2) := by rw [sf640, Sp636, rA_A]
                          have Df640 : tvI (tF hf640 111 32) = 0 := by rw [mI_o ef640 (by decide)]; exact Dp636
                          have gwf640 : tA hf640 = tA hp636 := ef640.2.2.2.1
                          refine tw_aload rfl rfl ?_
                          refine tw_push rfl ?_
                          refine tw_virt1 rfl (g_readsR hG hX (gf640).1 pf640 ((mFz_T gf640).trans hT) ((mFz_n gf640).trans hN) (x := 0) (tst := true) (by decide) (by decide) ⟨fun _ => rfl, fun _ => rfl⟩ Df640) (fun w9 hp641 p641 => ?_)
                          obtain ⟨rfl, gp641, ⟨pp641e, dp641, mp641⟩ | ⟨ep641, Fp641, Zp641, mp641⟩⟩ := p641
                          · have gwp641 := id gp641
                            have gzp641 : mFz I h hp641 := mFz_t gf640 (mFz_w gwp641)
                            have m9 := mp641
                            rw [Sf640, show stN 0 = 0 from rfl] at m9
                            obtain ⟨hS3, s3, hs3, hr⟩ := rCl3_s K3 hw16 m9
                            have Dp641 := mSk_0 dp641 hS3
                            refine tw_aload rfl rfl ?_
                            refine tw_getS rfl (hs_111_42 gzp641.1) ?_
                            refine tw_iload rfl rfl ?_
                            refine tw_aload rfl rfl ?_
                            refine tw_getS rfl (hi_111_31 gzp641.1) ?_
                            refine tw_iast rfl (fun f642 => ?_)
                            have Lf642 : (tvI (tF hp641 111 31)).toNatClampNeg = (rA (rB T n s3.1) s3).2.2.length := by rw [← mEn_len]; exact congrArg (fun z : rS => z.2.2.length) hs3
                            refine tG_ast f642 (gzp641).1 (fun hf642 af642 => ?_)
                            try dsimp only [tvI_i, tvR_r] at af642
                            rw [hI9] at af642
                            have gf642 : mFz I h hf642 := mFz_a gzp641 af642 (by decide) (Nat.le_refl _)
                            have pf642 := mAs_P af642 (by decide) pp641e
                            have Sf642 : ms hf642 = (rA (rB T n s3.1) s3) := (mAs_m af642 (by decide)).1.trans hs3
                            have Df642 : tvI (tF hf642 111 32) = 0 := by rw [af642.2.1]; exact Dp641
                            have c135 : tA hf642 135 I = x := ((congrFun ((mAs_A af642 (q := 135) (by decide)).trans ((mFw_A gwp641 (p := 135) (by decide)).trans ((congrFun gwf640 135).trans ((mFw_A gwp636 (p := 135) (by decide)).trans ((mAs_A af635 (q := 135) (by decide)).trans ((mFw_A gwp634 (p := 135) (by decide)).trans ((mAs_A af631 (q := 135) (by decide)).trans ((mAs_A af630 (q := 135) (by decide)).trans ((mFw_A gwp629 (p := 135) (by decide)).trans ((mFw_A gwp628 (p := 135) (by decide)).trans (mAs_A af591 (q := 135) (by decide)))))))))))) I).trans (mAs_x af590))
                            have c137 : (tA hf642 137 I).toNatClampNeg = (rA vp629.1 (rA (rE T n (rB T n (ms h).1)) (ms h))).2.2.length := by rw [((congrFun ((mAs_A af642 (q := 137) (by decide)).trans ((mFw_A gwp641 (p := 137) (by decide)).trans ((congrFun gwf640 137).trans ((mFw_A gwp636 (p := 137) (by decide)).trans ((mAs_A af635 (q := 137) (by decide)).trans (mFw_A gwp634 (p := 137) (by decide))))))) I).trans (mAs_x af631))]; exact Lf631
                            have c138 : (tA hf642 138 I).toNatClampNeg = (rA (rB T n s2.1) s2).2.2.length := by rw [((congrFun ((mAs_A af642 (q := 138) (by decide)).trans ((mFw_A gwp641 (p := 138) (by decide)).trans ((congrFun gwf640 138).trans (mFw_A gwp636 (p := 138) (by decide))))) I).trans (mAs_x af635))]; exact Lf635
                            have c139 : (tA hf642 139 I).toNatClampNeg = (rA (rB T n s3.1) s3).2.2.length := by rw [(mAs_x af642)]; exact Lf642
                            have c136 : (tA hf642 136 I).toNatClampNeg = vp629.2 := by rw [((congrFun ((mAs_A af642 (q := 136) (by decide)).trans ((mFw_A gwp641 (p := 136) (by decide)).trans ((congrFun gwf640 136).trans ((mFw_A gwp636 (p := 136) (by decide)).trans ((mAs_A af635 (q := 136) (by decide)).trans ((mFw_A gwp634 (p := 136) (by decide)).trans (mAs_A af631 (q := 136) (by decide)))))))) I).trans (mAs_x af630))]; exact zoN (by omega)
                            have hrow : mRow hf642 I = (vp629.2, (rA vp629.1 (rA (rE T n (rB T n (ms h).1)) (ms h))).2.2.length, (rA (rB T n s2.1) s2).2.2.length, (rA (rB T n s3.1) s3).2.2.length) := by
                              unfold mRow
                              rw [c135, c137, c138, c139, zof_cl hx, c136, if_pos ⟨by have z := q592i; omega, by omega⟩]
                            exact tw_vret rfl ⟨rfl, gf642, mCo_r hr pf642 Sf642 Df642 hrow⟩
                          · have gwp641 := id gp641
                            have gzp641 : mFz I h hp641 := mFz_t gf640 (mFz_w gwp641)
                            have m9 := mp641
                            rw [Sf640, show stN 0 = 0 from rfl] at m9
                            have hr := rCl3_e K3 hw16 m9
                            refine tw_aload rfl rfl ?_
                            refine tw_getS rfl (hs_111_42 gzp641.1) ?_
                            refine tw_iload rfl rfl ?_
                            refine tw_aload rfl rfl ?_
                            refine tw_getS rfl (hi_111_31 gzp641.1) ?_
                            refine tw_iast rfl (fun f643 => ?_)
                            refine tG_ast f643 (gzp641).1 (fun hf643 af643 => ?_)
                            try dsimp only [tvI_i, tvR_r] at af643
                            rw [hI9] at af643
                            have gf643 : mFz I h hf643 := mFz_a gzp641 af643 (by decide) (Nat.le_refl _)
                            have Ff643 := mAs_F af643 Fp641
                            have Zf643 := mAs_Z af643 Zp641
                            exact tw_vret rfl ⟨rfl, gf643, mCo_l hr Ff643 Zf643⟩
                      · try dsimp only [tvI_i, tvJ_j, tvR_r] at q638
                        have q638i := zeqi (Y := 3) (by decide) q638
                        exfalso
                        have z1 := q592i
                        have z2 := q638i
                        omega
                    · try dsimp only [tvI_i, tvJ_j, tvR_r] at p637
                      refine tw_istore rfl ?_
                      refine tw_iload rfl rfl ?_
                      refine tw_push rfl ?_
                      refine tw_ic_ne rfl (fun q644 => ?_) (fun q644 => ?_)
                      · try dsimp only [tvI_i, tvJ_j, tvR_r] at q644
                        have q644i := zneq (Y := 3) (by decide) q644
                        refine tw_iload rfl rfl ?_
                        refine tw_if_eq rfl (fun _ => ?_) (fun z => absurd z (by decide))
                        refine tw_aload rfl rfl ?_
                        refine tw_getS rfl (hs_111_42 gzp636.1) ?_
                        refine tw_iload rfl rfl ?_
                        refine tw_aload rfl rfl ?_
                        refine tw_getS rfl (hi_111_31 gzp636.1) ?_
                        refine tw_iast rfl (fun f645 => ?_)
                        have Lf645 : (tvI (tF hp636 111 31)).toNatClampNeg = (rA (rB T n s2.1) s2).2.2.length := by rw [← mEn_len]; exact congrArg (fun z : rS => z.2.2.length) Sp636
                        refine tG_ast f645 (gzp636).1 (fun hf645 af645 => ?_)
                        try dsimp only [tvI_i, tvR_r] at af645
                        rw [hI9] at af645
                        have gf645 : mFz I h hf645 := mFz_a gzp636 af645 (by decide) (Nat.le_refl _)
                        have pf645 := mAs_P af645 (by decide) pp636e
                        have Sf645 : ms hf645 = (rA (rB T n s2.1) s2) := (mAs_m af645 (by decide)).1.trans Sp636
                        have Df645 : tvI (tF hf645 111 32) = 0 := by rw [af645.2.1]; exact Dp636
                        have hw16 : ¬ rW T n (rB T n s2.1) (rWd 16) = true := by have z := p637; rw [Sp636, rA_1] at z; exact z
                        have hr := rCl3_2 K3 hw16 (by have z := q644i; omega)
                        have c135 : tA hf645 135 I = x := ((congrFun ((mAs_A af645 (q := 135) (by decide)).trans ((mFw_A gwp636 (p := 135) (by decide)).trans ((mAs_A af635 (q := 135) (by decide)).trans ((mFw_A gwp634 (p := 135) (by decide)).trans ((mAs_A af631 (q := 135) (by decide)).trans ((mAs_A af630 (q := 135) (by decide)).trans ((mFw_A gwp629 (p := 135) (by decide)).trans ((mFw_A gwp628 (p := 135) (by decide)).trans (mAs_A af591 (q := 135) (by decide)))))))))) I).trans (mAs_x af590))
                        have c137 : (tA hf645 137 I).toNatClampNeg = (rA vp629.1 (rA (rE T n (rB T n (ms h).1)) (ms h))).2.2.length := by rw [((congrFun ((mAs_A af645 (q := 137) (by decide)).trans ((mFw_A gwp636 (p := 137) (by decide)).trans ((mAs_A af635 (q := 137) (by decide)).trans (mFw_A gwp634 (p := 137) (by decide))))) I).trans (mAs_x af631))]; exact Lf631
                        have c138 : (tA hf645 138 I).toNatClampNeg = (rA (rB T n s2.1) s2).2.2.length := by rw [((congrFun ((mAs_A af645 (q := 138) (by decide)).trans (mFw_A gwp636 (p := 138) (by decide))) I).trans (mAs_x af635))]; exact Lf635
                        have c139 : (tA hf645 139 I).toNatClampNeg = (rA (rB T n s2.1) s2).2.2.length := by rw [(mAs_x af645)]; exact Lf645
                        have c136 : (tA hf645 136 I).toNatClampNeg = vp629.2 := by rw [((congrFun ((mAs_A af645 (q := 136) (by decide)).trans ((mFw_A gwp636 (p := 136) (by decide)).trans ((mAs_A af635 (q := 136) (by decide)).trans ((mFw_A gwp634 (p := 136) (by decide)).trans (mAs_A af631 (q := 136) (by decide)))))) I).trans (mAs_x af630))]; exact zoN (by omega)
                        have hrow : mRow hf645 I = (vp629.2, (rA vp629.1 (rA (rE T n (rB T n (ms h).1)) (ms h))).2.2.length, (rA (rB T n s2.1) s2).2.2.length, (rA (rB T n s2.1) s2).2.2.length) := by
                          unfold mRow
                          rw [c135, c137, c138, c139, zof_cl hx, c136, if_pos ⟨by have z := q592i; omega, by omega⟩]
                        exact tw_vret rfl ⟨rfl, gf645, mCo_r hr pf645 (Sf645.trans rB_A.symm) Df645 hrow⟩
                      · try dsimp only [tvI_i, tvJ_j, tvR_r] at q644
                        have q644i := zeqi (Y := 3) (by decide) q644
                        exfalso
                        have z1 := q592i
                        have z2 := q644i
                        omega
                  · have gwp634 := id gp634
                    have gzp634 : mFz I h hp634 := mFz_t gf631 (mFz_w gwp634)
                    have m9 := mp634
                    rw [Sf631, show stN 1 = 1 from rfl] at m9
                    have hr := rCl2_e K2 (by have z := q632i; omega) m9
                    refine tw_aload rfl rfl ?_
                    refine tw_getS rfl (hs_111_41 gzp634.1) ?_
                    refine tw_iload rfl rfl ?_
                    refine tw_aload rfl rfl ?_
                    refine tw_getS rfl (hi_111_31 gzp634.1) ?_
                    refine tw_iast rfl (fun f646 => ?_)
                    refine tG_ast f646 (gzp634).1 (fun hf646 af646 => ?_)
                    try dsimp only [tvI_i, tvR_r] at af646
                    rw [hI9] at af646
                    have gf646 : mFz I h hf646 := mFz_a gzp634 af646 (by decide) (Nat.le_refl _)
                    have Ff646 := mAs_F af646 Fp634
                    have Zf646 := mAs_Z af646 Zp634
                    refine tw_aload rfl rfl ?_
                    refine tw_virt0 rfl (y_blanks hG hX (gf646).1 Ff646 ((mFz_T gf646).trans hT) ((mFz_n gf646).trans hN) Zf646) (fun wp647 hp647 p647 => ?_)
                    obtain ⟨rfl, gp647, Fp647, Zp647⟩ := p647
                    have gwp647 := mFw_f gp647
                    have gzp647 : mFz I h hp647 := mFz_t gf646 (mFz_w gwp647)
                    refine tw_aload rfl rfl ?_
                    refine tw_push rfl ?_
                    refine tw_virt1 rfl (g_stands hG hX (gzp647).1 ((mFz_T gzp647).trans hT) ((mFz_n gzp647).trans hN) (q := 21) (by decide +kernel) Zp647.1 ⟨by have := Zp647.2; omega, Zp647.2.2⟩) (fun w9 h9 p648 => ?_)
                    obtain ⟨⟨p648, rfl⟩ | ⟨p648, rfl⟩, rfl⟩ := p648
                    · try dsimp only [tvI_i, tvJ_j, tvR_r] at p648
                      refine tw_istore rfl ?_
                      refine tw_iload rfl rfl ?_
                      refine tw_push rfl ?_
                      refine tw_ic_ne rfl (fun q649 => ?_) (fun q649 => ?_)
                      · try dsimp only [tvI_i, tvJ_j, tvR_r] at q649
                        have q649i := zneq (Y := 3) (by decide) q649
                        refine tw_iload rfl rfl ?_
                        refine tw_if_eq rfl (fun z => absurd z (by decide)) (fun _ => ?_)
                        refine tw_aload rfl rfl ?_
                        refine tw_getS rfl (hi_111_29 gzp647.1) ?_
                        refine tw_if_ne rfl (fun q650 => ?_) (fun q650 => ?_)
                        · try dsimp only [tvI_i, tvJ_j, tvR_r] at q650
                          have q650i := zneq (Y := 0) (by decide) q650
                          refine tw_aload rfl rfl ?_
                          refine tw_getS rfl (hs_111_42 gzp647.1) ?_
                          refine tw_iload rfl rfl ?_
                          refine tw_aload rfl rfl ?_
                          refine tw_getS rfl (hi_111_31 gzp647.1) ?_
                          refine tw_iast rfl (fun f651 => ?_)
                          refine tG_ast f651 (gzp647).1 (fun hf651 af651 => ?_)
                          try dsimp only [tvI_i, tvR_r] at af651
                          rw [hI9] at af651
                          have gf651 : mFz I h hf651 := mFz_a gzp647 af651 (by decide) (Nat.le_refl _)
                          have Ff651 := mAs_F af651 Fp647
                          have Zf651 := mAs_Z af651 Zp647
                          exact tw_vret rfl ⟨rfl, gf651, mCo_l hr Ff651 Zf651⟩
                        · try dsimp only [tvI_i, tvJ_j, tvR_r] at q650
                          have q650i := zeqi (Y := 0) (by decide) q650
                          exact absurd q650 (mFt_n Fp647)
                      · try dsimp only [tvI_i, tvJ_j, tvR_r] at q649
                        have q649i := zeqi (Y := 3) (by decide) q649
                        exfalso
                        have z1 := q592i
                        have z2 := q649i
                        omega
                    · try dsimp only [tvI_i, tvJ_j, tvR_r] at p648
                      refine tw_istore rfl ?_
                      refine tw_iload rfl rfl ?_
                      refine tw_push rfl ?_
                      refine tw_ic_ne rfl (fun q652 => ?_) (fun q652 => ?_)
                      · try dsimp only [tvI_i, tvJ_j, tvR_r] at q652
                        have q652i := zneq (Y := 3) (by decide) q652
                        refine tw_iload rfl rfl ?_
                        refine tw_if_eq rfl (fun _ => ?_) (fun z => absurd z (by decide))
                        refine tw_aload rfl rfl ?_
                        refine tw_getS rfl (hs_111_42 gzp647.1) ?_
                        refine tw_iload rfl rfl ?_
                        refine tw_aload rfl rfl ?_
                        refine tw_getS rfl (hi_111_31 gzp647.1) ?_
                        refine tw_iast rfl (fun f653 => ?_)
                        refine tG_ast f653 (gzp647).1 (fun hf653 af653 => ?_)
                        try dsimp only [tvI_i, tvR_r] at af653
                        rw [hI9] at af653
                        have gf653 : mFz I h hf653 := mFz_a gzp647 af653 (by decide) (Nat.le_refl _)
                        have Ff653 := mAs_F af653 Fp647
                        have Zf653 := mAs_Z af653 Zp647
                        exact tw_vret rfl ⟨rfl, gf653, mCo_l hr Ff653 Zf653⟩
                      · try dsimp only [tvI_i, tvJ_j, tvR_r] at q652
                        have q652i := zeqi (Y := 3) (by decide) q652
                        exfalso
                        have z1 := q592i
                        have z2 := q652i
                        omega
            · have gwp629 := mFw_f gp629
              have gzp629 : mFz I h hp629 := mFz_t gzp628 (mFz_w gwp629)
              have hr : r = .inl ep629 := rCl1_e K1 (by have z := q592i; omega) (by rw [← rM_bb]; have z := Np629; rw [Sp628, rA_1] at z; exact z)
              refine tw_iast rfl (fun f654 => ?_)
              refine tG_ast f654 (gzp629).1 (fun hf654 af654 => ?_)
              try dsimp only [tvI_i, tvR_r] at af654
              rw [hI9] at af654
              have gf654 : mFz I h hf654 := mFz_a gzp629 af654 (by decide) (Nat.le_refl _)
              have Ff654 := mAs_F af654 Fp629
              have Zf654 := mAs_Z af654 Zp629
              refine tw_aload rfl rfl ?_
              refine tw_getS rfl (hs_111_40 (gf654).1) ?_
              refine tw_iload rfl rfl ?_
              refine tw_aload rfl rfl ?_
              refine tw_getS rfl (hi_111_31 (gf654).1) ?_
              refine tw_iast rfl (fun f655 => ?_)
              refine tG_ast f655 (gf654).1 (fun hf655 af655 => ?_)
              try dsimp only [tvI_i, tvR_r] at af655
              rw [hI9] at af655
              have gf655 : mFz I h hf655 := mFz_a gf654 af655 (by decide) (Nat.le_refl _)
              have Ff655 := mAs_F af655 Ff654
              have Zf655 := mAs_Z af655 Zf654
              refine tw_iload rfl rfl ?_
              refine tw_push rfl ?_
              refine tw_ic_eq rfl (fun q656 => ?_) (fun q656 => ?_)
              · try dsimp only [tvI_i, tvJ_j, tvR_r] at q656
                have q656i := zeqi (Y := 3) (by decide) q656
                exfalso
                have z1 := q592i
                have z2 := q656i
                omega
              · try dsimp only [tvI_i, tvJ_j, tvR_r] at q656
                have q656i := zneq (Y := 3) (by decide) q656
                refine tw_aload rfl rfl ?_
                refine tw_getS rfl (hi_111_29 (gf655).1) ?_
                refine tw_if_ne rfl (fun q657 => ?_) (fun q657 => ?_)
                · try dsimp only [tvI_i, tvJ_j, tvR_r] at q657
                  have q657i := zneq (Y := 0) (by decide) q657
                  refine tw_aload rfl rfl ?_
                  refine tw_getS rfl (hs_111_41 (gf655).1) ?_
                  refine tw_iload rfl rfl ?_
                  refine tw_aload rfl rfl ?_
                  refine tw_getS rfl (hi_111_31 (gf655).1) ?_
                  refine tw_iast rfl (fun f658 => ?_)
                  refine tG_ast f658 (gf655).1 (fun hf658 af658 => ?_)
                  try dsimp only [tvI_i, tvR_r] at af658
                  rw [hI9] at af658
                  have gf658 : mFz I h hf658 := mFz_a gf655 af658 (by decide) (Nat.le_refl _)
                  have Ff658 := mAs_F af658 Ff655
                  have Zf658 := mAs_Z af658 Zf655
                  refine tw_aload rfl rfl ?_
                  refine tw_virt0 rfl (y_blanks hG hX (gf658).1 Ff658 ((mFz_T gf658).trans hT) ((mFz_n gf658).trans hN) Zf658) (fun wp659 hp659 p659 => ?_)
                  obtain ⟨rfl, gp659, Fp659, Zp659⟩ := p659
                  have gwp659 := mFw_f gp659
                  have gzp659 : mFz I h hp659 := mFz_t gf658 (mFz_w gwp659)
                  refine tw_aload rfl rfl ?_
                  refine tw_push rfl ?_
                  refine tw_virt1 rfl (g_stands hG hX (gzp659).1 ((mFz_T gzp659).trans hT) ((mFz_n gzp659).trans hN) (q := 21) (by decide +kernel) Zp659.1 ⟨by have := Zp659.2; omega, Zp659.2.2⟩) (fun w9 h9 p660 => ?_)
                  obtain ⟨⟨p660, rfl⟩ | ⟨p660, rfl⟩, rfl⟩ := p660
                  · try dsimp only [tvI_i, tvJ_j, tvR_r] at p660
                    refine tw_istore rfl ?_
                    refine tw_iload rfl rfl ?_
                    refine tw_push rfl ?_
                    refine tw_ic_ne rfl (fun q661 => ?_) (fun q661 => ?_)
                    · try dsimp only [tvI_i, tvJ_j, tvR_r] at q661
                      have q661i := zneq (Y := 3) (by decide) q661
                      refine tw_iload rfl rfl ?_
                      refine tw_if_eq rfl (fun z => absurd z (by decide)) (fun _ => ?_)
                      refine tw_aload rfl rfl ?_
                      refine tw_getS rfl (hi_111_29 gzp659.1) ?_
                      refine tw_if_ne rfl (fun q662 => ?_) (fun q662 => ?_)
                      · try dsimp only [tvI_i, tvJ_j, tvR_r] at q662
                        have q662i := zneq (Y := 0) (by decide) q662
                        refine tw_aload rfl rfl ?_
                        refine tw_getS rfl (hs_111_42 gzp659.1) ?_
                        refine tw_iload rfl rfl ?_
                        refine tw_aload rfl rfl ?_
                        refine tw_getS rfl (hi_111_31 gzp659.1) ?_
                        refine tw_iast rfl (fun f663 => ?_)
                        refine tG_ast f663 (gzp659).1 (fun hf663 af663 => ?_)
                        try dsimp only [tvI_i, tvR_r] at af663
                        rw [hI9] at af663
                        have gf663 : mFz I h hf663 := mFz_a gzp659 af663 (by decide) (Nat.le_refl _)
                        have Ff663 := mAs_F af663 Fp659
                        have Zf663 := mAs_Z af663 Zp659
                        exact tw_vret rfl ⟨rfl, gf663, mCo_l hr Ff663 Zf663⟩
                      · try dsimp only [tvI_i, tvJ_j, tvR_r] at q662
                        have q662i := zeqi (Y := 0) (by decide) q662
                        exact absurd q662 (mFt_n Fp659)
                    · try dsimp only [tvI_i, tvJ_j, tvR_r] at q661
                      have q661i := zeqi (Y := 3) (by decide) q661
                      exfalso
                      have z1 := q592i
                      have z2 := q661i
                      omega
                  · try dsimp only [tvI_i, tvJ_j, tvR_r] at p660
                    refine tw_istore rfl ?_
                    refine tw_iload rfl rfl ?_
                    refine tw_push rfl ?_
                    refine tw_ic_ne rfl (fun q664 => ?_) (fun q664 => ?_)
                    · try dsimp only [tvI_i, tvJ_j, tvR_r] at q664
                      have q664i := zneq (Y := 3) (by decide) q664
                      refine tw_iload rfl rfl ?_
                      refine tw_if_eq rfl (fun _ => ?_) (fun z => absurd z (by decide))
                      refine tw_aload rfl rfl ?_
                      refine tw_getS rfl (hs_111_42 gzp659.1) ?_
                      refine tw_iload rfl rfl ?_
                      refine tw_aload rfl rfl ?_
                      refine tw_getS rfl (hi_111_31 gzp659.1) ?_
                      refine tw_iast rfl (fun f665 => ?_)
                      refine tG_ast f665 (gzp659).1 (fun hf665 af665 => ?_)
                      try dsimp only [tvI_i, tvR_r] at af665
                      rw [hI9] at af665
                      have gf665 : mFz I h hf665 := mFz_a gzp659 af665 (by decide) (Nat.le_refl _)
                      have Ff665 := mAs_F af665 Fp659
                      have Zf665 := mAs_Z af665 Zp659
                      exact tw_vret rfl ⟨rfl, gf665, mCo_l hr Ff665 Zf665⟩
                    · try dsimp only [tvI_i, tvJ_j, tvR_r] at q664
                      have q664i := zeqi (Y := 3) (by decide) q664
                      exfalso
                      have z1 := q592i
                      have z2 := q664i
                      omega
                · try dsimp only [tvI_i, tvJ_j, tvR_r] at q657
                  have q657i := zeqi (Y := 0) (by decide) q657
                  exact absurd q657 (mFt_n Ff655)
        · try dsimp only [tvI_i, tvJ_j, tvR_r] at q587
          have q587i := zeqi (Y := 12) (by decide) q587
          refine tw_aload rfl rfl ?_
          refine tw_push rfl ?_
          refine tw_iload rfl rfl ?_
          refine tw_virt2 rfl (g_fails hG hX (gzp580).1 pp580e ((mFz_T gzp580).trans hT) ((mFz_n gzp580).trans hN) (w := 4) rfl (by decide) (mPl pp580e) (by have := mPle pp580e ((mFz_n gzp580).trans hN); have := mNl pp580e ((mFz_n gzp580).trans hN); have := pp580e.2.1; omega)) (fun wp666 hp666 p666 => ?_)
          obtain ⟨rfl, gp666, Fp666, ip666, jp666⟩ := p666
          have gwp666 := mFw_f gp666
          have gzp666 : mFz I h hp666 := mFz_t gzp580 (mFz_w gwp666)
          have Zp666 : mZp hp666 := mZp_k (mZp_p pp580e) ip666 jp666
          rw [Sp580, rA_1] at Fp666
          have hk4 : k < 4 := by have z := q581; omega
          have hw : rW T n (rB T n (ms h).1) (rWd (k + 12)) = true := by have z := p585; rw [Sp580, rA_1] at z; rw [rWd_14 hk4]; exact z
          have hr := rCl_cc hr0 (k := k + 12) (by omega) (by omega) hw (by have z := q587i; omega)
          exact tw_vret rfl ⟨rfl, gzp666, mCo_l hr Fp666 Zp666⟩
      · try dsimp only [tvI_i, tvJ_j, tvR_r] at q586
        have q586i := zeqi (Y := 4) (by decide) q586
        exfalso
        have z1 := q581
        have z2 := q586i
        omega
    · try dsimp only [tvI_i, tvJ_j, tvR_r] at p585
      refine tw_if_ne rfl (fun z => absurd z (by decide)) (fun _ => ?_)
      refine tw_iinc rfl rfl ?_
      refine tw_goto rfl ?_
      have hk4 : k < 4 := by have z := q581; omega
      have hno : ¬ rW T n (rB T n (ms h).1) (rWd (k + 12)) = true := by have z := p585; rw [Sp580, rA_1] at z; rw [rWd_14 hk4]; exact z
      exact tG_cut (zW_mono zTt G dp) (Or.inr ⟨rfl, rfl, rfl, k + 1, x + 1, zincN hx (by omega), by omega, fun i hi => (Classical.em (i = k)).elim (fun z => by rw [z]; exact hno) (fun z => hall i (by omega)), rfl⟩)
/-! the reference's whole rule: what its loop stands on -/
section R9
variable {T : Nat → Int32} {n f : Nat} {s : rS} {cl : List rCt} {r : Nat ⊕ (rS × List rCt)}
/-- what follows a clause -/
noncomputable def rNx (T : Nat → Int32) (n : Nat) (cl : List rCt) (r : Nat ⊕ (rS × List rCt)) : Nat ⊕ (rS × rCt) → Prop
  | .inl e => r = .inl e
  | .inr x => (¬ rB T n x.1.1 < n ∧ r = .inr (rA (rB T n x.1.1) x.1, cl ++ [x.2])) ∨ ((rB T n x.1.1 < n ∧ T (rB T n x.1.1) = 59) ∧ ∃ f, rRu T n f (rA (rB T n x.1.1 + 1) x.1) (cl ++ [x.2]) r) ∨ ((rB T n x.1.1 < n ∧ ¬ T (rB T n x.1.1) = 59) ∧ r = .inl (1 + 8 * rB T n x.1.1 + 0))
theorem rRu_st (h : rRu T n f s cl r) : ∃ r2, rCl T n cl.length s r2 ∧ rNx T n cl r r2 := by
  cases f with
  | zero => exact h.elim
  | succ f =>
    rcases h with ⟨e, h1, h2⟩ | ⟨s1, c, h1, h2⟩
    · exact ⟨.inl e, h1, h2⟩
    · refine ⟨.inr (s1, c), h1, ?_⟩
      rcases h2 with h2 | ⟨h2, h3⟩ | h2
      · exact Or.inl h2
      · exact Or.inr (Or.inl ⟨h2, f, h3⟩)
      · exact Or.inr (Or.inr h2)
theorem mCo_w {I : Nat} {r2 : Nat ⊕ (rS × rCt)} {h h2 : zH} {w : Option Value} (k : w = none ∧ mFz I h h2 ∧ mCo T n I r2 h2) (q : rNx T n cl r r2) : w = none ∧ mFz I h h2 ∧ ((∃ e, r = .inl e ∧ mFt h2 e ∧ mZp h2) ∨ ∃ s1 c1, r2 = .inr (s1, c1) ∧ mP h2 ∧ ms h2 = rA (rB T n s1.1) s1 ∧ tvI (tF h2 111 32) = 0 ∧ mRow h2 I = c1 ∧ rNx T n cl r (.inr (s1, c1))) := by
  refine ⟨k.1, k.2.1, ?_⟩
  cases r2 with
  | inl e => exact Or.inl ⟨e, q, k.2.2.1, k.2.2.2⟩
  | inr x => exact Or.inr ⟨x.1, x.2, rfl, k.2.2.1, k.2.2.2.1, k.2.2.2.2.1, k.2.2.2.2.2, q⟩
/-- what the reference's reader keeps between rules -/
noncomputable def mK (h : zH) : Prop := (0 ≤ (tvI (tF h 111 27)).toInt ∧ (tvI (tF h 111 27)).toInt ≤ 400) ∧ 0 ≤ (tvI (tF h 111 34)).toInt ∧ (0 ≤ (tvI (tF h 111 30)).toInt ∧ (tvI (tF h 111 30)).toInt ≤ 10) ∧ (∀ i, i < tN h 142 → 0 ≤ (tA h 142 i).toInt) ∧ (∀ i : Nat, i = i) ∧ tN h 133 ≤ 100000 ∧ tN h 142 ≤ 100000
theorem mRs9 {h a b c d e : zH} {lo : Nat} (hs : tSh h) (k : mK h) (e28 : mSet 28 0 h a) (e29 : mSet 29 0 a b) (e31 : mSet 31 0 b c) (e32 : mSet 32 0 c d) (e33 : mSet 33 0 d e) : mFz lo h e ∧ mP e ∧ ms e = (0, 0, []) ∧ tvI (tF e 111 32) = 0 := by
  have z0 : mFz lo h h := mFz_r hs
  have z1 := mFz_s z0 e28 (Or.inl (by unfold mFs; omega))
  have z2 := mFz_s z1 e29 (Or.inl (by unfold mFs; omega))
  have z3 := mFz_s z2 e31 (Or.inl (by unfold mFs; omega))
  have z4 := mFz_s z3 e32 (Or.inl (by unfold mFs; omega))
  have z5 := mFz_s z4 e33 (Or.inl (by unfold mFs; omega))
  have f28 : tF e 111 28 = .int 0 := (e33.2.2.1 111 28 (by decide)).trans ((e32.2.2.1 111 28 (by decide)).trans ((e31.2.2.1 111 28 (by decide)).trans ((e29.2.2.1 111 28 (by decide)).trans e28.2.1)))
  have f29 : tF e 111 29 = .int 0 := (e33.2.2.1 111 29 (by decide)).trans ((e32.2.2.1 111 29 (by decide)).trans ((e31.2.2.1 111 29 (by decide)).trans e29.2.1))
  have f31 : tF e 111 31 = .int 0 := (e33.2.2.1 111 31 (by decide)).trans ((e32.2.2.1 111 31 (by decide)).trans e31.2.1)
  have f32 : tF e 111 32 = .int 0 := (e33.2.2.1 111 32 (by decide)).trans e32.2.1
  have f33 : tF e 111 33 = .int 0 := e33.2.1
  have f34 : tF e 111 34 = tF h 111 34 := (e33.2.2.1 111 34 (by decide)).trans ((e32.2.2.1 111 34 (by decide)).trans ((e31.2.2.1 111 34 (by decide)).trans ((e29.2.2.1 111 34 (by decide)).trans (e28.2.2.1 111 34 (by decide)))))
  have A : tA e = tA h := e33.2.2.2.1.trans (e32.2.2.2.1.trans (e31.2.2.2.1.trans (e29.2.2.2.1.trans e28.2.2.2.1)))
  have N : tN e = tN h := z5.2.2.2.1
  obtain ⟨k1, k2, k3, k4, k5, k6, k7⟩ := k
  refine ⟨z5, ⟨f29, ?_, ?_, ?_, ?_, ?_, ?_, ?_, by rw [N]; exact k6, by rw [N]; exact k7⟩, ?_, ?_⟩
  · rw [f28, mFz_27 z5]
    refine ⟨by decide, ?_, k1.2⟩
    show (0 : Int) ≤ _
    exact k1.1
  · rw [f33]; decide
  · rw [f31]; decide
  · rw [f34]; exact k2
  · rw [mFz_30 z5]; exact k3
  · rw [A, N]; exact k4
  · exact k5
  · unfold ms mEn
    rw [f28, f33, f31]
    rfl
  · rw [f32]; rfl
/-- the codes of rule q, k of them -/
noncomputable def mEk (h : zH) (q k : Nat) : List Nat := (List.range k).map (fun i => mCode (tA h 133 (500 * q + i)).toNatClampNeg (tA h 134 (500 * q + i)).toNatClampNeg)
theorem mEn_k {h : zH} : mEn h = mEk h (tvI (tF h 111 30)).toNatClampNeg (tvI (tF h 111 31)).toNatClampNeg := rfl
end R9
section R10
variable {T : Nat → Int32} {n : Nat} {h h1 h2 : zH}
theorem mRow_z {lo j : Nat} (a : mFz lo h h2) (hj : j < lo) : mRow h2 j = mRow h j := by
  unfold mRow
  rw [a.2.2.2.2.2 135 j (by decide) (by decide) hj, a.2.2.2.2.2 136 j (by decide) (by decide) hj, a.2.2.2.2.2 137 j (by decide) (by decide) hj, a.2.2.2.2.2 138 j (by decide) (by decide) hj, a.2.2.2.2.2 139 j (by decide) (by decide) hj]
noncomputable def mRw (h : zH) (b : Nat) (cl : List rCt) : Prop := ∀ i, i < cl.length → cl[i]? = some (mRow h (b + i))
theorem mRw_0 {b : Nat} : mRw h b [] := fun i hi => absurd hi (Nat.not_lt_zero _)
theorem mRw_z {b lo : Nat} {cl : List rCt} (k : mRw h b cl) (a : mFz lo h h2) (hl : b + cl.length ≤ lo) : mRw h2 b cl := fun i hi => by
  rw [mRow_z a (by omega)]
  exact k i hi
theorem mRw_s {b : Nat} {cl : List rCt} {c1 : rCt} (k : mRw h b cl) (e : mRow h (b + cl.length) = c1) : mRw h b (cl ++ [c1]) := fun i hi => by
  rcases Nat.lt_or_ge i cl.length with z | z
  · rw [List.getElem?_append_left z]
    exact k i z
  · have hi : i < cl.length + 1 := by rw [List.length_append] at hi; exact hi
    obtain rfl : i = cl.length := by omega
    rw [List.getElem?_append_right (Nat.le_refl _), Nat.sub_self, e]
    rfl
/-- a whole rule's frame -/
noncomputable def mFy (h h2 : zH) : Prop := tSh h2 ∧ (∀ p b, ¬ (p = 111 ∧ (mFs b ∨ b = 46 ∨ b = 47 ∨ b = 27 ∨ b = 30)) → tF h2 p b = tF h p b) ∧ (∀ p, p ≠ 133 → p ≠ 134 → p ≠ 142 → (p < 135 ∨ 141 < p) → tA h2 p = tA h p) ∧ tN h2 = tN h ∧ mLo h h2 ∧ (∀ p q, 135 ≤ p → p ≤ 139 → q < 12 * (tvI (tF h 111 30)).toNatClampNeg → tA h2 p q = tA h p q)
noncomputable def mRo (y : Int32) (r : Nat ⊕ (rS × List rCt)) (w : Option Value) (h h2 : zH) : Prop := mFy h h2 ∧ tvI (tF h2 111 27) = 0 ∧ match r with
  | .inl e => e < 100000 ∧ w = some (.int (-2 - Int32.ofNat e)) ∧ tF h2 111 30 = tF h 111 30 ∧ tA h2 140 = tA h 140 ∧ tA h2 141 = tA h 141
  | .inr x => w = some (.int (tvI (tF h 111 30) + 1 - 1)) ∧ tvI (tF h2 111 30) = tvI (tF h 111 30) + 1 ∧ (tA h2 140 (tvI (tF h 111 30)).toNatClampNeg).toNatClampNeg = x.2.length ∧ tA h2 141 (tvI (tF h 111 30)).toNatClampNeg = y ∧ (∀ q, q ≠ (tvI (tF h 111 30)).toNatClampNeg → tA h2 140 q = tA h 140 q ∧ tA h2 141 q = tA h 141 q) ∧ mRw h2 (12 * (tvI (tF h 111 30)).toNatClampNeg) x.2 ∧ x.1.2.2 = mEk h2 (tvI (tF h 111 30)).toNatClampNeg x.1.2.2.length
/-- the loop's end, and its middle -/
noncomputable def mLp (T : Nat → Int32) (n : Nat) (r : Nat ⊕ (rS × List rCt)) (b k : Nat) (m : Int32) (h1 : zH) : Prop :=
  (m ≠ 0 ∧ k ≤ 12 ∧ mP h1 ∧ tvI (tF h1 111 32) = 0 ∧ ∃ cl f, cl.length = k ∧ mRw h1 b cl ∧ rRu T n f (ms h1) cl r)
  ∨ (m = 0 ∧ ((∃ e, r = .inl e ∧ mFt h1 e) ∨ ∃ s cl, r = .inr (s, cl) ∧ cl.length = k ∧ mRw h1 b cl ∧ tF h1 111 29 = .int 0 ∧ mEn h1 = s.2.2))
theorem nx_1 {cl : List rCt} {c1 : rCt} {s1 : rS} {r : Nat ⊕ (rS × List rCt)} (q : rNx T n cl r (.inr (s1, c1))) (h1 : ¬ rB T n s1.1 < n) : r = .inr (rA (rB T n s1.1) s1, cl ++ [c1]) := by
  rcases q with ⟨_, q⟩ | ⟨z, _⟩ | ⟨z, _⟩
  · exact q
  · exact absurd z.1 h1
  · exact absurd z.1 h1
theorem nx_2 {cl : List rCt} {c1 : rCt} {s1 : rS} {r : Nat ⊕ (rS × List rCt)} (q : rNx T n cl r (.inr (s1, c1))) (h1 : rB T n s1.1 < n ∧ T (rB T n s1.1) = 59) : ∃ f, rRu T n f (rA (rB T n s1.1 + 1) s1) (cl ++ [c1]) r := by
  rcases q with ⟨z, _⟩ | ⟨_, q⟩ | ⟨z, _⟩
  · exact absurd h1.1 z
  · exact q
  · exact absurd h1.2 z.2
theorem nx_3 {cl : List rCt} {c1 : rCt} {s1 : rS} {r : Nat ⊕ (rS × List rCt)} (q : rNx T n cl r (.inr (s1, c1))) (h1 : rB T n s1.1 < n) (h2 : ¬ (rB T n s1.1 < n ∧ T (rB T n s1.1) = 59)) : r = .inl (1 + 8 * rB T n s1.1 + 0) := by
  rcases q with ⟨z, _⟩ | ⟨z, _⟩ | ⟨_, q⟩
  · exact absurd h1 z
  · exact absurd z h2
  · exact q
theorem mFt_m {b w : Nat} {X : Int32} {h3 : zH} (k : mSet b X h h3) (hb : b ≠ 29) (F : mFt h w) : mFt h3 w := ⟨(k.2.2.1 111 29 (fun z => hb z.2.symm)).trans F.1, F.2⟩
theorem mRw_m {b q : Nat} {X : Int32} {h3 : zH} {cl : List rCt} (k : mRw h b cl) (e : mSet q X h h3) : mRw h3 b cl := fun i hi => by
  rw [k i hi]
  unfold mRow
  rw [e.2.2.2.1]
theorem mRw_a {b q i : Nat} {x : Int32} {h3 : zH} {cl : List rCt} (k : mRw h b cl) (e : mAs q i x h h3) (hq : 139 < q) : mRw h3 b cl := fun j hj => by
  rw [k j hj]
  unfold mRow
  rw [mAs_A e (q := 135) (by omega), mAs_A e (q := 136) (by omega), mAs_A e (q := 137) (by omega), mAs_A e (q := 138) (by omega), mAs_A e (q := 139) (by omega)]
theorem mFy_1 {X : Int32} {h3 : zH} (g : mFz (12 * (tvI (tF h 111 30)).toNatClampNeg) h h1) (e : mSet 27 X h1 h3) : mFy h h3 := ⟨e.1, fun p b z => (e.2.2.1 p b (fun w => z ⟨w.1, by omega⟩)).trans (g.2.1 p b (fun w => z ⟨w.1, w.2.elim Or.inl (fun y => y.elim (fun y => Or.inr (Or.inl y)) (fun y => Or.inr (Or.inr (Or.inl y))))⟩)), fun p a b c d => (congrFun e.2.2.2.1 p).trans (g.2.2.1 p a b c (by omega)), e.2.2.2.2.trans g.2.2.2.1, mLo_A e.2.2.2.1 g.2.2.2.2.1, fun p q a b c => (congrFun (congrFun e.2.2.2.1 p) q).trans (g.2.2.2.2.2 p q a b c)⟩
theorem mFy_2 {q i : Nat} {x : Int32} {h3 : zH} (a : mFy h h1) (e : mAs q i x h1 h3) (hq : q = 140 ∨ q = 141) : mFy h h3 := ⟨e.1, fun p b z => by rw [e.2.1]; exact a.2.1 p b z, fun p w1 w2 w3 w4 => (mAs_A e (by omega)).trans (a.2.2.1 p w1 w2 w3 w4), e.2.2.1.trans a.2.2.2.1, fun j hj => ⟨(mAs_o e (by omega)).trans (a.2.2.2.2.1 j hj).1, (mAs_o e (by omega)).trans (a.2.2.2.2.1 j hj).2⟩, fun p j w1 w2 w3 => (mAs_o e (by omega)).trans (a.2.2.2.2.2 p j w1 w2 w3)⟩
theorem mFy_3 {X : Int32} {h3 : zH} (a : mFy h h1) (e : mSet 30 X h1 h3) : mFy h h3 := ⟨e.1, fun p b z => (e.2.2.1 p b (fun w => z ⟨w.1, by omega⟩)).trans (a.2.1 p b z), fun p w1 w2 w3 w4 => (congrFun e.2.2.2.1 p).trans (a.2.2.1 p w1 w2 w3 w4), e.2.2.2.2.trans a.2.2.2.1, mLo_A e.2.2.2.1 a.2.2.2.2.1, fun p j w1 w2 w3 => (congrFun (congrFun e.2.2.2.1 p) j).trans (a.2.2.2.2.2 p j w1 w2 w3)⟩
theorem mEk_c {q k : Nat} (a : tA h2 133 = tA h 133) (b : tA h2 134 = tA h 134) : mEk h2 q k = mEk h q k := by
  unfold mEk
  rw [a, b]
/-- the end, with a fault; the end without one -/
theorem mRo_l {y : Int32} {r : Nat ⊕ (rS × List rCt)} {e : Nat} {hA : zH} (hr : r = .inl e) (g1 : mFz (12 * (tvI (tF h 111 30)).toNatClampNeg) h h1) (k : mSet 27 0 h1 hA) (F : mFt h1 e) : mRo y r (some (.int (-2 - tvI (tF hA 111 29)))) h hA := by
  subst hr
  refine ⟨mFy_1 g1 k, mI_x k, F.2.2, ?_, (k.2.2.1 111 30 (by decide)).trans (mFz_30 g1), (congrFun k.2.2.2.1 140).trans (g1.2.2.1 140 (by decide) (by decide) (by decide) (by decide)), (congrFun k.2.2.2.1 141).trans (g1.2.2.1 141 (by decide) (by decide) (by decide) (by decide))⟩
  rw [(k.2.2.1 111 29 (by decide)).trans F.1]
  rfl
theorem mRo_r {y x : Int32} {r : Nat ⊕ (rS × List rCt)} {s9 : rS} {cl9 : List rCt} {i1 i2 X : Int32} {hA hB hC hD : zH} (hr : r = .inr (s9, cl9)) (g1 : mFz (12 * (tvI (tF h 111 30)).toNatClampNeg) h h1) (k : mSet 27 0 h1 hA) (a1 : mAs 140 i1.toNatClampNeg x hA hB) (hi1 : i1 = tvI (tF hA 111 30)) (a2 : mAs 141 i2.toNatClampNeg y hB hC) (hi2 : i2 = tvI (tF hB 111 30)) (k2 : mSet 30 X hC hD) (hX : X = tvI (tF hC 111 30) + 1) (hx : x.toInt = cl9.length) (rw9 : mRw h1 (12 * (tvI (tF h 111 30)).toNatClampNeg) cl9) (h5 : mEn h1 = s9.2.2) : mRo y r (some (.int (tvI (tF hD 111 30) - 1))) h hD := by
  subst hr
  have EA : tF hA 111 30 = tF h 111 30 := (k.2.2.1 111 30 (by decide)).trans (mFz_30 g1)
  have EB : tF hB 111 30 = tF h 111 30 := by rw [a1.2.1]; exact EA
  have EC : tF hC 111 30 = tF h 111 30 := by rw [a2.2.1]; exact EB
  rw [hi1, EA] at a1
  rw [hi2, EB] at a2
  have ED : tvI (tF hD 111 30) = tvI (tF h 111 30) + 1 := (mI_x k2).trans (by rw [hX, EC])
  refine ⟨mFy_3 (mFy_2 (mFy_2 (mFy_1 g1 k) a1 (Or.inl rfl)) a2 (Or.inr rfl)) k2, ?_, by rw [ED], ED, ?_, ?_, fun q hq => ⟨?_, ?_⟩, mRw_m (mRw_a (mRw_a (mRw_m rw9 k) a1 (by decide)) a2 (by decide)) k2, ?_⟩
  · rw [k2.2.2.1 111 27 (by decide), a2.2.1, a1.2.1]
    exact mI_x k
  · rw [k2.2.2.2.1, mAs_o a2 (by decide), mAs_x a1]
    exact zof_cl hx
  · rw [k2.2.2.2.1]
    exact mAs_x a2
  · rw [k2.2.2.2.1, mAs_o a2 (by decide), a1.2.2.2]
    refine (if_neg (fun z => hq z.2)).trans ?_
    rw [k.2.2.2.1, g1.2.2.1 140 (by decide) (by decide) (by decide) (by decide)]
  · rw [k2.2.2.2.1, a2.2.2.2]
    refine (if_neg (fun z => hq z.2)).trans ?_
    rw [mAs_A a1 (by decide), k.2.2.2.1, g1.2.2.1 141 (by decide) (by decide) (by decide) (by decide)]
  · rw [← h5, mEn_len, mEn_k, mFz_30 g1]
    refine (mEk_c ?_ ?_).symm
    · rw [k2.2.2.2.1, mAs_A a2 (by decide), mAs_A a1 (by decide), k.2.2.2.1]
    · rw [k2.2.2.2.1, mAs_A a2 (by decide), mAs_A a1 (by decide), k.2.2.2.1]
end R10
theorem g_rule {G : zG} (hG : G.1 = zProg) (hX : G.2.1 = ztx) {h : zH} {T : Nat → Int32} {n : Nat} (hs : tSh h) (hk : mK h) (hT : tA h 132 = T) (hN : mn h = n) {y : Int32} {r : Nat ⊕ (rS × List rCt)} (hr0 : ∃ f, rRu T n f (0, 0, []) [] r) : tC zTt G 225 [.ref 111, .int y] h (fun w h2 => (¬ (¬ tvI (tF h 111 30) = 10 ∧ (tvI (tF h 111 1)).toInt ≤ y.toInt ∧ y.toInt ≤ 599) ∧ w = some (.int (-1)) ∧ h2 = h) ∨ ((¬ tvI (tF h 111 30) = 10 ∧ (tvI (tF h 111 1)).toInt ≤ y.toInt ∧ y.toInt ≤ 599) ∧ mRo y r w h h2)) := by
  refine tC_in (by rw [hG]; rfl) (fun dp => ?_)
  have g0 : mFz (12 * (tvI (tF h 111 30)).toNatClampNeg) h h := mFz_r hs
  refine tw_aload rfl rfl ?_
  refine tw_getS rfl (hi_111_30 hs) ?_
  refine tw_push rfl ?_
  refine tw_ic_eq rfl (fun q667 => ?_) (fun q667 => ?_)
  · try dsimp only [tvI_i, tvJ_j, tvR_r] at q667
    have q667i := zeqi (Y := 10) (by decide) q667
    refine tw_push rfl ?_
    exact tw_iret rfl (Or.inl ⟨fun z => z.1 q667, rfl, rfl⟩)
  · try dsimp only [tvI_i, tvJ_j, tvR_r] at q667
    have q667i := zneq (Y := 10) (by decide) q667
    refine tw_iload rfl rfl ?_
    refine tw_i2l rfl ?_
    refine tw_aload rfl rfl ?_
    refine tw_getS rfl (hi_111_1 hs) ?_
    refine tw_i2l rfl ?_
    refine tw_push rfl ?_
    refine tw_stat3 rfl (f_in hG   (HI := 599) (Int32.toInt_toInt64 _) (Int32.toInt_toInt64 _) (by decide)) (fun w9 h9 p668 => ?_)
    obtain ⟨⟨p668, rfl⟩ | ⟨p668, rfl⟩, e9⟩ := p668
    · try dsimp only [tvI_i, tvJ_j, tvR_r] at p668
      obtain rfl := e9.symm
      refine tw_if_ne rfl (fun _ => ?_) (fun z => absurd z (by decide))
      refine tw_aload rfl rfl ?_
      refine tw_push rfl ?_
      refine tw_put rfl (fun f669 => ?_)
      refine tG_setm f669 (hw_111_28 f669 (g0).1) (fun hf669 ef669 => ?_)
      try dsimp only [tvI_i] at ef669
      have gf669 : mFz (12 * (tvI (tF h 111 30)).toNatClampNeg) h hf669 := mFz_s g0 ef669 (Or.inl (by unfold mFs; omega))
      refine tw_aload rfl rfl ?_
      refine tw_push rfl ?_
      refine tw_put rfl (fun f670 => ?_)
      refine tG_setm f670 (hw_111_29 f670 (gf669).1) (fun hf670 ef670 => ?_)
      try dsimp only [tvI_i] at ef670
      have gf670 : mFz (12 * (tvI (tF h 111 30)).toNatClampNeg) h hf670 := mFz_s gf669 ef670 (Or.inl (by unfold mFs; omega))
      refine tw_aload rfl rfl ?_
      refine tw_push rfl ?_
      refine tw_put rfl (fun f671 => ?_)
      refine tG_setm f671 (hw_111_31 f671 (gf670).1) (fun hf671 ef671 => ?_)
      try dsimp only [tvI_i] at ef671
      have gf671 : mFz (12 * (tvI (tF h 111 30)).toNatClampNeg) h hf671 := mFz_s gf670 ef671 (Or.inl (by unfold mFs; omega))
      refine tw_aload rfl rfl ?_
      refine tw_push rfl ?_
      refine tw_put rfl (fun f672 => ?_)
      refine tG_setm f672 (hw_111_32 f672 (gf671).1) (fun hf672 ef672 => ?_)
      try dsimp only [tvI_i] at ef672
      have gf672 : mFz (12 * (tvI (tF h 111 30)).toNatClampNeg) h hf672 := mFz_s gf671 ef672 (Or.inl (by unfold mFs; omega))
      refine tw_aload rfl rfl ?_
      refine tw_push rfl ?_
      refine tw_put rfl (fun f673 => ?_)
      refine tG_setm f673 (hw_111_33 f673 (gf672).1) (fun hf673 ef673 => ?_)
      try dsimp only [tvI_i] at ef673
      have gf673 : mFz (12 * (tvI (tF h 111 30)).toNatClampNeg) h hf673 := mFz_s gf672 ef673 (Or.inl (by unfold mFs; omega))
      refine tw_push rfl ?_
      refine tw_istore rfl ?_
      refine tw_push rfl ?_
      refine tw_istore rfl ?_
      refine tG_loop (zW_mono zTt G dp) (zW_conj zTt G dp) (V := fun pc L st h9 _ _ => pc = 56 ∧ st = [] ∧ ∃ (h1 : zH) (k : Nat) (x m : Int32), h1 = h9 ∧ x.toInt = k ∧ k ≤ 13 ∧ mFz (12 * (tvI (tF h 111 30)).toNatClampNeg) h h1 ∧ mLp T n r (12 * (tvI (tF h 111 30)).toNatClampNeg) k m h1 ∧ L = [some (.ref 111), some (.int y), some (.int x), some (.int m)]) ?_ (⟨rfl, rfl, _, 0, 0, 1, rfl, rfl, by decide, (mRs9 (lo := (12 * (tvI (tF h 111 30)).toNatClampNeg)) hs hk ef669 ef670 ef671 ef672 ef673).1, Or.inl ⟨by decide, by decide, (mRs9 (lo := (12 * (tvI (tF h 111 30)).toNatClampNeg)) hs hk ef669 ef670 ef671 ef672 ef673).2.1, (mRs9 (lo := (12 * (tvI (tF h 111 30)).toNatClampNeg)) hs hk ef669 ef670 ef671 ef672 ef673).2.2.2, [], hr0.choose, rfl, mRw_0, by rw [(mRs9 (lo := (12 * (tvI (tF h 111 30)).toNatClampNeg)) hs hk ef669 ef670 ef671 ef672 ef673).2.2.1]; exact hr0.choose_spec⟩, rfl⟩)
      rintro _ _ _ _ _ _ ⟨rfl, rfl, h1, k, x, m, rfl, hx, hk13, g1, hlp, rfl⟩
      refine tw_iload rfl rfl ?_
      refine tw_if_eq rfl (fun q674 => ?_) (fun q674 => ?_)
      · try dsimp only [tvI_i, tvJ_j, tvR_r] at q674
        have q674i := zeqi (Y := 0) (by decide) q674
        refine tw_aload rfl rfl ?_
        refine tw_push rfl ?_
        refine tw_put rfl (fun f675 => ?_)
        refine tG_setm f675 (hw_111_27 f675 (g1).1) (fun hf675 ef675 => ?_)
        try dsimp only [tvI_i] at ef675
        have gf675 : tSh hf675 ∧ True := ⟨ef675.1, trivial⟩
        refine tw_aload rfl rfl ?_
        refine tw_getS rfl (hi_111_29 (gf675).1) ?_
        refine tw_if_le rfl (fun q676 => ?_) (fun q676 => ?_)
        · try dsimp only [tvI_i, tvJ_j, tvR_r] at q676
          refine tw_aload rfl rfl ?_
          refine tw_getS rfl (hs_111_43 (gf675).1) ?_
          refine tw_aload rfl rfl ?_
          refine tw_getS rfl (hi_111_30 (gf675).1) ?_
          refine tw_iload rfl rfl ?_
          refine tw_iast rfl (fun f677 => ?_)
          refine tG_ast f677 (gf675).1 (fun hf677 af677 => ?_)
          try dsimp only [tvI_i, tvR_r] at af677
          have gf677 : tSh hf677 ∧ True := ⟨af677.1, trivial⟩
          refine tw_aload rfl rfl ?_
          refine tw_getS rfl (hs_111_44 (gf677).1) ?_
          refine tw_aload rfl rfl ?_
          refine tw_getS rfl (hi_111_30 (gf677).1) ?_
          refine tw_iload rfl rfl ?_
          refine tw_iast rfl (fun f678 => ?_)
          refine tG_ast f678 (gf677).1 (fun hf678 af678 => ?_)
          try dsimp only [tvI_i, tvR_r] at af678
          have gf678 : tSh hf678 ∧ True := ⟨af678.1, trivial⟩
          refine tw_aload rfl rfl ?_
          refine tw_dup rfl ?_
          refine tw_getS rfl (hi_111_30 (gf678).1) ?_
          refine tw_push rfl ?_
          refine tw_iadd rfl ?_
          refine tw_put rfl (fun f679 => ?_)
          refine tG_setm f679 (hw_111_30 f679 (gf678).1) (fun hf679 ef679 => ?_)
          try dsimp only [tvI_i] at ef679
          have gf679 : tSh hf679 ∧ True := ⟨ef679.1, trivial⟩
          refine tw_aload rfl rfl ?_
          refine tw_getS rfl (hi_111_30 (gf679).1) ?_
          refine tw_push rfl ?_
          refine tw_isub rfl ?_
          have hend := (hlp.resolve_left (fun z => z.1 q674)).2
          rcases hend with ⟨e9, hr, F9⟩ | ⟨s9, cl9, hr, l9, w9, f9, n9⟩
          · exfalso
            have z := q676
            have c09 : (0 : Int32).toInt = 0 := rfl
            have y9 : (tvI (tF h1 111 29)).toInt = e9 := by rw [F9.1]; exact zofI (by have := F9.2.2; omega)
            rw [ef675.2.2.1 111 29 (by decide)] at z
            have := F9.2.1
            omega
          · exact tw_iret rfl (Or.inr ⟨⟨q667, p668⟩, mRo_r hr g1 ef675 af677 rfl af678 rfl ef679 rfl (by rw [l9]; exact hx) w9 n9⟩)
        · try dsimp only [tvI_i, tvJ_j, tvR_r] at q676
          refine tw_push rfl ?_
          refine tw_aload rfl rfl ?_
          refine tw_getS rfl (hi_111_29 (gf675).1) ?_
          refine tw_isub rfl ?_
          have hend := (hlp.resolve_left (fun z => z.1 q674)).2
          rcases hend with ⟨e9, hr, F9⟩ | ⟨s9, cl9, hr, l9, w9, f9, n9⟩
          · exact tw_iret rfl (Or.inr ⟨⟨q667, p668⟩, mRo_l hr g1 ef675 F9⟩)
          · exfalso
            have z := q676
            rw [ef675.2.2.1 111 29 (by decide), f9] at z
            exact absurd z (by decide)
      · try dsimp only [tvI_i, tvJ_j, tvR_r] at q674
        have q674i := zneq (Y := 0) (by decide) q674
        refine tw_aload rfl rfl ?_
        refine tw_iload rfl rfl ?_
        obtain ⟨hk12, p1, d1, cl, f, hcl, hrw, hru⟩ := (hlp.resolve_right (fun z => q674 z.1)).2
        obtain ⟨r2, hc2, hnx⟩ := rRu_st hru
        refine tw_virt1 rfl (g_clause hG hX g1.1 p1 ((mFz_T g1).trans hT) ((mFz_n g1).trans hN) (c := cl.length) (by rw [hcl]; exact hx) (by omega) rfl d1 hc2) (fun w9 hp680 p680 => ?_)
        obtain ⟨rfl, gp680, ⟨e2, he2, Fp680, Zp680⟩ | ⟨s1, c1, hc1, pp680, sp680, dp680, wp680, nxp680⟩⟩ := mCo_w p680 hnx
        · have gzp680 : mFz (12 * (tvI (tF h 111 30)).toNatClampNeg) h hp680 := mFz_t g1 (mFz_l (by rw [mFz_30 g1]; omega) gp680)
          refine tw_iinc rfl rfl ?_
          refine tw_aload rfl rfl ?_
          refine tw_virt0 rfl (y_blanks hG hX (gzp680).1 Fp680 ((mFz_T gzp680).trans hT) ((mFz_n gzp680).trans hN) Zp680) (fun wp681 hp681 p681 => ?_)
          obtain ⟨rfl, gp681, Fp681, Zp681⟩ := p681
          have gzp681 : mFz (12 * (tvI (tF h 111 30)).toNatClampNeg) h hp681 := mFz_t gzp680 (mFz_w (mFw_f gp681))
          refine tw_aload rfl rfl ?_
          refine tw_getS rfl (hi_111_29 gzp681.1) ?_
          refine tw_if_ne rfl (fun q682 => ?_) (fun q682 => ?_)
          · try dsimp only [tvI_i, tvJ_j, tvR_r] at q682
            have q682i := zneq (Y := 0) (by decide) q682
            refine tw_aload rfl rfl ?_
            refine tw_getS rfl (hi_111_29 gzp681.1) ?_
            refine tw_if_ne rfl (fun q683 => ?_) (fun q683 => ?_)
            · try dsimp only [tvI_i, tvJ_j, tvR_r] at q683
              have q683i := zneq (Y := 0) (by decide) q683
              refine tw_push rfl ?_
              refine tw_istore rfl ?_
              refine tw_aload rfl rfl ?_
              refine tw_dup rfl ?_
              refine tw_getS rfl (hi_111_28 gzp681.1) ?_
              refine tw_push rfl ?_
              refine tw_iadd rfl ?_
              refine tw_put rfl (fun f684 => ?_)
              refine tG_setm f684 (hw_111_28 f684 (gzp681).1) (fun hf684 ef684 => ?_)
              try dsimp only [tvI_i] at ef684
              have gf684 : mFz (12 * (tvI (tF h 111 30)).toNatClampNeg) h hf684 := mFz_s gzp681 ef684 (Or.inl (by unfold mFs; omega))
              refine tw_goto rfl ?_
              exact tG_cut (zW_mono zTt G dp) (Or.inr ⟨rfl, rfl, _, k + 1, x + 1, 0, rfl, zincN hx (by omega), by omega, gf684, Or.inr ⟨rfl, Or.inl ⟨_, he2, mFt_m ef684 (by decide) Fp681⟩⟩, rfl⟩)
            · try dsimp only [tvI_i, tvJ_j, tvR_r] at q683
              have q683i := zeqi (Y := 0) (by decide) q683
              exact absurd q683 (mFt_n Fp681)
          · try dsimp only [tvI_i, tvJ_j, tvR_r] at q682
            have q682i := zeqi (Y := 0) (by decide) q682
            exact absurd q682 (mFt_n Fp681)
        · have gzp680 : mFz (12 * (tvI (tF h 111 30)).toNatClampNeg) h hp680 := mFz_t g1 (mFz_l (by rw [mFz_30 g1]; omega) gp680)
          have hwp680 : mRw hp680 (12 * (tvI (tF h 111 30)).toNatClampNeg) (cl ++ [c1]) := mRw_s (mRw_z hrw gp680 (by rw [mFz_30 g1]; exact Nat.le_refl _)) (by have z := wp680; rw [mFz_30 g1] at z; exact z)
          refine tw_iinc rfl rfl ?_
          refine tw_aload rfl rfl ?_
          refine tw_virt0 rfl (g_blanks hG hX (gzp680).1 pp680 ((mFz_T gzp680).trans hT) ((mFz_n gzp680).trans hN)) (fun wp685 hp685 p685 => ?_)
          obtain ⟨rfl, gp685, pp685, sp685, tp685, dp685⟩ := p685
          have gzp685 : mFz (12 * (tvI (tF h 111 30)).toNatClampNeg) h hp685 := mFz_t gzp680 (mFz_w (mFw_f gp685))
          have Sp685 : ms hp685 = rA (rB T n s1.1) s1 := by rw [sp685, sp680]; exact rB_A
          have Dp685 : tvI (tF hp685 111 32) = 0 := by rw [dp685]; exact dp680
          have hwp685 : mRw hp685 (12 * (tvI (tF h 111 30)).toNatClampNeg) (cl ++ [c1]) := mRw_z hwp680 (mFz_w (lo := (12 * (tvI (tF h 111 30)).toNatClampNeg) + (cl ++ [c1]).length) (mFw_f gp685)) (Nat.le_refl _)
          refine tw_aload rfl rfl ?_
          refine tw_getS rfl (hi_111_29 gzp685.1) ?_
          refine tw_if_ne rfl (fun q686 => ?_) (fun q686 => ?_)
          · try dsimp only [tvI_i, tvJ_j, tvR_r] at q686
            have q686i := zneq (Y := 0) (by decide) q686
            exact absurd (mP_0 pp685) q686
          · try dsimp only [tvI_i, tvJ_j, tvR_r] at q686
            have q686i := zeqi (Y := 0) (by decide) q686
            refine tw_aload rfl rfl ?_
            refine tw_getS rfl (hi_111_28 gzp685.1) ?_
            refine tw_aload rfl rfl ?_
            refine tw_getS rfl (hi_111_27 gzp685.1) ?_
            refine tw_ic_ge rfl (fun q687 => ?_) (fun q687 => ?_)
            · try dsimp only [tvI_i, tvJ_j, tvR_r] at q687
              refine tw_aload rfl rfl ?_
              refine tw_getS rfl (hi_111_29 gzp685.1) ?_
              refine tw_if_ne rfl (fun q688 => ?_) (fun q688 => ?_)
              · try dsimp only [tvI_i, tvJ_j, tvR_r] at q688
                have q688i := zneq (Y := 0) (by decide) q688
                exact absurd (mP_0 pp685) q688
              · try dsimp only [tvI_i, tvJ_j, tvR_r] at q688
                have q688i := zeqi (Y := 0) (by decide) q688
                refine tw_aload rfl rfl ?_
                refine tw_getS rfl (hi_111_28 gzp685.1) ?_
                refine tw_aload rfl rfl ?_
                refine tw_getS rfl (hi_111_27 gzp685.1) ?_
                refine tw_ic_ge rfl (fun q689 => ?_) (fun q689 => ?_)
                · try dsimp only [tvI_i, tvJ_j, tvR_r] at q689
                  refine tw_push rfl ?_
                  refine tw_istore rfl ?_
                  refine tw_aload rfl rfl ?_
                  refine tw_dup rfl ?_
                  refine tw_getS rfl (hi_111_28 gzp685.1) ?_
                  refine tw_push rfl ?_
                  refine tw_iadd rfl ?_
                  refine tw_put rfl (fun f690 => ?_)
                  refine tG_setm f690 (hw_111_28 f690 (gzp685).1) (fun hf690 ef690 => ?_)
                  try dsimp only [tvI_i] at ef690
                  have gf690 : mFz (12 * (tvI (tF h 111 30)).toNatClampNeg) h hf690 := mFz_s gzp685 ef690 (Or.inl (by unfold mFs; omega))
                  refine tw_goto rfl ?_
                  have hlt : ¬ rB T n s1.1 < n := by have z := fun y => Int.not_lt.mpr q687 ((mpos ⟨pp685.2.1.1, by have := pp685.2.1; omega⟩).mpr y); rw [Sp685, rA_1, (mFz_n gzp685).trans hN] at z; exact z
                  have hwn := mRw_m hwp685 ef690
                  have hln : (cl ++ [c1]).length = k + 1 := by rw [List.length_append, hcl]; rfl
                  have hr := nx_1 nxp680 hlt
                  exact tG_cut (zW_mono zTt G dp) (Or.inr ⟨rfl, rfl, _, k + 1, x + 1, 0, rfl, zincN hx (by omega), by omega, gf690, Or.inr ⟨rfl, Or.inr ⟨_, _, hr, hln, hwn, (ef690.2.2.1 111 29 (by decide)).trans pp685.1, (mEn_o ef690 (by decide) (by decide)).trans (congrArg (fun z : rS => z.2.2) Sp685)⟩⟩, rfl⟩)
                · try dsimp only [tvI_i, tvJ_j, tvR_r] at q689
                  exact absurd q689 (Int.not_lt.mpr q687)
            · try dsimp only [tvI_i, tvJ_j, tvR_r] at q687
              refine tw_aload rfl rfl ?_
              refine tw_virt0 rfl (g_sign hG hX (gzp685).1 ((mFz_T gzp685).trans hT) ((mFz_n gzp685).trans hN) ⟨pp685.2.1.1, by have := pp685.2.1; omega⟩) (fun wp691 hp691 p691 => ?_)
              obtain ⟨⟨cp691, rfl, kp691⟩, rfl⟩ := p691
              refine tw_push rfl ?_
              refine tw_ic_eq rfl (fun q692 => ?_) (fun q692 => ?_)
              · try dsimp only [tvI_i, tvJ_j, tvR_r] at q692
                have q692i := zeqi (Y := 59) (by decide) q692
                refine tw_aload rfl rfl ?_
                refine tw_getS rfl (hi_111_29 (gzp685).1) ?_
                refine tw_if_ne rfl (fun q693 => ?_) (fun q693 => ?_)
                · try dsimp only [tvI_i, tvJ_j, tvR_r] at q693
                  have q693i := zneq (Y := 0) (by decide) q693
                  exact absurd (mP_0 pp685) q693
                · try dsimp only [tvI_i, tvJ_j, tvR_r] at q693
                  have q693i := zeqi (Y := 0) (by decide) q693
                  refine tw_aload rfl rfl ?_
                  refine tw_getS rfl (hi_111_28 (gzp685).1) ?_
                  refine tw_aload rfl rfl ?_
                  refine tw_getS rfl (hi_111_27 (gzp685).1) ?_
                  refine tw_ic_ge rfl (fun q694 => ?_) (fun q694 => ?_)
                  · try dsimp only [tvI_i, tvJ_j, tvR_r] at q694
                    exact absurd q687 (Int.not_lt.mpr q694)
                  · try dsimp only [tvI_i, tvJ_j, tvR_r] at q694
                    refine tw_push rfl ?_
                    refine tw_goto rfl ?_
                    refine tw_istore rfl ?_
                    refine tw_aload rfl rfl ?_
                    refine tw_dup rfl ?_
                    refine tw_getS rfl (hi_111_28 (gzp685).1) ?_
                    refine tw_push rfl ?_
                    refine tw_iadd rfl ?_
                    refine tw_put rfl (fun f695 => ?_)
                    refine tG_setm f695 (hw_111_28 f695 (gzp685).1) (fun hf695 ef695 => ?_)
                    try dsimp only [tvI_i] at ef695
                    have gf695 : mFz (12 * (tvI (tF h 111 30)).toNatClampNeg) h hf695 := mFz_s gzp685 ef695 (Or.inl (by unfold mFs; omega))
                    refine tw_goto rfl ?_
                    have hlt : rB T n s1.1 < n := by have z := (mpos ⟨pp685.2.1.1, by have := pp685.2.1; omega⟩).mp q687; rw [Sp685, rA_1, (mFz_n gzp685).trans hN] at z; exact z
                    have h59 : cp691 = 59 ↔ rB T n s1.1 < n ∧ T (rB T n s1.1) = 59 := by have y := sgm_k kp691 59 (by decide); rw [Sp685, rA_1] at y; exact y
                    have hwn := mRw_m hwp685 ef695
                    have hln : (cl ++ [c1]).length = k + 1 := by rw [List.length_append, hcl]; rfl
                    have hcn := rCl_12 (by rw [hc1] at hc2; exact hc2)
                    obtain ⟨f9, hf9⟩ := nx_2 nxp680 (h59.mp q692)
                    have hn4 : n ≤ 400 := by have a := mNl pp685 ((mFz_n gzp685).trans hN); have b := pp685.2.1; omega
                    obtain ⟨pn, sn, tn⟩ := mTo pp685 ((mFz_n gzp685).trans hN) ef695 (v := rB T n s1.1 + 1) (zincN (n := rB T n s1.1) (by rw [mPl pp685, Sp685, rA_1]) (by omega)) hlt
                    rw [Sp685, rA_A] at sn
                    exact tG_cut (zW_mono zTt G dp) (Or.inr ⟨rfl, rfl, _, k + 1, x + 1, 1, rfl, zincN hx (by omega), by omega, gf695, Or.inl ⟨by decide, by omega, pn, (by rw [mI_o ef695 (by decide)]; exact Dp685), _, f9, hln, hwn, by rw [sn]; exact hf9⟩, rfl⟩)
              · try dsimp only [tvI_i, tvJ_j, tvR_r] at q692
                have q692i := zneq (Y := 59) (by decide) q692
                refine tw_aload rfl rfl ?_
                refine tw_push rfl ?_
                refine tw_aload rfl rfl ?_
                refine tw_getS rfl (hi_111_28 (gzp685).1) ?_
                refine tw_virt2 rfl (g_fails hG hX (gzp685).1 pp685 ((mFz_T gzp685).trans hT) ((mFz_n gzp685).trans hN) (w := 0) rfl (by decide) (mPl pp685) (by have := mPle pp685 ((mFz_n gzp685).trans hN); have := mNl pp685 ((mFz_n gzp685).trans hN); have := pp685.2.1; omega)) (fun wp696 hp696 p696 => ?_)
                obtain ⟨rfl, gp696, Fp696, ip696, jp696⟩ := p696
                have gzp696 : mFz (12 * (tvI (tF h 111 30)).toNatClampNeg) h hp696 := mFz_t gzp685 (mFz_w (mFw_f gp696))
                have Zp696 : mZp hp696 := mZp_k (mZp_p pp685) ip696 jp696
                rw [Sp685, rA_1] at Fp696
                refine tw_aload rfl rfl ?_
                refine tw_getS rfl (hi_111_29 gzp696.1) ?_
                refine tw_if_ne rfl (fun q697 => ?_) (fun q697 => ?_)
                · try dsimp only [tvI_i, tvJ_j, tvR_r] at q697
                  have q697i := zneq (Y := 0) (by decide) q697
                  refine tw_push rfl ?_
                  refine tw_istore rfl ?_
                  refine tw_aload rfl rfl ?_
                  refine tw_dup rfl ?_
                  refine tw_getS rfl (hi_111_28 gzp696.1) ?_
                  refine tw_push rfl ?_
                  refine tw_iadd rfl ?_
                  refine tw_put rfl (fun f698 => ?_)
                  refine tG_setm f698 (hw_111_28 f698 (gzp696).1) (fun hf698 ef698 => ?_)
                  try dsimp only [tvI_i] at ef698
                  have gf698 : mFz (12 * (tvI (tF h 111 30)).toNatClampNeg) h hf698 := mFz_s gzp696 ef698 (Or.inl (by unfold mFs; omega))
                  refine tw_goto rfl ?_
                  have hlt : rB T n s1.1 < n := by have z := (mpos ⟨pp685.2.1.1, by have := pp685.2.1; omega⟩).mp q687; rw [Sp685, rA_1, (mFz_n gzp685).trans hN] at z; exact z
                  have h59 : cp691 = 59 ↔ rB T n s1.1 < n ∧ T (rB T n s1.1) = 59 := by have y := sgm_k kp691 59 (by decide); rw [Sp685, rA_1] at y; exact y
                  have hr := nx_3 nxp680 hlt (fun z => q692 (h59.mpr z))
                  exact tG_cut (zW_mono zTt G dp) (Or.inr ⟨rfl, rfl, _, k + 1, x + 1, 0, rfl, zincN hx (by omega), by omega, gf698, Or.inr ⟨rfl, Or.inl ⟨_, hr, mFt_m ef698 (by decide) Fp696⟩⟩, rfl⟩)
                · try dsimp only [tvI_i, tvJ_j, tvR_r] at q697
                  have q697i := zeqi (Y := 0) (by decide) q697
                  exact absurd q697 (mFt_n Fp696)
    · try dsimp only [tvI_i, tvJ_j, tvR_r] at p668
      obtain rfl := e9.symm
      refine tw_if_ne rfl (fun z => absurd z (by decide)) (fun _ => ?_)
      refine tw_push rfl ?_
      exact tw_iret rfl (Or.inl ⟨fun z => p668 z.2, rfl, rfl⟩)
/-- what an array holds -/
noncomputable def tK (h : zH) (p : Nat) : Nat := match h[p]? with
  | some (.inl (k, _, _)) => k
  | _ => 0
theorem tK_tSF (h : zH) (r : Nat) (b : Nat) (w : Value) : tK (tSF h r b w) = tK h := by
  unfold tSF
  split
  · rename_i e
    funext p
    unfold tK
    rw [tup_at e]
    by_cases q : p = r
    · subst q; rw [if_pos rfl, e]
    · rw [if_neg q]
  · rfl
theorem tK_tSA (h : zH) (r : Nat) (i : Nat) (x : Int32) : tK (tSA h r i x) = tK h := by
  unfold tSA
  split
  · rename_i e
    funext p
    unfold tK
    rw [tup_at e]
    by_cases q : p = r
    · subst q; rw [if_pos rfl, e]
    · rw [if_neg q]
  · rfl
theorem tK_tSJ (h : zH) (r : Nat) (i : Nat) (x : Int64) : tK (tSJ h r i x) = tK h := by
  unfold tSJ
  split
  · rename_i e
    funext p
    unfold tK
    rw [tup_at e]
    by_cases q : p = r
    · subst q; rw [if_pos rfl, e]
    · rw [if_neg q]
  · rfl
theorem tK_tSO (h : zH) (r : Nat) (i : Nat) (x : Option Nat) : tK (tSO h r i x) = tK h := by
  unfold tSO
  split
  · rename_i e
    funext p
    unfold tK
    rw [tup_at e]
    by_cases q : p = r
    · subst q; rw [if_pos rfl, e]
    · rw [if_neg q]
  · rfl
theorem tIn.kd {h : zH} {r kd : Nat} {i : Int32} (k : tIn h r kd i) : tK h r = kd := by
  obtain ⟨N, f, e, -⟩ := k
  unfold tK
  rw [e]
theorem tkd_k {xs : Nat → Int32} {τ : List Nat} {h : zH} {p t k nlo nhi : Nat} {vt : yT} (hB : zBs xs τ h) (ht : zTG[p]? = some t) (hT : zTTy[t]? = some (.inr (k, nlo, nhi, vt))) : tK h p = k := by
  obtain ⟨ct, c, a1, a2, a3⟩ := hB.1.2 _ _ (hB.2.1 _ _ ht)
  rw [hT] at a1
  cases a1
  obtain ⟨N, x, rfl, -⟩ := a3
  unfold tK
  rw [a2]
theorem bst_k {h : zH} {r kd : Nat} {i : Int32} {x : Int32} (hk : tK h r = 2) (f : tIn h r kd i) : vp_nar (if kd = 1 then .boolean else .byte) x = vp_nar .byte x := by
  have := f.kd
  rw [if_neg (by omega)]
/-- a byte of a number -/
noncomputable def bF (x s : Int32) : Int32 := vp_nar .byte (x >>> (s &&& 31)).toInt8.toInt32
/-- four bytes behind a tape -/
noncomputable def f4 (f : Nat → Int32) (n x : Int32) : Nat → Int32 := fun j => if j = (n + 1 + 1 + 1).toNatClampNeg then bF x (24 + -8 + -8 + -8) else if j = (n + 1 + 1).toNatClampNeg then bF x (24 + -8 + -8) else if j = (n + 1).toNatClampNeg then bF x (24 + -8) else if j = n.toNatClampNeg then bF x 24 else f j
noncomputable abbrev z4 (n : Int32) : Int32 := n + 1 + 1 + 1 + 1
theorem zi1n {x : Int32} {k : Int} (h : x.toInt = k) (h0 : 0 ≤ k ∧ k ≤ 1000) : (x + 1).toInt = k + 1 := (zincN (n := k.toNat) (by omega) (by omega)).trans (by omega)
theorem z4n {x : Int32} {k : Int} (h : x.toInt = k) (h0 : 0 ≤ k ∧ k ≤ 900) : (z4 x).toInt = k + 4 := by
  have e1 := zi1n h (by omega)
  have e2 := zi1n e1 (by omega)
  have e3 := zi1n e2 (by omega)
  have e4 := zi1n e3 (by omega)
  show (x + 1 + 1 + 1 + 1).toInt = _
  omega
theorem z20n {x : Int32} (h : 0 ≤ x.toInt ∧ x.toInt ≤ 1000) : (x + 20).toInt = x.toInt + 20 := by
  rw [Int32.toInt_add, show (20 : Int32).toInt = 20 from rfl]
  exact Int.bmod_eq_of_le (by show (-2147483648 : Int) ≤ x.toInt + 20; omega) (by show x.toInt + 20 < (2147483648 : Int); omega)
noncomputable abbrev f20 (f : Nat → Int32) (n a b c d e : Int32) : Nat → Int32 := f4 (f4 (f4 (f4 (f4 f n a) (z4 n) b) (z4 (z4 n)) c) (z4 (z4 (z4 n))) d) (z4 (z4 (z4 (z4 n)))) e
noncomputable abbrev z20 (n : Int32) : Int32 := z4 (z4 (z4 (z4 (z4 n))))
theorem tF_ap {h l : zH} {p b : Nat} {w : Value} (hl : p < h.length) (k : tF h p b = w) : tF (h ++ l) p b = w := by
  unfold tF at k ⊢
  rw [List.getElem?_append_left hl]
  exact k
theorem tA_ap {h l : zH} {p : Nat} (hl : p < h.length) : tA (h ++ l) p = tA h p := by
  funext i
  unfold tA
  rw [List.getElem?_append_left hl]
theorem tO_ap {h l : zH} {p : Nat} (hl : p < h.length) : tO (h ++ l) p = tO h p := by
  funext i
  unfold tO
  rw [List.getElem?_append_left hl]
theorem tF_nw {h : zH} {a : Nat} {fs : List Value} {x : zC} {b : Nat} : tF (h ++ [.inr (a, fs), x]) h.length b = fs.getD b .null := by
  unfold tF
  rw [List.getElem?_append_right (Nat.le_refl _), Nat.sub_self]
  rfl
theorem tSh_ap {h l : zH} (hl : 182 ≤ h.length) (k : tSh h) : tSh (h ++ l) := by
  have a1 : tSr.all (fun q => Nat.blt q.1 182) = true := by decide +kernel
  have a2 : tSi.all (fun q => Nat.blt q.1 182) = true := by decide +kernel
  refine ⟨fun q hq => tF_ap ?_ (k.1 q hq), fun q hq => ?_⟩
  · have := Nat.le_of_ble_eq_true (List.all_eq_true.mp a1 q hq)
    omega
  · have := Nat.le_of_ble_eq_true (List.all_eq_true.mp a2 q hq)
    have e : tF (h ++ l) q.1 q.2 = tF h q.1 q.2 := tF_ap (by omega) rfl
    rw [e]
    exact k.2 q hq
theorem f_carInit {G : zG} (hG : G.1 = zProg) {h : zH} {k m o t : Int32} : tC zTt G 0 [.ref h.length, .int k, .int m, .int o, .int t] (h ++ [.inr (0, zcls zTt 0)]) (fun w h2 => w = none ∧ ∃ g : Nat → Int32, (∀ i, i < 12 → g i = 600) ∧ h2 = h ++ [.inr (0, [.int k, .int m, .int t, .int o, .int o, .int m, .int m, .int 0, .int 0, .int 0, .ref (h.length + 1)]), .inl (0, 12, .inl g)]) :=
  tC_of (zcar_init (d := 0) hG (fun g hg => ⟨rfl, g, hg, rfl⟩))
section CP11
variable {tt : zT} {G : zG} {cd : zK} {bc bs : Nat} {rt : Option FieldType} {dp : Nat} {Q : zQ} {Z : zX} {f : Bool} {pc : Nat} {L : zL} {s : List Value} {h : zH} {c n nx a b d r y : Nat} {v : Value} {m x1 x2 : Int32}
theorem tw_clone (hc : cd[pc]? = some (some (.castore, nx, a, b, d, v))) (k : ∀ (N : Nat) (g : Nat → Int32), h[r]? = some (.inl (0, N, .inl g)) → tG tt G cd bc bs rt (zW tt G dp) Q Z true nx L (.ref h.length :: s) (h ++ [.inl (0, N, .inl g)]) (c + 1) (n + N)) : tG tt G cd bc bs rt (zW tt G dp) Q Z f pc L (.ref r :: s) h c n := tG_row hc (fun z => Or.elim z (fun z => False.elim z) (fun z => by
  obtain ⟨N, g, e, e2, z⟩ := z
  exact Or.inr ⟨N, g, e, e2, k N g e z⟩))
theorem tw_cast (hc : cd[pc]? = some (some (.fmul, nx, a, b, d, v))) (k : tG tt G cd bc bs rt (zW tt G dp) Q Z true nx L (.ref r :: s) h c n) : tG tt G cd bc bs rt (zW tt G dp) Q Z f pc L (.ref r :: s) h c n := tG_row hc (fun z => Or.elim z (fun z => False.elim z) (fun z => by
  obtain ⟨N, g, e, e2, z⟩ := z
  exact Or.inr ⟨N, g, e, e2, k z⟩))
theorem tw_acpy (hc : cd[pc]? = some (some (.sastore, nx, a, b, d, v))) (k : ∀ (N K : Nat) (f1 g1 : Nat → Int32), h[r]? = some (.inl (0, N, .inl f1)) → h[y]? = some (.inl (0, K, .inl g1)) → tG tt G cd bc bs rt (zW tt G dp) Q Z true nx L s (h.set y (.inl (0, K, .inl (va_cpy f1 g1 0 0 m.toNatClampNeg)))) c n) : tG tt G cd bc bs rt (zW tt G dp) Q Z f pc L (.int m :: .int x1 :: .ref y :: .int x2 :: .ref r :: s) h c n := tG_row hc (fun z => Or.elim z (fun z => False.elim z) (fun z => by
  obtain ⟨N, K, f1, g1, e1, e2, e3, z⟩ := z
  exact Or.inr ⟨N, K, f1, g1, e1, e2, e3, k N K f1 g1 e1 e2 z⟩))
end CP11
/-- one array more, the first of another one's -/
noncomputable def cpy (h h2 : zH) (r : Nat) (m : Int32) : Prop := h2.length = h.length + 1 ∧ (∀ p b, p < h.length → tF h2 p b = tF h p b) ∧ (∀ p, p < h.length → tA h2 p = tA h p ∧ tO h2 p = tO h p ∧ tN h2 p = tN h p) ∧ tN h2 h.length = m.toNatClampNeg ∧ ∀ i, i < m.toNatClampNeg → tA h2 h.length i = tA h r i
theorem cpy_of {h : zH} {r N : Nat} {m : Int32} {f g : Nat → Int32} (hr : h[r]? = some (.inl (0, N, .inl f))) (hg : ∀ i, i < m.toNatClampNeg → g i = f i) : cpy h (h ++ [.inl (0, m.toNatClampNeg, .inl g)]) r m := by
  have hf : tA h r = f := by
    funext i
    unfold tA
    rw [hr]
  refine ⟨by rw [List.length_append]; rfl, fun p b hp => ?_, fun p hp => ⟨?_, ?_, ?_⟩, ?_, fun i hi => ?_⟩
  · unfold tF
    rw [List.getElem?_append_left hp]
  · funext i
    unfold tA
    rw [List.getElem?_append_left hp]
  · funext i
    unfold tO
    rw [List.getElem?_append_left hp]
  · unfold tN
    rw [List.getElem?_append_left hp]
  · unfold tN
    rw [List.getElem?_append_right (Nat.le_refl _), Nat.sub_self]
    rfl
  · rw [hf, ← hg i hi]
    unfold tA
    rw [List.getElem?_append_right (Nat.le_refl _), Nat.sub_self]
    rfl
theorem cpy_sh {h h2 : zH} {r : Nat} {m : Int32} (hl : 182 ≤ h.length) (k : cpy h h2 r m) (hs : tSh h) : tSh h2 := by
  have a1 : tSr.all (fun q => Nat.blt q.1 182) = true := by decide +kernel
  have a2 : tSi.all (fun q => Nat.blt q.1 182) = true := by decide +kernel
  refine ⟨fun q hq => ?_, fun q hq => ?_⟩
  · have := Nat.le_of_ble_eq_true (List.all_eq_true.mp a1 q hq)
    rw [k.2.1 _ _ (by omega)]; exact hs.1 q hq
  · have := Nat.le_of_ble_eq_true (List.all_eq_true.mp a2 q hq)
    rw [k.2.1 _ _ (by omega)]; exact hs.2 q hq
theorem tw_alenF {tt : zT} {G : zG} {cd : zK} {bc bs : Nat} {rt : Option FieldType} {dp : Nat} {Q : zQ} {Z : zX} {f : Bool} {pc : Nat} {L : zL} {s : List Value} {h : zH} {c n nx a b d r : Nat} {v : Value} (hc : cd[pc]? = some (some (.arraylength, nx, a, b, d, v))) (k : ∀ (kd N : Nat) (x : (Nat → Int32) ⊕ (Nat → Int64) ⊕ (Nat → UInt32) ⊕ (Nat → UInt64) ⊕ (Nat → Option Nat)), h[r]? = some (.inl (kd, N, x)) → tG tt G cd bc bs rt (zW tt G dp) Q Z true nx L (.int (Int32.ofNat N) :: s) h c n) : tG tt G cd bc bs rt (zW tt G dp) Q Z f pc L (.ref r :: s) h c n := tG_row hc (fun z => Or.elim z (fun z => False.elim z) (fun z => by
  obtain ⟨kd, N, x, hk, e, z⟩ := z
  exact Or.inr ⟨kd, N, x, hk, e, k kd N x e z⟩))
theorem f_copyOf {G : zG} (hG : G.1 = zProg) {h : zH} {r : Nat} {m : Int32} (hm : 0 ≤ m.toInt ∧ m.toInt ≤ (tN h r : Int) ∧ tN h r ≤ 1000) : tC zTt G 283 [.ref r, .int m] h (fun w h2 => w = some (.ref h.length) ∧ cpy h h2 r m) := by
  refine tC_in (by rw [hG]; rfl) (fun dp => ?_)
  refine tw_iload rfl rfl ?_
  refine tw_aload rfl rfl ?_
  refine tw_alenF rfl (fun kd N x e0 => ?_)
  have hl : r < h.length := by
    rcases Nat.lt_or_ge r h.length with z | z
    · exact z
    · rw [List.getElem?_eq_none z] at e0; cases e0
  have hN : tN h r = N := by unfold tN; rw [e0]
  rw [hN] at hm
  refine tw_ic_ne rfl (fun q => ?_) (fun q => ?_)
  · have q : ¬ m = Int32.ofNat N := q
    have hlt : m < Int32.ofNat N := Int32.lt_iff_toInt_lt.mpr (by
      rw [yofN (by omega)]
      have : m.toInt ≠ (N : Int) := fun z => q (Int32.toInt_inj.mp (by rw [yofN (by omega)]; exact z))
      omega)
    refine tw_iload rfl rfl ?_
    refine tw_newa rfl ?_
    refine tw_astore rfl ?_
    refine tw_aload rfl rfl ?_
    refine tw_push rfl ?_
    refine tw_aload rfl rfl ?_
    refine tw_push rfl ?_
    refine tw_aload rfl rfl ?_
    refine tw_alenF rfl (fun k5 N5 x5 e5 => ?_)
    have e5 : (h ++ [zarr (zkind .int) m.toNatClampNeg])[r]? = some (.inl (k5, N5, x5)) := e5
    rw [List.getElem?_append_left hl, e0] at e5
    cases e5
    refine tw_iload rfl rfl ?_
    refine tw_imin rfl ?_
    refine tw_acpy rfl (fun N2 K f1 g1 e1 e2 => ?_)
    have e1 : (h ++ [zarr (zkind .int) m.toNatClampNeg])[r]? = some (.inl (0, N2, .inl f1)) := e1
    have e2 : (h ++ [zarr (zkind .int) m.toNatClampNeg])[h.length]? = some (.inl (0, K, .inl g1)) := e2
    rw [List.getElem?_append_left hl, e0] at e1
    cases e1
    rw [List.getElem?_append_right (Nat.le_refl _), Nat.sub_self] at e2
    have e3 : zarr (zkind .int) m.toNatClampNeg = .inl (0, m.toNatClampNeg, .inl (fun _ => 0)) := rfl
    have e2 : some (zarr (zkind .int) m.toNatClampNeg) = some (.inl (0, K, .inl g1)) := e2
    rw [e3] at e2
    cases e2
    refine tw_aload rfl rfl ?_
    refine tw_aret rfl ⟨rfl, ?_⟩
    show cpy h ((h ++ [zarr (zkind .int) m.toNatClampNeg]).set h.length (.inl (0, m.toNatClampNeg, .inl (va_cpy f1 (fun _ => 0) 0 0 (if m < Int32.ofNat N then m else Int32.ofNat N).toNatClampNeg)))) r m
    rw [List.set_append_right _ _ (Nat.le_refl _), Nat.sub_self, if_pos hlt]
    exact cpy_of e0 (fun i hi => by
      unfold va_cpy
      rw [if_pos ⟨Nat.zero_le _, by omega⟩, Nat.zero_add, Nat.sub_zero])
  · have q : m = Int32.ofNat N := q
    have hmN : m.toNatClampNeg = N := by
      rw [zclE, q, yofN (by omega)]
      rfl
    refine tw_aload rfl rfl ?_
    refine tw_clone rfl (fun N2 g e => ?_)
    have e : h[r]? = some (.inl (0, N2, .inl g)) := e
    rw [e0] at e
    cases e
    refine tw_cast rfl ?_
    refine tw_aret rfl ⟨rfl, ?_⟩
    have := cpy_of (m := m) (g := g) e0 (fun _ _ => rfl)
    rw [hmN] at this
    exact this
theorem tO_st {h : zH} {r i : Nat} {x : Option Nat} {z : Int32} (hf : tInO h r z) {f : Nat → Option Nat} (k : tO h r = f) : tO (tSO h r i x) r = fun j => if j = i then x else f j := by
  rw [tO_tSO hf.cell]
  funext j
  dsimp only
  rw [k]
  by_cases e : j = i
  · rw [if_pos ⟨rfl, e⟩, if_pos e]
  · rw [if_neg (fun z => e z.2), if_neg e]
theorem tO_nz {h : zH} {r i p : Nat} {x : Option Nat} {z : Int32} (hf : tInO h r z) (hn : p ≠ r) : tO (tSO h r i x) p = tO h p := by
  rw [tO_tSO hf.cell]
  funext j
  exact if_neg (fun z => hn z.1)
/-- one rule more -/
noncomputable def cAdd (m : Int32) (h h2 : zH) : Prop := tF h2 48 3 = .int (tvI (tF h 48 3) + 1) ∧ tA h2 49 = (fun j => if j = (tvI (tF h 48 3)).toNatClampNeg then m else tA h 49 j) ∧ tO h2 50 = (fun j => if j = (tvI (tF h 48 3)).toNatClampNeg then some h.length else tO h 50 j) ∧ tO h2 51 = (fun j => if j = (tvI (tF h 48 3)).toNatClampNeg then some (h.length + 1) else tO h 51 j) ∧ tN h2 h.length = (tvI (tF h 44 5)).toNatClampNeg ∧ (∀ i, i < (tvI (tF h 44 5)).toNatClampNeg → tA h2 h.length i = tA h 46 i) ∧ tN h2 (h.length + 1) = (tvI (tF h 44 7) * 4).toNatClampNeg ∧ (∀ i, i < (tvI (tF h 44 7) * 4).toNatClampNeg → tA h2 (h.length + 1) i = tA h 47 i) ∧ (∀ p, p < h.length → p ≠ 49 → tA h2 p = tA h p) ∧ (∀ p b, p < h.length → ¬ (p = 48 ∧ b = 3) → tF h2 p b = tF h p b) ∧ (∀ p, p < h.length → p ≠ 50 → p ≠ 51 → tO h2 p = tO h p) ∧ ∀ p, p < h.length → tN h2 p = tN h p
theorem cAdd_of {h a b : zH} {m i : Int32} {kd : Nat} (hl : 182 ≤ h.length) (e : i = tvI (tF h 48 3)) (f1 : tIn h 49 kd i) (k1 : cpy (tSA h 49 i.toNatClampNeg m) a 46 (tvI (tF h 44 5))) (f2 : tInO a 50 i) (k2 : cpy (tSO a 50 i.toNatClampNeg (some (tSA h 49 i.toNatClampNeg m).length)) b 47 (tvI (tF h 44 7) * 4)) (f3 : tInO b 51 i) (f4 : tFd (tSO b 51 i.toNatClampNeg (some (tSO a 50 i.toNatClampNeg (some (tSA h 49 i.toNatClampNeg m).length)).length)) 48 3) : cAdd m h (tSF (tSO b 51 i.toNatClampNeg (some (tSO a 50 i.toNatClampNeg (some (tSA h 49 i.toNatClampNeg m).length)).length)) 48 3 (.int (i + 1))) := by
  subst e
  have L1 : (tSA h 49 (tvI (tF h 48 3)).toNatClampNeg m).length = h.length := tlen_tSA _ _ _ _
  rw [L1] at k2 f4 ⊢
  have La : a.length = h.length + 1 := by rw [k1.1, L1]
  have L2 : (tSO a 50 (tvI (tF h 48 3)).toNatClampNeg (some h.length)).length = h.length + 1 := by rw [tlen_tSO, La]
  rw [L2] at f4 ⊢
  obtain ⟨-, u1, u2, u3, u4⟩ := k1
  obtain ⟨-, v1, v2, v3, v4⟩ := k2
  rw [L1] at u1 u2 u3 u4
  rw [L2] at v1 v2 v3 v4
  refine ⟨tF_same f4, ?_, ?_, ?_, ?_, ?_, ?_, ?_, ?_, ?_, ?_, ?_⟩
  · rw [tA_tSF, tA_tSO, (v2 49 (by omega)).1, tA_tSO, (u2 49 (by omega)).1]
    exact tA_st f1 rfl
  · rw [tO_tSF, tO_nz f3 (by decide), (v2 50 (by omega)).2.1]
    refine tO_st f2 ?_
    rw [(u2 50 (by omega)).2.1, tO_tSA]
  · rw [tO_tSF]
    refine tO_st f3 ?_
    rw [(v2 51 (by omega)).2.1, tO_nz f2 (by decide), (u2 51 (by omega)).2.1, tO_tSA]
  · rw [tN_tSF, tN_tSO, (v2 h.length (by omega)).2.2, tN_tSO]
    exact u3
  · intro j hj
    rw [tA_tSF, tA_tSO, (v2 h.length (by omega)).1, tA_tSO, u4 j hj, tA_nz (by decide)]
  · rw [tN_tSF, tN_tSO]
    exact v3
  · intro j hj
    rw [tA_tSF, tA_tSO, v4 j hj, tA_tSO, (u2 47 (by omega)).1, tA_nz (by decide)]
  · intro p hp hn
    rw [tA_tSF, tA_tSO, (v2 p (by omega)).1, tA_tSO, (u2 p hp).1, tA_nz hn]
  · intro p c hp hn
    rw [tF_nz hn, tF_tSO, v1 p c (by omega), tF_tSO, u1 p c hp, tF_tSA]
  · intro p hp n1 n2
    rw [tO_tSF, tO_nz f3 n2, (v2 p (by omega)).2.1, tO_nz f2 n1, (u2 p hp).2.1, tO_tSA]
  · intro p hp
    rw [tN_tSF, tN_tSO, (v2 p (by omega)).2.2, tN_tSO, (u2 p hp).2.2, tN_tSA]
theorem f_bfull {G : zG} (hG : G.1 = zProg) {h : zH} (hs : tSh h) : tC zTt G 63 [.ref 48] h (fun w h2 => tBo ((tvI (tF h 48 3)).toInt = 10) w ∧ h2 = h) := by
  refine tC_in (by rw [hG]; rfl) (fun dp => ?_)
  refine tw_aload rfl rfl ?_
  refine tw_getS rfl (hi_48_3 hs) ?_
  refine tw_push rfl ?_
  refine tw_ic_ne rfl (fun q699 => ?_) (fun q699 => ?_)
  · try dsimp only [tvI_i, tvJ_j, tvR_r] at q699
    have q699i := zneq (Y := 10) (by decide) q699
    refine tw_push rfl ?_
    exact tw_iret rfl ⟨Or.inr ⟨by omega, rfl⟩, rfl⟩
  · try dsimp only [tvI_i, tvJ_j, tvR_r] at q699
    have q699i := zeqi (Y := 10) (by decide) q699
    refine tw_push rfl ?_
    refine tw_goto rfl ?_
    exact tw_iret rfl ⟨Or.inl ⟨by omega, rfl⟩, rfl⟩
theorem f_addRule {G : zG} (hG : G.1 = zProg) {h : zH} {m : Int32} (hs : tSh h) (hl : 182 ≤ h.length) (hc : 0 ≤ (tvI (tF h 44 5)).toInt ∧ (tvI (tF h 44 5)).toInt ≤ 400) (hk : 0 ≤ (tvI (tF h 44 7)).toInt ∧ (tvI (tF h 44 7)).toInt ≤ 12) (h46 : tN h 46 = 400) (h47 : tN h 47 = 48) : tC zTt G 64 [.ref 48, .int m, .ref 44] h (fun w h2 => (¬ (tvI (tF h 48 3)).toInt = 10 ∧ w = some (tF h 48 3) ∧ cAdd m h h2) ∨ (¬ ¬ (tvI (tF h 48 3)).toInt = 10 ∧ w = some (.int (-1)) ∧ h2 = h)) := by
  refine tC_in (by rw [hG]; rfl) (fun dp => ?_)
  have m4 : (tvI (tF h 44 7) * 4).toInt = (tvI (tF h 44 7)).toInt * 4 := zi32_4 hk.1 (by omega)
  refine tw_aload rfl rfl ?_
  refine tw_virt0 rfl (f_bfull hG hs) (fun w9 h9 p700 => ?_)
  obtain ⟨⟨p700, rfl⟩ | ⟨p700, rfl⟩, e9⟩ := p700
  · try dsimp only [tvI_i, tvJ_j, tvR_r] at p700
    obtain rfl := e9.symm
    refine tw_if_eq rfl (fun z => absurd z (by decide)) (fun _ => ?_)
    refine tw_push rfl ?_
    exact tw_iret rfl (Or.inr ⟨by omega, rfl, rfl⟩)
  · try dsimp only [tvI_i, tvJ_j, tvR_r] at p700
    obtain rfl := e9.symm
    refine tw_if_eq rfl (fun _ => ?_) (fun z => absurd z (by decide))
    refine tw_aload rfl rfl ?_
    refine tw_getS rfl (hs_48_0 hs) ?_
    refine tw_aload rfl rfl ?_
    refine tw_getS rfl (hi_48_3 hs) ?_
    refine tw_iload rfl rfl ?_
    refine tw_iast rfl (fun f701 => ?_)
    refine tw_aload rfl rfl ?_
    refine tw_getS rfl (hs_48_1 (tSh_SA hs)) ?_
    refine tw_aload rfl rfl ?_
    refine tw_getS rfl (tF_a (hi_48_3 hs)) ?_
    refine tw_aload rfl rfl ?_
    refine tw_getS rfl (hs_44_4 (tSh_SA hs)) ?_
    refine tw_aload rfl rfl ?_
    refine tw_getS rfl (tF_a (hi_44_5 hs)) ?_
    refine tw_stat2 rfl (f_copyOf hG (r := 46) (by rw [tN_tSA, h46]; omega)) (fun wp702 hp702 p702 => ?_)
    obtain ⟨rfl, cp702⟩ := p702
    refine tw_aast rfl (fun f703 => ?_)
    refine tw_aload rfl rfl ?_
    refine tw_getS rfl (hs_48_2 (tSh_SO (cpy_sh (by rw [tlen_tSA]; exact hl) cp702 (tSh_SA hs)))) ?_
    refine tw_aload rfl rfl ?_
    refine tw_getS rfl (tF_o ((cp702.2.1 48 3 (by rw [tlen_tSA]; omega)).trans (tF_a (hi_48_3 hs)))) ?_
    refine tw_aload rfl rfl ?_
    refine tw_getS rfl (hs_44_6 (tSh_SO (cpy_sh (by rw [tlen_tSA]; exact hl) cp702 (tSh_SA hs)))) ?_
    refine tw_aload rfl rfl ?_
    refine tw_getS rfl (tF_o ((cp702.2.1 44 7 (by rw [tlen_tSA]; omega)).trans (tF_a (hi_44_7 hs)))) ?_
    refine tw_push rfl ?_
    refine tw_imul rfl ?_
    refine tw_stat2 rfl (f_copyOf hG (r := 47) (by rw [tN_tSO, (cp702.2.2.1 47 (by rw [tlen_tSA]; omega)).2.2, tN_tSA, h47]; show 0 ≤ (tvI (tF h 44 7) * 4).toInt ∧ (tvI (tF h 44 7) * 4).toInt ≤ ((48 : Nat) : Int) ∧ 48 ≤ 1000; rw [m4]; omega)) (fun wp704 hp704 p704 => ?_)
    obtain ⟨rfl, cp704⟩ := p704
    refine tw_aast rfl (fun f705 => ?_)
    refine tw_aload rfl rfl ?_
    refine tw_dup rfl ?_
    refine tw_getS rfl (tF_o ((cp704.2.1 48 3 (by rw [tlen_tSO, cp702.1, tlen_tSA]; omega)).trans (tF_o ((cp702.2.1 48 3 (by rw [tlen_tSA]; omega)).trans (tF_a (hi_48_3 hs)))))) ?_
    refine tw_dup_x1 rfl ?_
    refine tw_push rfl ?_
    refine tw_iadd rfl ?_
    refine tw_put rfl (fun f706 => ?_)
    exact tw_iret rfl (Or.inl ⟨by omega, congrArg some (hi_48_3 hs).symm, cAdd_of hl rfl f701 cp702 f703 cp704 f705 f706⟩)
noncomputable def R_tlen (h : zH) : Prop := tF h 44 1 = tF h 111 27
noncomputable def R_tape (h : zH) : Prop := tA h 45 = tA h 132
noncomputable def R_rules (h : zH) : Prop := tF h 48 3 = tF h 111 30
noncomputable def R_froms (h : zH) : Prop := tA h 49 = tA h 141
theorem len_181 {h : zH} (e : tN h 181 = 81) : 182 ≤ h.length := by
  rcases Nat.lt_or_ge 181 h.length with q | q
  · omega
  · unfold tN at e
    rw [List.getElem?_eq_none q] at e
    cases e
theorem tN_lt {h : zH} {p : Nat} (e : 0 < tN h p) : p < h.length := by
  refine Classical.byContradiction (fun z => ?_)
  unfold tN at e
  rw [List.getElem?_eq_none (by omega)] at e
  exact absurd e (Nat.lt_irrefl 0)
theorem tC_and {tt : zT} {G : zG} {j : Nat} {as : List Value} {h : zH} {P Q : zQ} (k : tC tt G j as h P) (k2 : tC tt G j as h Q) : tC tt G j as h (fun w h2 => P w h2 ∧ Q w h2) := fun d z => zW_conj tt G d _ _ _ _ _ (k d z) (k2 d z)
theorem tC_triv {tt : zT} {G : zG} {j : Nat} {as : List Value} {h : zH} {Q : zQ} (k : ∀ w h2, Q w h2) : tC tt G j as h Q := fun d z => zW_mono tt G d _ _ _ _ _ (fun w h2 _ => k w h2) z
theorem f_cutTo2 {G : zG} (hG : G.1 = zProg) {h : zH} {n : Int32} : tC zTt G 74 [.ref 44, .int n] h (fun w h2 => w = some (.int n) ∧ h2 = tSF h 44 1 (.int n) ∧ tFd h 44 1) := by
  refine tC_in (by rw [hG]; rfl) (fun dp => ?_)
  refine tw_aload rfl rfl ?_
  refine tw_iload rfl rfl ?_
  refine tw_put rfl (fun f2 => ?_)
  refine tw_iload rfl rfl ?_
  exact tw_iret rfl ⟨rfl, rfl, f2⟩
/-- the codes in an array; a rule's clauses in one -/
noncomputable def cArr (h : zH) (a : Nat) : List Nat := (List.range (tN h a)).map (fun i => (tA h a i).toNatClampNeg)
noncomputable def cCls (h : zH) (b k : Nat) : List rCt := (List.range k).map (fun i => ((tA h b (4 * i)).toNatClampNeg, (tA h b (4 * i + 1)).toNatClampNeg, (tA h b (4 * i + 2)).toNatClampNeg, (tA h b (4 * i + 3)).toNatClampNeg))
/-- what the class's rule leaves -/
noncomputable def cRo (y : Int32) (r : Nat ⊕ (rS × List rCt)) (w : Option Value) (h h2 : zH) : Prop := match r with
  | .inl e => 100000 ≤ e ∨ (tF h2 44 1 = .int 0 ∧ w = some (.int (-2 - Int32.ofNat e)) ∧ tF h2 48 3 = tF h 48 3 ∧ tA h2 49 = tA h 49 ∧ (∀ p, 182 ≤ p → tA h2 p = tA h p) ∧ tO h2 50 = tO h 50 ∧ tO h2 51 = tO h 51)
  | .inr x => tF h2 44 1 = .int 0 ∧ w = some (tF h 48 3) ∧ tF h2 48 3 = .int (tvI (tF h 48 3) + 1) ∧ tA h2 49 = (fun j => if j = (tvI (tF h 48 3)).toNatClampNeg then y else tA h 49 j) ∧ ∃ a, 182 ≤ a ∧ tO h2 50 = (fun j => if j = (tvI (tF h 48 3)).toNatClampNeg then some a else tO h 50 j) ∧ tO h2 51 = (fun j => if j = (tvI (tF h 48 3)).toNatClampNeg then some (a + 1) else tO h 51 j) ∧ cArr h2 a = x.1.2.2 ∧ tN h2 (a + 1) = 4 * x.2.length ∧ cCls h2 (a + 1) x.2.length = x.2 ∧ ∀ p, 182 ≤ p → 0 < tN h p → tA h2 p = tA h p
theorem cRo_r {y : Int32} {h ha : zH} {b : zH} {w : Option Value} (hF : cFq h ha) (hP : cP ha) (hQ : cQ ha) (f1 : tFd ha 44 1) (hl : 182 ≤ ha.length) (hO : tO ha 50 = tO h 50 ∧ tO ha 51 = tO h 51) (k : cAdd y (tSF ha 44 1 (.int 0)) b) (hw : w = some (tF (tSF ha 44 1 (.int 0)) 48 3)) : cRo y (.inr (cs ha, cCl ha)) w h b := by
  have E : tF (tSF ha 44 1 (.int 0)) 48 3 = tF h 48 3 := (tF_nz (by decide)).trans (hF.2.1 48 3 (by decide))
  have E5 : tF (tSF ha 44 1 (.int 0)) 44 5 = tF ha 44 5 := tF_nz (by decide)
  have E7 : tF (tSF ha 44 1 (.int 0)) 44 7 = tF ha 44 7 := tF_nz (by decide)
  have L : (tSF ha 44 1 (.int 0)).length = ha.length := tlen_tSF _ _ _ _
  obtain ⟨k1, k2, k3, k4, k5, k6, k7, k8, k9, k10, k11, k12⟩ := k
  rw [E] at k1 k2 k3 k4
  rw [E5] at k5 k6
  rw [E7] at k7 k8
  rw [L] at k3 k4 k5 k6 k7 k8 k9 k10 k11 k12
  have m4 : (tvI (tF ha 44 7) * 4).toNatClampNeg = 4 * (tvI (tF ha 44 7)).toNatClampNeg := by
    rw [zclE, zi32_4 hQ.1 (by have := hQ.2.1; omega), zclE]
    have := hQ.1
    omega
  have hlen : (cCl ha).length = (tvI (tF ha 44 7)).toNatClampNeg := by unfold cCl; rw [List.length_map, List.length_range]
  refine ⟨?_, hw.trans (by rw [E]), k1, ?_, ha.length, hl, ?_, ?_, ?_, ?_, ?_, fun p hp h0 => ?_⟩
  · rw [k10 44 1 (by omega) (by decide)]
    exact tF_same f1
  · rw [k2]
    funext j
    rw [tA_tSF, hF.2.2.1 49 (by decide) (by decide)]
  · rw [k3, tO_tSF, hO.1]
  · rw [k4, tO_tSF, hO.2]
  · show cArr b ha.length = cCo ha
    unfold cArr cCo
    rw [k5]
    refine List.map_congr_left (fun i hi => ?_)
    have hi := List.mem_range.mp hi
    rw [k6 i hi, tA_tSF]
  · show tN b (ha.length + 1) = 4 * (cCl ha).length
    rw [k7, m4, hlen]
  · show cCls b (ha.length + 1) (cCl ha).length = cCl ha
    rw [hlen]
    unfold cCls cCl
    refine List.map_congr_left (fun i hi => ?_)
    have hi := List.mem_range.mp hi
    rw [k8 (4 * i) (by omega), k8 (4 * i + 1) (by omega), k8 (4 * i + 2) (by omega), k8 (4 * i + 3) (by omega), tA_tSF]
  · have h1 : p < ha.length := tN_lt (by rw [hF.2.2.2]; exact h0)
    rw [k9 p h1 (by omega), tA_tSF, hF.2.2.1 p (by omega) (by omega)]
theorem ofN_ne {e : Nat} (h : e < 100000) : ¬ Int32.ofNat e = -1 := by
  intro z
  have := congrArg Int32.toInt z
  rw [yofN (by omega)] at this
  have m : (-1 : Int32).toInt = -1 := rfl
  omega
noncomputable def ph_ruc (y : Int32) (h : zH) (w : Option Value) (h2 : zH) : Prop := (¬ ((tvI (tF h 48 3)).toInt ≠ 10 ∧ (tvI (tF h 0 14)).toInt ≤ y.toInt ∧ y.toInt ≤ 599) ∧ w = some (.int (-1)) ∧ h2 = h) ∨ (((tvI (tF h 48 3)).toInt ≠ 10 ∧ (tvI (tF h 0 14)).toInt ≤ y.toInt ∧ y.toInt ≤ 599) ∧ ∃ r, (∃ f, rRu (tA h 45) (cn h) f (0, 0, []) [] r) ∧ cRo y r w h h2)
theorem f_rule {G : zG} (hG : G.1 = zProg) (hX : G.2.1 = ztx) (hN : G.2.2.1 ≤ 4096) {τ : List Nat} {h : zH} {y : Int32} (hB : zBs G.2.2.2 τ h) (hs : tSh h) (hl : 0 ≤ (tvI (tF h 44 1)).toInt ∧ (tvI (tF h 44 1)).toInt ≤ 400) (hT9 : ∀ i, i < 400 → -128 ≤ (tA h 45 i).toInt ∧ (tA h 45 i).toInt ≤ 127) (h46 : tN h 46 = 400) (h47 : tN h 47 = 48) (h181 : tN h 181 = 81) : tC zTt G 124 [.ref 0, .int y] h (ph_ruc y h) := by
  by_cases hcnd : ((tvI (tF h 48 3)).toInt ≠ 10 ∧ (tvI (tF h 0 14)).toInt ≤ y.toInt ∧ y.toInt ≤ 599)
  · by_cases hbig : ∃ e f, rRu (tA h 45) (cn h) f (0, 0, []) [] (.inl e) ∧ 100000 ≤ e
    · obtain ⟨e, f, h1, h2⟩ := hbig
      exact tC_triv (fun _ _ => Or.inr ⟨hcnd, .inl e, ⟨f, h1⟩, Or.inl h2⟩)
    · refine tC_in (by rw [hG]; rfl) (fun dp => ?_)
      refine tw_aload rfl rfl ?_
      refine tw_getS rfl (hs_0_3 hs) ?_
      refine tw_virt0 rfl (f_bfull hG hs) (fun w9 h9 p707 => ?_)
      obtain ⟨⟨p707, rfl⟩ | ⟨p707, rfl⟩, e9⟩ := p707
      · try dsimp only [tvI_i, tvJ_j, tvR_r] at p707
        obtain rfl := e9.symm
        refine tw_if_ne rfl (fun _ => ?_) (fun z => absurd z (by decide))
        refine tw_push rfl ?_
        exact tw_iret rfl (Or.inl ⟨fun z => by have := z.1; omega, rfl, rfl⟩)
      · try dsimp only [tvI_i, tvJ_j, tvR_r] at p707
        obtain rfl := e9.symm
        refine tw_if_ne rfl (fun z => absurd z (by decide)) (fun _ => ?_)
        refine tw_iload rfl rfl ?_
        refine tw_aload rfl rfl ?_
        refine tw_getS rfl (hi_0_14 hs) ?_
        refine tw_push rfl ?_
        refine tw_stat3 rfl (f_isWithin hG  (HI := 599) rfl (by decide)) (fun w9 h9 p708 => ?_)
        obtain ⟨⟨p708, rfl⟩ | ⟨p708, rfl⟩, e9⟩ := p708
        · try dsimp only [tvI_i, tvJ_j, tvR_r] at p708
          obtain rfl := e9.symm
          refine tw_if_ne rfl (fun _ => ?_) (fun z => absurd z (by decide))
          refine tw_aload rfl rfl ?_
          refine tw_getS rfl (hs_0_2 hs) ?_
          refine tw_virt0 rfl (tC_and (f_readRule hG hX hs rfl rfl hl hT9 h46 h47) (tC_of (zpub hG hX hN (j := 75) (x := 44) (bs := []) (xs := []) (ct := kt_75_0) (g := false) (kd := 0) (lv := 42) (cts := [kt_75_0]) (by rfl) List.mem_cons_self (by rfl) (by rfl) (by decide) (by decide +kernel) (by decide +kernel) trivial hB))) (fun w9 hp709 p709 => ?_)
          obtain ⟨⟨Fp709, ⟨Np709, rp709, rfl, Pp709, Qp709⟩ | ⟨ep709, Np709, rp709, rfl⟩⟩, -, -, Yp709⟩ := p709
          · refine tw_istore rfl ?_
            refine tw_aload rfl rfl ?_
            refine tw_getS rfl (hs_0_2 Fp709.1) ?_
            refine tw_push rfl ?_
            refine tw_virt1 rfl (f_cutTo2 hG) (fun wp710 hp710 p710 => ?_)
            obtain ⟨rfl, rfl, fp710⟩ := p710
            refine tw_pop rfl ?_
            refine tw_iload rfl rfl ?_
            refine tw_push rfl ?_
            refine tw_ic_ne rfl (fun z => absurd z (by decide)) (fun _ => ?_)
            refine tw_aload rfl rfl ?_
            refine tw_getS rfl (hs_0_3 (hw_44_1 fp710 Fp709.1)) ?_
            refine tw_iload rfl rfl ?_
            refine tw_aload rfl rfl ?_
            refine tw_getS rfl (hs_0_2 (hw_44_1 fp710 Fp709.1)) ?_
            refine tw_virt2 rfl (f_addRule hG (hw_44_1 fp710 Fp709.1) (by rw [tlen_tSF]; exact len_181 ((congrFun Fp709.2.2.2 181).trans h181)) (by rw [tF_nz (by decide)]; exact ⟨Pp709.2.2.1.1, by have a := Pp709.2.2.1.2; have b := Pp709.1.2.1; have c := Pp709.1.2.2; omega⟩) (by rw [tF_nz (by decide)]; exact ⟨Qp709.1, Qp709.2.1⟩) (by rw [tN_tSF, Fp709.2.2.2]; exact h46) (by rw [tN_tSF, Fp709.2.2.2]; exact h47)) (fun wp711 hp711 p711 => ?_)
            refine tw_goto rfl ?_
            have E48 : tF (tSF hp709 44 1 (.int 0)) 48 3 = tF h 48 3 := (tF_nz (by decide)).trans (Fp709.2.1 48 3 (by decide))
            rcases p711 with ⟨c9, w9, k9⟩ | ⟨c9, w9, k9⟩
            · subst w9; exact tw_iret rfl (Or.inr ⟨⟨by omega, by omega⟩, _, ⟨Np709, rp709⟩, cRo_r Fp709 Pp709 Qp709 fp710 (len_181 ((congrFun Fp709.2.2.2 181).trans h181)) ⟨(tfr_A hB Yp709 (p := 50) rfl rfl).2.2, (tfr_A hB Yp709 (p := 51) rfl rfl).2.2⟩ k9 (congrArg some (hi_48_3 (hw_44_1 fp710 Fp709.1)).symm)⟩)
            · exfalso
              rw [E48] at c9
              omega
          · refine tw_istore rfl ?_
            refine tw_aload rfl rfl ?_
            refine tw_getS rfl (hs_0_2 Fp709.1) ?_
            refine tw_push rfl ?_
            refine tw_virt1 rfl (f_cutTo2 hG) (fun wp712 hp712 p712 => ?_)
            obtain ⟨rfl, rfl, fp712⟩ := p712
            refine tw_pop rfl ?_
            refine tw_iload rfl rfl ?_
            refine tw_push rfl ?_
            refine tw_ic_ne rfl (fun q713 => ?_) (fun q713 => ?_)
            · try dsimp only [tvI_i, tvJ_j, tvR_r] at q713
              have q713i := zneq (Y := (-1)) (by decide) q713
              refine tw_push rfl ?_
              refine tw_iload rfl rfl ?_
              refine tw_isub rfl ?_
              exact tw_iret rfl (Or.inr ⟨⟨by omega, by omega⟩, .inl ep709, ⟨Np709, rp709⟩, Or.inr ⟨tF_same fp712, rfl, (tF_nz (by decide)).trans (Fp709.2.1 48 3 (by decide)), (congrFun (tA_tSF _ _ _ _) 49).trans (Fp709.2.2.1 49 (by decide) (by decide)), fun p9 hp9 => (congrFun (tA_tSF _ _ _ _) p9).trans (Fp709.2.2.1 p9 (by omega) (by omega)), (congrFun (tO_tSF _ _ _ _) 50).trans (tfr_A hB Yp709 (p := 50) rfl rfl).2.2, (congrFun (tO_tSF _ _ _ _) 51).trans (tfr_A hB Yp709 (p := 51) rfl rfl).2.2⟩⟩)
            · try dsimp only [tvI_i, tvJ_j, tvR_r] at q713
              have q713i := zeqi (Y := (-1)) (by decide) q713
              exact absurd q713 (ofN_ne (Nat.lt_of_not_le (fun z => hbig ⟨_, _, rp709, z⟩)))
        · try dsimp only [tvI_i, tvJ_j, tvR_r] at p708
          obtain rfl := e9.symm
          refine tw_if_ne rfl (fun z => absurd z (by decide)) (fun _ => ?_)
          refine tw_push rfl ?_
          exact tw_iret rfl (Or.inl ⟨fun z => by have := z.1; omega, rfl, rfl⟩)
  · refine tC_in (by rw [hG]; rfl) (fun dp => ?_)
    refine tw_aload rfl rfl ?_
    refine tw_getS rfl (hs_0_3 hs) ?_
    refine tw_virt0 rfl (f_bfull hG hs) (fun w9 h9 p714 => ?_)
    obtain ⟨⟨p714, rfl⟩ | ⟨p714, rfl⟩, e9⟩ := p714
    · try dsimp only [tvI_i, tvJ_j, tvR_r] at p714
      obtain rfl := e9.symm
      refine tw_if_ne rfl (fun _ => ?_) (fun z => absurd z (by decide))
      refine tw_push rfl ?_
      exact tw_iret rfl (Or.inl ⟨fun z => by have := z.1; omega, rfl, rfl⟩)
    · try dsimp only [tvI_i, tvJ_j, tvR_r] at p714
      obtain rfl := e9.symm
      refine tw_if_ne rfl (fun z => absurd z (by decide)) (fun _ => ?_)
      refine tw_iload rfl rfl ?_
      refine tw_aload rfl rfl ?_
      refine tw_getS rfl (hi_0_14 hs) ?_
      refine tw_push rfl ?_
      refine tw_stat3 rfl (f_isWithin hG  (HI := 599) rfl (by decide)) (fun w9 h9 p715 => ?_)
      obtain ⟨⟨p715, rfl⟩ | ⟨p715, rfl⟩, e9⟩ := p715
      · try dsimp only [tvI_i, tvJ_j, tvR_r] at p715
        obtain rfl := e9.symm
        refine tw_if_ne rfl (fun _ => ?_) (fun z => absurd z (by decide))
        refine tw_aload rfl rfl ?_
        refine tw_getS rfl (hs_0_2 hs) ?_
        refine tw_virt0 rfl (tC_and (f_readRule hG hX hs rfl rfl hl hT9 h46 h47) (tC_of (zpub hG hX hN (j := 75) (x := 44) (bs := []) (xs := []) (ct := kt_75_0) (g := false) (kd := 0) (lv := 42) (cts := [kt_75_0]) (by rfl) List.mem_cons_self (by rfl) (by rfl) (by decide) (by decide +kernel) (by decide +kernel) trivial hB))) (fun w9 hp716 p716 => ?_)
        obtain ⟨⟨Fp716, ⟨Np716, rp716, rfl, Pp716, Qp716⟩ | ⟨ep716, Np716, rp716, rfl⟩⟩, -, -, Yp716⟩ := p716
        · exact absurd ⟨by omega, by omega⟩ hcnd
        · exact absurd ⟨by omega, by omega⟩ hcnd
      · try dsimp only [tvI_i, tvJ_j, tvR_r] at p715
        obtain rfl := e9.symm
        refine tw_if_ne rfl (fun z => absurd z (by decide)) (fun _ => ?_)
        refine tw_push rfl ?_
        exact tw_iret rfl (Or.inl ⟨fun z => by have := z.1; omega, rfl, rfl⟩)
theorem mK_of {xs : Nat → Int32} {τ : List Nat} {h : zH} (hB : zBs xs τ h) : mK h := ⟨kb_111_27 hB, (kb_111_34 hB).1, kb_111_30 hB, fun i hi => ((ka_142 hB).2 i (by rw [(ka_142 hB).1] at hi; exact hi)).1, fun _ => rfl, by rw [(ka_133 hB).1]; decide, by rw [(ka_142 hB).1]; decide⟩
theorem zAr_dep {G : zG} (hG : G.1 = zProg) (hT : G.2.1 = ztx) (hN : G.2.2.1 ≤ 4096) {R : zH → Prop} {cmp : Bool} {φ1 : List Int32 → zH → Option Value → zH → Prop} {φ2 : List Int32 → zH → Option Value → zH → Option Value → zH → Prop} {j1 j2 kd : Nat} {bs : List (Int × Int)} {ct1 ct2 : yCt} {g1 g2 : Bool} {l1 l2 : Nat} {cs1 cs2 : List yCt} (c1 : zCT[j1]? = some cs1) (i1 : ct1 ∈ cs1) (p1 : ct1.1 = zpM 0 bs g1) (v1 : ct1.2.2.1 = (.ofNat l1, [])) (v1' : l1 ≤ 64) (k1 : zpT kd ct1.2.2.2 = true) (q1 : zpG (ywf ct1.2.1) ct1.2.2.2 = true)
  (c2 : zCT[j2]? = some cs2) (i2 : ct2 ∈ cs2) (p2 : ct2.1 = zpM 111 bs g2) (v2 : ct2.2.2.1 = (.ofNat l2, [])) (v2' : l2 ≤ 64) (k2 : zpT kd ct2.2.2.2 = true) (q2 : zpG (ywf ct2.2.1) ct2.2.2.2 = true)
  (f1 : ∀ xs τ h, zpB bs xs → zBs G.2.2.2 τ h → R h → tC zTt G j1 (.ref 0 :: xs.map Value.int) h (fun w h2 => φ1 xs h w h2)) (f2 : ∀ xs τ h w h2 τ2, zpB bs xs → zBs G.2.2.2 τ h → R h → φ1 xs h w h2 → zBs G.2.2.2 τ2 h2 → yFr (ywf ct1.2.1) τ h h2 → tC zTt G j2 (.ref 111 :: xs.map Value.int) h2 (fun w2 h3 => φ2 xs h w h2 w2 h3))
  (fin : ∀ xs τ h w h2 τ2 w2 h3 τ3, zpB bs xs → zBs G.2.2.2 τ h → R h → φ1 xs h w h2 → zBs G.2.2.2 τ2 h2 → yFr (ywf ct1.2.1) τ h h2 → φ2 xs h w h2 w2 h3 → zBs G.2.2.2 τ3 h3 → yFr (ywf ct2.2.1) τ2 h2 h3 → (cmp = true → w2 = w) ∧ R h3) : zAr G R j1 j2 kd bs cmp := by
  intro xs h hb ⟨⟨τ, hB⟩, hR⟩
  refine zW_mono zTt G 64 _ _ _ _ _ ?_ ((f1 xs τ h hb hB hR).both (zpub hG hT hN c1 i1 p1 v1 v1' k1 q1 hb hB))
  rintro w h2 ⟨⟨t1, ⟨τ2, hB2⟩, r1⟩, h1⟩
  refine ⟨t1, zBs_111 hB2, zW_mono zTt G 64 _ _ _ _ _ ?_ ((f2 xs τ h w h2 τ2 hb hB hR h1 hB2 r1).both (zpub hG hT hN c2 i2 p2 v2 v2' k2 q2 hb hB2))⟩
  rintro w2 h3 ⟨⟨t2, ⟨τ3, hB3⟩, r2⟩, hh2⟩
  obtain ⟨e1, e2⟩ := fin xs τ h w h2 τ2 w2 h3 τ3 hb hB hR h1 hB2 r1 hh2 hB3 r2
  exact ⟨t2, e1, ⟨τ3, hB3⟩, e2⟩
noncomputable def ph_rum (y : Int32) (h : zH) (w : Option Value) (h2 : zH) (w2 : Option Value) (h3 : zH) : Prop := (w = some (.int (-1)) ∧ h2 = h ∧ w2 = some (.int (-1)) ∧ h3 = h2) ∨ ∃ r, (∃ f, rRu (tA h 45) (cn h) f (0, 0, []) [] r) ∧ cRo y r w h h2 ∧ mRo y r w2 h2 h3
theorem g_rule0 {G : zG} (hG : G.1 = zProg) {h : zH} {y : Int32} (hs : tSh h) (hc : ¬ ((tvI (tF h 111 30)).toInt ≠ 10 ∧ (tvI (tF h 111 1)).toInt ≤ y.toInt ∧ y.toInt ≤ 599)) : tC zTt G 225 [.ref 111, .int y] h (fun w h2 => w = some (.int (-1)) ∧ h2 = h) := by
  refine tC_in (by rw [hG]; rfl) (fun dp => ?_)
  refine tw_aload rfl rfl ?_
  refine tw_getS rfl (hi_111_30 hs) ?_
  refine tw_push rfl ?_
  refine tw_ic_eq rfl (fun q717 => ?_) (fun q717 => ?_)
  · try dsimp only [tvI_i, tvJ_j, tvR_r] at q717
    have q717i := zeqi (Y := 10) (by decide) q717
    refine tw_push rfl ?_
    exact tw_iret rfl ⟨rfl, rfl⟩
  · try dsimp only [tvI_i, tvJ_j, tvR_r] at q717
    have q717i := zneq (Y := 10) (by decide) q717
    refine tw_iload rfl rfl ?_
    refine tw_i2l rfl ?_
    refine tw_aload rfl rfl ?_
    refine tw_getS rfl (hi_111_1 hs) ?_
    refine tw_i2l rfl ?_
    refine tw_push rfl ?_
    refine tw_stat3 rfl (f_in hG   (HI := 599) (Int32.toInt_toInt64 _) (Int32.toInt_toInt64 _) (by decide)) (fun w9 h9 p718 => ?_)
    obtain ⟨⟨p718, rfl⟩ | ⟨p718, rfl⟩, e9⟩ := p718
    · try dsimp only [tvI_i, tvJ_j, tvR_r] at p718
      obtain rfl := e9.symm
      exact absurd ⟨by omega, by omega⟩ hc
    · try dsimp only [tvI_i, tvJ_j, tvR_r] at p718
      obtain rfl := e9.symm
      refine tw_if_ne rfl (fun z => absurd z (by decide)) (fun _ => ?_)
      refine tw_push rfl ?_
      exact tw_iret rfl ⟨rfl, rfl⟩
theorem g_ruleD {G : zG} (hG : G.1 = zProg) (hX : G.2.1 = ztx) {τ τ2 : List Nat} {y : Int32} {h h2 : zH} {w : Option Value} (hB : zBs G.2.2.2 τ h) (hB2 : zBs G.2.2.2 τ2 h2) (hL : R_tlen h) (hT : R_tape h) (hN : R_rules h) (hW : R_now h) (e1 : tF h2 111 27 = tF h 111 27) (e2 : tF h2 111 30 = tF h 111 30) (e3 : tF h2 111 1 = tF h 111 1) (o1 : tA h2 132 = tA h 132) (k1 : ph_ruc y h w h2) : tC zTt G 225 [.ref 111, .int y] h2 (ph_rum y h w h2) := by
  unfold R_tlen at hL
  unfold R_tape at hT
  unfold R_rules at hN
  unfold R_now at hW
  rcases k1 with ⟨c1, rfl, rfl⟩ | ⟨c1, r, ⟨f, hr⟩, k1⟩
  · refine (g_rule0 hG (zBs_sh hB2) ?_).mono (fun w2 h3 z => Or.inl ⟨rfl, rfl, z.1, z.2⟩)
    rw [← hN, ← hW]
    exact c1
  · have hmn : mn h2 = cn h := by unfold mn cn; rw [e1, ← hL]
    refine (g_rule hG hX (zBs_sh hB2) (mK_of hB2) (o1.trans hT.symm) hmn ⟨f, hr⟩).mono (fun w2 h3 z => ?_)
    rcases z with ⟨c2, -⟩ | ⟨-, z⟩
    · refine absurd ?_ c2
      rw [e2, e3, ← hN, ← hW]
      exact ⟨fun y9 => c1.1 (by rw [y9]; rfl), c1.2.1, c1.2.2⟩
    · exact Or.inr ⟨r, ⟨f, hr⟩, k1, z⟩
theorem a_rule {xs : Nat → Int32} {τ : List Nat} {y : Int32} {h h2 h3 : zH} {w w2 : Option Value} (hB : zBs xs τ h) (hL : R_tlen h) (hN : R_rules h) (hF : R_froms h) (e1 : tF h2 111 27 = tF h 111 27) (e2 : tF h2 111 30 = tF h 111 30) (o2 : tA h2 141 = tA h 141) (t1 : tF h3 44 1 = tF h2 44 1) (t2 : tF h3 48 3 = tF h2 48 3) (t3 : tA h3 49 = tA h2 49) (k2 : ph_rum y h w h2 w2 h3) : w2 = w ∧ R_tlen h3 ∧ R_rules h3 ∧ R_froms h3 := by
  have hN0 := hN
  have hF0 := hF
  unfold R_rules at hN0
  unfold R_froms at hF0
  have i48 := hi_48_3 (zBs_sh hB)
  rcases k2 with ⟨rfl, rfl, rfl, rfl⟩ | ⟨r, -, k1, k2⟩
  · exact ⟨rfl, hL, hN, hF⟩
  · obtain ⟨m1, m2, k2⟩ := k2
    have E27 : tF h3 111 27 = .int 0 := by rw [hi_111_27 m1.1, m2]
    cases r with
    | inl e =>
      obtain ⟨m3, rfl, m4, -, m5⟩ := k2
      rcases k1 with k1 | ⟨k1, rfl, k3, k4, -⟩
      · exact absurd m3 (Nat.not_lt_of_le k1)
      · refine ⟨rfl, ?_, ?_, ?_⟩
        · unfold R_tlen
          rw [t1, k1, E27]
        · unfold R_rules
          rw [t2, k3, m4, e2]
          exact hN0
        · unfold R_froms
          rw [t3, k4, m5, o2]
          exact hF0
    | inr x =>
      obtain ⟨rfl, m4, m5, m6, m7, -⟩ := k2
      obtain ⟨k1, rfl, k3, k4, -⟩ := k1
      have E30 : tvI (tF h2 111 30) = tvI (tF h 48 3) := by rw [e2, ← hN0]
      refine ⟨?_, ?_, ?_, ?_⟩
      · rw [zi1, E30]
        exact congrArg some i48.symm
      · unfold R_tlen
        rw [t1, k1, E27]
      · unfold R_rules
        rw [t2, k3, hi_111_30 m1.1, m4, E30]
      · unfold R_froms
        rw [t3, k4]
        funext q
        rw [E30] at m6 m7
        by_cases z : q = (tvI (tF h 48 3)).toNatClampNeg
        · rw [if_pos z, z, m6]
        · rw [if_neg z, (m7 q z).2, o2, ← hF0]
theorem f_put {G : zG} (hG : G.1 = zProg) {h : zH} {x : Int32} (hs : tSh h) (hk : tK h 45 = 2) (hl : 0 ≤ (tvI (tF h 44 1)).toInt ∧ (tvI (tF h 44 1)).toInt ≤ 396) : tC zTt G 73 [.ref 44, .int x] h (fun w h2 => w = none ∧ tSh h2 ∧ tF h2 44 1 = .int (z4 (tvI (tF h 44 1))) ∧ tA h2 45 = f4 (tA h 45) (tvI (tF h 44 1)) x ∧ tK h2 45 = 2) := by
  refine tC_in (by rw [hG]; rfl) (fun dp => ?_)
  have e0 : (tvI (tF h 44 1)).toInt = (tvI (tF h 44 1)).toInt := rfl
  have e1 := zi1n e0 (by omega)
  have e2 := zi1n e1 (by omega)
  have e3 := zi1n e2 (by omega)
  have h4 : (400 : Int32).toInt = 400 := rfl
  refine tw_push rfl ?_
  refine tw_istore rfl ?_
  refine tw_iload rfl rfl ?_
  refine tw_if_lt rfl (fun z => absurd z (by decide)) (fun _ => ?_)
  refine tw_aload rfl rfl ?_
  refine tw_getS rfl (hi_44_1 hs) ?_
  refine tw_push rfl ?_
  refine tw_ic_ge rfl (fun q719 => ?_) (fun q719 => ?_)
  · try dsimp only [tvI_i, tvJ_j, tvR_r] at q719
    exact absurd q719 (by omega)
  · try dsimp only [tvI_i, tvJ_j, tvR_r] at q719
    refine tw_aload rfl rfl ?_
    refine tw_getS rfl (hs_44_0 hs) ?_
    refine tw_aload rfl rfl ?_
    refine tw_getS rfl (hi_44_1 hs) ?_
    refine tw_iload rfl rfl ?_
    refine tw_iload rfl rfl ?_
    refine tw_ishr rfl ?_
    refine tw_i2b rfl ?_
    refine tw_bast rfl (fun kf720 zf720 f720 => ?_)
    rw [bst_k hk f720]
    refine tw_aload rfl rfl ?_
    refine tw_dup rfl ?_
    refine tw_getS rfl (tF_a (hi_44_1 hs)) ?_
    refine tw_push rfl ?_
    refine tw_iadd rfl ?_
    refine tw_put rfl (fun f721 => ?_)
    refine tw_iinc rfl rfl ?_
    refine tw_goto rfl ?_
    refine tw_iload rfl rfl ?_
    refine tw_if_lt rfl (fun z => absurd z (by decide)) (fun _ => ?_)
    refine tw_aload rfl rfl ?_
    refine tw_getS rfl (tF_same f721) ?_
    refine tw_push rfl ?_
    refine tw_ic_ge rfl (fun q722 => ?_) (fun q722 => ?_)
    · try dsimp only [tvI_i, tvJ_j, tvR_r] at q722
      exact absurd q722 (by omega)
    · try dsimp only [tvI_i, tvJ_j, tvR_r] at q722
      refine tw_aload rfl rfl ?_
      refine tw_getS rfl (hs_44_0 (hw_44_1 f721 (tSh_SA hs))) ?_
      refine tw_aload rfl rfl ?_
      refine tw_getS rfl (tF_same f721) ?_
      refine tw_iload rfl rfl ?_
      refine tw_iload rfl rfl ?_
      refine tw_ishr rfl ?_
      refine tw_i2b rfl ?_
      refine tw_bast rfl (fun kf723 zf723 f723 => ?_)
      rw [bst_k (by rw [tK_tSF]; exact (by rw [tK_tSA]; exact hk)) f723]
      refine tw_aload rfl rfl ?_
      refine tw_dup rfl ?_
      refine tw_getS rfl (tF_a (tF_same f721)) ?_
      refine tw_push rfl ?_
      refine tw_iadd rfl ?_
      refine tw_put rfl (fun f724 => ?_)
      refine tw_iinc rfl rfl ?_
      refine tw_goto rfl ?_
      refine tw_iload rfl rfl ?_
      refine tw_if_lt rfl (fun z => absurd z (by decide)) (fun _ => ?_)
      refine tw_aload rfl rfl ?_
      refine tw_getS rfl (tF_same f724) ?_
      refine tw_push rfl ?_
      refine tw_ic_ge rfl (fun q725 => ?_) (fun q725 => ?_)
      · try dsimp only [tvI_i, tvJ_j, tvR_r] at q725
        exact absurd q725 (by omega)
      · try dsimp only [tvI_i, tvJ_j, tvR_r] at q725
        refine tw_aload rfl rfl ?_
        refine tw_getS rfl (hs_44_0 (hw_44_1 f724 (tSh_SA (hw_44_1 f721 (tSh_SA hs))))) ?_
        refine tw_aload rfl rfl ?_
        refine tw_getS rfl (tF_same f724) ?_
        refine tw_iload rfl rfl ?_
        refine tw_iload rfl rfl ?_
        refine tw_ishr rfl ?_
        refine tw_i2b rfl ?_
        refine tw_bast rfl (fun kf726 zf726 f726 => ?_)
        rw [bst_k (by rw [tK_tSF]; exact (by rw [tK_tSA]; exact (by rw [tK_tSF]; exact (by rw [tK_tSA]; exact hk)))) f726]
        refine tw_aload rfl rfl ?_
        refine tw_dup rfl ?_
        refine tw_getS rfl (tF_a (tF_same f724)) ?_
        refine tw_push rfl ?_
        refine tw_iadd rfl ?_
        refine tw_put rfl (fun f727 => ?_)
        refine tw_iinc rfl rfl ?_
        refine tw_goto rfl ?_
        refine tw_iload rfl rfl ?_
        refine tw_if_lt rfl (fun z => absurd z (by decide)) (fun _ => ?_)
        refine tw_aload rfl rfl ?_
        refine tw_getS rfl (tF_same f727) ?_
        refine tw_push rfl ?_
        refine tw_ic_ge rfl (fun q728 => ?_) (fun q728 => ?_)
        · try dsimp only [tvI_i, tvJ_j, tvR_r] at q728
          exact absurd q728 (by omega)
        · try dsimp only [tvI_i, tvJ_j, tvR_r] at q728
          refine tw_aload rfl rfl ?_
          refine tw_getS rfl (hs_44_0 (hw_44_1 f727 (tSh_SA (hw_44_1 f724 (tSh_SA (hw_44_1 f721 (tSh_SA hs))))))) ?_
          refine tw_aload rfl rfl ?_
          refine tw_getS rfl (tF_same f727) ?_
          refine tw_iload rfl rfl ?_
          refine tw_iload rfl rfl ?_
          refine tw_ishr rfl ?_
          refine tw_i2b rfl ?_
          refine tw_bast rfl (fun kf729 zf729 f729 => ?_)
          rw [bst_k (by rw [tK_tSF]; exact (by rw [tK_tSA]; exact (by rw [tK_tSF]; exact (by rw [tK_tSA]; exact (by rw [tK_tSF]; exact (by rw [tK_tSA]; exact hk)))))) f729]
          refine tw_aload rfl rfl ?_
          refine tw_dup rfl ?_
          refine tw_getS rfl (tF_a (tF_same f727)) ?_
          refine tw_push rfl ?_
          refine tw_iadd rfl ?_
          refine tw_put rfl (fun f730 => ?_)
          refine tw_iinc rfl rfl ?_
          refine tw_goto rfl ?_
          refine tw_iload rfl rfl ?_
          refine tw_if_lt rfl (fun _ => ?_) (fun z => absurd z (by decide))
          exact tw_vret rfl ⟨rfl, (hw_44_1 f730 (tSh_SA (hw_44_1 f727 (tSh_SA (hw_44_1 f724 (tSh_SA (hw_44_1 f721 (tSh_SA hs)))))))), (tF_same f730), (tA_ff (tA_st f729 (tA_ff (tA_st f726 (tA_ff (tA_st f723 (tA_ff (tA_st f720 rfl)))))))), (by rw [tK_tSF]; exact (by rw [tK_tSA]; exact (by rw [tK_tSF]; exact (by rw [tK_tSA]; exact (by rw [tK_tSF]; exact (by rw [tK_tSA]; exact (by rw [tK_tSF]; exact (by rw [tK_tSA]; exact hk))))))))⟩
theorem g_put {G : zG} (hG : G.1 = zProg) {h : zH} {x : Int32} (hs : tSh h) (hk : tK h 132 = 2) (hl : 0 ≤ (tvI (tF h 111 27)).toInt ∧ (tvI (tF h 111 27)).toInt ≤ 396) : tC zTt G 197 [.ref 111, .int x] h (fun w h2 => w = none ∧ tSh h2 ∧ tF h2 111 27 = .int (z4 (tvI (tF h 111 27))) ∧ tA h2 132 = f4 (tA h 132) (tvI (tF h 111 27)) x ∧ tK h2 132 = 2) := by
  refine tC_in (by rw [hG]; rfl) (fun dp => ?_)
  have e0 : (tvI (tF h 111 27)).toInt = (tvI (tF h 111 27)).toInt := rfl
  have e1 := zi1n e0 (by omega)
  have e2 := zi1n e1 (by omega)
  have e3 := zi1n e2 (by omega)
  have h4 : (400 : Int32).toInt = 400 := rfl
  refine tw_push rfl ?_
  refine tw_istore rfl ?_
  refine tw_iload rfl rfl ?_
  refine tw_if_lt rfl (fun z => absurd z (by decide)) (fun _ => ?_)
  refine tw_aload rfl rfl ?_
  refine tw_getS rfl (hs_111_35 hs) ?_
  refine tw_aload rfl rfl ?_
  refine tw_getS rfl (hi_111_27 hs) ?_
  refine tw_iload rfl rfl ?_
  refine tw_iload rfl rfl ?_
  refine tw_ishr rfl ?_
  refine tw_i2b rfl ?_
  refine tw_bast rfl (fun kf731 zf731 f731 => ?_)
  rw [bst_k hk f731]
  refine tw_aload rfl rfl ?_
  refine tw_dup rfl ?_
  refine tw_getS rfl (tF_a (hi_111_27 hs)) ?_
  refine tw_push rfl ?_
  refine tw_iadd rfl ?_
  refine tw_put rfl (fun f732 => ?_)
  refine tw_iinc rfl rfl ?_
  refine tw_goto rfl ?_
  refine tw_iload rfl rfl ?_
  refine tw_if_lt rfl (fun z => absurd z (by decide)) (fun _ => ?_)
  refine tw_aload rfl rfl ?_
  refine tw_getS rfl (hs_111_35 (hw_111_27 f732 (tSh_SA hs))) ?_
  refine tw_aload rfl rfl ?_
  refine tw_getS rfl (tF_same f732) ?_
  refine tw_iload rfl rfl ?_
  refine tw_iload rfl rfl ?_
  refine tw_ishr rfl ?_
  refine tw_i2b rfl ?_
  refine tw_bast rfl (fun kf733 zf733 f733 => ?_)
  rw [bst_k (by rw [tK_tSF]; exact (by rw [tK_tSA]; exact hk)) f733]
  refine tw_aload rfl rfl ?_
  refine tw_dup rfl ?_
  refine tw_getS rfl (tF_a (tF_same f732)) ?_
  refine tw_push rfl ?_
  refine tw_iadd rfl ?_
  refine tw_put rfl (fun f734 => ?_)
  refine tw_iinc rfl rfl ?_
  refine tw_goto rfl ?_
  refine tw_iload rfl rfl ?_
  refine tw_if_lt rfl (fun z => absurd z (by decide)) (fun _ => ?_)
  refine tw_aload rfl rfl ?_
  refine tw_getS rfl (hs_111_35 (hw_111_27 f734 (tSh_SA (hw_111_27 f732 (tSh_SA hs))))) ?_
  refine tw_aload rfl rfl ?_
  refine tw_getS rfl (tF_same f734) ?_
  refine tw_iload rfl rfl ?_
  refine tw_iload rfl rfl ?_
  refine tw_ishr rfl ?_
  refine tw_i2b rfl ?_
  refine tw_bast rfl (fun kf735 zf735 f735 => ?_)
  rw [bst_k (by rw [tK_tSF]; exact (by rw [tK_tSA]; exact (by rw [tK_tSF]; exact (by rw [tK_tSA]; exact hk)))) f735]
  refine tw_aload rfl rfl ?_
  refine tw_dup rfl ?_
  refine tw_getS rfl (tF_a (tF_same f734)) ?_
  refine tw_push rfl ?_
  refine tw_iadd rfl ?_
  refine tw_put rfl (fun f736 => ?_)
  refine tw_iinc rfl rfl ?_
  refine tw_goto rfl ?_
  refine tw_iload rfl rfl ?_
  refine tw_if_lt rfl (fun z => absurd z (by decide)) (fun _ => ?_)
  refine tw_aload rfl rfl ?_
  refine tw_getS rfl (hs_111_35 (hw_111_27 f736 (tSh_SA (hw_111_27 f734 (tSh_SA (hw_111_27 f732 (tSh_SA hs))))))) ?_
  refine tw_aload rfl rfl ?_
  refine tw_getS rfl (tF_same f736) ?_
  refine tw_iload rfl rfl ?_
  refine tw_iload rfl rfl ?_
  refine tw_ishr rfl ?_
  refine tw_i2b rfl ?_
  refine tw_bast rfl (fun kf737 zf737 f737 => ?_)
  rw [bst_k (by rw [tK_tSF]; exact (by rw [tK_tSA]; exact (by rw [tK_tSF]; exact (by rw [tK_tSA]; exact (by rw [tK_tSF]; exact (by rw [tK_tSA]; exact hk)))))) f737]
  refine tw_aload rfl rfl ?_
  refine tw_dup rfl ?_
  refine tw_getS rfl (tF_a (tF_same f736)) ?_
  refine tw_push rfl ?_
  refine tw_iadd rfl ?_
  refine tw_put rfl (fun f738 => ?_)
  refine tw_iinc rfl rfl ?_
  refine tw_goto rfl ?_
  refine tw_iload rfl rfl ?_
  refine tw_if_lt rfl (fun _ => ?_) (fun z => absurd z (by decide))
  exact tw_vret rfl ⟨rfl, (hw_111_27 f738 (tSh_SA (hw_111_27 f736 (tSh_SA (hw_111_27 f734 (tSh_SA (hw_111_27 f732 (tSh_SA hs)))))))), (tF_same f738), (tA_ff (tA_st f737 (tA_ff (tA_st f735 (tA_ff (tA_st f733 (tA_ff (tA_st f731 rfl)))))))), (by rw [tK_tSF]; exact (by rw [tK_tSA]; exact (by rw [tK_tSF]; exact (by rw [tK_tSA]; exact (by rw [tK_tSF]; exact (by rw [tK_tSA]; exact (by rw [tK_tSF]; exact (by rw [tK_tSA]; exact hk))))))))⟩
theorem f_hasRoom {G : zG} (hG : G.1 = zProg) {h : zH} {n : Int32} (hs : tSh h) : tC zTt G 72 [.ref 44, .int n] h (fun w h2 => tBo ((tvI (tF h 44 1) + n).toInt ≤ 400) w ∧ h2 = h) := by
  refine tC_in (by rw [hG]; rfl) (fun dp => ?_)
  have h4 : (400 : Int32).toInt = 400 := rfl
  refine tw_aload rfl rfl ?_
  refine tw_getS rfl (hi_44_1 hs) ?_
  refine tw_iload rfl rfl ?_
  refine tw_iadd rfl ?_
  refine tw_push rfl ?_
  refine tw_ic_gt rfl (fun q739 => ?_) (fun q739 => ?_)
  · try dsimp only [tvI_i, tvJ_j, tvR_r] at q739
    refine tw_push rfl ?_
    exact tw_iret rfl ⟨Or.inr ⟨by omega, rfl⟩, rfl⟩
  · try dsimp only [tvI_i, tvJ_j, tvR_r] at q739
    refine tw_push rfl ?_
    refine tw_goto rfl ?_
    exact tw_iret rfl ⟨Or.inl ⟨by omega, rfl⟩, rfl⟩
theorem f_feed {G : zG} (hG : G.1 = zProg) {h : zH} {a b c d e : Int32} (hs : tSh h) (hk : tK h 45 = 2) (hl : 0 ≤ (tvI (tF h 44 1)).toInt ∧ (tvI (tF h 44 1)).toInt ≤ 400) : tC zTt G 122 [.ref 0, .int a, .int b, .int c, .int d, .int e] h (fun w h2 => ((tvI (tF h 44 1)).toInt ≤ 380 ∧ w = some (.int (z20 (tvI (tF h 44 1)))) ∧ tF h2 44 1 = .int (z20 (tvI (tF h 44 1))) ∧ tA h2 45 = f20 (tA h 45) (tvI (tF h 44 1)) a b c d e) ∨ (¬ (tvI (tF h 44 1)).toInt ≤ 380 ∧ w = some (.int (-1)) ∧ h2 = h)) := by
  refine tC_in (by rw [hG]; rfl) (fun dp => ?_)
  have n0 : (tvI (tF h 44 1)).toInt = (tvI (tF h 44 1)).toInt := rfl
  have n20 := z20n (x := tvI (tF h 44 1)) (by omega)
  have h4 : (400 : Int32).toInt = 400 := rfl
  have n1 : (tvI (tF h 44 1)).toInt ≤ 380 → (z4 (tvI (tF h 44 1))).toInt = (tvI (tF h 44 1)).toInt + 4 := fun z => z4n n0 (by omega)
  have n2 : (tvI (tF h 44 1)).toInt ≤ 380 → (z4 (z4 (tvI (tF h 44 1)))).toInt = (tvI (tF h 44 1)).toInt + 8 := fun z => (z4n (n1 z) (by omega)).trans (by omega)
  have n3 : (tvI (tF h 44 1)).toInt ≤ 380 → (z4 (z4 (z4 (tvI (tF h 44 1))))).toInt = (tvI (tF h 44 1)).toInt + 12 := fun z => (z4n (n2 z) (by omega)).trans (by omega)
  have n4 : (tvI (tF h 44 1)).toInt ≤ 380 → (z4 (z4 (z4 (z4 (tvI (tF h 44 1)))))).toInt = (tvI (tF h 44 1)).toInt + 16 := fun z => (z4n (n3 z) (by omega)).trans (by omega)
  have n5 : (tvI (tF h 44 1)).toInt ≤ 380 → (z4 (z4 (z4 (z4 (z4 (tvI (tF h 44 1))))))).toInt = (tvI (tF h 44 1)).toInt + 20 := fun z => (z4n (n4 z) (by omega)).trans (by omega)
  refine tw_aload rfl rfl ?_
  refine tw_getS rfl (hs_0_2 hs) ?_
  refine tw_push rfl ?_
  refine tw_virt1 rfl (f_hasRoom hG hs) (fun w9 h9 p740 => ?_)
  obtain ⟨⟨p740, rfl⟩ | ⟨p740, rfl⟩, rfl⟩ := p740
  · try dsimp only [tvI_i, tvJ_j, tvR_r] at p740
    refine tw_if_ne rfl (fun _ => ?_) (fun z => absurd z (by decide))
    refine tw_aload rfl rfl ?_
    refine tw_getS rfl (hs_0_2 hs) ?_
    refine tw_iload rfl rfl ?_
    refine tw_virt1 rfl (f_put hG hs hk (by omega)) (fun wp741 hp741 p741 => ?_)
    obtain ⟨rfl, sp741, lp741, tp741, kp741⟩ := p741
    refine tw_aload rfl rfl ?_
    refine tw_getS rfl (hs_0_2 sp741) ?_
    refine tw_iload rfl rfl ?_
    refine tw_virt1 rfl (f_put hG sp741 kp741 (by rw [lp741, tvI_i, n1 (by omega)]; omega)) (fun wp742 hp742 p742 => ?_)
    obtain ⟨rfl, sp742, lp742, tp742, kp742⟩ := p742
    rw [lp741, tp741] at tp742
    rw [lp741] at lp742
    rw [tvI_i] at lp742 tp742
    refine tw_aload rfl rfl ?_
    refine tw_getS rfl (hs_0_2 sp742) ?_
    refine tw_iload rfl rfl ?_
    refine tw_virt1 rfl (f_put hG sp742 kp742 (by rw [lp742, tvI_i, n2 (by omega)]; omega)) (fun wp743 hp743 p743 => ?_)
    obtain ⟨rfl, sp743, lp743, tp743, kp743⟩ := p743
    rw [lp742, tp742] at tp743
    rw [lp742] at lp743
    rw [tvI_i] at lp743 tp743
    refine tw_aload rfl rfl ?_
    refine tw_getS rfl (hs_0_2 sp743) ?_
    refine tw_iload rfl rfl ?_
    refine tw_virt1 rfl (f_put hG sp743 kp743 (by rw [lp743, tvI_i, n3 (by omega)]; omega)) (fun wp744 hp744 p744 => ?_)
    obtain ⟨rfl, sp744, lp744, tp744, kp744⟩ := p744
    rw [lp743, tp743] at tp744
    rw [lp743] at lp744
    rw [tvI_i] at lp744 tp744
    refine tw_aload rfl rfl ?_
    refine tw_getS rfl (hs_0_2 sp744) ?_
    refine tw_iload rfl rfl ?_
    refine tw_virt1 rfl (f_put hG sp744 kp744 (by rw [lp744, tvI_i, n4 (by omega)]; omega)) (fun wp745 hp745 p745 => ?_)
    obtain ⟨rfl, sp745, lp745, tp745, kp745⟩ := p745
    rw [lp744, tp744] at tp745
    rw [lp744] at lp745
    rw [tvI_i] at lp745 tp745
    refine tw_aload rfl rfl ?_
    refine tw_getS rfl (hs_0_2 sp745) ?_
    refine tw_getS rfl (hi_44_1 sp745) ?_
    exact tw_iret rfl (Or.inl ⟨by omega, by rw [lp745]; rfl, lp745, tp745⟩)
  · try dsimp only [tvI_i, tvJ_j, tvR_r] at p740
    refine tw_if_ne rfl (fun z => absurd z (by decide)) (fun _ => ?_)
    refine tw_push rfl ?_
    exact tw_iret rfl (Or.inr ⟨by omega, rfl, rfl⟩)
theorem g_feed {G : zG} (hG : G.1 = zProg) {h : zH} {a b c d e : Int32} (hs : tSh h) (hk : tK h 132 = 2) (hl : 0 ≤ (tvI (tF h 111 27)).toInt ∧ (tvI (tF h 111 27)).toInt ≤ 400) : tC zTt G 196 [.ref 111, .int a, .int b, .int c, .int d, .int e] h (fun w h2 => ((tvI (tF h 111 27)).toInt ≤ 380 ∧ w = some (.int (z20 (tvI (tF h 111 27)))) ∧ tF h2 111 27 = .int (z20 (tvI (tF h 111 27))) ∧ tA h2 132 = f20 (tA h 132) (tvI (tF h 111 27)) a b c d e) ∨ (¬ (tvI (tF h 111 27)).toInt ≤ 380 ∧ w = some (.int (-1)) ∧ h2 = h)) := by
  refine tC_in (by rw [hG]; rfl) (fun dp => ?_)
  have n0 : (tvI (tF h 111 27)).toInt = (tvI (tF h 111 27)).toInt := rfl
  have n20 := z20n (x := tvI (tF h 111 27)) (by omega)
  have h4 : (400 : Int32).toInt = 400 := rfl
  have n1 : (tvI (tF h 111 27)).toInt ≤ 380 → (z4 (tvI (tF h 111 27))).toInt = (tvI (tF h 111 27)).toInt + 4 := fun z => z4n n0 (by omega)
  have n2 : (tvI (tF h 111 27)).toInt ≤ 380 → (z4 (z4 (tvI (tF h 111 27)))).toInt = (tvI (tF h 111 27)).toInt + 8 := fun z => (z4n (n1 z) (by omega)).trans (by omega)
  have n3 : (tvI (tF h 111 27)).toInt ≤ 380 → (z4 (z4 (z4 (tvI (tF h 111 27))))).toInt = (tvI (tF h 111 27)).toInt + 12 := fun z => (z4n (n2 z) (by omega)).trans (by omega)
  have n4 : (tvI (tF h 111 27)).toInt ≤ 380 → (z4 (z4 (z4 (z4 (tvI (tF h 111 27)))))).toInt = (tvI (tF h 111 27)).toInt + 16 := fun z => (z4n (n3 z) (by omega)).trans (by omega)
  have n5 : (tvI (tF h 111 27)).toInt ≤ 380 → (z4 (z4 (z4 (z4 (z4 (tvI (tF h 111 27))))))).toInt = (tvI (tF h 111 27)).toInt + 20 := fun z => (z4n (n4 z) (by omega)).trans (by omega)
  refine tw_aload rfl rfl ?_
  refine tw_getS rfl (hi_111_27 hs) ?_
  refine tw_push rfl ?_
  refine tw_iadd rfl ?_
  refine tw_push rfl ?_
  refine tw_ic_le rfl (fun q746 => ?_) (fun q746 => ?_)
  · try dsimp only [tvI_i, tvJ_j, tvR_r] at q746
    refine tw_aload rfl rfl ?_
    refine tw_iload rfl rfl ?_
    refine tw_virt1 rfl (g_put hG hs hk (by omega)) (fun wp747 hp747 p747 => ?_)
    obtain ⟨rfl, sp747, lp747, tp747, kp747⟩ := p747
    refine tw_aload rfl rfl ?_
    refine tw_iload rfl rfl ?_
    refine tw_virt1 rfl (g_put hG sp747 kp747 (by rw [lp747, tvI_i, n1 (by omega)]; omega)) (fun wp748 hp748 p748 => ?_)
    obtain ⟨rfl, sp748, lp748, tp748, kp748⟩ := p748
    rw [lp747, tp747] at tp748
    rw [lp747] at lp748
    rw [tvI_i] at lp748 tp748
    refine tw_aload rfl rfl ?_
    refine tw_iload rfl rfl ?_
    refine tw_virt1 rfl (g_put hG sp748 kp748 (by rw [lp748, tvI_i, n2 (by omega)]; omega)) (fun wp749 hp749 p749 => ?_)
    obtain ⟨rfl, sp749, lp749, tp749, kp749⟩ := p749
    rw [lp748, tp748] at tp749
    rw [lp748] at lp749
    rw [tvI_i] at lp749 tp749
    refine tw_aload rfl rfl ?_
    refine tw_iload rfl rfl ?_
    refine tw_virt1 rfl (g_put hG sp749 kp749 (by rw [lp749, tvI_i, n3 (by omega)]; omega)) (fun wp750 hp750 p750 => ?_)
    obtain ⟨rfl, sp750, lp750, tp750, kp750⟩ := p750
    rw [lp749, tp749] at tp750
    rw [lp749] at lp750
    rw [tvI_i] at lp750 tp750
    refine tw_aload rfl rfl ?_
    refine tw_iload rfl rfl ?_
    refine tw_virt1 rfl (g_put hG sp750 kp750 (by rw [lp750, tvI_i, n4 (by omega)]; omega)) (fun wp751 hp751 p751 => ?_)
    obtain ⟨rfl, sp751, lp751, tp751, kp751⟩ := p751
    rw [lp750, tp750] at tp751
    rw [lp750] at lp751
    rw [tvI_i] at lp751 tp751
    refine tw_aload rfl rfl ?_
    refine tw_getS rfl (hi_111_27 sp751) ?_
    exact tw_iret rfl (Or.inl ⟨by omega, by rw [lp751]; rfl, lp751, tp751⟩)
  · try dsimp only [tvI_i, tvJ_j, tvR_r] at q746
    refine tw_push rfl ?_
    exact tw_iret rfl (Or.inr ⟨by omega, rfl, rfl⟩)
theorem a_feed {a b c d e : Int32} {h h2 h3 : zH} {w w2 : Option Value} (hL : R_tlen h) (hT : R_tape h) (e1 : tF h2 111 27 = tF h 111 27) (o1 : tA h2 132 = tA h 132) (e2 : tF h3 44 1 = tF h2 44 1) (t1 : tA h3 45 = tA h2 45) (k1 : (fun a b c d e h w h2 => ((tvI (tF h 44 1)).toInt ≤ 380 ∧ w = some (.int (z20 (tvI (tF h 44 1)))) ∧ tF h2 44 1 = .int (z20 (tvI (tF h 44 1))) ∧ tA h2 45 = f20 (tA h 45) (tvI (tF h 44 1)) a b c d e) ∨ (¬ (tvI (tF h 44 1)).toInt ≤ 380 ∧ w = some (.int (-1)) ∧ h2 = h)) a b c d e h w h2) (k2 : (fun a b c d e h w h2 => ((tvI (tF h 111 27)).toInt ≤ 380 ∧ w = some (.int (z20 (tvI (tF h 111 27)))) ∧ tF h2 111 27 = .int (z20 (tvI (tF h 111 27))) ∧ tA h2 132 = f20 (tA h 132) (tvI (tF h 111 27)) a b c d e) ∨ (¬ (tvI (tF h 111 27)).toInt ≤ 380 ∧ w = some (.int (-1)) ∧ h2 = h)) a b c d e h2 w2 h3) : w2 = w ∧ R_tlen h3 ∧ R_tape h3 := by
  try dsimp only at k1 k2
  unfold R_tlen R_tape at *
  rw [e1, o1, ← hL, ← hT] at k2
  rcases k1 with ⟨c1, rfl, f1, g1⟩ | ⟨c1, rfl, rfl⟩ <;> rcases k2 with ⟨c2, rfl, f2, g2⟩ | ⟨c2, rfl, rfl⟩
  · exact ⟨rfl, by rw [e2, f1, f2], by rw [t1, g1, g2]⟩
  · exact absurd c1 c2
  · exact absurd c2 c1
  · exact ⟨rfl, hL, hT⟩
theorem f_cutTo {G : zG} (hG : G.1 = zProg) {h : zH} {n : Int32} (hs : tSh h) : tC zTt G 74 [.ref 44, .int n] h (fun w h2 => w = some (.int n) ∧ tF h2 44 1 = .int n) := by
  refine tC_in (by rw [hG]; rfl) (fun dp => ?_)
  refine tw_aload rfl rfl ?_
  refine tw_iload rfl rfl ?_
  refine tw_put rfl (fun f752 => ?_)
  refine tw_iload rfl rfl ?_
  exact tw_iret rfl ⟨rfl, (tF_same f752)⟩
theorem f_end {G : zG} (hG : G.1 = zProg) {h : zH} {n : Int32} (hs : tSh h) : tC zTt G 123 [.ref 0, .int n] h (fun w h2 => (fun n h w h2 => ((0 ≤ n.toInt ∧ n.toInt ≤ (tvI (tF h 44 1)).toInt) ∧ w = some (.int n) ∧ tF h2 44 1 = .int n) ∨ (¬ (0 ≤ n.toInt ∧ n.toInt ≤ (tvI (tF h 44 1)).toInt) ∧ w = some (.int (-1)) ∧ h2 = h)) n h w h2) := by
  refine tC_in (by rw [hG]; rfl) (fun dp => ?_)
  refine tw_iload rfl rfl ?_
  refine tw_push rfl ?_
  refine tw_aload rfl rfl ?_
  refine tw_getS rfl (hs_0_2 hs) ?_
  refine tw_getS rfl (hi_44_1 hs) ?_
  refine tw_stat3 rfl (f_isWithin hG (LO := 0)  (by decide) rfl) (fun w9 h9 p753 => ?_)
  obtain ⟨⟨p753, rfl⟩ | ⟨p753, rfl⟩, rfl⟩ := p753
  · try dsimp only [tvI_i, tvJ_j, tvR_r] at p753
    refine tw_if_eq rfl (fun z => absurd z (by decide)) (fun _ => ?_)
    refine tw_aload rfl rfl ?_
    refine tw_getS rfl (hs_0_2 hs) ?_
    refine tw_iload rfl rfl ?_
    refine tw_virt1 rfl (f_cutTo hG hs) (fun wp754 hp754 p754 => ?_)
    obtain ⟨rfl, lp754⟩ := p754
    refine tw_goto rfl ?_
    exact tw_iret rfl (Or.inl ⟨by omega, rfl, lp754⟩)
  · try dsimp only [tvI_i, tvJ_j, tvR_r] at p753
    refine tw_if_eq rfl (fun _ => ?_) (fun z => absurd z (by decide))
    refine tw_push rfl ?_
    exact tw_iret rfl (Or.inr ⟨by omega, rfl, rfl⟩)
theorem g_end {G : zG} (hG : G.1 = zProg) {h : zH} {n : Int32} (hs : tSh h) : tC zTt G 198 [.ref 111, .int n] h (fun w h2 => (fun n h w h2 => ((0 ≤ n.toInt ∧ n.toInt ≤ (tvI (tF h 111 27)).toInt) ∧ w = some (.int n) ∧ tF h2 111 27 = .int n) ∨ (¬ (0 ≤ n.toInt ∧ n.toInt ≤ (tvI (tF h 111 27)).toInt) ∧ w = some (.int (-1)) ∧ h2 = h)) n h w h2) := by
  refine tC_in (by rw [hG]; rfl) (fun dp => ?_)
  refine tw_iload rfl rfl ?_
  refine tw_if_lt rfl (fun q755 => ?_) (fun q755 => ?_)
  · try dsimp only [tvI_i, tvJ_j, tvR_r] at q755
    refine tw_push rfl ?_
    exact tw_iret rfl (Or.inr ⟨by omega, rfl, rfl⟩)
  · try dsimp only [tvI_i, tvJ_j, tvR_r] at q755
    refine tw_iload rfl rfl ?_
    refine tw_aload rfl rfl ?_
    refine tw_getS rfl (hi_111_27 hs) ?_
    refine tw_ic_le rfl (fun q756 => ?_) (fun q756 => ?_)
    · try dsimp only [tvI_i, tvJ_j, tvR_r] at q756
      refine tw_aload rfl rfl ?_
      refine tw_iload rfl rfl ?_
      refine tw_put rfl (fun f757 => ?_)
      refine tw_iload rfl rfl ?_
      exact tw_iret rfl (Or.inl ⟨by omega, rfl, (tF_same f757)⟩)
    · try dsimp only [tvI_i, tvJ_j, tvR_r] at q756
      refine tw_push rfl ?_
      exact tw_iret rfl (Or.inr ⟨by omega, rfl, rfl⟩)
theorem a_end {n : Int32} {h h2 h3 : zH} {w w2 : Option Value} (hL : R_tlen h) (e1 : tF h2 111 27 = tF h 111 27) (e2 : tF h3 44 1 = tF h2 44 1) (k1 : (fun n h w h2 => ((0 ≤ n.toInt ∧ n.toInt ≤ (tvI (tF h 44 1)).toInt) ∧ w = some (.int n) ∧ tF h2 44 1 = .int n) ∨ (¬ (0 ≤ n.toInt ∧ n.toInt ≤ (tvI (tF h 44 1)).toInt) ∧ w = some (.int (-1)) ∧ h2 = h)) n h w h2) (k2 : (fun n h w h2 => ((0 ≤ n.toInt ∧ n.toInt ≤ (tvI (tF h 111 27)).toInt) ∧ w = some (.int n) ∧ tF h2 111 27 = .int n) ∨ (¬ (0 ≤ n.toInt ∧ n.toInt ≤ (tvI (tF h 111 27)).toInt) ∧ w = some (.int (-1)) ∧ h2 = h)) n h2 w2 h3) : w2 = w ∧ R_tlen h3 := by
  try dsimp only at k1 k2
  unfold R_tlen at *
  rw [e1, ← hL] at k2
  rcases k1 with ⟨c1, rfl, f1⟩ | ⟨c1, rfl, rfl⟩ <;> rcases k2 with ⟨c2, rfl, f2⟩ | ⟨c2, rfl, rfl⟩
  · exact ⟨rfl, by rw [e2, f1, f2]⟩
  · exact absurd c1 c2
  · exact absurd c2 c1
  · exact ⟨rfl, hL⟩
