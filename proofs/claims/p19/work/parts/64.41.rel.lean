theorem rM_a {T : Nat → Int32} {n p b M : Nat} (hb : rB T n p = b) (hd : rD T n b = b) : rM T n M p = .inl (1 + 8 * b + 0) := by
  unfold rM
  rw [hb, if_pos hd]
theorem rM_b {T : Nat → Int32} {n p b k M : Nat} (hb : rB T n p = b) (hd : rD T n b = b + k) (h0 : k ≠ 0) (h : 5 < k ∨ M < rV T b k) : rM T n M p = .inl (1 + 8 * b + 1) := by
  have e : b + k - b = k := by omega
  unfold rM
  rw [hb, hd, if_neg (by omega), e, if_pos h]
theorem rM_c {T : Nat → Int32} {n p b k M : Nat} (hb : rB T n p = b) (hd : rD T n b = b + k) (h0 : k ≠ 0) (h : ¬ (5 < k ∨ M < rV T b k)) : rM T n M p = .inr (b + k, rV T b k) := by
  have e : b + k - b = k := by omega
  unfold rM
  rw [hb, hd, if_neg (by omega), e, if_neg h]
theorem cNum {y t : Int32} {V : Nat} (hy : y.toInt = ((min V 100000 : Nat) : Int)) (ht : 48 ≤ t.toInt ∧ t.toInt ≤ 57) : (if (100000 : Int32) < y * 10 + (t - 48) then (100000 : Int32) else y * 10 + (t - 48)).toInt = ((min (10 * V + (t.toInt - 48).toNat) 100000 : Nat) : Int) := by
  have h1 : (y * 10).toInt = y.toInt * 10 := by
    rw [Int32.toInt_mul, show (10 : Int32).toInt = 10 from rfl]
    exact Int.bmod_eq_of_le (by show (-2147483648 : Int) ≤ y.toInt * 10; omega) (by show y.toInt * 10 < (2147483648 : Int); omega)
  have h2 : (t - 48).toInt = t.toInt - 48 := by
    rw [Int32.toInt_sub, show (48 : Int32).toInt = 48 from rfl]
    exact Int.bmod_eq_of_le (by show (-2147483648 : Int) ≤ t.toInt - 48; omega) (by show t.toInt - 48 < (2147483648 : Int); omega)
  have h3 : (y * 10 + (t - 48)).toInt = y.toInt * 10 + (t.toInt - 48) := by
    rw [Int32.toInt_add, h1, h2]
    exact Int.bmod_eq_of_le (by show (-2147483648 : Int) ≤ y.toInt * 10 + (t.toInt - 48); omega) (by show y.toInt * 10 + (t.toInt - 48) < (2147483648 : Int); omega)
  have h4 : (100000 : Int32).toInt = 100000 := rfl
  by_cases c : (100000 : Int32) < y * 10 + (t - 48)
  · rw [if_pos c]
    rw [Int32.lt_iff_toInt_lt, h3, h4] at c
    rw [h4]
    omega
  · rw [if_neg c]
    rw [Int32.lt_iff_toInt_lt, h3, h4] at c
    rw [h3]
    omega
theorem zsb {x y : Int32} {a b : Nat} (hx : x.toInt = a) (hy : y.toInt = b) (ha : a ≤ 100000) (hb : b ≤ 100000) : (x - y).toInt = (a : Int) - b := by
  rw [Int32.toInt_sub, hx, hy]
  exact Int.bmod_eq_of_le (by show (-2147483648 : Int) ≤ (a : Int) - b; omega) (by show (a : Int) - b < (2147483648 : Int); omega)
theorem cTo {h h3 : zH} {n v : Nat} {X : Int32} (p : cP h) (hn : cn h = n) (e : cSet 2 X h h3) (hx : X.toInt = v) (h1 : (cs h).1 ≤ v) (h2 : v ≤ n) : cP h3 ∧ cs h3 = rA v (cs h) := by
  have e1 := cPl p
  have e2 := cNl p hn
  refine ⟨cP_2 p e (by omega) (by omega), ?_⟩
  rw [cs_2 e, zof_cl hx]
theorem rC_y {p : Nat} {s s2 : rS} (h : rC p s = some (.inr s2)) : s.2.1 ≠ 80 ∧ s2 = (s.1, s.2.1 + 1, s.2.2) := by
  unfold rC at h
  by_cases c : s.2.1 = 80
  · rw [if_pos c] at h; cases h
  · rw [if_neg c] at h; cases h; exact ⟨c, rfl⟩
theorem rC_n {p e : Nat} {s : rS} (h : rC p s = some (.inl e)) : s.2.1 = 80 ∧ e = 1 + 8 * p + 3 := by
  unfold rC at h
  by_cases c : s.2.1 = 80
  · rw [if_pos c] at h; cases h; exact ⟨c, rfl⟩
  · rw [if_neg c] at h; cases h
section CC
variable {T : Nat → Int32} {n b : Nat}
theorem cm61 (h : b < n ∧ T b = 61) : rCm T n b = some (100105, b + 1) := if_pos h
theorem cm60 (h : b < n ∧ T b = 60) : rCm T n b = (if b + 1 < n ∧ T (b + 1) = 61 then some (100104, b + 2) else some (100103, b + 1)) := (if_neg (fun z => absurd (z.2.symm.trans h.2) (by decide))).trans (if_pos h)
theorem cm62 (h : b < n ∧ T b = 62) : rCm T n b = (if b + 1 < n ∧ T (b + 1) = 61 then some (100106, b + 2) else some (100107, b + 1)) := (if_neg (fun z => absurd (z.2.symm.trans h.2) (by decide))).trans ((if_neg (fun z => absurd (z.2.symm.trans h.2) (by decide))).trans (if_pos h))
theorem cm_n (h1 : ¬ (b < n ∧ T b = 61)) (h2 : ¬ (b < n ∧ T b = 60)) (h3 : ¬ (b < n ∧ T b = 62)) : rCm T n b = none := (if_neg h1).trans ((if_neg h2).trans (if_neg h3))
theorem cm_s (h : (b < n ∧ T b = 61) ∨ (b < n ∧ T b = 60) ∨ (b < n ∧ T b = 62)) : ∃ q, rCm T n b = some q := by
  rcases h with h | h | h
  · exact ⟨_, cm61 h⟩
  · rw [cm60 h]; split <;> exact ⟨_, rfl⟩
  · rw [cm62 h]; split <;> exact ⟨_, rfl⟩
end CC
theorem f_numberHere {G : zG} (hG : G.1 = zProg) (hX : G.2.1 = ztx) {h : zH} {T : Nat → Int32} {n : Nat} (hs : tSh h) (hp : cP h) (hT : tA h 45 = T) (hN : cn h = n) {m : Int32} {M : Nat} (hm : m.toInt = M) (hM : M ≤ 99999) : tC zTt G 89 [.ref 44, .int m] h (fun w h2 => cFr h h2 ∧ ((∃ q, rM T n M (cs h).1 = .inr q ∧ w = some (.int (Int32.ofNat q.2)) ∧ cs h2 = rA q.1 (cs h) ∧ cP h2) ∨ (∃ e, rM T n M (cs h).1 = .inl e ∧ w = some (.int (-1)) ∧ cFt h2 e))) := by
  refine tC_in (by rw [hG]; rfl) (fun dp => ?_)
  have g0 := cFr_r hs
  have hpn : (cs h).1 ≤ n := by rw [← hN]; exact cP_le hp
  have c489 : (48 : Int32).toInt = 48 := rfl
  have c579 : (57 : Int32).toInt = 57 := rfl
  have c59 : (5 : Int32).toInt = 5 := rfl
  refine tw_aload rfl rfl ?_
  refine tw_virt0 rfl (f_signHere hG hX (g0).1 hp ((cFr_T g0).trans hT) ((cFr_n g0).trans hN)) (fun wp270 hp270 p270 => ?_)
  obtain ⟨gp270, ppp270, ssp270, t3p270, cp270, rfl, kp270⟩ := p270
  have ggp270 := cFr_t g0 gp270
  refine tw_istore rfl ?_
  refine tw_aload rfl rfl ?_
  refine tw_getS rfl (hi_44_2 ggp270.1) ?_
  refine tw_istore rfl ?_
  refine tw_push rfl ?_
  refine tw_istore rfl ?_
  refine tG_loop (zW_mono zTt G dp) (zW_conj zTt G dp) (V := fun pc L st h9 _ _ => pc = 13 ∧ st = [] ∧ hp270 = h9 ∧ ∃ (k : Nat) (x y : Int32) (v2 : Option Value), x.toInt = (((cs hp270).1 + k : Nat) : Int) ∧ (cs hp270).1 + k ≤ n ∧ rD T n ((cs hp270).1 + k) = rD T n (cs hp270).1 ∧ y.toInt = ((min (rV T (cs hp270).1 k) 100000 : Nat) : Int) ∧ L = [some (.ref 44), some (.int m), v2, some (.int x), some (.int y)]) ?_ (⟨rfl, rfl, rfl, 0, _, _, _, cPl ppp270, (by have := cP_le ppp270; rw [((cFr_n ggp270).trans hN)] at this; exact this), rfl, rfl, rfl⟩)
  rintro _ _ _ _ _ _ ⟨rfl, rfl, rfl, k, x, y, v2, hx, hkn, hd, hv, rfl⟩
  refine tw_iload rfl rfl ?_
  refine tw_aload rfl rfl ?_
  refine tw_getS rfl (hi_44_1 ggp270.1) ?_
  refine tw_ic_ge rfl (fun q271 => ?_) (fun q271 => ?_)
  · try dsimp only [tvI_i, tvJ_j, tvR_r] at q271
    refine tw_iload rfl rfl ?_
    refine tw_aload rfl rfl ?_
    refine tw_getS rfl (hi_44_2 ggp270.1) ?_
    refine tw_ic_ne rfl (fun q272 => ?_) (fun q272 => ?_)
    · try dsimp only [tvI_i, tvJ_j, tvR_r] at q272
      have q272i := zneq rfl q272
      refine tw_iload rfl rfl ?_
      refine tw_aload rfl rfl ?_
      refine tw_getS rfl (hi_44_2 ggp270.1) ?_
      refine tw_isub rfl ?_
      refine tw_push rfl ?_
      refine tw_ic_gt rfl (fun q273 => ?_) (fun q273 => ?_)
      · try dsimp only [tvI_i, tvJ_j, tvR_r] at q273
        refine tw_aload rfl rfl ?_
        refine tw_aload rfl rfl ?_
        refine tw_getS rfl (hi_44_2 ggp270.1) ?_
        refine tw_push rfl ?_
        refine tw_virt2 rfl (f_refuse hG hX (ggp270).1 ppp270 ((cFr_T ggp270).trans hT) ((cFr_n ggp270).trans hN)) (fun wp274 hp274 p274 => ?_)
        obtain ⟨gp274, rfl, up274⟩ := p274
        have ggp274 := cFr_t ggp270 gp274
        refine tw_pop rfl ?_
        refine tw_push rfl ?_
        have hix : x.toNatClampNeg = (cs hp270).1 + k := zof_cl hx
        have hln := cNl ppp270 ((cFr_n ggp270).trans hN)
        have hTx : tA hp270 45 x.toNatClampNeg = T ((cs hp270).1 + k) := by rw [hix, ((cFr_T ggp270).trans hT)]
        have hnd : ¬ ((cs hp270).1 + k < n ∧ 48 ≤ (T ((cs hp270).1 + k)).toInt ∧ (T ((cs hp270).1 + k)).toInt ≤ 57) := by rw [← hTx]; omega
        have hrd : rD T n (cs hp270).1 = (cs hp270).1 + k := hd.symm.trans (rD_n hnd)
        have hpl := cPl ppp270
        have hbb : rB T n (cs h).1 = (cs hp270).1 := by rw [ssp270]; rfl
        have h400 := cP_400 ppp270
        rw [((cFr_n ggp270).trans hN)] at h400
        have hk0 : k ≠ 0 := fun z => q272 (Int32.toInt_inj.mp (by rw [hx, hpl, z]; rfl))
        have hsb : (x - tvI (tF hp270 44 2)).toInt = (((cs hp270).1 + k : Nat) : Int) - ((cs hp270).1 : Nat) := zsb hx hpl (by omega) (by omega)
        have z0 := q273
        exact tw_iret rfl ⟨ggp274, Or.inr ⟨_, rM_b hbb hrd hk0 (by omega), rfl, cFt_of ppp270 up274 (w := 1) rfl (by decide)⟩⟩
      · try dsimp only [tvI_i, tvJ_j, tvR_r] at q273
        refine tw_iload rfl rfl ?_
        refine tw_iload rfl rfl ?_
        refine tw_ic_le rfl (fun q275 => ?_) (fun q275 => ?_)
        · try dsimp only [tvI_i, tvJ_j, tvR_r] at q275
          refine tw_aload rfl rfl ?_
          refine tw_iload rfl rfl ?_
          refine tw_put rfl (fun f276 => ?_)
          refine tG_set f276 (hw_44_2 f276 (ggp270).1) (fun hf276 ef276 => ?_)
          try dsimp only [tvI_i] at ef276
          have gf276 := cFr_s ggp270 ef276 (by decide)
          obtain ⟨pf276, sf276⟩ := cTo ppp270 ((cFr_n ggp270).trans hN) ef276 hx (by omega) hkn
          refine tw_iload rfl rfl ?_
          have hix : x.toNatClampNeg = (cs hp270).1 + k := zof_cl hx
          have hln := cNl ppp270 ((cFr_n ggp270).trans hN)
          have hTx : tA hp270 45 x.toNatClampNeg = T ((cs hp270).1 + k) := by rw [hix, ((cFr_T ggp270).trans hT)]
          have hnd : ¬ ((cs hp270).1 + k < n ∧ 48 ≤ (T ((cs hp270).1 + k)).toInt ∧ (T ((cs hp270).1 + k)).toInt ≤ 57) := by rw [← hTx]; omega
          have hrd : rD T n (cs hp270).1 = (cs hp270).1 + k := hd.symm.trans (rD_n hnd)
          have hpl := cPl ppp270
          have hbb : rB T n (cs h).1 = (cs hp270).1 := by rw [ssp270]; rfl
          have h400 := cP_400 ppp270
          rw [((cFr_n ggp270).trans hN)] at h400
          have hk0 : k ≠ 0 := fun z => q272 (Int32.toInt_inj.mp (by rw [hx, hpl, z]; rfl))
          have hsb : (x - tvI (tF hp270 44 2)).toInt = (((cs hp270).1 + k : Nat) : Int) - ((cs hp270).1 : Nat) := zsb hx hpl (by omega) (by omega)
          have z0 := q273
          have z1 := q275
          have hval : y.toInt = ((rV T (cs hp270).1 k : Nat) : Int) := by omega
          refine tw_iret rfl ⟨gf276, Or.inl ⟨_, rM_c hbb hrd hk0 (by omega), congrArg (fun z => some (Value.int z)) (zof hval), ?_, pf276⟩⟩
          rw [sf276, ssp270]
          rfl
        · try dsimp only [tvI_i, tvJ_j, tvR_r] at q275
          refine tw_aload rfl rfl ?_
          refine tw_aload rfl rfl ?_
          refine tw_getS rfl (hi_44_2 ggp270.1) ?_
          refine tw_push rfl ?_
          refine tw_virt2 rfl (f_refuse hG hX (ggp270).1 ppp270 ((cFr_T ggp270).trans hT) ((cFr_n ggp270).trans hN)) (fun wp277 hp277 p277 => ?_)
          obtain ⟨gp277, rfl, up277⟩ := p277
          have ggp277 := cFr_t ggp270 gp277
          refine tw_pop rfl ?_
          refine tw_push rfl ?_
          have hix : x.toNatClampNeg = (cs hp270).1 + k := zof_cl hx
          have hln := cNl ppp270 ((cFr_n ggp270).trans hN)
          have hTx : tA hp270 45 x.toNatClampNeg = T ((cs hp270).1 + k) := by rw [hix, ((cFr_T ggp270).trans hT)]
          have hnd : ¬ ((cs hp270).1 + k < n ∧ 48 ≤ (T ((cs hp270).1 + k)).toInt ∧ (T ((cs hp270).1 + k)).toInt ≤ 57) := by rw [← hTx]; omega
          have hrd : rD T n (cs hp270).1 = (cs hp270).1 + k := hd.symm.trans (rD_n hnd)
          have hpl := cPl ppp270
          have hbb : rB T n (cs h).1 = (cs hp270).1 := by rw [ssp270]; rfl
          have h400 := cP_400 ppp270
          rw [((cFr_n ggp270).trans hN)] at h400
          have hk0 : k ≠ 0 := fun z => q272 (Int32.toInt_inj.mp (by rw [hx, hpl, z]; rfl))
          have hsb : (x - tvI (tF hp270 44 2)).toInt = (((cs hp270).1 + k : Nat) : Int) - ((cs hp270).1 : Nat) := zsb hx hpl (by omega) (by omega)
          have z0 := q273
          have z1 := q275
          exact tw_iret rfl ⟨ggp277, Or.inr ⟨_, rM_b hbb hrd hk0 (by omega), rfl, cFt_of ppp270 up277 (w := 1) rfl (by decide)⟩⟩
    · try dsimp only [tvI_i, tvJ_j, tvR_r] at q272
      have q272i := zeqi rfl q272
      refine tw_aload rfl rfl ?_
      refine tw_aload rfl rfl ?_
      refine tw_getS rfl (hi_44_2 ggp270.1) ?_
      refine tw_push rfl ?_
      refine tw_virt2 rfl (f_refuse hG hX (ggp270).1 ppp270 ((cFr_T ggp270).trans hT) ((cFr_n ggp270).trans hN)) (fun wp278 hp278 p278 => ?_)
      obtain ⟨gp278, rfl, up278⟩ := p278
      have ggp278 := cFr_t ggp270 gp278
      refine tw_pop rfl ?_
      refine tw_push rfl ?_
      have hix : x.toNatClampNeg = (cs hp270).1 + k := zof_cl hx
      have hln := cNl ppp270 ((cFr_n ggp270).trans hN)
      have hTx : tA hp270 45 x.toNatClampNeg = T ((cs hp270).1 + k) := by rw [hix, ((cFr_T ggp270).trans hT)]
      have hnd : ¬ ((cs hp270).1 + k < n ∧ 48 ≤ (T ((cs hp270).1 + k)).toInt ∧ (T ((cs hp270).1 + k)).toInt ≤ 57) := by rw [← hTx]; omega
      have hrd : rD T n (cs hp270).1 = (cs hp270).1 + k := hd.symm.trans (rD_n hnd)
      have hpl := cPl ppp270
      have hbb : rB T n (cs h).1 = (cs hp270).1 := by rw [ssp270]; rfl
      have h400 := cP_400 ppp270
      rw [((cFr_n ggp270).trans hN)] at h400
      have hk0 : k = 0 := by have z : x.toInt = (tvI (tF hp270 44 2)).toInt := congrArg Int32.toInt q272; omega
      subst hk0
      exact tw_iret rfl ⟨ggp278, Or.inr ⟨_, rM_a hbb hrd, rfl, cFt_of ppp270 up278 (w := 0) rfl (by decide)⟩⟩
  · try dsimp only [tvI_i, tvJ_j, tvR_r] at q271
    refine tw_aload rfl rfl ?_
    refine tw_getS rfl (hs_44_0 ggp270.1) ?_
    refine tw_iload rfl rfl ?_
    refine tw_bald rfl (fun f279 => ?_)
    refine tw_push rfl ?_
    refine tw_ic_lt rfl (fun q280 => ?_) (fun q280 => ?_)
    · try dsimp only [tvI_i, tvJ_j, tvR_r] at q280
      refine tw_iload rfl rfl ?_
      refine tw_aload rfl rfl ?_
      refine tw_getS rfl (hi_44_2 ggp270.1) ?_
      refine tw_ic_ne rfl (fun q281 => ?_) (fun q281 => ?_)
      · try dsimp only [tvI_i, tvJ_j, tvR_r] at q281
        have q281i := zneq rfl q281
        refine tw_iload rfl rfl ?_
        refine tw_aload rfl rfl ?_
        refine tw_getS rfl (hi_44_2 ggp270.1) ?_
        refine tw_isub rfl ?_
        refine tw_push rfl ?_
        refine tw_ic_gt rfl (fun q282 => ?_) (fun q282 => ?_)
        · try dsimp only [tvI_i, tvJ_j, tvR_r] at q282
          refine tw_aload rfl rfl ?_
          refine tw_aload rfl rfl ?_
          refine tw_getS rfl (hi_44_2 ggp270.1) ?_
          refine tw_push rfl ?_
          refine tw_virt2 rfl (f_refuse hG hX (ggp270).1 ppp270 ((cFr_T ggp270).trans hT) ((cFr_n ggp270).trans hN)) (fun wp283 hp283 p283 => ?_)
          obtain ⟨gp283, rfl, up283⟩ := p283
          have ggp283 := cFr_t ggp270 gp283
          refine tw_pop rfl ?_
          refine tw_push rfl ?_
          have hix : x.toNatClampNeg = (cs hp270).1 + k := zof_cl hx
          have hln := cNl ppp270 ((cFr_n ggp270).trans hN)
          have hTx : tA hp270 45 x.toNatClampNeg = T ((cs hp270).1 + k) := by rw [hix, ((cFr_T ggp270).trans hT)]
          have hnd : ¬ ((cs hp270).1 + k < n ∧ 48 ≤ (T ((cs hp270).1 + k)).toInt ∧ (T ((cs hp270).1 + k)).toInt ≤ 57) := by rw [← hTx]; omega
          have hrd : rD T n (cs hp270).1 = (cs hp270).1 + k := hd.symm.trans (rD_n hnd)
          have hpl := cPl ppp270
          have hbb : rB T n (cs h).1 = (cs hp270).1 := by rw [ssp270]; rfl
          have h400 := cP_400 ppp270
          rw [((cFr_n ggp270).trans hN)] at h400
          have hk0 : k ≠ 0 := fun z => q281 (Int32.toInt_inj.mp (by rw [hx, hpl, z]; rfl))
          have hsb : (x - tvI (tF hp270 44 2)).toInt = (((cs hp270).1 + k : Nat) : Int) - ((cs hp270).1 : Nat) := zsb hx hpl (by omega) (by omega)
          have z0 := q282
          exact tw_iret rfl ⟨ggp283, Or.inr ⟨_, rM_b hbb hrd hk0 (by omega), rfl, cFt_of ppp270 up283 (w := 1) rfl (by decide)⟩⟩
        · try dsimp only [tvI_i, tvJ_j, tvR_r] at q282
          refine tw_iload rfl rfl ?_
          refine tw_iload rfl rfl ?_
          refine tw_ic_le rfl (fun q284 => ?_) (fun q284 => ?_)
          · try dsimp only [tvI_i, tvJ_j, tvR_r] at q284
            refine tw_aload rfl rfl ?_
            refine tw_iload rfl rfl ?_
            refine tw_put rfl (fun f285 => ?_)
            refine tG_set f285 (hw_44_2 f285 (ggp270).1) (fun hf285 ef285 => ?_)
            try dsimp only [tvI_i] at ef285
            have gf285 := cFr_s ggp270 ef285 (by decide)
            obtain ⟨pf285, sf285⟩ := cTo ppp270 ((cFr_n ggp270).trans hN) ef285 hx (by omega) hkn
            refine tw_iload rfl rfl ?_
            have hix : x.toNatClampNeg = (cs hp270).1 + k := zof_cl hx
            have hln := cNl ppp270 ((cFr_n ggp270).trans hN)
            have hTx : tA hp270 45 x.toNatClampNeg = T ((cs hp270).1 + k) := by rw [hix, ((cFr_T ggp270).trans hT)]
            have hnd : ¬ ((cs hp270).1 + k < n ∧ 48 ≤ (T ((cs hp270).1 + k)).toInt ∧ (T ((cs hp270).1 + k)).toInt ≤ 57) := by rw [← hTx]; omega
            have hrd : rD T n (cs hp270).1 = (cs hp270).1 + k := hd.symm.trans (rD_n hnd)
            have hpl := cPl ppp270
            have hbb : rB T n (cs h).1 = (cs hp270).1 := by rw [ssp270]; rfl
            have h400 := cP_400 ppp270
            rw [((cFr_n ggp270).trans hN)] at h400
            have hk0 : k ≠ 0 := fun z => q281 (Int32.toInt_inj.mp (by rw [hx, hpl, z]; rfl))
            have hsb : (x - tvI (tF hp270 44 2)).toInt = (((cs hp270).1 + k : Nat) : Int) - ((cs hp270).1 : Nat) := zsb hx hpl (by omega) (by omega)
            have z0 := q282
            have z1 := q284
            have hval : y.toInt = ((rV T (cs hp270).1 k : Nat) : Int) := by omega
            refine tw_iret rfl ⟨gf285, Or.inl ⟨_, rM_c hbb hrd hk0 (by omega), congrArg (fun z => some (Value.int z)) (zof hval), ?_, pf285⟩⟩
            rw [sf285, ssp270]
            rfl
          · try dsimp only [tvI_i, tvJ_j, tvR_r] at q284
            refine tw_aload rfl rfl ?_
            refine tw_aload rfl rfl ?_
            refine tw_getS rfl (hi_44_2 ggp270.1) ?_
            refine tw_push rfl ?_
            refine tw_virt2 rfl (f_refuse hG hX (ggp270).1 ppp270 ((cFr_T ggp270).trans hT) ((cFr_n ggp270).trans hN)) (fun wp286 hp286 p286 => ?_)
            obtain ⟨gp286, rfl, up286⟩ := p286
            have ggp286 := cFr_t ggp270 gp286
            refine tw_pop rfl ?_
            refine tw_push rfl ?_
            have hix : x.toNatClampNeg = (cs hp270).1 + k := zof_cl hx
            have hln := cNl ppp270 ((cFr_n ggp270).trans hN)
            have hTx : tA hp270 45 x.toNatClampNeg = T ((cs hp270).1 + k) := by rw [hix, ((cFr_T ggp270).trans hT)]
            have hnd : ¬ ((cs hp270).1 + k < n ∧ 48 ≤ (T ((cs hp270).1 + k)).toInt ∧ (T ((cs hp270).1 + k)).toInt ≤ 57) := by rw [← hTx]; omega
            have hrd : rD T n (cs hp270).1 = (cs hp270).1 + k := hd.symm.trans (rD_n hnd)
            have hpl := cPl ppp270
            have hbb : rB T n (cs h).1 = (cs hp270).1 := by rw [ssp270]; rfl
            have h400 := cP_400 ppp270
            rw [((cFr_n ggp270).trans hN)] at h400
            have hk0 : k ≠ 0 := fun z => q281 (Int32.toInt_inj.mp (by rw [hx, hpl, z]; rfl))
            have hsb : (x - tvI (tF hp270 44 2)).toInt = (((cs hp270).1 + k : Nat) : Int) - ((cs hp270).1 : Nat) := zsb hx hpl (by omega) (by omega)
            have z0 := q282
            have z1 := q284
            exact tw_iret rfl ⟨ggp286, Or.inr ⟨_, rM_b hbb hrd hk0 (by omega), rfl, cFt_of ppp270 up286 (w := 1) rfl (by decide)⟩⟩
      · try dsimp only [tvI_i, tvJ_j, tvR_r] at q281
        have q281i := zeqi rfl q281
        refine tw_aload rfl rfl ?_
        refine tw_aload rfl rfl ?_
        refine tw_getS rfl (hi_44_2 ggp270.1) ?_
        refine tw_push rfl ?_
        refine tw_virt2 rfl (f_refuse hG hX (ggp270).1 ppp270 ((cFr_T ggp270).trans hT) ((cFr_n ggp270).trans hN)) (fun wp287 hp287 p287 => ?_)
        obtain ⟨gp287, rfl, up287⟩ := p287
        have ggp287 := cFr_t ggp270 gp287
        refine tw_pop rfl ?_
        refine tw_push rfl ?_
        have hix : x.toNatClampNeg = (cs hp270).1 + k := zof_cl hx
        have hln := cNl ppp270 ((cFr_n ggp270).trans hN)
        have hTx : tA hp270 45 x.toNatClampNeg = T ((cs hp270).1 + k) := by rw [hix, ((cFr_T ggp270).trans hT)]
        have hnd : ¬ ((cs hp270).1 + k < n ∧ 48 ≤ (T ((cs hp270).1 + k)).toInt ∧ (T ((cs hp270).1 + k)).toInt ≤ 57) := by rw [← hTx]; omega
        have hrd : rD T n (cs hp270).1 = (cs hp270).1 + k := hd.symm.trans (rD_n hnd)
        have hpl := cPl ppp270
        have hbb : rB T n (cs h).1 = (cs hp270).1 := by rw [ssp270]; rfl
        have h400 := cP_400 ppp270
        rw [((cFr_n ggp270).trans hN)] at h400
        have hk0 : k = 0 := by have z : x.toInt = (tvI (tF hp270 44 2)).toInt := congrArg Int32.toInt q281; omega
        subst hk0
        exact tw_iret rfl ⟨ggp287, Or.inr ⟨_, rM_a hbb hrd, rfl, cFt_of ppp270 up287 (w := 0) rfl (by decide)⟩⟩
    · try dsimp only [tvI_i, tvJ_j, tvR_r] at q280
      refine tw_aload rfl rfl ?_
      refine tw_getS rfl (hs_44_0 ggp270.1) ?_
      refine tw_iload rfl rfl ?_
      refine tw_bald rfl (fun f288 => ?_)
      refine tw_push rfl ?_
      refine tw_ic_gt rfl (fun q289 => ?_) (fun q289 => ?_)
      · try dsimp only [tvI_i, tvJ_j, tvR_r] at q289
        refine tw_iload rfl rfl ?_
        refine tw_aload rfl rfl ?_
        refine tw_getS rfl (hi_44_2 ggp270.1) ?_
        refine tw_ic_ne rfl (fun q290 => ?_) (fun q290 => ?_)
        · try dsimp only [tvI_i, tvJ_j, tvR_r] at q290
          have q290i := zneq rfl q290
          refine tw_iload rfl rfl ?_
          refine tw_aload rfl rfl ?_
          refine tw_getS rfl (hi_44_2 ggp270.1) ?_
          refine tw_isub rfl ?_
          refine tw_push rfl ?_
          refine tw_ic_gt rfl (fun q291 => ?_) (fun q291 => ?_)
          · try dsimp only [tvI_i, tvJ_j, tvR_r] at q291
            refine tw_aload rfl rfl ?_
            refine tw_aload rfl rfl ?_
            refine tw_getS rfl (hi_44_2 ggp270.1) ?_
            refine tw_push rfl ?_
            refine tw_virt2 rfl (f_refuse hG hX (ggp270).1 ppp270 ((cFr_T ggp270).trans hT) ((cFr_n ggp270).trans hN)) (fun wp292 hp292 p292 => ?_)
            obtain ⟨gp292, rfl, up292⟩ := p292
            have ggp292 := cFr_t ggp270 gp292
            refine tw_pop rfl ?_
            refine tw_push rfl ?_
            have hix : x.toNatClampNeg = (cs hp270).1 + k := zof_cl hx
            have hln := cNl ppp270 ((cFr_n ggp270).trans hN)
            have hTx : tA hp270 45 x.toNatClampNeg = T ((cs hp270).1 + k) := by rw [hix, ((cFr_T ggp270).trans hT)]
            have hnd : ¬ ((cs hp270).1 + k < n ∧ 48 ≤ (T ((cs hp270).1 + k)).toInt ∧ (T ((cs hp270).1 + k)).toInt ≤ 57) := by rw [← hTx]; omega
            have hrd : rD T n (cs hp270).1 = (cs hp270).1 + k := hd.symm.trans (rD_n hnd)
            have hpl := cPl ppp270
            have hbb : rB T n (cs h).1 = (cs hp270).1 := by rw [ssp270]; rfl
            have h400 := cP_400 ppp270
            rw [((cFr_n ggp270).trans hN)] at h400
            have hk0 : k ≠ 0 := fun z => q290 (Int32.toInt_inj.mp (by rw [hx, hpl, z]; rfl))
            have hsb : (x - tvI (tF hp270 44 2)).toInt = (((cs hp270).1 + k : Nat) : Int) - ((cs hp270).1 : Nat) := zsb hx hpl (by omega) (by omega)
            have z0 := q291
            exact tw_iret rfl ⟨ggp292, Or.inr ⟨_, rM_b hbb hrd hk0 (by omega), rfl, cFt_of ppp270 up292 (w := 1) rfl (by decide)⟩⟩
          · try dsimp only [tvI_i, tvJ_j, tvR_r] at q291
            refine tw_iload rfl rfl ?_
            refine tw_iload rfl rfl ?_
            refine tw_ic_le rfl (fun q293 => ?_) (fun q293 => ?_)
            · try dsimp only [tvI_i, tvJ_j, tvR_r] at q293
              refine tw_aload rfl rfl ?_
              refine tw_iload rfl rfl ?_
              refine tw_put rfl (fun f294 => ?_)
              refine tG_set f294 (hw_44_2 f294 (ggp270).1) (fun hf294 ef294 => ?_)
              try dsimp only [tvI_i] at ef294
              have gf294 := cFr_s ggp270 ef294 (by decide)
              obtain ⟨pf294, sf294⟩ := cTo ppp270 ((cFr_n ggp270).trans hN) ef294 hx (by omega) hkn
              refine tw_iload rfl rfl ?_
              have hix : x.toNatClampNeg = (cs hp270).1 + k := zof_cl hx
              have hln := cNl ppp270 ((cFr_n ggp270).trans hN)
              have hTx : tA hp270 45 x.toNatClampNeg = T ((cs hp270).1 + k) := by rw [hix, ((cFr_T ggp270).trans hT)]
              have hnd : ¬ ((cs hp270).1 + k < n ∧ 48 ≤ (T ((cs hp270).1 + k)).toInt ∧ (T ((cs hp270).1 + k)).toInt ≤ 57) := by rw [← hTx]; omega
              have hrd : rD T n (cs hp270).1 = (cs hp270).1 + k := hd.symm.trans (rD_n hnd)
              have hpl := cPl ppp270
              have hbb : rB T n (cs h).1 = (cs hp270).1 := by rw [ssp270]; rfl
              have h400 := cP_400 ppp270
              rw [((cFr_n ggp270).trans hN)] at h400
              have hk0 : k ≠ 0 := fun z => q290 (Int32.toInt_inj.mp (by rw [hx, hpl, z]; rfl))
              have hsb : (x - tvI (tF hp270 44 2)).toInt = (((cs hp270).1 + k : Nat) : Int) - ((cs hp270).1 : Nat) := zsb hx hpl (by omega) (by omega)
              have z0 := q291
              have z1 := q293
              have hval : y.toInt = ((rV T (cs hp270).1 k : Nat) : Int) := by omega
              refine tw_iret rfl ⟨gf294, Or.inl ⟨_, rM_c hbb hrd hk0 (by omega), congrArg (fun z => some (Value.int z)) (zof hval), ?_, pf294⟩⟩
              rw [sf294, ssp270]
              rfl
            · try dsimp only [tvI_i, tvJ_j, tvR_r] at q293
              refine tw_aload rfl rfl ?_
              refine tw_aload rfl rfl ?_
              refine tw_getS rfl (hi_44_2 ggp270.1) ?_
              refine tw_push rfl ?_
              refine tw_virt2 rfl (f_refuse hG hX (ggp270).1 ppp270 ((cFr_T ggp270).trans hT) ((cFr_n ggp270).trans hN)) (fun wp295 hp295 p295 => ?_)
              obtain ⟨gp295, rfl, up295⟩ := p295
              have ggp295 := cFr_t ggp270 gp295
              refine tw_pop rfl ?_
              refine tw_push rfl ?_
              have hix : x.toNatClampNeg = (cs hp270).1 + k := zof_cl hx
              have hln := cNl ppp270 ((cFr_n ggp270).trans hN)
              have hTx : tA hp270 45 x.toNatClampNeg = T ((cs hp270).1 + k) := by rw [hix, ((cFr_T ggp270).trans hT)]
              have hnd : ¬ ((cs hp270).1 + k < n ∧ 48 ≤ (T ((cs hp270).1 + k)).toInt ∧ (T ((cs hp270).1 + k)).toInt ≤ 57) := by rw [← hTx]; omega
              have hrd : rD T n (cs hp270).1 = (cs hp270).1 + k := hd.symm.trans (rD_n hnd)
              have hpl := cPl ppp270
              have hbb : rB T n (cs h).1 = (cs hp270).1 := by rw [ssp270]; rfl
              have h400 := cP_400 ppp270
              rw [((cFr_n ggp270).trans hN)] at h400
              have hk0 : k ≠ 0 := fun z => q290 (Int32.toInt_inj.mp (by rw [hx, hpl, z]; rfl))
              have hsb : (x - tvI (tF hp270 44 2)).toInt = (((cs hp270).1 + k : Nat) : Int) - ((cs hp270).1 : Nat) := zsb hx hpl (by omega) (by omega)
              have z0 := q291
              have z1 := q293
              exact tw_iret rfl ⟨ggp295, Or.inr ⟨_, rM_b hbb hrd hk0 (by omega), rfl, cFt_of ppp270 up295 (w := 1) rfl (by decide)⟩⟩
        · try dsimp only [tvI_i, tvJ_j, tvR_r] at q290
          have q290i := zeqi rfl q290
          refine tw_aload rfl rfl ?_
          refine tw_aload rfl rfl ?_
          refine tw_getS rfl (hi_44_2 ggp270.1) ?_
          refine tw_push rfl ?_
          refine tw_virt2 rfl (f_refuse hG hX (ggp270).1 ppp270 ((cFr_T ggp270).trans hT) ((cFr_n ggp270).trans hN)) (fun wp296 hp296 p296 => ?_)
          obtain ⟨gp296, rfl, up296⟩ := p296
          have ggp296 := cFr_t ggp270 gp296
          refine tw_pop rfl ?_
          refine tw_push rfl ?_
          have hix : x.toNatClampNeg = (cs hp270).1 + k := zof_cl hx
          have hln := cNl ppp270 ((cFr_n ggp270).trans hN)
          have hTx : tA hp270 45 x.toNatClampNeg = T ((cs hp270).1 + k) := by rw [hix, ((cFr_T ggp270).trans hT)]
          have hnd : ¬ ((cs hp270).1 + k < n ∧ 48 ≤ (T ((cs hp270).1 + k)).toInt ∧ (T ((cs hp270).1 + k)).toInt ≤ 57) := by rw [← hTx]; omega
          have hrd : rD T n (cs hp270).1 = (cs hp270).1 + k := hd.symm.trans (rD_n hnd)
          have hpl := cPl ppp270
          have hbb : rB T n (cs h).1 = (cs hp270).1 := by rw [ssp270]; rfl
          have h400 := cP_400 ppp270
          rw [((cFr_n ggp270).trans hN)] at h400
          have hk0 : k = 0 := by have z : x.toInt = (tvI (tF hp270 44 2)).toInt := congrArg Int32.toInt q290; omega
          subst hk0
          exact tw_iret rfl ⟨ggp296, Or.inr ⟨_, rM_a hbb hrd, rfl, cFt_of ppp270 up296 (w := 0) rfl (by decide)⟩⟩
      · try dsimp only [tvI_i, tvJ_j, tvR_r] at q289
        refine tw_iload rfl rfl ?_
        refine tw_push rfl ?_
        refine tw_imul rfl ?_
        refine tw_aload rfl rfl ?_
        refine tw_getS rfl (hs_44_0 ggp270.1) ?_
        refine tw_iload rfl rfl ?_
        refine tw_bald rfl (fun f297 => ?_)
        refine tw_push rfl ?_
        refine tw_isub rfl ?_
        refine tw_iadd rfl ?_
        refine tw_push rfl ?_
        refine tw_imin rfl ?_
        refine tw_istore rfl ?_
        refine tw_iinc rfl rfl ?_
        refine tw_goto rfl ?_
        have hix : x.toNatClampNeg = (cs hp270).1 + k := zof_cl hx
        have hln := cNl ppp270 ((cFr_n ggp270).trans hN)
        have hTx : tA hp270 45 x.toNatClampNeg = T ((cs hp270).1 + k) := by rw [hix, ((cFr_T ggp270).trans hT)]
        have ht : 48 ≤ (T ((cs hp270).1 + k)).toInt ∧ (T ((cs hp270).1 + k)).toInt ≤ 57 := by rw [← hTx]; exact ⟨by omega, by omega⟩
        exact tG_cut (zW_mono zTt G dp) (Or.inr ⟨rfl, rfl, rfl, k + 1, _, _, _, zincL hx q271, by omega, (rD_y ⟨by omega, ht⟩).symm.trans hd, ((cNum (t := tA hp270 45 x.toNatClampNeg) hv (by rw [hTx]; exact ht)).trans (by rw [hTx]; rfl)), rfl⟩)
theorem f_comparisonHere {G : zG} (hG : G.1 = zProg) (hX : G.2.1 = ztx) {h : zH} {T : Nat → Int32} {n : Nat} (hs : tSh h) (hp : cP h) (hT : tA h 45 = T) (hN : cn h = n)  : tC zTt G 82 [.ref 44] h (fun w h2 => cFr h h2 ∧ ((∃ q, rCm T n (rB T n (cs h).1) = some q ∧ (cs h).2.1 ≠ 80 ∧ w = some (.int (Int32.ofNat q.1)) ∧ cs h2 = (q.2, (cs h).2.1 + 1, (cs h).2.2) ∧ cP h2) ∨ (w = some (.int (-1)) ∧ ∃ e, cFt h2 e ∧ ((rCm T n (rB T n (cs h).1) = none ∧ e = 1 + 8 * (rB T n (cs h).1) + 0) ∨ (∃ q, rCm T n (rB T n (cs h).1) = some q ∧ (cs h).2.1 = 80 ∧ e = 1 + 8 * (rB T n (cs h).1) + 3))))) := by
  refine tC_in (by rw [hG]; rfl) (fun dp => ?_)
  have g0 := cFr_r hs
  have hpn : (cs h).1 ≤ n := by rw [← hN]; exact cP_le hp
  refine tw_aload rfl rfl ?_
  refine tw_virt0 rfl (f_signHere hG hX (g0).1 hp ((cFr_T g0).trans hT) ((cFr_n g0).trans hN)) (fun wp298 hp298 p298 => ?_)
  obtain ⟨gp298, ppp298, ssp298, t3p298, cp298, rfl, kp298⟩ := p298
  have ggp298 := cFr_t g0 gp298
  refine tw_istore rfl ?_
  refine tw_iload rfl rfl ?_
  refine tw_push rfl ?_
  refine tw_ic_eq rfl (fun q299 => ?_) (fun q299 => ?_)
  · try dsimp only [tvI_i, tvJ_j, tvR_r] at q299
    have q299i := zeqi (Y := 60) (by decide) q299
    refine tw_aload rfl rfl ?_
    refine tw_virt0 rfl (f_countOne hG hX (ggp298).1 ppp298 ((cFr_T ggp298).trans hT) ((cFr_n ggp298).trans hN)) (fun w9 hp300 p300 => ?_)
    obtain ⟨gp300, ⟨rfl, p300, ppp300, t3p300⟩ | ⟨rfl, xp300, p300, up300⟩⟩ := p300
    · have ggp300 := cFr_t ggp298 gp300
      refine tw_if_ne rfl (fun _ => ?_) (fun z => absurd z (by decide))
      refine tw_aload rfl rfl ?_
      refine tw_dup rfl ?_
      refine tw_getS rfl (hi_44_2 ggp300.1) ?_
      refine tw_push rfl ?_
      refine tw_iadd rfl ?_
      refine tw_put rfl (fun f301 => ?_)
      refine tG_set f301 (hw_44_2 f301 (ggp300).1) (fun hf301 ef301 => ?_)
      try dsimp only [tvI_i] at ef301
      have gf301 := cFr_s ggp300 ef301 (by decide)
      have hbn := ((sgn_k kp298 60 (by decide)).mp q299).1
      obtain ⟨hcnf301, hcef301⟩ := rC_y p300
      have hlf301 : (cs hp300).1 < n := by rw [hcef301]; show (cs hp298).1 < n; rw [ssp298]; exact hbn
      obtain ⟨pf301, sf301⟩ := cInc ppp300 hlf301 ((cFr_n ggp300).trans hN) ef301
      rw [hcef301] at sf301
      refine tw_iload rfl rfl ?_
      refine tw_push rfl ?_
      refine tw_ic_ne rfl (fun q302 => ?_) (fun q302 => ?_)
      · try dsimp only [tvI_i, tvJ_j, tvR_r] at q302
        have q302i := zneq (Y := 61) (by decide) q302
        refine tw_aload rfl rfl ?_
        refine tw_getS rfl (hi_44_2 (gf301).1) ?_
        refine tw_aload rfl rfl ?_
        refine tw_getS rfl (hi_44_1 (gf301).1) ?_
        refine tw_ic_ge rfl (fun q303 => ?_) (fun q303 => ?_)
        · try dsimp only [tvI_i, tvJ_j, tvR_r] at q303
          refine tw_iload rfl rfl ?_
          refine tw_push rfl ?_
          refine tw_ic_ne rfl (fun q304 => ?_) (fun q304 => ?_)
          · try dsimp only [tvI_i, tvJ_j, tvR_r] at q304
            have q304i := zneq (Y := 60) (by decide) q304
            exact absurd q299 q304
          · try dsimp only [tvI_i, tvJ_j, tvR_r] at q304
            have q304i := zeqi (Y := 60) (by decide) q304
            refine tw_push rfl ?_
            refine tw_goto rfl ?_
            have hbb : (cs hp298).1 = (rB T n (cs h).1) := by rw [ssp298]; rfl
            rw [ssp298] at hcnf301
            have hb1 : (cs hf301).1 = (rB T n (cs h).1) + 1 := by rw [sf301, ssp298]; rfl
            have hy : ¬ ((rB T n (cs h).1) + 1 < n ∧ T ((rB T n (cs h).1) + 1) = 61) := by
              rw [← hb1, ← ((cFr_T gf301).trans hT)]
              rintro ⟨y1, y2⟩
              exact cGe pf301 ((cFr_n gf301).trans hN) q303 y1
            exact tw_iret rfl ⟨gf301, Or.inl ⟨_, (cm60 ((sgn_k kp298 60 (by decide)).mp q299)).trans (if_neg hy), hcnf301, rfl, (by rw [sf301, ssp298]; rfl), pf301⟩⟩
        · try dsimp only [tvI_i, tvJ_j, tvR_r] at q303
          refine tw_aload rfl rfl ?_
          refine tw_getS rfl (hs_44_0 (gf301).1) ?_
          refine tw_aload rfl rfl ?_
          refine tw_getS rfl (hi_44_2 (gf301).1) ?_
          refine tw_bald rfl (fun f305 => ?_)
          refine tw_push rfl ?_
          refine tw_ic_ne rfl (fun q306 => ?_) (fun q306 => ?_)
          · try dsimp only [tvI_i, tvJ_j, tvR_r] at q306
            have q306i := zneq (Y := 61) (by decide) q306
            refine tw_iload rfl rfl ?_
            refine tw_push rfl ?_
            refine tw_ic_ne rfl (fun q307 => ?_) (fun q307 => ?_)
            · try dsimp only [tvI_i, tvJ_j, tvR_r] at q307
              have q307i := zneq (Y := 60) (by decide) q307
              exact absurd q299 q307
            · try dsimp only [tvI_i, tvJ_j, tvR_r] at q307
              have q307i := zeqi (Y := 60) (by decide) q307
              refine tw_push rfl ?_
              refine tw_goto rfl ?_
              have hbb : (cs hp298).1 = (rB T n (cs h).1) := by rw [ssp298]; rfl
              rw [ssp298] at hcnf301
              have hb1 : (cs hf301).1 = (rB T n (cs h).1) + 1 := by rw [sf301, ssp298]; rfl
              have hy : ¬ ((rB T n (cs h).1) + 1 < n ∧ T ((rB T n (cs h).1) + 1) = 61) := by
                rw [← hb1, ← ((cFr_T gf301).trans hT)]
                rintro ⟨y1, y2⟩
                exact q306 y2
              exact tw_iret rfl ⟨gf301, Or.inl ⟨_, (cm60 ((sgn_k kp298 60 (by decide)).mp q299)).trans (if_neg hy), hcnf301, rfl, (by rw [sf301, ssp298]; rfl), pf301⟩⟩
          · try dsimp only [tvI_i, tvJ_j, tvR_r] at q306
            have q306i := zeqi (Y := 61) (by decide) q306
            refine tw_aload rfl rfl ?_
            refine tw_dup rfl ?_
            refine tw_getS rfl (hi_44_2 (gf301).1) ?_
            refine tw_push rfl ?_
            refine tw_iadd rfl ?_
            refine tw_put rfl (fun f308 => ?_)
            refine tG_set f308 (hw_44_2 f308 (gf301).1) (fun hf308 ef308 => ?_)
            try dsimp only [tvI_i] at ef308
            have gf308 := cFr_s gf301 ef308 (by decide)
            have hlf308 := cLt pf301 ((cFr_n gf301).trans hN) q303
            obtain ⟨pf308, sf308⟩ := cInc pf301 hlf308 ((cFr_n gf301).trans hN) ef308
            refine tw_iload rfl rfl ?_
            refine tw_push rfl ?_
            refine tw_ic_ne rfl (fun q309 => ?_) (fun q309 => ?_)
            · try dsimp only [tvI_i, tvJ_j, tvR_r] at q309
              have q309i := zneq (Y := 60) (by decide) q309
              exact absurd q299 q309
            · try dsimp only [tvI_i, tvJ_j, tvR_r] at q309
              have q309i := zeqi (Y := 60) (by decide) q309
              refine tw_push rfl ?_
              refine tw_goto rfl ?_
              have hbb : (cs hp298).1 = (rB T n (cs h).1) := by rw [ssp298]; rfl
              rw [ssp298] at hcnf301
              have hb1 : (cs hf301).1 = (rB T n (cs h).1) + 1 := by rw [sf301, ssp298]; rfl
              have hy : (rB T n (cs h).1) + 1 < n ∧ T ((rB T n (cs h).1) + 1) = 61 := by rw [← hb1]; exact ⟨hlf308, by rw [← ((cFr_T gf301).trans hT)]; exact q306⟩
              exact tw_iret rfl ⟨gf308, Or.inl ⟨_, (cm60 ((sgn_k kp298 60 (by decide)).mp q299)).trans (if_pos hy), hcnf301, rfl, (by rw [sf308, sf301, ssp298]; rfl), pf308⟩⟩
      · try dsimp only [tvI_i, tvJ_j, tvR_r] at q302
        have q302i := zeqi (Y := 61) (by decide) q302
        exact absurd (q299.symm.trans q302) (by decide)
    · have ggp300 := cFr_t ggp298 gp300
      refine tw_if_ne rfl (fun z => absurd z (by decide)) (fun _ => ?_)
      refine tw_push rfl ?_
      have hbb : (cs hp298).1 = (rB T n (cs h).1) := by rw [ssp298]; rfl
      obtain ⟨o1, o2⟩ := rC_n p300
      rw [hbb] at o2
      rw [ssp298] at o1
      obtain ⟨q9, hq9⟩ := cm_s (Or.inr (Or.inl ((sgn_k kp298 60 (by decide)).mp q299)))
      exact tw_iret rfl ⟨ggp300, Or.inr ⟨rfl, _, up300, Or.inr ⟨q9, hq9, o1, o2⟩⟩⟩
  · try dsimp only [tvI_i, tvJ_j, tvR_r] at q299
    have q299i := zneq (Y := 60) (by decide) q299
    refine tw_iload rfl rfl ?_
    refine tw_push rfl ?_
    refine tw_ic_eq rfl (fun q310 => ?_) (fun q310 => ?_)
    · try dsimp only [tvI_i, tvJ_j, tvR_r] at q310
      have q310i := zeqi (Y := 61) (by decide) q310
      refine tw_aload rfl rfl ?_
      refine tw_virt0 rfl (f_countOne hG hX (ggp298).1 ppp298 ((cFr_T ggp298).trans hT) ((cFr_n ggp298).trans hN)) (fun w9 hp311 p311 => ?_)
      obtain ⟨gp311, ⟨rfl, p311, ppp311, t3p311⟩ | ⟨rfl, xp311, p311, up311⟩⟩ := p311
      · have ggp311 := cFr_t ggp298 gp311
        refine tw_if_ne rfl (fun _ => ?_) (fun z => absurd z (by decide))
        refine tw_aload rfl rfl ?_
        refine tw_dup rfl ?_
        refine tw_getS rfl (hi_44_2 ggp311.1) ?_
        refine tw_push rfl ?_
        refine tw_iadd rfl ?_
        refine tw_put rfl (fun f312 => ?_)
        refine tG_set f312 (hw_44_2 f312 (ggp311).1) (fun hf312 ef312 => ?_)
        try dsimp only [tvI_i] at ef312
        have gf312 := cFr_s ggp311 ef312 (by decide)
        have hbn := ((sgn_k kp298 61 (by decide)).mp q310).1
        obtain ⟨hcnf312, hcef312⟩ := rC_y p311
        have hlf312 : (cs hp311).1 < n := by rw [hcef312]; show (cs hp298).1 < n; rw [ssp298]; exact hbn
        obtain ⟨pf312, sf312⟩ := cInc ppp311 hlf312 ((cFr_n ggp311).trans hN) ef312
        rw [hcef312] at sf312
        refine tw_iload rfl rfl ?_
        refine tw_push rfl ?_
        refine tw_ic_ne rfl (fun q313 => ?_) (fun q313 => ?_)
        · try dsimp only [tvI_i, tvJ_j, tvR_r] at q313
          have q313i := zneq (Y := 61) (by decide) q313
          exact absurd q310 q313
        · try dsimp only [tvI_i, tvJ_j, tvR_r] at q313
          have q313i := zeqi (Y := 61) (by decide) q313
          refine tw_push rfl ?_
          have hbb : (cs hp298).1 = (rB T n (cs h).1) := by rw [ssp298]; rfl
          rw [ssp298] at hcnf312
          exact tw_iret rfl ⟨gf312, Or.inl ⟨_, cm61 ((sgn_k kp298 61 (by decide)).mp q310), hcnf312, rfl, (by rw [sf312, ssp298]; rfl), pf312⟩⟩
      · have ggp311 := cFr_t ggp298 gp311
        refine tw_if_ne rfl (fun z => absurd z (by decide)) (fun _ => ?_)
        refine tw_push rfl ?_
        have hbb : (cs hp298).1 = (rB T n (cs h).1) := by rw [ssp298]; rfl
        obtain ⟨o1, o2⟩ := rC_n p311
        rw [hbb] at o2
        rw [ssp298] at o1
        obtain ⟨q9, hq9⟩ := cm_s (Or.inl ((sgn_k kp298 61 (by decide)).mp q310))
        exact tw_iret rfl ⟨ggp311, Or.inr ⟨rfl, _, up311, Or.inr ⟨q9, hq9, o1, o2⟩⟩⟩
    · try dsimp only [tvI_i, tvJ_j, tvR_r] at q310
      have q310i := zneq (Y := 61) (by decide) q310
      refine tw_iload rfl rfl ?_
      refine tw_push rfl ?_
      refine tw_ic_eq rfl (fun q314 => ?_) (fun q314 => ?_)
      · try dsimp only [tvI_i, tvJ_j, tvR_r] at q314
        have q314i := zeqi (Y := 62) (by decide) q314
        refine tw_aload rfl rfl ?_
        refine tw_virt0 rfl (f_countOne hG hX (ggp298).1 ppp298 ((cFr_T ggp298).trans hT) ((cFr_n ggp298).trans hN)) (fun w9 hp315 p315 => ?_)
        obtain ⟨gp315, ⟨rfl, p315, ppp315, t3p315⟩ | ⟨rfl, xp315, p315, up315⟩⟩ := p315
        · have ggp315 := cFr_t ggp298 gp315
          refine tw_if_ne rfl (fun _ => ?_) (fun z => absurd z (by decide))
          refine tw_aload rfl rfl ?_
          refine tw_dup rfl ?_
          refine tw_getS rfl (hi_44_2 ggp315.1) ?_
          refine tw_push rfl ?_
          refine tw_iadd rfl ?_
          refine tw_put rfl (fun f316 => ?_)
          refine tG_set f316 (hw_44_2 f316 (ggp315).1) (fun hf316 ef316 => ?_)
          try dsimp only [tvI_i] at ef316
          have gf316 := cFr_s ggp315 ef316 (by decide)
          have hbn := ((sgn_k kp298 62 (by decide)).mp q314).1
          obtain ⟨hcnf316, hcef316⟩ := rC_y p315
          have hlf316 : (cs hp315).1 < n := by rw [hcef316]; show (cs hp298).1 < n; rw [ssp298]; exact hbn
          obtain ⟨pf316, sf316⟩ := cInc ppp315 hlf316 ((cFr_n ggp315).trans hN) ef316
          rw [hcef316] at sf316
          refine tw_iload rfl rfl ?_
          refine tw_push rfl ?_
          refine tw_ic_ne rfl (fun q317 => ?_) (fun q317 => ?_)
          · try dsimp only [tvI_i, tvJ_j, tvR_r] at q317
            have q317i := zneq (Y := 61) (by decide) q317
            refine tw_aload rfl rfl ?_
            refine tw_getS rfl (hi_44_2 (gf316).1) ?_
            refine tw_aload rfl rfl ?_
            refine tw_getS rfl (hi_44_1 (gf316).1) ?_
            refine tw_ic_ge rfl (fun q318 => ?_) (fun q318 => ?_)
            · try dsimp only [tvI_i, tvJ_j, tvR_r] at q318
              refine tw_iload rfl rfl ?_
              refine tw_push rfl ?_
              refine tw_ic_ne rfl (fun q319 => ?_) (fun q319 => ?_)
              · try dsimp only [tvI_i, tvJ_j, tvR_r] at q319
                have q319i := zneq (Y := 60) (by decide) q319
                refine tw_push rfl ?_
                have hbb : (cs hp298).1 = (rB T n (cs h).1) := by rw [ssp298]; rfl
                rw [ssp298] at hcnf316
                have hb1 : (cs hf316).1 = (rB T n (cs h).1) + 1 := by rw [sf316, ssp298]; rfl
                have hy : ¬ ((rB T n (cs h).1) + 1 < n ∧ T ((rB T n (cs h).1) + 1) = 61) := by
                  rw [← hb1, ← ((cFr_T gf316).trans hT)]
                  rintro ⟨y1, y2⟩
                  exact cGe pf316 ((cFr_n gf316).trans hN) q318 y1
                exact tw_iret rfl ⟨gf316, Or.inl ⟨_, (cm62 ((sgn_k kp298 62 (by decide)).mp q314)).trans (if_neg hy), hcnf316, rfl, (by rw [sf316, ssp298]; rfl), pf316⟩⟩
              · try dsimp only [tvI_i, tvJ_j, tvR_r] at q319
                have q319i := zeqi (Y := 60) (by decide) q319
                exact absurd (q314.symm.trans q319) (by decide)
            · try dsimp only [tvI_i, tvJ_j, tvR_r] at q318
              refine tw_aload rfl rfl ?_
              refine tw_getS rfl (hs_44_0 (gf316).1) ?_
              refine tw_aload rfl rfl ?_
              refine tw_getS rfl (hi_44_2 (gf316).1) ?_
              refine tw_bald rfl (fun f320 => ?_)
              refine tw_push rfl ?_
              refine tw_ic_ne rfl (fun q321 => ?_) (fun q321 => ?_)
              · try dsimp only [tvI_i, tvJ_j, tvR_r] at q321
                have q321i := zneq (Y := 61) (by decide) q321
                refine tw_iload rfl rfl ?_
                refine tw_push rfl ?_
                refine tw_ic_ne rfl (fun q322 => ?_) (fun q322 => ?_)
                · try dsimp only [tvI_i, tvJ_j, tvR_r] at q322
                  have q322i := zneq (Y := 60) (by decide) q322
                  refine tw_push rfl ?_
                  have hbb : (cs hp298).1 = (rB T n (cs h).1) := by rw [ssp298]; rfl
                  rw [ssp298] at hcnf316
                  have hb1 : (cs hf316).1 = (rB T n (cs h).1) + 1 := by rw [sf316, ssp298]; rfl
                  have hy : ¬ ((rB T n (cs h).1) + 1 < n ∧ T ((rB T n (cs h).1) + 1) = 61) := by
                    rw [← hb1, ← ((cFr_T gf316).trans hT)]
                    rintro ⟨y1, y2⟩
                    exact q321 y2
                  exact tw_iret rfl ⟨gf316, Or.inl ⟨_, (cm62 ((sgn_k kp298 62 (by decide)).mp q314)).trans (if_neg hy), hcnf316, rfl, (by rw [sf316, ssp298]; rfl), pf316⟩⟩
                · try dsimp only [tvI_i, tvJ_j, tvR_r] at q322
                  have q322i := zeqi (Y := 60) (by decide) q322
                  exact absurd (q314.symm.trans q322) (by decide)
              · try dsimp only [tvI_i, tvJ_j, tvR_r] at q321
                have q321i := zeqi (Y := 61) (by decide) q321
                refine tw_aload rfl rfl ?_
                refine tw_dup rfl ?_
                refine tw_getS rfl (hi_44_2 (gf316).1) ?_
                refine tw_push rfl ?_
                refine tw_iadd rfl ?_
                refine tw_put rfl (fun f323 => ?_)
                refine tG_set f323 (hw_44_2 f323 (gf316).1) (fun hf323 ef323 => ?_)
                try dsimp only [tvI_i] at ef323
                have gf323 := cFr_s gf316 ef323 (by decide)
                have hlf323 := cLt pf316 ((cFr_n gf316).trans hN) q318
                obtain ⟨pf323, sf323⟩ := cInc pf316 hlf323 ((cFr_n gf316).trans hN) ef323
                refine tw_iload rfl rfl ?_
                refine tw_push rfl ?_
                refine tw_ic_ne rfl (fun q324 => ?_) (fun q324 => ?_)
                · try dsimp only [tvI_i, tvJ_j, tvR_r] at q324
                  have q324i := zneq (Y := 60) (by decide) q324
                  refine tw_push rfl ?_
                  have hbb : (cs hp298).1 = (rB T n (cs h).1) := by rw [ssp298]; rfl
                  rw [ssp298] at hcnf316
                  have hb1 : (cs hf316).1 = (rB T n (cs h).1) + 1 := by rw [sf316, ssp298]; rfl
                  have hy : (rB T n (cs h).1) + 1 < n ∧ T ((rB T n (cs h).1) + 1) = 61 := by rw [← hb1]; exact ⟨hlf323, by rw [← ((cFr_T gf316).trans hT)]; exact q321⟩
                  exact tw_iret rfl ⟨gf323, Or.inl ⟨_, (cm62 ((sgn_k kp298 62 (by decide)).mp q314)).trans (if_pos hy), hcnf316, rfl, (by rw [sf323, sf316, ssp298]; rfl), pf323⟩⟩
                · try dsimp only [tvI_i, tvJ_j, tvR_r] at q324
                  have q324i := zeqi (Y := 60) (by decide) q324
                  exact absurd (q314.symm.trans q324) (by decide)
          · try dsimp only [tvI_i, tvJ_j, tvR_r] at q317
            have q317i := zeqi (Y := 61) (by decide) q317
            exact absurd (q314.symm.trans q317) (by decide)
        · have ggp315 := cFr_t ggp298 gp315
          refine tw_if_ne rfl (fun z => absurd z (by decide)) (fun _ => ?_)
          refine tw_push rfl ?_
          have hbb : (cs hp298).1 = (rB T n (cs h).1) := by rw [ssp298]; rfl
          obtain ⟨o1, o2⟩ := rC_n p315
          rw [hbb] at o2
          rw [ssp298] at o1
          obtain ⟨q9, hq9⟩ := cm_s (Or.inr (Or.inr ((sgn_k kp298 62 (by decide)).mp q314)))
          exact tw_iret rfl ⟨ggp315, Or.inr ⟨rfl, _, up315, Or.inr ⟨q9, hq9, o1, o2⟩⟩⟩
      · try dsimp only [tvI_i, tvJ_j, tvR_r] at q314
        have q314i := zneq (Y := 62) (by decide) q314
        refine tw_aload rfl rfl ?_
        refine tw_aload rfl rfl ?_
        refine tw_getS rfl (hi_44_2 ggp298.1) ?_
        refine tw_push rfl ?_
        refine tw_virt2 rfl (f_refuse hG hX (ggp298).1 ppp298 ((cFr_T ggp298).trans hT) ((cFr_n ggp298).trans hN)) (fun wp325 hp325 p325 => ?_)
        obtain ⟨gp325, rfl, up325⟩ := p325
        have ggp325 := cFr_t ggp298 gp325
        refine tw_pop rfl ?_
        refine tw_push rfl ?_
        have hbb : (cs hp298).1 = (rB T n (cs h).1) := by rw [ssp298]; rfl
        have hft := cFt_of ppp298 up325 (w := 0) rfl (by decide)
        rw [hbb] at hft
        exact tw_iret rfl ⟨ggp325, Or.inr ⟨rfl, _, hft, Or.inl ⟨cm_n (fun z => q310 ((sgn_k kp298 61 (by decide)).mpr z)) (fun z => q299 ((sgn_k kp298 60 (by decide)).mpr z)) (fun z => q314 ((sgn_k kp298 62 (by decide)).mpr z)), rfl⟩⟩⟩
theorem zd1 {x : Int32} {d : Nat} (hx : x.toInt = d) (hd : d ≤ 10) : (x + 1).toInt = ((d + 1 : Nat) : Int) := zincN hx (by omega)
theorem wrd_k {T : Nat → Int32} {n b k : Nat} {i : Int32} (w : wrd T n b i) (hk : k < 20) {K : Int32} (hK : K.toInt = k) : i = K ↔ rW T n b (rWd k) = true := (by
  rw [← w.2 k hk, ← hK]
  exact Int32.toInt_inj.symm)
theorem cTw_of {h : zH} {k : Nat} {i : Int32} (hi : i.toInt = k) (hk : k < 20) : (100000 + i).toNatClampNeg = 100000 + k := by
  have e : (100000 + i).toInt = 100000 + k := by
    rw [Int32.toInt_add, hi]
    exact Int.bmod_eq_of_le (by show (-2147483648 : Int) ≤ 100000 + (k : Int); omega) (by show 100000 + (k : Int) < (2147483648 : Int); omega)
  rw [zclE, e]
  omega
theorem cPe {T : Nat → Int32} {n m d : Nat} {h h2 : zH} (p : cP h) (hn : cn h = n) (k : pE T n m d (cs h) (.inr (cs h2))) : rPg n (cs h) (cs h2) := pE_pg k (by rw [← hn]; exact cP_le p)
theorem cHc {h : zH} (p : cP h) (q : (cs h).2.2.length < (cs h).1) : (tvI (tF h 44 5)).toInt < (tvI (tF h 44 2)).toInt := by
  have q : (cCo h).length < (tvI (tF h 44 2)).toNatClampNeg := q
  rw [cCo_len, zclE, zclE] at q
  have := p.1
  have := p.2.2.1
  omega
theorem c400 {T : Nat → Int32} {n x : Nat} (h : 400 ≤ x) (h2 : x ≤ n) (hn : n ≤ 400) {c : Prop} : ¬ (rB T n x < n ∧ c) := by
  have := rB_ge (T := T) (n := n) (p := x)
  intro z
  omega
theorem rB_400 {T : Nat → Int32} {n x : Nat} (h : n ≤ x) : rB T n x = x := rB_n (by omega)
theorem w400 {T : Nat → Int32} {n x i : Nat} (hi : i < 20) (h : n ≤ x) : ¬ rW T n x (rWd i) = true := fun z => by
  have := (rW_l hi z).1
  omega
theorem f_takeWord {G : zG} (hG : G.1 = zProg) (hX : G.2.1 = ztx) {h : zH} {T : Nat → Int32} {n : Nat} (hs : tSh h) (hp : cP h) (hT : tA h 45 = T) (hN : cn h = n) {i : Int32} {k E : Nat} (hi : i.toInt = k) (hk : k < 12) (hE : (tvI (tF h 44 3)).toInt = E) (hE1 : (cs h).1 < E) (hE2 : E ≤ n) : tC zTt G 86 [.ref 44, .int i] h (fun w h2 => cFr h h2 ∧ w = some (.int 1) ∧ cs h2 = rU (100000 + k) (rA E (cs h)) ∧ cP h2) := by
  refine tC_in (by rw [hG]; rfl) (fun dp => ?_)
  have g0 := cFr_r hs
  have hpn : (cs h).1 ≤ n := by rw [← hN]; exact cP_le hp
  refine tw_aload rfl rfl ?_
  refine tw_aload rfl rfl ?_
  refine tw_getS rfl (hi_44_3 hs) ?_
  refine tw_put rfl (fun f326 => ?_)
  refine tG_set f326 (hw_44_2 f326 (g0).1) (fun hf326 ef326 => ?_)
  try dsimp only [tvI_i] at ef326
  have gf326 := cFr_s g0 ef326 (by decide)
  obtain ⟨pf326, sf326⟩ := cTo hp ((cFr_n g0).trans hN) ef326 hE (by omega) hE2
  refine tw_aload rfl rfl ?_
  refine tw_push rfl ?_
  refine tw_iload rfl rfl ?_
  refine tw_iadd rfl ?_
  refine tw_virt1 rfl (f_putCode hG hX (gf326).1 pf326 ((cFr_T gf326).trans hT) ((cFr_n gf326).trans hN) (cHc pf326 (by rw [sf326]; show (cs h).2.2.length < E; have := cP_len hp; omega))) (fun wp327 hp327 p327 => ?_)
  obtain ⟨gp327, rfl, ssp327, ppp327⟩ := p327
  have ggp327 := cFr_t gf326 gp327
  refine tw_push rfl ?_
  refine tw_iret rfl ⟨ggp327, rfl, ?_, ppp327⟩
  rw [ssp327, sf326]
  show rU (100000 + i).toNatClampNeg _ = _
  rw [cTw_of (h := h) hi (by omega)]
theorem zoN {v : Nat} (h : v ≤ 200000) : (Int32.ofNat v).toNatClampNeg = v := zof_cl (zofI (by omega))
theorem zoN9 {v : Nat} (h : v ≤ 200000) : ¬ Int32.ofNat v = -1 := fun z => by
  have e := zofI (e := v) (by omega)
  rw [z] at e
  have : ((-1 : Int32)).toInt = -1 := by decide
  omega
theorem f_readValue {G : zG} (hG : G.1 = zProg) (hX : G.2.1 = ztx) {dp : Nat} (IH : cIH G dp) {h : zH} {T : Nat → Int32} {n : Nat} (hs : tSh h) (hp : cP h) (hT : tA h 45 = T) (hN : cn h = n) {x : Int32} {d : Nat} (hx : x.toInt = d) (hd : d ≤ 10) : tCp zTt G (dp + 1) 85 [.ref 44, .int x] h (cR T n 0 d h) := by
  refine tCp_in (by rw [hG]; rfl) ?_
  have g0 := cFr_r hs
  have hpn : (cs h).1 ≤ n := by rw [← hN]; exact cP_le hp
  have c129 : (12 : Int32).toInt = 12 := rfl
  have c4009 : (400 : Int32).toInt = 400 := rfl
  have c109 : (10 : Int32).toInt = 10 := rfl
  refine tw_aload rfl rfl ?_
  refine tw_virt0 rfl (f_signHere hG hX (g0).1 hp ((cFr_T g0).trans hT) ((cFr_n g0).trans hN)) (fun wp328 hp328 p328 => ?_)
  obtain ⟨gp328, ppp328, ssp328, t3p328, cp328, rfl, kp328⟩ := p328
  have ggp328 := cFr_t g0 gp328
  refine tw_push rfl ?_
  refine tw_ic_ne rfl (fun q329 => ?_) (fun q329 => ?_)
  · try dsimp only [tvI_i, tvJ_j, tvR_r] at q329
    have q329i := zneq (Y := 40) (by decide) q329
    refine tw_aload rfl rfl ?_
    refine tw_virt0 rfl (f_wordHere hG hX (ggp328).1 ppp328 ((cFr_T ggp328).trans hT) ((cFr_n ggp328).trans hN)) (fun wp330 hp330 p330 => ?_)
    obtain ⟨gp330, ppp330, ssp330, eep330, ip330, rfl, kwp330⟩ := p330
    have ggp330 := cFr_t ggp328 gp330
    have hbS : rB T n (cs hp328).1 = (rB T n (cs h).1) := by rw [ssp328]; exact rB_2
    rw [hbS] at ssp330 eep330 kwp330
    rw [ssp328] at ssp330
    refine tw_istore rfl ?_
    refine tw_iload rfl rfl ?_
    refine tw_push rfl ?_
    refine tw_ic_eq rfl (fun q331 => ?_) (fun q331 => ?_)
    · try dsimp only [tvI_i, tvJ_j, tvR_r] at q331
      have q331i := zeqi (Y := (-1)) (by decide) q331
      refine tw_aload rfl rfl ?_
      refine tw_getS rfl (hi_44_2 ggp330.1) ?_
      refine tw_istore rfl ?_
      refine tw_aload rfl rfl ?_
      refine tw_push rfl ?_
      refine tw_virt1 rfl (f_numberHere hG hX (ggp330).1 ppp330 ((cFr_T ggp330).trans hT) ((cFr_n ggp330).trans hN) (m := 99999) (M := 99999) rfl (by decide)) (fun w9 hp332 p332 => ?_)
      obtain ⟨gp332, ⟨vp332, p332, rfl, ssp332, ppp332⟩ | ⟨xp332, p332, rfl, up332⟩⟩ := p332
      · have ggp332 := cFr_t ggp330 gp332
        have hrm := p332
        rw [ssp330] at hrm
        refine tw_istore rfl ?_
        refine tw_iload rfl rfl ?_
        refine tw_push rfl ?_
        refine tw_ic_ne rfl (fun q333 => ?_) (fun q333 => ?_)
        · try dsimp only [tvI_i, tvJ_j, tvR_r] at q333
          have q333i := zneq (Y := (-1)) (by decide) q333
          refine tw_aload rfl rfl ?_
          refine tw_getS rfl (hi_44_8 ggp332.1) ?_
          refine tw_push rfl ?_
          refine tw_ic_ne rfl (fun q334 => ?_) (fun q334 => ?_)
          · try dsimp only [tvI_i, tvJ_j, tvR_r] at q334
            have q334i := zneq (Y := 80) (by decide) q334
            refine tw_aload rfl rfl ?_
            refine tw_dup rfl ?_
            refine tw_getS rfl (hi_44_8 ggp332.1) ?_
            refine tw_push rfl ?_
            refine tw_iadd rfl ?_
            refine tw_put rfl (fun f335 => ?_)
            refine tG_set f335 (hw_44_8 f335 (ggp332).1) (fun hf335 ef335 => ?_)
            try dsimp only [tvI_i] at ef335
            have gf335 := cFr_s ggp332 ef335 (by decide)
            obtain ⟨pf335, sf335⟩ := cCnt ppp332 q334 ef335
            refine tw_aload rfl rfl ?_
            refine tw_iload rfl rfl ?_
            refine tw_virt1 rfl (f_putCode hG hX (gf335).1 pf335 ((cFr_T gf335).trans hT) ((cFr_n gf335).trans hN) (cHc pf335 (by rw [sf335]; show (cs hp332).2.2.length < (cs hp332).1; rw [ssp332, ssp330]; show (cs h).2.2.length < vp332.1; have z := (rM_r (rB_le (T := T) hpn) hrm).1; rw [rB_2] at z; have := rB_ge (T := T) (n := n) (p := (cs h).1); have := cP_len hp; omega))) (fun wp336 hp336 p336 => ?_)
            obtain ⟨gp336, rfl, ssp336, ppp336⟩ := p336
            have ggp336 := cFr_t gf335 gp336
            refine tw_push rfl ?_
            have hi9 : ip330.toInt = -1 := congrArg Int32.toInt q331
            have hnw : ∀ k, k < 12 → ¬ rW T n (rB T n (cs h).1) (rWd k) = true := fun k hk z => by have y := (kwp330.2 k (by omega)).mpr z; omega
            have h80 := cn80 ppp332 q334
            rw [ssp332, ssp330] at h80
            refine tw_iret rfl ⟨ggp336, Or.inl ⟨rfl, ?_, ppp336⟩⟩
            rw [ssp336, sf335, ssp332, ssp330]
            have e9 := zoN (v := vp332.2) (by have := (rM_r (rB_le (T := T) hpn) hrm).2.2; omega)
            show pE T n 0 d (cs h) (.inr (vp332.1, (cs h).2.1 + 1, (cs h).2.2 ++ [(Int32.ofNat vp332.2).toNatClampNeg]))
            rw [e9]
            exact pE_0z (fun z => q329 ((sgn_k kp328 40 (by decide)).mpr z)) hnw hrm h80
          · try dsimp only [tvI_i, tvJ_j, tvR_r] at q334
            have q334i := zeqi (Y := 80) (by decide) q334
            refine tw_aload rfl rfl ?_
            refine tw_iload rfl rfl ?_
            refine tw_push rfl ?_
            refine tw_virt2 rfl (f_refuse hG hX (ggp332).1 ppp332 ((cFr_T ggp332).trans hT) ((cFr_n ggp332).trans hN)) (fun wp337 hp337 p337 => ?_)
            obtain ⟨gp337, rfl, up337⟩ := p337
            have ggp337 := cFr_t ggp332 gp337
            have hi9 : ip330.toInt = -1 := congrArg Int32.toInt q331
            have hnw : ∀ k, k < 12 → ¬ rW T n (rB T n (cs h).1) (rWd k) = true := fun k hk z => by have y := (kwp330.2 k (by omega)).mpr z; omega
            have hft := cFt_of ppp330 up337 (w := 3) rfl (by decide)
            rw [ssp330] at hft
            have h80 := c80 q334
            rw [ssp332, ssp330] at h80
            exact tw_iret rfl ⟨ggp337, Or.inr ⟨rfl, _, pE_0y (fun z => q329 ((sgn_k kp328 40 (by decide)).mpr z)) hnw hrm h80, hft⟩⟩
        · try dsimp only [tvI_i, tvJ_j, tvR_r] at q333
          have q333i := zeqi (Y := (-1)) (by decide) q333
          exact absurd q333 (zoN9 (by have := (rM_r (rB_le (T := T) hpn) hrm).2.2; omega))
      · have ggp332 := cFr_t ggp330 gp332
        have hrm := p332
        rw [ssp330] at hrm
        refine tw_istore rfl ?_
        refine tw_iload rfl rfl ?_
        refine tw_push rfl ?_
        refine tw_ic_ne rfl (fun z => absurd z (by decide)) (fun _ => ?_)
        refine tw_push rfl ?_
        have hi9 : ip330.toInt = -1 := congrArg Int32.toInt q331
        have hnw : ∀ k, k < 12 → ¬ rW T n (rB T n (cs h).1) (rWd k) = true := fun k hk z => by have y := (kwp330.2 k (by omega)).mpr z; omega
        exact tw_iret rfl ⟨ggp332, Or.inr ⟨rfl, _, pE_0m (fun z => q329 ((sgn_k kp328 40 (by decide)).mpr z)) hnw hrm, up332⟩⟩
    · try dsimp only [tvI_i, tvJ_j, tvR_r] at q331
      have q331i := zneq (Y := (-1)) (by decide) q331
      refine tw_iload rfl rfl ?_
      refine tw_push rfl ?_
      refine tw_ic_ge rfl (fun q338 => ?_) (fun q338 => ?_)
      · try dsimp only [tvI_i, tvJ_j, tvR_r] at q338
        refine tw_aload rfl rfl ?_
        refine tw_getS rfl (hi_44_2 ggp330.1) ?_
        refine tw_istore rfl ?_
        refine tw_aload rfl rfl ?_
        refine tw_push rfl ?_
        refine tw_virt1 rfl (f_numberHere hG hX (ggp330).1 ppp330 ((cFr_T ggp330).trans hT) ((cFr_n ggp330).trans hN) (m := 99999) (M := 99999) rfl (by decide)) (fun w9 hp339 p339 => ?_)
        obtain ⟨gp339, ⟨vp339, p339, rfl, ssp339, ppp339⟩ | ⟨xp339, p339, rfl, up339⟩⟩ := p339
        · have ggp339 := cFr_t ggp330 gp339
          have hrm := p339
          rw [ssp330] at hrm
          refine tw_istore rfl ?_
          refine tw_iload rfl rfl ?_
          refine tw_push rfl ?_
          refine tw_ic_ne rfl (fun q340 => ?_) (fun q340 => ?_)
          · try dsimp only [tvI_i, tvJ_j, tvR_r] at q340
            have q340i := zneq (Y := (-1)) (by decide) q340
            refine tw_aload rfl rfl ?_
            refine tw_getS rfl (hi_44_8 ggp339.1) ?_
            refine tw_push rfl ?_
            refine tw_ic_ne rfl (fun q341 => ?_) (fun q341 => ?_)
            · try dsimp only [tvI_i, tvJ_j, tvR_r] at q341
              have q341i := zneq (Y := 80) (by decide) q341
              refine tw_aload rfl rfl ?_
              refine tw_dup rfl ?_
              refine tw_getS rfl (hi_44_8 ggp339.1) ?_
              refine tw_push rfl ?_
              refine tw_iadd rfl ?_
              refine tw_put rfl (fun f342 => ?_)
              refine tG_set f342 (hw_44_8 f342 (ggp339).1) (fun hf342 ef342 => ?_)
              try dsimp only [tvI_i] at ef342
              have gf342 := cFr_s ggp339 ef342 (by decide)
              obtain ⟨pf342, sf342⟩ := cCnt ppp339 q341 ef342
              refine tw_aload rfl rfl ?_
              refine tw_iload rfl rfl ?_
              refine tw_virt1 rfl (f_putCode hG hX (gf342).1 pf342 ((cFr_T gf342).trans hT) ((cFr_n gf342).trans hN) (cHc pf342 (by rw [sf342]; show (cs hp339).2.2.length < (cs hp339).1; rw [ssp339, ssp330]; show (cs h).2.2.length < vp339.1; have z := (rM_r (rB_le (T := T) hpn) hrm).1; rw [rB_2] at z; have := rB_ge (T := T) (n := n) (p := (cs h).1); have := cP_len hp; omega))) (fun wp343 hp343 p343 => ?_)
              obtain ⟨gp343, rfl, ssp343, ppp343⟩ := p343
              have ggp343 := cFr_t gf342 gp343
              refine tw_push rfl ?_
              have hi9 : 12 ≤ ip330.toInt := by have z := q338; exact z
              have hnw : ∀ k, k < 12 → ¬ rW T n (rB T n (cs h).1) (rWd k) = true := fun k hk z => by have y := (kwp330.2 k (by omega)).mpr z; omega
              have h80 := cn80 ppp339 q341
              rw [ssp339, ssp330] at h80
              refine tw_iret rfl ⟨ggp343, Or.inl ⟨rfl, ?_, ppp343⟩⟩
              rw [ssp343, sf342, ssp339, ssp330]
              have e9 := zoN (v := vp339.2) (by have := (rM_r (rB_le (T := T) hpn) hrm).2.2; omega)
              show pE T n 0 d (cs h) (.inr (vp339.1, (cs h).2.1 + 1, (cs h).2.2 ++ [(Int32.ofNat vp339.2).toNatClampNeg]))
              rw [e9]
              exact pE_0z (fun z => q329 ((sgn_k kp328 40 (by decide)).mpr z)) hnw hrm h80
            · try dsimp only [tvI_i, tvJ_j, tvR_r] at q341
              have q341i := zeqi (Y := 80) (by decide) q341
              refine tw_aload rfl rfl ?_
              refine tw_iload rfl rfl ?_
              refine tw_push rfl ?_
              refine tw_virt2 rfl (f_refuse hG hX (ggp339).1 ppp339 ((cFr_T ggp339).trans hT) ((cFr_n ggp339).trans hN)) (fun wp344 hp344 p344 => ?_)
              obtain ⟨gp344, rfl, up344⟩ := p344
              have ggp344 := cFr_t ggp339 gp344
              have hi9 : 12 ≤ ip330.toInt := by have z := q338; exact z
              have hnw : ∀ k, k < 12 → ¬ rW T n (rB T n (cs h).1) (rWd k) = true := fun k hk z => by have y := (kwp330.2 k (by omega)).mpr z; omega
              have hft := cFt_of ppp330 up344 (w := 3) rfl (by decide)
              rw [ssp330] at hft
              have h80 := c80 q341
              rw [ssp339, ssp330] at h80
              exact tw_iret rfl ⟨ggp344, Or.inr ⟨rfl, _, pE_0y (fun z => q329 ((sgn_k kp328 40 (by decide)).mpr z)) hnw hrm h80, hft⟩⟩
          · try dsimp only [tvI_i, tvJ_j, tvR_r] at q340
            have q340i := zeqi (Y := (-1)) (by decide) q340
            exact absurd q340 (zoN9 (by have := (rM_r (rB_le (T := T) hpn) hrm).2.2; omega))
        · have ggp339 := cFr_t ggp330 gp339
          have hrm := p339
          rw [ssp330] at hrm
          refine tw_istore rfl ?_
          refine tw_iload rfl rfl ?_
          refine tw_push rfl ?_
          refine tw_ic_ne rfl (fun z => absurd z (by decide)) (fun _ => ?_)
          refine tw_push rfl ?_
          have hi9 : 12 ≤ ip330.toInt := by have z := q338; exact z
          have hnw : ∀ k, k < 12 → ¬ rW T n (rB T n (cs h).1) (rWd k) = true := fun k hk z => by have y := (kwp330.2 k (by omega)).mpr z; omega
          exact tw_iret rfl ⟨ggp339, Or.inr ⟨rfl, _, pE_0m (fun z => q329 ((sgn_k kp328 40 (by decide)).mpr z)) hnw hrm, up339⟩⟩
      · try dsimp only [tvI_i, tvJ_j, tvR_r] at q338
        refine tw_aload rfl rfl ?_
        refine tw_virt0 rfl (f_countOne hG hX (ggp330).1 ppp330 ((cFr_T ggp330).trans hT) ((cFr_n ggp330).trans hN)) (fun w9 hp345 p345 => ?_)
        obtain ⟨gp345, ⟨rfl, p345, ppp345, t3p345⟩ | ⟨rfl, xp345, p345, up345⟩⟩ := p345
        · have ggp345 := cFr_t ggp330 gp345
          have kwb := kwp330.1
          have hk12 : rW T n (rB T n (cs h).1) (rWd ip330.toInt.toNat) = true := (kwp330.2 ip330.toInt.toNat (by omega)).mp (by omega)
          have hEb : (rB T n (cs h).1) < rE T n (rB T n (cs h).1) := by have z := rE_ge (T := T) (n := n) (p := (rB T n (cs h).1) + 1); rw [← rE_y (rW_l (by omega) hk12)] at z; omega
          refine tw_if_eq rfl (fun z => absurd z (by decide)) (fun _ => ?_)
          refine tw_aload rfl rfl ?_
          refine tw_iload rfl rfl ?_
          refine tw_virt1 rfl (f_takeWord hG hX (ggp345).1 ppp345 ((cFr_T ggp345).trans hT) ((cFr_n ggp345).trans hN) (i := ip330) (k := ip330.toInt.toNat) (E := rE T n (rB T n (cs h).1)) (by have := kwp330.1; omega) (by omega) (by rw [t3p345]; exact eep330) (by rw [(rC_y p345).2]; show (cs hp330).1 < _; rw [ssp330]; exact hEb) (rE_le (rB_le hpn))) (fun wp346 hp346 p346 => ?_)
          obtain ⟨gp346, rfl, ssp346, ppp346⟩ := p346
          have ggp346 := cFr_t ggp345 gp346
          refine tw_if_eq rfl (fun z => absurd z (by decide)) (fun _ => ?_)
          refine tw_push rfl ?_
          refine tw_goto rfl ?_
          obtain ⟨hcn, hce⟩ := rC_y p345
          rw [ssp330] at hcn
          refine tw_iret rfl ⟨ggp346, Or.inl ⟨rfl, ?_, ppp346⟩⟩
          rw [ssp346, hce, ssp330]
          exact pE_0w (by omega) hk12 hcn
        · have ggp345 := cFr_t ggp330 gp345
          have kwb := kwp330.1
          have hk12 : rW T n (rB T n (cs h).1) (rWd ip330.toInt.toNat) = true := (kwp330.2 ip330.toInt.toNat (by omega)).mp (by omega)
          have hEb : (rB T n (cs h).1) < rE T n (rB T n (cs h).1) := by have z := rE_ge (T := T) (n := n) (p := (rB T n (cs h).1) + 1); rw [← rE_y (rW_l (by omega) hk12)] at z; omega
          refine tw_if_eq rfl (fun _ => ?_) (fun z => absurd z (by decide))
          refine tw_push rfl ?_
          obtain ⟨o1, o2⟩ := rC_n p345
          rw [ssp330] at o1 o2
          subst o2
          exact tw_iret rfl ⟨ggp345, Or.inr ⟨rfl, _, pE_0x (k := ip330.toInt.toNat) (by omega) hk12 o1, up345⟩⟩
  · try dsimp only [tvI_i, tvJ_j, tvR_r] at q329
    have q329i := zeqi (Y := 40) (by decide) q329
    refine tw_iload rfl rfl ?_
    refine tw_push rfl ?_
    refine tw_ic_ne rfl (fun q347 => ?_) (fun q347 => ?_)
    · try dsimp only [tvI_i, tvJ_j, tvR_r] at q347
      have q347i := zneq (Y := 10) (by decide) q347
      refine tw_aload rfl rfl ?_
      refine tw_virt0 rfl (f_countOne hG hX (ggp328).1 ppp328 ((cFr_T ggp328).trans hT) ((cFr_n ggp328).trans hN)) (fun w9 hp348 p348 => ?_)
      obtain ⟨gp348, ⟨rfl, p348, ppp348, t3p348⟩ | ⟨rfl, xp348, p348, up348⟩⟩ := p348
      · have ggp348 := cFr_t ggp328 gp348
        refine tw_if_ne rfl (fun _ => ?_) (fun z => absurd z (by decide))
        refine tw_aload rfl rfl ?_
        refine tw_dup rfl ?_
        refine tw_getS rfl (hi_44_2 ggp348.1) ?_
        refine tw_push rfl ?_
        refine tw_iadd rfl ?_
        refine tw_put rfl (fun f349 => ?_)
        refine tG_set f349 (hw_44_2 f349 (ggp348).1) (fun hf349 ef349 => ?_)
        try dsimp only [tvI_i] at ef349
        have gf349 := cFr_s ggp348 ef349 (by decide)
        obtain ⟨hcn, hce⟩ := rC_y p348
        have hw := (sgn_k kp328 40 (by decide)).mp q329
        have hlf349 : (cs hp348).1 < n := by rw [hce]; show (cs hp328).1 < n; rw [ssp328]; exact hw.1
        obtain ⟨pf349, sf349⟩ := cInc ppp348 hlf349 ((cFr_n ggp348).trans hN) ef349
        rw [hce, ssp328] at sf349
        refine tw_aload rfl rfl ?_
        refine tw_iload rfl rfl ?_
        refine tw_push rfl ?_
        refine tw_iadd rfl ?_
        refine tw_virt1p rfl (IH 3 83 (by decide) _ _ _ (d + 1) _ (gf349).1 pf349 ((cFr_T gf349).trans hT) ((cFr_n gf349).trans hN) (zd1 hx hd) (by omega)) (fun w9 hp350 p350 => ?_)
        obtain ⟨gp350, ⟨rfl, p350, ppp350⟩ | ⟨rfl, xp350, p350, up350⟩⟩ := p350
        · have ggp350 := cFr_t gf349 gp350
          refine tw_if_eq rfl (fun z => absurd z (by decide)) (fun _ => ?_)
          refine tw_aload rfl rfl ?_
          refine tw_push rfl ?_
          refine tw_virt1 rfl (f_takeSign hG hX (ggp350).1 ppp350 ((cFr_T ggp350).trans hT) ((cFr_n ggp350).trans hN) (y := 41) (by decide)) (fun w9 hp351 p351 => ?_)
          obtain ⟨gp351, ⟨rfl, p351, ppp351⟩ | ⟨rfl, xp351, p351, up351⟩⟩ := p351
          · have ggp351 := cFr_t ggp350 gp351
            refine tw_if_eq rfl (fun z => absurd z (by decide)) (fun _ => ?_)
            refine tw_push rfl ?_
            refine tw_goto rfl ?_
            have hw9 := ((sgn_k kp328 40 (by decide)).mp q329)
            have hd10 : d ≠ 10 := fun z => q347 (Int32.toInt_inj.mp (by rw [hx, z]; rfl))
            rw [ssp328] at hcn
            rw [sf349] at p350
            exact tw_iret rfl ⟨ggp351, Or.inl ⟨rfl, pE_0d hw9 hd10 hcn p350 p351, ppp351⟩⟩
          · have ggp351 := cFr_t ggp350 gp351
            refine tw_if_eq rfl (fun _ => ?_) (fun z => absurd z (by decide))
            refine tw_push rfl ?_
            have hw9 := ((sgn_k kp328 40 (by decide)).mp q329)
            have hd10 : d ≠ 10 := fun z => q347 (Int32.toInt_inj.mp (by rw [hx, z]; rfl))
            rw [ssp328] at hcn
            rw [sf349] at p350
            exact tw_iret rfl ⟨ggp351, Or.inr ⟨rfl, _, pE_0d hw9 hd10 hcn p350 p351, up351⟩⟩
        · have ggp350 := cFr_t gf349 gp350
          refine tw_if_eq rfl (fun _ => ?_) (fun z => absurd z (by decide))
          refine tw_push rfl ?_
          have hw9 := ((sgn_k kp328 40 (by decide)).mp q329)
          have hd10 : d ≠ 10 := fun z => q347 (Int32.toInt_inj.mp (by rw [hx, z]; rfl))
          rw [ssp328] at hcn
          rw [sf349] at p350
          exact tw_iret rfl ⟨ggp350, Or.inr ⟨rfl, _, pE_0c hw9 hd10 hcn p350, up350⟩⟩
      · have ggp348 := cFr_t ggp328 gp348
        refine tw_if_ne rfl (fun z => absurd z (by decide)) (fun _ => ?_)
        refine tw_push rfl ?_
        have hw9 := ((sgn_k kp328 40 (by decide)).mp q329)
        have hd10 : d ≠ 10 := fun z => q347 (Int32.toInt_inj.mp (by rw [hx, z]; rfl))
        obtain ⟨o1, o2⟩ := rC_n p348
        rw [ssp328] at o1 o2
        subst o2
        exact tw_iret rfl ⟨ggp348, Or.inr ⟨rfl, _, pE_0b hw9 hd10 o1, up348⟩⟩
    · try dsimp only [tvI_i, tvJ_j, tvR_r] at q347
      have q347i := zeqi (Y := 10) (by decide) q347
      refine tw_aload rfl rfl ?_
      refine tw_aload rfl rfl ?_
      refine tw_getS rfl (hi_44_2 ggp328.1) ?_
      refine tw_push rfl ?_
      refine tw_virt2 rfl (f_refuse hG hX (ggp328).1 ppp328 ((cFr_T ggp328).trans hT) ((cFr_n ggp328).trans hN)) (fun wp352 hp352 p352 => ?_)
      obtain ⟨gp352, rfl, up352⟩ := p352
      have ggp352 := cFr_t ggp328 gp352
      have hw9 := ((sgn_k kp328 40 (by decide)).mp q329)
      have hd10 : d = 10 := by have z : x.toInt = 10 := congrArg Int32.toInt q347; omega
      have hft := cFt_of ppp328 up352 (w := 2) rfl (by decide)
      rw [ssp328] at hft
      exact tw_iret rfl ⟨ggp352, Or.inr ⟨rfl, _, pE_0a hw9 hd10, hft⟩⟩
theorem wlen_k : (rWd 18).length = 3 ∧ (rWd 17).length = 2 ∧ (rWd 19).length = 3 ∧ (rWd 16).length = 2 := by decide +kernel
theorem f_readTerm {G : zG} (hG : G.1 = zProg) (hX : G.2.1 = ztx) {dp : Nat} (IH : cIH G dp) {h : zH} {T : Nat → Int32} {n : Nat} (hs : tSh h) (hp : cP h) (hT : tA h 45 = T) (hN : cn h = n) {x : Int32} {d : Nat} (hx : x.toInt = d) (hd : d ≤ 10) : tCp zTt G (dp + 1) 84 [.ref 44, .int x] h (cR T n 1 d h) := by
  refine tCp_in (by rw [hG]; rfl) ?_
  have g0 := cFr_r hs
  have hpn : (cs h).1 ≤ n := by rw [← hN]; exact cP_le hp
  have c129 : (12 : Int32).toInt = 12 := rfl
  have c4009 : (400 : Int32).toInt = 400 := rfl
  have c109 : (10 : Int32).toInt = 10 := rfl
  refine tw_aload rfl rfl ?_
  refine tw_iload rfl rfl ?_
  refine tw_virt1p rfl (IH 0 85 (by decide) _ _ _ d _ (g0).1 hp ((cFr_T g0).trans hT) ((cFr_n g0).trans hN) hx hd) (fun w9 hp353 p353 => ?_)
  obtain ⟨gp353, ⟨rfl, p353, ppp353⟩ | ⟨rfl, xp353, p353, up353⟩⟩ := p353
  · have ggp353 := cFr_t g0 gp353
    refine tw_if_ne rfl (fun _ => ?_) (fun z => absurd z (by decide))
    refine tw_push rfl ?_
    refine tw_istore rfl ?_
    refine tG_loop (zW_mono zTt G dp) (zW_conj zTt G dp) (V := fun pc L st h9 _ _ => pc = 12 ∧ st = [] ∧ ∃ (h1 : zH) (k : Nat) (y : Int32), h1 = h9 ∧ y.toInt = k ∧ k ≤ (cs h1).1 ∧ cFr h h1 ∧ cP h1 ∧ (∀ r, pE T n 2 d (cs h1) r → pE T n 1 d (cs h) r) ∧ L = [some (.ref 44), some (.int x), some (.int y)]) ?_ (⟨rfl, rfl, _, 0, _, rfl, rfl, Nat.zero_le _, ggp353, ppp353, fun r z => pE_q (by decide) p353 z, rfl⟩)
    rintro _ _ _ _ _ _ ⟨rfl, rfl, h1, k, y, rfl, hy, hk, g1, p1, hR, rfl⟩
    refine tw_iload rfl rfl ?_
    refine tw_push rfl ?_
    refine tw_ic_ge rfl (fun q354 => ?_) (fun q354 => ?_)
    · try dsimp only [tvI_i, tvJ_j, tvR_r] at q354
      refine tw_push rfl ?_
      have h4 : 400 ≤ (cs h1).1 := by omega
      have h5 := cP_400 p1
      rw [((cFr_n g1).trans hN)] at h5
      have h6 := rB_400 (T := T) (show n ≤ (cs h1).1 by omega)
      have h7 := pE_2n (T := T) (n := n) (d := d) (s := cs h1) (c400 (T := T) h4 (by have := cP_le p1; rw [((cFr_n g1).trans hN)] at this; exact this) h5)
      rw [h6] at h7
      exact tw_iret rfl ⟨g1, Or.inl ⟨rfl, hR _ h7, p1⟩⟩
    · try dsimp only [tvI_i, tvJ_j, tvR_r] at q354
      refine tw_aload rfl rfl ?_
      refine tw_virt0 rfl (f_signHere hG hX (g1).1 p1 ((cFr_T g1).trans hT) ((cFr_n g1).trans hN)) (fun wp355 hp355 p355 => ?_)
      obtain ⟨gp355, ppp355, ssp355, t3p355, cp355, rfl, kp355⟩ := p355
      have ggp355 := cFr_t g1 gp355
      refine tw_push rfl ?_
      refine tw_ic_ne rfl (fun q356 => ?_) (fun q356 => ?_)
      · try dsimp only [tvI_i, tvJ_j, tvR_r] at q356
        have q356i := zneq (Y := 42) (by decide) q356
        refine tw_push rfl ?_
        have h7 := pE_2n (T := T) (n := n) (d := d) (s := cs h1) (fun z => q356 ((sgn_k kp355 42 (by decide)).mpr z))
        rw [← ssp355] at h7
        exact tw_iret rfl ⟨ggp355, Or.inl ⟨rfl, hR _ h7, ppp355⟩⟩
      · try dsimp only [tvI_i, tvJ_j, tvR_r] at q356
        have q356i := zeqi (Y := 42) (by decide) q356
        refine tw_aload rfl rfl ?_
        refine tw_dup rfl ?_
        refine tw_getS rfl (hi_44_2 ggp355.1) ?_
        refine tw_push rfl ?_
        refine tw_iadd rfl ?_
        refine tw_put rfl (fun f357 => ?_)
        refine tG_set f357 (hw_44_2 f357 (ggp355).1) (fun hf357 ef357 => ?_)
        try dsimp only [tvI_i] at ef357
        have gf357 := cFr_s ggp355 ef357 (by decide)
        have hwf357 := ((sgn_k kp355 42 (by decide)).mp q356)
        have hlf357 : (cs hp355).1 < n := by rw [ssp355]; exact hwf357.1
        obtain ⟨pf357, sf357⟩ := cInc ppp355 hlf357 ((cFr_n ggp355).trans hN) ef357
        rw [ssp355] at sf357
        refine tw_aload rfl rfl ?_
        refine tw_iload rfl rfl ?_
        refine tw_virt1p rfl (IH 0 85 (by decide) _ _ _ d _ (gf357).1 pf357 ((cFr_T gf357).trans hT) ((cFr_n gf357).trans hN) hx hd) (fun w9 hp358 p358 => ?_)
        obtain ⟨gp358, ⟨rfl, p358, ppp358⟩ | ⟨rfl, xp358, p358, up358⟩⟩ := p358
        · have ggp358 := cFr_t gf357 gp358
          refine tw_if_ne rfl (fun _ => ?_) (fun z => absurd z (by decide))
          refine tw_aload rfl rfl ?_
          refine tw_push rfl ?_
          refine tw_virt1 rfl (f_putCode hG hX (ggp358).1 ppp358 ((cFr_T ggp358).trans hT) ((cFr_n ggp358).trans hN) (cHc ppp358 (by have z := cPe pf357 ((cFr_n gf357).trans hN) p358; have z2 := cP_len p1; have z3 := rB_ge (T := T) (n := n) (p := (cs h1).1); obtain ⟨z4, z5, z6⟩ := z; rw [sf357] at z4 z6; have z4 : (rB T n (cs h1).1) + 1 ≤ (cs hp358).1 := z4; have z6 : (rB T n (cs h1).1) + 1 + (cs hp358).2.2.length ≤ (cs hp358).1 + (cs h1).2.2.length := z6; omega))) (fun wp359 hp359 p359 => ?_)
          obtain ⟨gp359, rfl, ssp359, ppp359⟩ := p359
          have ggp359 := cFr_t ggp358 gp359
          refine tw_iinc rfl rfl ?_
          refine tw_goto rfl ?_
          have z := cPe pf357 ((cFr_n gf357).trans hN) p358
          have z3 := rB_ge (T := T) (n := n) (p := (cs h1).1)
          obtain ⟨z4, z5, z6⟩ := z
          have hon := p358
          rw [sf357] at z4 hon
          have z4 : (rB T n (cs h1).1) + 1 ≤ (cs hp358).1 := z4
          exact tG_cut (zW_mono zTt G dp) (Or.inr ⟨rfl, rfl, _, k + 1, _, rfl, zincL hy q354, (by rw [ssp359]; show k + 1 ≤ (cs hp358).1; omega), ggp359, ppp359, fun r w => hR r (pE_2y hwf357 hon (by rw [ssp359] at w; exact w)), rfl⟩)
        · have ggp358 := cFr_t gf357 gp358
          refine tw_if_ne rfl (fun z => absurd z (by decide)) (fun _ => ?_)
          refine tw_push rfl ?_
          have hoff := p358
          rw [sf357] at hoff
          exact tw_iret rfl ⟨ggp358, Or.inr ⟨rfl, _, hR _ (pE_2f hwf357 hoff), up358⟩⟩
  · have ggp353 := cFr_t g0 gp353
    refine tw_if_ne rfl (fun z => absurd z (by decide)) (fun _ => ?_)
    refine tw_push rfl ?_
    exact tw_iret rfl ⟨ggp353, Or.inr ⟨rfl, _, pE_qf (c := 2) (by decide) p353, up353⟩⟩
theorem f_readSum {G : zG} (hG : G.1 = zProg) (hX : G.2.1 = ztx) {dp : Nat} (IH : cIH G dp) {h : zH} {T : Nat → Int32} {n : Nat} (hs : tSh h) (hp : cP h) (hT : tA h 45 = T) (hN : cn h = n) {x : Int32} {d : Nat} (hx : x.toInt = d) (hd : d ≤ 10) : tCp zTt G (dp + 1) 83 [.ref 44, .int x] h (cR T n 3 d h) := by
  refine tCp_in (by rw [hG]; rfl) ?_
  have g0 := cFr_r hs
  have hpn : (cs h).1 ≤ n := by rw [← hN]; exact cP_le hp
  have c129 : (12 : Int32).toInt = 12 := rfl
  have c4009 : (400 : Int32).toInt = 400 := rfl
  have c109 : (10 : Int32).toInt = 10 := rfl
  refine tw_aload rfl rfl ?_
  refine tw_iload rfl rfl ?_
  refine tw_virt1p rfl (IH 1 84 (by decide) _ _ _ d _ (g0).1 hp ((cFr_T g0).trans hT) ((cFr_n g0).trans hN) hx hd) (fun w9 hp360 p360 => ?_)
  obtain ⟨gp360, ⟨rfl, p360, ppp360⟩ | ⟨rfl, xp360, p360, up360⟩⟩ := p360
  · have ggp360 := cFr_t g0 gp360
    refine tw_if_ne rfl (fun _ => ?_) (fun z => absurd z (by decide))
    refine tw_push rfl ?_
    refine tw_istore rfl ?_
    refine tG_loop (zW_mono zTt G dp) (zW_conj zTt G dp) (V := fun pc L st h9 _ _ => pc = 12 ∧ st = [] ∧ ∃ (h1 : zH) (k : Nat) (y : Int32) (v3 : Option Value), h1 = h9 ∧ y.toInt = k ∧ k ≤ (cs h1).1 ∧ cFr h h1 ∧ cP h1 ∧ (∀ r, pE T n 4 d (cs h1) r → pE T n 3 d (cs h) r) ∧ L = [some (.ref 44), some (.int x), some (.int y), v3]) ?_ (⟨rfl, rfl, _, 0, _, _, rfl, rfl, Nat.zero_le _, ggp360, ppp360, fun r z => pE_q (by decide) p360 z, rfl⟩)
    rintro _ _ _ _ _ _ ⟨rfl, rfl, h1, k, y, v3, rfl, hy, hk, g1, p1, hR, rfl⟩
    refine tw_iload rfl rfl ?_
    refine tw_push rfl ?_
    refine tw_ic_ge rfl (fun q361 => ?_) (fun q361 => ?_)
    · try dsimp only [tvI_i, tvJ_j, tvR_r] at q361
      refine tw_push rfl ?_
      have h4 : 400 ≤ (cs h1).1 := by omega
      have h5 := cP_400 p1
      rw [((cFr_n g1).trans hN)] at h5
      have h6 := rB_400 (T := T) (show n ≤ (cs h1).1 by omega)
      have h7 := pE_4n (T := T) (n := n) (d := d) (s := cs h1) (c400 (T := T) h4 (by have := cP_le p1; rw [((cFr_n g1).trans hN)] at this; exact this) h5) (c400 (T := T) h4 (by have := cP_le p1; rw [((cFr_n g1).trans hN)] at this; exact this) h5)
      rw [h6] at h7
      exact tw_iret rfl ⟨g1, Or.inl ⟨rfl, hR _ h7, p1⟩⟩
    · try dsimp only [tvI_i, tvJ_j, tvR_r] at q361
      refine tw_aload rfl rfl ?_
      refine tw_virt0 rfl (f_signHere hG hX (g1).1 p1 ((cFr_T g1).trans hT) ((cFr_n g1).trans hN)) (fun wp362 hp362 p362 => ?_)
      obtain ⟨gp362, ppp362, ssp362, t3p362, cp362, rfl, kp362⟩ := p362
      have ggp362 := cFr_t g1 gp362
      refine tw_istore rfl ?_
      refine tw_iload rfl rfl ?_
      refine tw_push rfl ?_
      refine tw_ic_eq rfl (fun q363 => ?_) (fun q363 => ?_)
      · try dsimp only [tvI_i, tvJ_j, tvR_r] at q363
        have q363i := zeqi (Y := 43) (by decide) q363
        refine tw_aload rfl rfl ?_
        refine tw_dup rfl ?_
        refine tw_getS rfl (hi_44_2 ggp362.1) ?_
        refine tw_push rfl ?_
        refine tw_iadd rfl ?_
        refine tw_put rfl (fun f364 => ?_)
        refine tG_set f364 (hw_44_2 f364 (ggp362).1) (fun hf364 ef364 => ?_)
        try dsimp only [tvI_i] at ef364
        have gf364 := cFr_s ggp362 ef364 (by decide)
        have hwf364 := ((sgn_k kp362 43 (by decide)).mp q363)
        have hlf364 : (cs hp362).1 < n := by rw [ssp362]; exact hwf364.1
        obtain ⟨pf364, sf364⟩ := cInc ppp362 hlf364 ((cFr_n ggp362).trans hN) ef364
        rw [ssp362] at sf364
        refine tw_aload rfl rfl ?_
        refine tw_iload rfl rfl ?_
        refine tw_virt1p rfl (IH 1 84 (by decide) _ _ _ d _ (gf364).1 pf364 ((cFr_T gf364).trans hT) ((cFr_n gf364).trans hN) hx hd) (fun w9 hp365 p365 => ?_)
        obtain ⟨gp365, ⟨rfl, p365, ppp365⟩ | ⟨rfl, xp365, p365, up365⟩⟩ := p365
        · have ggp365 := cFr_t gf364 gp365
          refine tw_if_ne rfl (fun _ => ?_) (fun z => absurd z (by decide))
          refine tw_aload rfl rfl ?_
          refine tw_iload rfl rfl ?_
          refine tw_push rfl ?_
          refine tw_ic_ne rfl (fun q366 => ?_) (fun q366 => ?_)
          · try dsimp only [tvI_i, tvJ_j, tvR_r] at q366
            have q366i := zneq (Y := 43) (by decide) q366
            exact absurd q363 q366
          · try dsimp only [tvI_i, tvJ_j, tvR_r] at q366
            have q366i := zeqi (Y := 43) (by decide) q366
            refine tw_push rfl ?_
            refine tw_goto rfl ?_
            refine tw_virt1 rfl (f_putCode hG hX (ggp365).1 ppp365 ((cFr_T ggp365).trans hT) ((cFr_n ggp365).trans hN) (cHc ppp365 (by have z := cPe pf364 ((cFr_n gf364).trans hN) p365; have z2 := cP_len p1; have z3 := rB_ge (T := T) (n := n) (p := (cs h1).1); obtain ⟨z4, z5, z6⟩ := z; rw [sf364] at z4 z6; have z4 : (rB T n (cs h1).1) + 1 ≤ (cs hp365).1 := z4; have z6 : (rB T n (cs h1).1) + 1 + (cs hp365).2.2.length ≤ (cs hp365).1 + (cs h1).2.2.length := z6; omega))) (fun wp367 hp367 p367 => ?_)
            obtain ⟨gp367, rfl, ssp367, ppp367⟩ := p367
            have ggp367 := cFr_t ggp365 gp367
            refine tw_iinc rfl rfl ?_
            refine tw_goto rfl ?_
            have z := cPe pf364 ((cFr_n gf364).trans hN) p365
            have z3 := rB_ge (T := T) (n := n) (p := (cs h1).1)
            obtain ⟨z4, z5, z6⟩ := z
            have hon := p365
            rw [sf364] at z4 hon
            have z4 : (rB T n (cs h1).1) + 1 ≤ (cs hp365).1 := z4
            exact tG_cut (zW_mono zTt G dp) (Or.inr ⟨rfl, rfl, _, k + 1, _, _, rfl, zincL hy q361, (by rw [ssp367]; show k + 1 ≤ (cs hp365).1; omega), ggp367, ppp367, fun r w => hR r (pE_4p hwf364 hon (by rw [ssp367] at w; exact w)), rfl⟩)
        · have ggp365 := cFr_t gf364 gp365
          refine tw_if_ne rfl (fun z => absurd z (by decide)) (fun _ => ?_)
          refine tw_push rfl ?_
          have hoff := p365
          rw [sf364] at hoff
          exact tw_iret rfl ⟨ggp365, Or.inr ⟨rfl, _, hR _ (pE_4pf hwf364 hoff), up365⟩⟩
      · try dsimp only [tvI_i, tvJ_j, tvR_r] at q363
        have q363i := zneq (Y := 43) (by decide) q363
        refine tw_iload rfl rfl ?_
        refine tw_push rfl ?_
        refine tw_ic_eq rfl (fun q368 => ?_) (fun q368 => ?_)
        · try dsimp only [tvI_i, tvJ_j, tvR_r] at q368
          have q368i := zeqi (Y := 45) (by decide) q368
          refine tw_aload rfl rfl ?_
          refine tw_dup rfl ?_
          refine tw_getS rfl (hi_44_2 ggp362.1) ?_
          refine tw_push rfl ?_
          refine tw_iadd rfl ?_
          refine tw_put rfl (fun f369 => ?_)
          refine tG_set f369 (hw_44_2 f369 (ggp362).1) (fun hf369 ef369 => ?_)
          try dsimp only [tvI_i] at ef369
          have gf369 := cFr_s ggp362 ef369 (by decide)
          have hwf369 := ((sgn_k kp362 45 (by decide)).mp q368)
          have hlf369 : (cs hp362).1 < n := by rw [ssp362]; exact hwf369.1
          obtain ⟨pf369, sf369⟩ := cInc ppp362 hlf369 ((cFr_n ggp362).trans hN) ef369
          rw [ssp362] at sf369
          refine tw_aload rfl rfl ?_
          refine tw_iload rfl rfl ?_
          refine tw_virt1p rfl (IH 1 84 (by decide) _ _ _ d _ (gf369).1 pf369 ((cFr_T gf369).trans hT) ((cFr_n gf369).trans hN) hx hd) (fun w9 hp370 p370 => ?_)
          obtain ⟨gp370, ⟨rfl, p370, ppp370⟩ | ⟨rfl, xp370, p370, up370⟩⟩ := p370
          · have ggp370 := cFr_t gf369 gp370
            refine tw_if_ne rfl (fun _ => ?_) (fun z => absurd z (by decide))
            refine tw_aload rfl rfl ?_
            refine tw_iload rfl rfl ?_
            refine tw_push rfl ?_
            refine tw_ic_ne rfl (fun q371 => ?_) (fun q371 => ?_)
            · try dsimp only [tvI_i, tvJ_j, tvR_r] at q371
              have q371i := zneq (Y := 43) (by decide) q371
              refine tw_push rfl ?_
              refine tw_virt1 rfl (f_putCode hG hX (ggp370).1 ppp370 ((cFr_T ggp370).trans hT) ((cFr_n ggp370).trans hN) (cHc ppp370 (by have z := cPe pf369 ((cFr_n gf369).trans hN) p370; have z2 := cP_len p1; have z3 := rB_ge (T := T) (n := n) (p := (cs h1).1); obtain ⟨z4, z5, z6⟩ := z; rw [sf369] at z4 z6; have z4 : (rB T n (cs h1).1) + 1 ≤ (cs hp370).1 := z4; have z6 : (rB T n (cs h1).1) + 1 + (cs hp370).2.2.length ≤ (cs hp370).1 + (cs h1).2.2.length := z6; omega))) (fun wp372 hp372 p372 => ?_)
              obtain ⟨gp372, rfl, ssp372, ppp372⟩ := p372
              have ggp372 := cFr_t ggp370 gp372
              refine tw_iinc rfl rfl ?_
              refine tw_goto rfl ?_
              have z := cPe pf369 ((cFr_n gf369).trans hN) p370
              have z3 := rB_ge (T := T) (n := n) (p := (cs h1).1)
              obtain ⟨z4, z5, z6⟩ := z
              have hon := p370
              rw [sf369] at z4 hon
              have z4 : (rB T n (cs h1).1) + 1 ≤ (cs hp370).1 := z4
              exact tG_cut (zW_mono zTt G dp) (Or.inr ⟨rfl, rfl, _, k + 1, _, _, rfl, zincL hy q361, (by rw [ssp372]; show k + 1 ≤ (cs hp370).1; omega), ggp372, ppp372, fun r w => hR r (pE_4m hwf369 hon (by rw [ssp372] at w; exact w)), rfl⟩)
            · try dsimp only [tvI_i, tvJ_j, tvR_r] at q371
              have q371i := zeqi (Y := 43) (by decide) q371
              exact absurd q371 q363
          · have ggp370 := cFr_t gf369 gp370
            refine tw_if_ne rfl (fun z => absurd z (by decide)) (fun _ => ?_)
            refine tw_push rfl ?_
            have hoff := p370
            rw [sf369] at hoff
            exact tw_iret rfl ⟨ggp370, Or.inr ⟨rfl, _, hR _ (pE_4mf hwf369 hoff), up370⟩⟩
        · try dsimp only [tvI_i, tvJ_j, tvR_r] at q368
          have q368i := zneq (Y := 45) (by decide) q368
          refine tw_goto rfl ?_
          refine tw_push rfl ?_
          have h7 := pE_4n (T := T) (n := n) (d := d) (s := cs h1) (fun z => q363 ((sgn_k kp362 43 (by decide)).mpr z)) (fun z => q368 ((sgn_k kp362 45 (by decide)).mpr z))
          rw [← ssp362] at h7
          exact tw_iret rfl ⟨ggp362, Or.inl ⟨rfl, hR _ h7, ppp362⟩⟩
  · have ggp360 := cFr_t g0 gp360
    refine tw_if_ne rfl (fun z => absurd z (by decide)) (fun _ => ?_)
    refine tw_push rfl ?_
    exact tw_iret rfl ⟨ggp360, Or.inr ⟨rfl, _, pE_qf (c := 4) (by decide) p360, up360⟩⟩
theorem f_readPart {G : zG} (hG : G.1 = zProg) (hX : G.2.1 = ztx) {dp : Nat} (IH : cIH G dp) {h : zH} {T : Nat → Int32} {n : Nat} (hs : tSh h) (hp : cP h) (hT : tA h 45 = T) (hN : cn h = n) {x : Int32} {d : Nat} (hx : x.toInt = d) (hd : d ≤ 10) : tCp zTt G (dp + 1) 79 [.ref 44, .int x] h (cR T n 7 d h) := by
  refine tCp_in (by rw [hG]; rfl) ?_
  have g0 := cFr_r hs
  have hpn : (cs h).1 ≤ n := by rw [← hN]; exact cP_le hp
  have c129 : (12 : Int32).toInt = 12 := rfl
  have c4009 : (400 : Int32).toInt = 400 := rfl
  have c109 : (10 : Int32).toInt = 10 := rfl
  refine tw_aload rfl rfl ?_
  refine tw_iload rfl rfl ?_
  refine tw_virt1p rfl (IH 6 80 (by decide) _ _ _ d _ (g0).1 hp ((cFr_T g0).trans hT) ((cFr_n g0).trans hN) hx hd) (fun w9 hp373 p373 => ?_)
  obtain ⟨gp373, ⟨rfl, p373, ppp373⟩ | ⟨rfl, xp373, p373, up373⟩⟩ := p373
  · have ggp373 := cFr_t g0 gp373
    refine tw_if_ne rfl (fun _ => ?_) (fun z => absurd z (by decide))
    refine tw_push rfl ?_
    refine tw_istore rfl ?_
    refine tG_loop (zW_mono zTt G dp) (zW_conj zTt G dp) (V := fun pc L st h9 _ _ => pc = 12 ∧ st = [] ∧ ∃ (h1 : zH) (k : Nat) (y : Int32), h1 = h9 ∧ y.toInt = k ∧ k ≤ (cs h1).1 ∧ cFr h h1 ∧ cP h1 ∧ (∀ r, pE T n 8 d (cs h1) r → pE T n 7 d (cs h) r) ∧ L = [some (.ref 44), some (.int x), some (.int y)]) ?_ (⟨rfl, rfl, _, 0, _, rfl, rfl, Nat.zero_le _, ggp373, ppp373, fun r z => pE_q (by decide) p373 z, rfl⟩)
    rintro _ _ _ _ _ _ ⟨rfl, rfl, h1, k, y, rfl, hy, hk, g1, p1, hR, rfl⟩
    refine tw_iload rfl rfl ?_
    refine tw_push rfl ?_
    refine tw_ic_ge rfl (fun q374 => ?_) (fun q374 => ?_)
    · try dsimp only [tvI_i, tvJ_j, tvR_r] at q374
      refine tw_push rfl ?_
      have h4 : 400 ≤ (cs h1).1 := by omega
      have h5 := cP_400 p1
      rw [((cFr_n g1).trans hN)] at h5
      have h6 := rB_400 (T := T) (show n ≤ (cs h1).1 by omega)
      have h7 := pE_8n (T := T) (n := n) (d := d) (s := cs h1) (w400 (by decide) (by rw [h6]; omega))
      rw [h6] at h7
      exact tw_iret rfl ⟨g1, Or.inl ⟨rfl, hR _ h7, p1⟩⟩
    · try dsimp only [tvI_i, tvJ_j, tvR_r] at q374
      refine tw_aload rfl rfl ?_
      refine tw_virt0 rfl (f_wordHere hG hX (g1).1 p1 ((cFr_T g1).trans hT) ((cFr_n g1).trans hN)) (fun wp375 hp375 p375 => ?_)
      obtain ⟨gp375, ppp375, ssp375, eep375, ip375, rfl, kwp375⟩ := p375
      have ggp375 := cFr_t g1 gp375
      refine tw_push rfl ?_
      refine tw_ic_ne rfl (fun q376 => ?_) (fun q376 => ?_)
      · try dsimp only [tvI_i, tvJ_j, tvR_r] at q376
        have q376i := zneq (Y := 18) (by decide) q376
        refine tw_push rfl ?_
        have h7 := pE_8n (T := T) (n := n) (d := d) (s := cs h1) (fun z => q376 ((wrd_k (k := 18) kwp375 (by decide) (K := 18) rfl).mpr z))
        rw [← ssp375] at h7
        exact tw_iret rfl ⟨ggp375, Or.inl ⟨rfl, hR _ h7, ppp375⟩⟩
      · try dsimp only [tvI_i, tvJ_j, tvR_r] at q376
        have q376i := zeqi (Y := 18) (by decide) q376
        refine tw_aload rfl rfl ?_
        refine tw_aload rfl rfl ?_
        refine tw_getS rfl (hi_44_3 ggp375.1) ?_
        refine tw_put rfl (fun f377 => ?_)
        refine tG_set f377 (hw_44_2 f377 (ggp375).1) (fun hf377 ef377 => ?_)
        try dsimp only [tvI_i] at ef377
        have gf377 := cFr_s ggp375 ef377 (by decide)
        have hwf377 := ((wrd_k (k := 18) kwp375 (by decide) (K := 18) rfl).mp q376)
        have h9wf377 : rE T n (rB T n (cs h1).1) = (rB T n (cs h1).1) + 3 := by rw [rW_e hwf377, wlen_k.1]
        rw [h9wf377] at eep375
        have hp1n : (cs h1).1 ≤ n := by rw [← ((cFr_n g1).trans hN)]; exact cP_le p1
        have hr9f377 := rE_le (T := T) (rB_le (T := T) hp1n)
        rw [h9wf377] at hr9f377
        obtain ⟨pf377, sf377⟩ := cTo ppp375 ((cFr_n ggp375).trans hN) ef377 eep375 (by rw [ssp375]; exact Nat.le_add_right _ _) hr9f377
        rw [ssp375] at sf377
        refine tw_aload rfl rfl ?_
        refine tw_iload rfl rfl ?_
        refine tw_virt1p rfl (IH 6 80 (by decide) _ _ _ d _ (gf377).1 pf377 ((cFr_T gf377).trans hT) ((cFr_n gf377).trans hN) hx hd) (fun w9 hp378 p378 => ?_)
        obtain ⟨gp378, ⟨rfl, p378, ppp378⟩ | ⟨rfl, xp378, p378, up378⟩⟩ := p378
        · have ggp378 := cFr_t gf377 gp378
          refine tw_if_ne rfl (fun _ => ?_) (fun z => absurd z (by decide))
          refine tw_aload rfl rfl ?_
          refine tw_push rfl ?_
          refine tw_virt1 rfl (f_putCode hG hX (ggp378).1 ppp378 ((cFr_T ggp378).trans hT) ((cFr_n ggp378).trans hN) (cHc ppp378 (by have z := cPe pf377 ((cFr_n gf377).trans hN) p378; have z2 := cP_len p1; have z3 := rB_ge (T := T) (n := n) (p := (cs h1).1); obtain ⟨z4, z5, z6⟩ := z; rw [sf377] at z4 z6; have z4 : (rB T n (cs h1).1) + 3 ≤ (cs hp378).1 := z4; have z6 : (rB T n (cs h1).1) + 3 + (cs hp378).2.2.length ≤ (cs hp378).1 + (cs h1).2.2.length := z6; omega))) (fun wp379 hp379 p379 => ?_)
          obtain ⟨gp379, rfl, ssp379, ppp379⟩ := p379
          have ggp379 := cFr_t ggp378 gp379
          refine tw_iinc rfl rfl ?_
          refine tw_goto rfl ?_
          have z := cPe pf377 ((cFr_n gf377).trans hN) p378
          have z3 := rB_ge (T := T) (n := n) (p := (cs h1).1)
          obtain ⟨z4, z5, z6⟩ := z
          have hon := p378
          rw [sf377] at z4 hon
          have z4 : (rB T n (cs h1).1) + 3 ≤ (cs hp378).1 := z4
          exact tG_cut (zW_mono zTt G dp) (Or.inr ⟨rfl, rfl, _, k + 1, _, rfl, zincL hy q374, (by rw [ssp379]; show k + 1 ≤ (cs hp378).1; omega), ggp379, ppp379, fun r w => hR r (pE_8y hwf377 hon (by rw [ssp379] at w; exact w)), rfl⟩)
        · have ggp378 := cFr_t gf377 gp378
          refine tw_if_ne rfl (fun z => absurd z (by decide)) (fun _ => ?_)
          refine tw_push rfl ?_
          have hoff := p378
          rw [sf377] at hoff
          exact tw_iret rfl ⟨ggp378, Or.inr ⟨rfl, _, hR _ (pE_8f hwf377 hoff), up378⟩⟩
  · have ggp373 := cFr_t g0 gp373
    refine tw_if_ne rfl (fun z => absurd z (by decide)) (fun _ => ?_)
    refine tw_push rfl ?_
    exact tw_iret rfl ⟨ggp373, Or.inr ⟨rfl, _, pE_qf (c := 8) (by decide) p373, up373⟩⟩
theorem f_readTest {G : zG} (hG : G.1 = zProg) (hX : G.2.1 = ztx) {dp : Nat} (IH : cIH G dp) {h : zH} {T : Nat → Int32} {n : Nat} (hs : tSh h) (hp : cP h) (hT : tA h 45 = T) (hN : cn h = n) {x : Int32} {d : Nat} (hx : x.toInt = d) (hd : d ≤ 10) : tCp zTt G (dp + 1) 78 [.ref 44, .int x] h (cR T n 9 d h) := by
  refine tCp_in (by rw [hG]; rfl) ?_
  have g0 := cFr_r hs
  have hpn : (cs h).1 ≤ n := by rw [← hN]; exact cP_le hp
  have c129 : (12 : Int32).toInt = 12 := rfl
  have c4009 : (400 : Int32).toInt = 400 := rfl
  have c109 : (10 : Int32).toInt = 10 := rfl
  refine tw_aload rfl rfl ?_
  refine tw_iload rfl rfl ?_
  refine tw_virt1p rfl (IH 7 79 (by decide) _ _ _ d _ (g0).1 hp ((cFr_T g0).trans hT) ((cFr_n g0).trans hN) hx hd) (fun w9 hp380 p380 => ?_)
  obtain ⟨gp380, ⟨rfl, p380, ppp380⟩ | ⟨rfl, xp380, p380, up380⟩⟩ := p380
  · have ggp380 := cFr_t g0 gp380
    refine tw_if_ne rfl (fun _ => ?_) (fun z => absurd z (by decide))
    refine tw_push rfl ?_
    refine tw_istore rfl ?_
    refine tG_loop (zW_mono zTt G dp) (zW_conj zTt G dp) (V := fun pc L st h9 _ _ => pc = 12 ∧ st = [] ∧ ∃ (h1 : zH) (k : Nat) (y : Int32), h1 = h9 ∧ y.toInt = k ∧ k ≤ (cs h1).1 ∧ cFr h h1 ∧ cP h1 ∧ (∀ r, pE T n 10 d (cs h1) r → pE T n 9 d (cs h) r) ∧ L = [some (.ref 44), some (.int x), some (.int y)]) ?_ (⟨rfl, rfl, _, 0, _, rfl, rfl, Nat.zero_le _, ggp380, ppp380, fun r z => pE_q (by decide) p380 z, rfl⟩)
    rintro _ _ _ _ _ _ ⟨rfl, rfl, h1, k, y, rfl, hy, hk, g1, p1, hR, rfl⟩
    refine tw_iload rfl rfl ?_
    refine tw_push rfl ?_
    refine tw_ic_ge rfl (fun q381 => ?_) (fun q381 => ?_)
    · try dsimp only [tvI_i, tvJ_j, tvR_r] at q381
      refine tw_push rfl ?_
      have h4 : 400 ≤ (cs h1).1 := by omega
      have h5 := cP_400 p1
      rw [((cFr_n g1).trans hN)] at h5
      have h6 := rB_400 (T := T) (show n ≤ (cs h1).1 by omega)
      have h7 := pE_10n (T := T) (n := n) (d := d) (s := cs h1) (w400 (by decide) (by rw [h6]; omega))
      rw [h6] at h7
      exact tw_iret rfl ⟨g1, Or.inl ⟨rfl, hR _ h7, p1⟩⟩
    · try dsimp only [tvI_i, tvJ_j, tvR_r] at q381
      refine tw_aload rfl rfl ?_
      refine tw_virt0 rfl (f_wordHere hG hX (g1).1 p1 ((cFr_T g1).trans hT) ((cFr_n g1).trans hN)) (fun wp382 hp382 p382 => ?_)
      obtain ⟨gp382, ppp382, ssp382, eep382, ip382, rfl, kwp382⟩ := p382
      have ggp382 := cFr_t g1 gp382
      refine tw_push rfl ?_
      refine tw_ic_ne rfl (fun q383 => ?_) (fun q383 => ?_)
      · try dsimp only [tvI_i, tvJ_j, tvR_r] at q383
        have q383i := zneq (Y := 17) (by decide) q383
        refine tw_push rfl ?_
        have h7 := pE_10n (T := T) (n := n) (d := d) (s := cs h1) (fun z => q383 ((wrd_k (k := 17) kwp382 (by decide) (K := 17) rfl).mpr z))
        rw [← ssp382] at h7
        exact tw_iret rfl ⟨ggp382, Or.inl ⟨rfl, hR _ h7, ppp382⟩⟩
      · try dsimp only [tvI_i, tvJ_j, tvR_r] at q383
        have q383i := zeqi (Y := 17) (by decide) q383
        refine tw_aload rfl rfl ?_
        refine tw_aload rfl rfl ?_
        refine tw_getS rfl (hi_44_3 ggp382.1) ?_
        refine tw_put rfl (fun f384 => ?_)
        refine tG_set f384 (hw_44_2 f384 (ggp382).1) (fun hf384 ef384 => ?_)
        try dsimp only [tvI_i] at ef384
        have gf384 := cFr_s ggp382 ef384 (by decide)
        have hwf384 := ((wrd_k (k := 17) kwp382 (by decide) (K := 17) rfl).mp q383)
        have h9wf384 : rE T n (rB T n (cs h1).1) = (rB T n (cs h1).1) + 2 := by rw [rW_e hwf384, wlen_k.2.1]
        rw [h9wf384] at eep382
        have hp1n : (cs h1).1 ≤ n := by rw [← ((cFr_n g1).trans hN)]; exact cP_le p1
        have hr9f384 := rE_le (T := T) (rB_le (T := T) hp1n)
        rw [h9wf384] at hr9f384
        obtain ⟨pf384, sf384⟩ := cTo ppp382 ((cFr_n ggp382).trans hN) ef384 eep382 (by rw [ssp382]; exact Nat.le_add_right _ _) hr9f384
        rw [ssp382] at sf384
        refine tw_aload rfl rfl ?_
        refine tw_iload rfl rfl ?_
        refine tw_virt1p rfl (IH 7 79 (by decide) _ _ _ d _ (gf384).1 pf384 ((cFr_T gf384).trans hT) ((cFr_n gf384).trans hN) hx hd) (fun w9 hp385 p385 => ?_)
        obtain ⟨gp385, ⟨rfl, p385, ppp385⟩ | ⟨rfl, xp385, p385, up385⟩⟩ := p385
        · have ggp385 := cFr_t gf384 gp385
          refine tw_if_ne rfl (fun _ => ?_) (fun z => absurd z (by decide))
          refine tw_aload rfl rfl ?_
          refine tw_push rfl ?_
          refine tw_virt1 rfl (f_putCode hG hX (ggp385).1 ppp385 ((cFr_T ggp385).trans hT) ((cFr_n ggp385).trans hN) (cHc ppp385 (by have z := cPe pf384 ((cFr_n gf384).trans hN) p385; have z2 := cP_len p1; have z3 := rB_ge (T := T) (n := n) (p := (cs h1).1); obtain ⟨z4, z5, z6⟩ := z; rw [sf384] at z4 z6; have z4 : (rB T n (cs h1).1) + 2 ≤ (cs hp385).1 := z4; have z6 : (rB T n (cs h1).1) + 2 + (cs hp385).2.2.length ≤ (cs hp385).1 + (cs h1).2.2.length := z6; omega))) (fun wp386 hp386 p386 => ?_)
          obtain ⟨gp386, rfl, ssp386, ppp386⟩ := p386
          have ggp386 := cFr_t ggp385 gp386
          refine tw_iinc rfl rfl ?_
          refine tw_goto rfl ?_
          have z := cPe pf384 ((cFr_n gf384).trans hN) p385
          have z3 := rB_ge (T := T) (n := n) (p := (cs h1).1)
          obtain ⟨z4, z5, z6⟩ := z
          have hon := p385
          rw [sf384] at z4 hon
          have z4 : (rB T n (cs h1).1) + 2 ≤ (cs hp385).1 := z4
          exact tG_cut (zW_mono zTt G dp) (Or.inr ⟨rfl, rfl, _, k + 1, _, rfl, zincL hy q381, (by rw [ssp386]; show k + 1 ≤ (cs hp385).1; omega), ggp386, ppp386, fun r w => hR r (pE_10y hwf384 hon (by rw [ssp386] at w; exact w)), rfl⟩)
        · have ggp385 := cFr_t gf384 gp385
          refine tw_if_ne rfl (fun z => absurd z (by decide)) (fun _ => ?_)
          refine tw_push rfl ?_
          have hoff := p385
          rw [sf384] at hoff
          exact tw_iret rfl ⟨ggp385, Or.inr ⟨rfl, _, hR _ (pE_10f hwf384 hoff), up385⟩⟩
  · have ggp380 := cFr_t g0 gp380
    refine tw_if_ne rfl (fun z => absurd z (by decide)) (fun _ => ?_)
    refine tw_push rfl ?_
    exact tw_iret rfl ⟨ggp380, Or.inr ⟨rfl, _, pE_qf (c := 10) (by decide) p380, up380⟩⟩
theorem f_readComparison {G : zG} (hG : G.1 = zProg) (hX : G.2.1 = ztx) {dp : Nat} (IH : cIH G dp) {h : zH} {T : Nat → Int32} {n : Nat} (hs : tSh h) (hp : cP h) (hT : tA h 45 = T) (hN : cn h = n) {x : Int32} {d : Nat} (hx : x.toInt = d) (hd : d ≤ 10) : tCp zTt G (dp + 1) 81 [.ref 44, .int x] h (cR T n 5 d h) := by
  refine tCp_in (by rw [hG]; rfl) ?_
  have g0 := cFr_r hs
  have hpn : (cs h).1 ≤ n := by rw [← hN]; exact cP_le hp
  have c129 : (12 : Int32).toInt = 12 := rfl
  have c4009 : (400 : Int32).toInt = 400 := rfl
  have c109 : (10 : Int32).toInt = 10 := rfl
  refine tw_aload rfl rfl ?_
  refine tw_iload rfl rfl ?_
  refine tw_virt1p rfl (IH 3 83 (by decide) _ _ _ d _ (g0).1 hp ((cFr_T g0).trans hT) ((cFr_n g0).trans hN) hx hd) (fun w9 hp387 p387 => ?_)
  obtain ⟨gp387, ⟨rfl, p387, ppp387⟩ | ⟨rfl, xp387, p387, up387⟩⟩ := p387
  · have ggp387 := cFr_t g0 gp387
    refine tw_if_ne rfl (fun _ => ?_) (fun z => absurd z (by decide))
    refine tw_aload rfl rfl ?_
    refine tw_virt0 rfl (f_comparisonHere hG hX (ggp387).1 ppp387 ((cFr_T ggp387).trans hT) ((cFr_n ggp387).trans hN)) (fun w9 hp388 p388 => ?_)
    obtain ⟨gp388, ⟨vp388, p388, c8p388, rfl, ssp388, ppp388⟩ | ⟨rfl, xp388, up388, p388⟩⟩ := p388
    · have ggp388 := cFr_t ggp387 gp388
      refine tw_istore rfl ?_
      refine tw_iload rfl rfl ?_
      refine tw_push rfl ?_
      refine tw_ic_eq rfl (fun q389 => ?_) (fun q389 => ?_)
      · try dsimp only [tvI_i, tvJ_j, tvR_r] at q389
        have q389i := zeqi (Y := (-1)) (by decide) q389
        exact absurd q389 (zoN9 (by have := (rCm_r p388).2.1; omega))
      · try dsimp only [tvI_i, tvJ_j, tvR_r] at q389
        have q389i := zneq (Y := (-1)) (by decide) q389
        refine tw_aload rfl rfl ?_
        refine tw_iload rfl rfl ?_
        refine tw_virt1p rfl (IH 3 83 (by decide) _ _ _ d _ (ggp388).1 ppp388 ((cFr_T ggp388).trans hT) ((cFr_n ggp388).trans hN) hx hd) (fun w9 hp390 p390 => ?_)
        obtain ⟨gp390, ⟨rfl, p390, ppp390⟩ | ⟨rfl, xp390, p390, up390⟩⟩ := p390
        · have ggp390 := cFr_t ggp388 gp390
          refine tw_if_ne rfl (fun _ => ?_) (fun z => absurd z (by decide))
          refine tw_aload rfl rfl ?_
          refine tw_iload rfl rfl ?_
          refine tw_virt1 rfl (f_putCode hG hX (ggp390).1 ppp390 ((cFr_T ggp390).trans hT) ((cFr_n ggp390).trans hN) (cHc ppp390 (by have z := cPe ppp388 ((cFr_n ggp388).trans hN) p390; have z1 := cP_len ppp387; have z3 := rB_ge (T := T) (n := n) (p := (cs hp387).1); have z7 := (rCm_r p388).2.2; obtain ⟨z4, z5, z6⟩ := z; rw [ssp388] at z4 z6; have z4 : vp388.2 ≤ (cs hp390).1 := z4; have z6 : vp388.2 + (cs hp390).2.2.length ≤ (cs hp390).1 + (cs hp387).2.2.length := z6; omega))) (fun wp391 hp391 p391 => ?_)
          obtain ⟨gp391, rfl, ssp391, ppp391⟩ := p391
          have ggp391 := cFr_t ggp390 gp391
          refine tw_push rfl ?_
          have ho := p390
          rw [ssp388] at ho
          refine tw_iret rfl ⟨ggp391, Or.inl ⟨rfl, ?_, ppp391⟩⟩
          rw [ssp391]
          show pE T n 5 d (cs h) (.inr (rU (Int32.ofNat vp388.1).toNatClampNeg _))
          rw [zoN (v := vp388.1) (by have := (rCm_r p388).2.1; omega)]
          exact pE_5e p387 p388 c8p388 ho
        · have ggp390 := cFr_t ggp388 gp390
          refine tw_if_ne rfl (fun z => absurd z (by decide)) (fun _ => ?_)
          refine tw_push rfl ?_
          have ho := p390
          rw [ssp388] at ho
          exact tw_iret rfl ⟨ggp390, Or.inr ⟨rfl, _, pE_5d p387 p388 c8p388 ho, up390⟩⟩
    · have ggp388 := cFr_t ggp387 gp388
      refine tw_istore rfl ?_
      refine tw_iload rfl rfl ?_
      refine tw_push rfl ?_
      refine tw_ic_eq rfl (fun _ => ?_) (fun z => absurd z (by decide))
      refine tw_push rfl ?_
      rcases p388 with ⟨a1, rfl⟩ | ⟨q9, a1, a2, rfl⟩
      · exact tw_iret rfl ⟨ggp388, Or.inr ⟨rfl, _, pE_5b p387 a1, up388⟩⟩
      · exact tw_iret rfl ⟨ggp388, Or.inr ⟨rfl, _, pE_5c p387 a1 a2, up388⟩⟩
  · have ggp387 := cFr_t g0 gp387
    refine tw_if_ne rfl (fun z => absurd z (by decide)) (fun _ => ?_)
    refine tw_push rfl ?_
    exact tw_iret rfl ⟨ggp387, Or.inr ⟨rfl, _, pE_5a p387, up387⟩⟩
theorem f_readFact {G : zG} (hG : G.1 = zProg) (hX : G.2.1 = ztx) {dp : Nat} (IH : cIH G dp) {h : zH} {T : Nat → Int32} {n : Nat} (hs : tSh h) (hp : cP h) (hT : tA h 45 = T) (hN : cn h = n) {x : Int32} {d : Nat} (hx : x.toInt = d) (hd : d ≤ 10) : tCp zTt G (dp + 1) 80 [.ref 44, .int x] h (cR T n 6 d h) := by
  refine tCp_in (by rw [hG]; rfl) ?_
  have g0 := cFr_r hs
  have hpn : (cs h).1 ≤ n := by rw [← hN]; exact cP_le hp
  have c129 : (12 : Int32).toInt = 12 := rfl
  have c4009 : (400 : Int32).toInt = 400 := rfl
  have c109 : (10 : Int32).toInt = 10 := rfl
  refine tw_aload rfl rfl ?_
  refine tw_virt0 rfl (f_wordHere hG hX (g0).1 hp ((cFr_T g0).trans hT) ((cFr_n g0).trans hN)) (fun wp392 hp392 p392 => ?_)
  obtain ⟨gp392, ppp392, ssp392, eep392, ip392, rfl, kwp392⟩ := p392
  have ggp392 := cFr_t g0 gp392
  refine tw_push rfl ?_
  refine tw_ic_ne rfl (fun q393 => ?_) (fun q393 => ?_)
  · try dsimp only [tvI_i, tvJ_j, tvR_r] at q393
    have q393i := zneq (Y := 19) (by decide) q393
    refine tw_push rfl ?_
    refine tw_istore rfl ?_
    refine tw_aload rfl rfl ?_
    refine tw_virt0 rfl (f_signHere hG hX (ggp392).1 ppp392 ((cFr_T ggp392).trans hT) ((cFr_n ggp392).trans hN)) (fun wp394 hp394 p394 => ?_)
    obtain ⟨gp394, ppp394, ssp394, t3p394, cp394, rfl, kp394⟩ := p394
    have ggp394 := cFr_t ggp392 gp394
    refine tw_push rfl ?_
    refine tw_ic_ne rfl (fun q395 => ?_) (fun q395 => ?_)
    · try dsimp only [tvI_i, tvJ_j, tvR_r] at q395
      have q395i := zneq (Y := 91) (by decide) q395
      refine tw_push rfl ?_
      refine tw_istore rfl ?_
      refine tw_iload rfl rfl ?_
      refine tw_if_ne rfl (fun z => absurd z (by decide)) (fun _ => ?_)
      refine tw_iload rfl rfl ?_
      refine tw_if_ne rfl (fun z => absurd z (by decide)) (fun _ => ?_)
      refine tw_aload rfl rfl ?_
      refine tw_iload rfl rfl ?_
      refine tw_virt1p rfl (IH 5 81 (by decide) _ _ _ d _ (ggp394).1 ppp394 ((cFr_T ggp394).trans hT) ((cFr_n ggp394).trans hN) hx hd) (fun w9 hp396 p396 => ?_)
      obtain ⟨gp396, ⟨rfl, p396, ppp396⟩ | ⟨rfl, xp396, p396, up396⟩⟩ := p396
      · have ggp396 := cFr_t ggp394 gp396
        have hK := (sgn_k kp394 91 (by decide))
        rw [ssp392, show (rA (rB T n (cs h).1) (cs h)).1 = (rB T n (cs h).1) from rfl, rB_2] at hK
        have hss : cs hp394 = rA (rB T n (cs h).1) (cs h) := by rw [ssp394, ssp392]; show rA (rB T n (rB T n (cs h).1)) _ = _; rw [rB_2]; rfl
        have ho := p396
        rw [hss] at ho
        exact tw_iret rfl ⟨ggp396, Or.inl ⟨rfl, (pE_6h (fun z => q393 ((wrd_k (k := 19) kwp392 (by decide) (K := 19) rfl).mpr z)) (fun z => q395 (hK.mpr z)) ho), ppp396⟩⟩
      · have ggp396 := cFr_t ggp394 gp396
        have hK := (sgn_k kp394 91 (by decide))
        rw [ssp392, show (rA (rB T n (cs h).1) (cs h)).1 = (rB T n (cs h).1) from rfl, rB_2] at hK
        have hss : cs hp394 = rA (rB T n (cs h).1) (cs h) := by rw [ssp394, ssp392]; show rA (rB T n (rB T n (cs h).1)) _ = _; rw [rB_2]; rfl
        have ho := p396
        rw [hss] at ho
        exact tw_iret rfl ⟨ggp396, Or.inr ⟨rfl, _, (pE_6h (fun z => q393 ((wrd_k (k := 19) kwp392 (by decide) (K := 19) rfl).mpr z)) (fun z => q395 (hK.mpr z)) ho), up396⟩⟩
    · try dsimp only [tvI_i, tvJ_j, tvR_r] at q395
      have q395i := zeqi (Y := 91) (by decide) q395
      refine tw_push rfl ?_
      refine tw_goto rfl ?_
      refine tw_istore rfl ?_
      refine tw_iload rfl rfl ?_
      refine tw_if_ne rfl (fun z => absurd z (by decide)) (fun _ => ?_)
      refine tw_iload rfl rfl ?_
      refine tw_if_ne rfl (fun _ => ?_) (fun z => absurd z (by decide))
      refine tw_iload rfl rfl ?_
      refine tw_push rfl ?_
      refine tw_ic_ne rfl (fun q397 => ?_) (fun q397 => ?_)
      · try dsimp only [tvI_i, tvJ_j, tvR_r] at q397
        have q397i := zneq (Y := 10) (by decide) q397
        refine tw_iload rfl rfl ?_
        refine tw_if_eq rfl (fun z => absurd z (by decide)) (fun _ => ?_)
        refine tw_aload rfl rfl ?_
        refine tw_dup rfl ?_
        refine tw_getS rfl (hi_44_2 ggp394.1) ?_
        refine tw_push rfl ?_
        refine tw_iadd rfl ?_
        refine tw_put rfl (fun f398 => ?_)
        refine tG_set f398 (hw_44_2 f398 (ggp394).1) (fun hf398 ef398 => ?_)
        try dsimp only [tvI_i] at ef398
        have gf398 := cFr_s ggp394 ef398 (by decide)
        have hw9 : (rB T n (cs h).1) < n ∧ T (rB T n (cs h).1) = 91 := by have z := (sgn_k kp394 91 (by decide)).mp q395; rw [ssp392] at z; rw [show (rA (rB T n (cs h).1) (cs h)).1 = (rB T n (cs h).1) from rfl, rB_2] at z; exact z
        have hlf398 : (cs hp394).1 < n := by rw [ssp394, ssp392]; show rB T n (rB T n (cs h).1) < n; rw [rB_2]; exact hw9.1
        obtain ⟨pf398, sf398⟩ := cInc ppp394 hlf398 ((cFr_n ggp394).trans hN) ef398
        rw [ssp394, ssp392] at sf398
        have sf398 : cs hf398 = rA ((rB T n (cs h).1) + 1) (cs h) := by rw [sf398]; show rA (rB T n (rB T n (cs h).1) + 1) _ = _; rw [rB_2]; rfl
        refine tw_aload rfl rfl ?_
        refine tw_iload rfl rfl ?_
        refine tw_push rfl ?_
        refine tw_iadd rfl ?_
        refine tw_virt1p rfl (IH 9 78 (by decide) _ _ _ (d + 1) _ (gf398).1 pf398 ((cFr_T gf398).trans hT) ((cFr_n gf398).trans hN) (zd1 hx hd) (by omega)) (fun w9 hp399 p399 => ?_)
        obtain ⟨gp399, ⟨rfl, p399, ppp399⟩ | ⟨rfl, xp399, p399, up399⟩⟩ := p399
        · have ggp399 := cFr_t gf398 gp399
          refine tw_if_eq rfl (fun z => absurd z (by decide)) (fun _ => ?_)
          refine tw_aload rfl rfl ?_
          refine tw_push rfl ?_
          refine tw_virt1 rfl (f_takeSign hG hX (ggp399).1 ppp399 ((cFr_T ggp399).trans hT) ((cFr_n ggp399).trans hN) (y := 93) (by decide)) (fun w9 hp400 p400 => ?_)
          obtain ⟨gp400, ⟨rfl, p400, ppp400⟩ | ⟨rfl, xp400, p400, up400⟩⟩ := p400
          · have ggp400 := cFr_t ggp399 gp400
            refine tw_if_eq rfl (fun z => absurd z (by decide)) (fun _ => ?_)
            refine tw_push rfl ?_
            refine tw_goto rfl ?_
            have hd10 : d ≠ 10 := fun z => q397 (Int32.toInt_inj.mp (by rw [hx, z]; rfl))
            have ho := p399
            rw [sf398] at ho
            exact tw_iret rfl ⟨ggp400, Or.inl ⟨rfl, pE_6g hw9 hd10 ho p400, ppp400⟩⟩
          · have ggp400 := cFr_t ggp399 gp400
            refine tw_if_eq rfl (fun _ => ?_) (fun z => absurd z (by decide))
            refine tw_push rfl ?_
            have hd10 : d ≠ 10 := fun z => q397 (Int32.toInt_inj.mp (by rw [hx, z]; rfl))
            have ho := p399
            rw [sf398] at ho
            exact tw_iret rfl ⟨ggp400, Or.inr ⟨rfl, _, pE_6g hw9 hd10 ho p400, up400⟩⟩
        · have ggp399 := cFr_t gf398 gp399
          refine tw_if_eq rfl (fun _ => ?_) (fun z => absurd z (by decide))
          refine tw_push rfl ?_
          have hd10 : d ≠ 10 := fun z => q397 (Int32.toInt_inj.mp (by rw [hx, z]; rfl))
          have ho := p399
          rw [sf398] at ho
          exact tw_iret rfl ⟨ggp399, Or.inr ⟨rfl, _, pE_6e hw9 hd10 ho, up399⟩⟩
      · try dsimp only [tvI_i, tvJ_j, tvR_r] at q397
        have q397i := zeqi (Y := 10) (by decide) q397
        refine tw_aload rfl rfl ?_
        refine tw_aload rfl rfl ?_
        refine tw_getS rfl (hi_44_2 ggp394.1) ?_
        refine tw_push rfl ?_
        refine tw_virt2 rfl (f_refuse hG hX (ggp394).1 ppp394 ((cFr_T ggp394).trans hT) ((cFr_n ggp394).trans hN)) (fun wp401 hp401 p401 => ?_)
        obtain ⟨gp401, rfl, up401⟩ := p401
        have ggp401 := cFr_t ggp394 gp401
        have hd10 : d = 10 := by have z : x.toInt = 10 := congrArg Int32.toInt q397; omega
        have hss : cs hp394 = rA (rB T n (cs h).1) (cs h) := by rw [ssp394, ssp392]; show rA (rB T n (rB T n (cs h).1)) _ = _; rw [rB_2]; rfl
        have hft := cFt_of ppp394 up401 (w := 2) rfl (by decide)
        rw [hss] at hft
        have hK := (sgn_k kp394 91 (by decide))
        rw [ssp392, show (rA (rB T n (cs h).1) (cs h)).1 = (rB T n (cs h).1) from rfl, rB_2] at hK
        exact tw_iret rfl ⟨ggp401, Or.inr ⟨rfl, _, pE_6d (hK.mp q395) hd10, hft⟩⟩
  · try dsimp only [tvI_i, tvJ_j, tvR_r] at q393
    have q393i := zeqi (Y := 19) (by decide) q393
    refine tw_push rfl ?_
    refine tw_goto rfl ?_
    refine tw_istore rfl ?_
    refine tw_aload rfl rfl ?_
    refine tw_virt0 rfl (f_signHere hG hX (ggp392).1 ppp392 ((cFr_T ggp392).trans hT) ((cFr_n ggp392).trans hN)) (fun wp402 hp402 p402 => ?_)
    obtain ⟨gp402, ppp402, ssp402, t3p402, cp402, rfl, kp402⟩ := p402
    have ggp402 := cFr_t ggp392 gp402
    refine tw_push rfl ?_
    refine tw_ic_ne rfl (fun q403 => ?_) (fun q403 => ?_)
    · try dsimp only [tvI_i, tvJ_j, tvR_r] at q403
      have q403i := zneq (Y := 91) (by decide) q403
      refine tw_push rfl ?_
      refine tw_istore rfl ?_
      refine tw_iload rfl rfl ?_
      refine tw_if_ne rfl (fun _ => ?_) (fun z => absurd z (by decide))
      refine tw_iload rfl rfl ?_
      refine tw_push rfl ?_
      refine tw_ic_ne rfl (fun q404 => ?_) (fun q404 => ?_)
      · try dsimp only [tvI_i, tvJ_j, tvR_r] at q404
        have q404i := zneq (Y := 10) (by decide) q404
        refine tw_iload rfl rfl ?_
        refine tw_if_eq rfl (fun _ => ?_) (fun z => absurd z (by decide))
        refine tw_aload rfl rfl ?_
        refine tw_aload rfl rfl ?_
        refine tw_getS rfl (hi_44_3 ggp402.1) ?_
        refine tw_put rfl (fun f405 => ?_)
        refine tG_set f405 (hw_44_2 f405 (ggp402).1) (fun hf405 ef405 => ?_)
        try dsimp only [tvI_i] at ef405
        have gf405 := cFr_s ggp402 ef405 (by decide)
        have hw9 := (wrd_k (k := 19) kwp392 (by decide) (K := 19) rfl).mp q393
        have h9w : rE T n (rB T n (cs h).1) = (rB T n (cs h).1) + 3 := by rw [rW_e hw9, wlen_k.2.2.1]
        have hr9 := rE_le (T := T) (rB_le (T := T) hpn)
        rw [h9w] at hr9 eep392
        obtain ⟨pf405, sf405⟩ := cTo ppp402 ((cFr_n ggp402).trans hN) ef405 (by rw [t3p402]; exact eep392) (by rw [ssp402, ssp392]; show rB T n (rB T n (cs h).1) ≤ _; rw [rB_2]; exact Nat.le_add_right _ _) hr9
        rw [ssp402, ssp392] at sf405
        have sf405 : cs hf405 = rA ((rB T n (cs h).1) + 3) (cs h) := sf405
        refine tw_aload rfl rfl ?_
        refine tw_iload rfl rfl ?_
        refine tw_push rfl ?_
        refine tw_iadd rfl ?_
        refine tw_virt1p rfl (IH 6 80 (by decide) _ _ _ (d + 1) _ (gf405).1 pf405 ((cFr_T gf405).trans hT) ((cFr_n gf405).trans hN) (zd1 hx hd) (by omega)) (fun w9 hp406 p406 => ?_)
        obtain ⟨gp406, ⟨rfl, p406, ppp406⟩ | ⟨rfl, xp406, p406, up406⟩⟩ := p406
        · have ggp406 := cFr_t gf405 gp406
          refine tw_if_ne rfl (fun _ => ?_) (fun z => absurd z (by decide))
          refine tw_aload rfl rfl ?_
          refine tw_push rfl ?_
          refine tw_virt1 rfl (f_putCode hG hX (ggp406).1 ppp406 ((cFr_T ggp406).trans hT) ((cFr_n ggp406).trans hN) (cHc ppp406 (by have z := cPe pf405 ((cFr_n gf405).trans hN) p406; have z2 := cP_len hp; have z3 := rB_ge (T := T) (n := n) (p := (cs h).1); obtain ⟨z4, z5, z6⟩ := z; rw [sf405] at z4 z6; have z4 : (rB T n (cs h).1) + 3 ≤ (cs hp406).1 := z4; have z6 : (rB T n (cs h).1) + 3 + (cs hp406).2.2.length ≤ (cs hp406).1 + (cs h).2.2.length := z6; omega))) (fun wp407 hp407 p407 => ?_)
          obtain ⟨gp407, rfl, ssp407, ppp407⟩ := p407
          have ggp407 := cFr_t ggp406 gp407
          refine tw_push rfl ?_
          have hd10 : d ≠ 10 := fun z => q404 (Int32.toInt_inj.mp (by rw [hx, z]; rfl))
          have ho := p406
          rw [sf405] at ho
          refine tw_iret rfl ⟨ggp407, Or.inl ⟨rfl, ?_, ppp407⟩⟩
          rw [ssp407]
          exact pE_6c hw9 hd10 ho
        · have ggp406 := cFr_t gf405 gp406
          refine tw_if_ne rfl (fun z => absurd z (by decide)) (fun _ => ?_)
          refine tw_push rfl ?_
          have hd10 : d ≠ 10 := fun z => q404 (Int32.toInt_inj.mp (by rw [hx, z]; rfl))
          have ho := p406
          rw [sf405] at ho
          exact tw_iret rfl ⟨ggp406, Or.inr ⟨rfl, _, pE_6b hw9 hd10 ho, up406⟩⟩
      · try dsimp only [tvI_i, tvJ_j, tvR_r] at q404
        have q404i := zeqi (Y := 10) (by decide) q404
        refine tw_aload rfl rfl ?_
        refine tw_aload rfl rfl ?_
        refine tw_getS rfl (hi_44_2 ggp402.1) ?_
        refine tw_push rfl ?_
        refine tw_virt2 rfl (f_refuse hG hX (ggp402).1 ppp402 ((cFr_T ggp402).trans hT) ((cFr_n ggp402).trans hN)) (fun wp408 hp408 p408 => ?_)
        obtain ⟨gp408, rfl, up408⟩ := p408
        have ggp408 := cFr_t ggp402 gp408
        have hd10 : d = 10 := by have z : x.toInt = 10 := congrArg Int32.toInt q404; omega
        have hss : cs hp402 = rA (rB T n (cs h).1) (cs h) := by rw [ssp402, ssp392]; show rA (rB T n (rB T n (cs h).1)) _ = _; rw [rB_2]; rfl
        have hft := cFt_of ppp402 up408 (w := 2) rfl (by decide)
        rw [hss] at hft
        have hw9 := (wrd_k (k := 19) kwp392 (by decide) (K := 19) rfl).mp q393
        exact tw_iret rfl ⟨ggp408, Or.inr ⟨rfl, _, pE_6a hw9 hd10, hft⟩⟩
    · try dsimp only [tvI_i, tvJ_j, tvR_r] at q403
      have q403i := zeqi (Y := 91) (by decide) q403
      have hw9 := (wrd_k (k := 19) kwp392 (by decide) (K := 19) rfl).mp q393
      have z := (sgn_k kp402 91 (by decide)).mp q403
      rw [ssp392, show (rA (rB T n (cs h).1) (cs h)).1 = (rB T n (cs h).1) from rfl, rB_2] at z
      exact absurd hw9 (no_91 z (by decide))
theorem f_rec {G : zG} (hG : G.1 = zProg) (hX : G.2.1 = ztx) : ∀ dp, cIH G dp
  | 0 => fun m j hm h T n d x hs hp hT hN hx hd z => z.elim
  | dp + 1 => by
    have IH := f_rec hG hX dp
    intro m j hm h T n d x hs hp hT hN hx hd
    have hm : (m, j) = (0, 85) ∨ (m, j) = (1, 84) ∨ (m, j) = (3, 83) ∨ (m, j) = (5, 81) ∨ (m, j) = (6, 80) ∨ (m, j) = (7, 79) ∨ (m, j) = (9, 78) := by
      unfold cML at hm
      simpa using hm
    rcases hm with e | e | e | e | e | e | e <;> cases e
    · exact f_readValue hG hX IH hs hp hT hN hx hd
    · exact f_readTerm hG hX IH hs hp hT hN hx hd
    · exact f_readSum hG hX IH hs hp hT hN hx hd
    · exact f_readComparison hG hX IH hs hp hT hN hx hd
    · exact f_readFact hG hX IH hs hp hT hN hx hd
    · exact f_readPart hG hX IH hs hp hT hN hx hd
    · exact f_readTest hG hX IH hs hp hT hN hx hd
theorem tC_rec {G : zG} (hG : G.1 = zProg) (hX : G.2.1 = ztx) {m j : Nat} (hm : (m, j) ∈ cML) {h : zH} {T : Nat → Int32} {n d : Nat} {x : Int32} (hs : tSh h) (hp : cP h) (hT : tA h 45 = T) (hN : cn h = n) (hx : x.toInt = d) (hd : d ≤ 10) : tC zTt G j [.ref 44, .int x] h (cR T n m d h) := fun dp => f_rec hG hX dp m j hm h T n d x hs hp hT hN hx hd
/-! clauses, and a whole rule -/
noncomputable abbrev rCt : Type := Nat × Nat × Nat × Nat
noncomputable def rCl3 (T : Nat → Int32) (n k th f0 : Nat) (s2 : rS) (r : Nat ⊕ (rS × rCt)) : Prop :=
  (rW T n (rB T n s2.1) (rWd 16) = true ∧ ((∃ e, pE T n 9 0 (rA (rB T n s2.1 + 2) s2) (.inl e) ∧ r = .inl e) ∨ ∃ s3, pE T n 9 0 (rA (rB T n s2.1 + 2) s2) (.inr s3) ∧ r = .inr (s3, th, f0, s2.2.2.length, s3.2.2.length)))
  ∨ (¬ rW T n (rB T n s2.1) (rWd 16) = true ∧ k = 15 ∧ r = .inl (1 + 8 * rB T n s2.1 + 0))
  ∨ (¬ rW T n (rB T n s2.1) (rWd 16) = true ∧ k ≠ 15 ∧ r = .inr (rA (rB T n s2.1) s2, th, f0, s2.2.2.length, s2.2.2.length))
noncomputable def rCl2 (T : Nat → Int32) (n k th : Nat) (s1 : rS) (r : Nat ⊕ (rS × rCt)) : Prop :=
  (k = 15 ∧ rCl3 T n k th s1.2.2.length s1 r) ∨ (k ≠ 15 ∧ ((∃ e, pE T n 3 0 s1 (.inl e) ∧ r = .inl e) ∨ ∃ s2, pE T n 3 0 s1 (.inr s2) ∧ rCl3 T n k th s1.2.2.length s2 r))
noncomputable def rCl1 (T : Nat → Int32) (n k : Nat) (s0 : rS) (r : Nat ⊕ (rS × rCt)) : Prop :=
  (k = 12 ∧ ((∃ e, rM T n 2 s0.1 = .inl e ∧ r = .inl e) ∨ ∃ q, rM T n 2 s0.1 = .inr q ∧ rCl2 T n k q.2 (rA q.1 s0) r)) ∨ (k ≠ 12 ∧ rCl2 T n k k s0 r)
noncomputable def rCl (T : Nat → Int32) (n c : Nat) (s : rS) (r : Nat ⊕ (rS × rCt)) : Prop :=
  ((∀ k, 12 ≤ k → k ≤ 15 → ¬ rW T n (rB T n s.1) (rWd k) = true) ∧ r = .inl (1 + 8 * rB T n s.1 + 0))
  ∨ (∃ k, 12 ≤ k ∧ k ≤ 15 ∧ rW T n (rB T n s.1) (rWd k) = true ∧ ((c = 12 ∧ r = .inl (1 + 8 * rB T n s.1 + 4)) ∨ (c ≠ 12 ∧ rCl1 T n k (rA (rE T n (rB T n s.1)) s) r)))
noncomputable def rRu (T : Nat → Int32) (n : Nat) : Nat → rS → List rCt → Nat ⊕ (rS × List rCt) → Prop
  | 0, _, _, _ => False
  | f + 1, s, cl, r => (∃ e, rCl T n cl.length s (.inl e) ∧ r = .inl e) ∨ ∃ s1 c, rCl T n cl.length s (.inr (s1, c)) ∧ ((¬ rB T n s1.1 < n ∧ r = .inr (rA (rB T n s1.1) s1, cl ++ [c])) ∨ ((rB T n s1.1 < n ∧ T (rB T n s1.1) = 59) ∧ rRu T n f (rA (rB T n s1.1 + 1) s1) (cl ++ [c]) r) ∨ ((rB T n s1.1 < n ∧ ¬ T (rB T n s1.1) = 59) ∧ r = .inl (1 + 8 * rB T n s1.1 + 0)))
noncomputable def cCl (h : zH) : List rCt := (List.range (tvI (tF h 44 7)).toNatClampNeg).map (fun i => ((tA h 47 (4 * i)).toNatClampNeg, (tA h 47 (4 * i + 1)).toNatClampNeg, (tA h 47 (4 * i + 2)).toNatClampNeg, (tA h 47 (4 * i + 3)).toNatClampNeg))
noncomputable def cFq (h h2 : zH) : Prop := tSh h2 ∧ (∀ p b, ¬ (p = 44 ∧ (b = 2 ∨ b = 3 ∨ b = 5 ∨ b = 7 ∨ b = 8 ∨ b = 9)) → tF h2 p b = tF h p b) ∧ (∀ p, p ≠ 46 → p ≠ 47 → tA h2 p = tA h p) ∧ tN h2 = tN h
noncomputable def cQ (h : zH) : Prop := 0 ≤ (tvI (tF h 44 7)).toInt ∧ (tvI (tF h 44 7)).toInt ≤ 12 ∧ tN h 47 = 48
section RQ
variable {h h1 h2 : zH}
theorem cFq_f (k : cFr h h2) : cFq h h2 := ⟨k.1, fun p b z => k.2.1 p b (fun w => z ⟨w.1, by omega⟩), fun p z _ => k.2.2.1 p z, k.2.2.2⟩
theorem cFq_t (a : cFq h h1) (k : cFq h1 h2) : cFq h h2 := ⟨k.1, fun p q z => (k.2.1 p q z).trans (a.2.1 p q z), fun p z w => (k.2.2.1 p z w).trans (a.2.2.1 p z w), k.2.2.2.trans a.2.2.2⟩
theorem cFr_7 (k : cFr h h2) : tF h2 44 7 = tF h 44 7 := k.2.1 44 7 (by decide)
theorem cCl_f (k : cFr h h2) : cCl h2 = cCl h := by
  unfold cCl
  rw [cFr_7 k, k.2.2.1 47 (by decide)]
theorem cQ_f (k : cFr h h2) (q : cQ h) : cQ h2 := by
  unfold cQ
  rw [cFr_7 k, k.2.2.2]
  exact q
theorem cCl_len : (cCl h).length = (tvI (tF h 44 7)).toNatClampNeg := by unfold cCl; rw [List.length_map, List.length_range]
theorem cFq_T (a : cFq h h1) : tA h1 45 = tA h 45 := a.2.2.1 45 (by decide) (by decide)
theorem cFq_n (a : cFq h h1) : cn h1 = cn h := by
  unfold cn
  rw [a.2.1 44 1 (by decide)]
/-- a clause is kept -/
theorem cKp_of {a b c : Int32} {k1 k2 k3 k4 : Nat} (hs : tSh h) (q : cQ h) (h12 : (tvI (tF h 44 7)).toInt < 12) {i0 i1 i2 i3 : Int32} (e0 : i0.toInt = 4 * (tvI (tF h 44 7)).toInt) (e1 : i1.toInt = 4 * (tvI (tF h 44 7)).toInt + 1) (e2 : i2.toInt = 4 * (tvI (tF h 44 7)).toInt + 2) (e3 : i3.toInt = 4 * (tvI (tF h 44 7)).toInt + 3)
  {g1 g2 g3 g4 : zH} (d1 : g1 = tSA h 47 i0.toNatClampNeg a) (f1 : tIn h 47 k1 i0) (d2 : g2 = tSA g1 47 i1.toNatClampNeg b) (f2 : tIn g1 47 k2 i1) (d3 : g3 = tSA g2 47 i2.toNatClampNeg c) (f3 : tIn g2 47 k3 i2) {x5 : Int32} (h5 : x5 = tvI (tF h 44 5)) (d4 : g4 = tSA g3 47 i3.toNatClampNeg x5) (f4 : tIn g3 47 k4 i3) {x7 : Int32} (h7 : x7 = tvI (tF h 44 7) + 1) (f5 : tFd g4 44 7) :
  cFq h (tSF g4 44 7 (.int x7)) ∧ cCl (tSF g4 44 7 (.int x7)) = cCl h ++ [(a.toNatClampNeg, b.toNatClampNeg, c.toNatClampNeg, (tvI (tF h 44 5)).toNatClampNeg)] ∧ cQ (tSF g4 44 7 (.int x7)) ∧ cs (tSF g4 44 7 (.int x7)) = cs h ∧ (∀ b, b ≠ 7 → tF (tSF g4 44 7 (.int x7)) 44 b = tF h 44 b) ∧ tA (tSF g4 44 7 (.int x7)) 45 = tA h 45 := by
  subst h5 h7
  have F4 : tF g4 = tF h := by rw [d4, tF_tSA, d3, tF_tSA, d2, tF_tSA, d1, tF_tSA]
  have N4 : tN g4 = tN h := by rw [d4, tN_tSA, d3, tN_tSA, d2, tN_tSA, d1, tN_tSA]
  have A4 : ∀ p, p ≠ 47 → tA g4 p = tA h p := fun p hp => by rw [d4, tA_nz hp, d3, tA_nz hp, d2, tA_nz hp, d1, tA_nz hp]
  have hs4 := tSh_F F4 hs
  have e := cSet_of f5 (hw_44_7 (x := tvI (tF h 44 7) + 1) f5 hs4)
  have n0 : i0.toNatClampNeg = 4 * (tvI (tF h 44 7)).toNatClampNeg := by rw [zclE, zclE]; have := q.1; omega
  have n1 : i1.toNatClampNeg = 4 * (tvI (tF h 44 7)).toNatClampNeg + 1 := by rw [zclE, zclE]; have := q.1; omega
  have n2 : i2.toNatClampNeg = 4 * (tvI (tF h 44 7)).toNatClampNeg + 2 := by rw [zclE, zclE]; have := q.1; omega
  have n3 : i3.toNatClampNeg = 4 * (tvI (tF h 44 7)).toNatClampNeg + 3 := by rw [zclE, zclE]; have := q.1; omega
  have A47 : ∀ i, tA g4 47 i = if i = i3.toNatClampNeg then tvI (tF h 44 5) else if i = i2.toNatClampNeg then c else if i = i1.toNatClampNeg then b else if i = i0.toNatClampNeg then a else tA h 47 i := by
    intro i
    rw [d4, tA_tSA f4.cell, d3, tA_tSA f3.cell, d2, tA_tSA f2.cell, d1, tA_tSA f1.cell]
    simp only [true_and]
  generalize tSF g4 44 7 (.int (tvI (tF h 44 7) + 1)) = h3 at e
  have hF : ∀ b, b ≠ 7 → tF h3 44 b = tF h 44 b := fun b hb => (e.2.2.1 44 b (fun z => hb z.2)).trans (by rw [F4])
  have i7 : (tvI (tF h 44 7) + 1).toInt = (tvI (tF h 44 7)).toInt + 1 := zj1 (y := 12) q.1 h12
  have i7n : (tvI (tF h 44 7) + 1).toNatClampNeg = (tvI (tF h 44 7)).toNatClampNeg + 1 := zj1n (y := 12) q.1 h12
  refine ⟨⟨e.1, fun p b z => (e.2.2.1 p b (fun w => z ⟨w.1, by omega⟩)).trans (by rw [F4]), fun p _ z => (congrFun e.2.2.2.1 p).trans (A4 p z), e.2.2.2.2.trans N4⟩, ?_, ⟨?_, ?_, ?_⟩, ?_, hF, (congrFun e.2.2.2.1 45).trans (A4 45 (by decide))⟩
  · unfold cCl
    rw [cI_x e, i7n, List.range_succ, List.map_append, e.2.2.2.1]
    refine congr (congrArg HAppend.hAppend (List.map_congr_left (fun i hi => ?_))) ?_
    · have hi := List.mem_range.mp hi
      rw [A47, A47, A47, A47, n0, n1, n2, n3]
      rw [if_neg (by omega), if_neg (by omega), if_neg (by omega), if_neg (by omega), if_neg (by omega), if_neg (by omega), if_neg (by omega), if_neg (by omega), if_neg (by omega), if_neg (by omega), if_neg (by omega), if_neg (by omega), if_neg (by omega), if_neg (by omega), if_neg (by omega), if_neg (by omega)]
    · show [((tA g4 47 (4 * (tvI (tF h 44 7)).toNatClampNeg)).toNatClampNeg, (tA g4 47 (4 * (tvI (tF h 44 7)).toNatClampNeg + 1)).toNatClampNeg, (tA g4 47 (4 * (tvI (tF h 44 7)).toNatClampNeg + 2)).toNatClampNeg, (tA g4 47 (4 * (tvI (tF h 44 7)).toNatClampNeg + 3)).toNatClampNeg)] = _
      rw [A47, A47, A47, A47, n0, n1, n2, n3]
      rw [if_neg (by omega), if_neg (by omega), if_neg (by omega), if_pos rfl, if_neg (by omega), if_neg (by omega), if_pos rfl, if_neg (by omega), if_pos rfl, if_pos rfl]
  · rw [cI_x e, i7]; have := q.1; omega
  · rw [cI_x e, i7]; omega
  · rw [e.2.2.2.2, N4]; exact q.2.2
  · unfold cs cCo
    rw [hF 2 (by decide), hF 8 (by decide), hF 5 (by decide), e.2.2.2.1, A4 46 (by decide)]
theorem cP_q (p : cP h) (hF : ∀ b, b ≠ 7 → tF h2 44 b = tF h 44 b) (hT : tA h2 45 = tA h 45) (hN : tN h2 = tN h) : cP h2 := by
  unfold cP
  rw [hF 2 (by decide), hF 1 (by decide), hF 8 (by decide), hF 5 (by decide), hF 9 (by decide), hT, hN]
  exact p
theorem zm4 {x : Int32} (h0 : 0 ≤ x.toInt) (h1 : x.toInt ≤ 12) : (x * 4).toInt = 4 * x.toInt := by
  rw [Int32.toInt_mul, show (4 : Int32).toInt = 4 from rfl]
  exact (Int.bmod_eq_of_le (by show (-2147483648 : Int) ≤ x.toInt * 4; omega) (by show x.toInt * 4 < (2147483648 : Int); omega)).trans (by omega)
theorem zm4a {x y : Int32} {Y : Int} (h0 : 0 ≤ x.toInt) (h1 : x.toInt ≤ 12) (hy : y.toInt = Y) (hY : 0 ≤ Y ∧ Y ≤ 10) : (x * 4 + y).toInt = 4 * x.toInt + Y := by
  rw [Int32.toInt_add, zm4 h0 h1, hy]
  exact Int.bmod_eq_of_le (by show (-2147483648 : Int) ≤ 4 * x.toInt + Y; omega) (by show 4 * x.toInt + Y < (2147483648 : Int); omega)
theorem c12 (q : cQ h) : (cCl h).length = 12 ↔ tvI (tF h 44 7) = 12 := by
  rw [cCl_len, zclE]
  have := q.1
  constructor
  · intro z
    refine Int32.toInt_inj.mp ?_
    show _ = (12 : Int)
    omega
  · intro z
    rw [z]; rfl
end RQ
theorem f_keepClause {G : zG} (hG : G.1 = zProg) (hX : G.2.1 = ztx) {h : zH} {T : Nat → Int32} {n : Nat} (hs : tSh h) (hp : cP h) (hT : tA h 45 = T) (hN : cn h = n) {a b c : Int32} (hq : cQ h) (h12 : (tvI (tF h 44 7)).toInt < 12) : tC zTt G 77 [.ref 44, .int a, .int b, .int c] h (fun w h2 => w = none ∧ cFq h h2 ∧ cCl h2 = cCl h ++ [(a.toNatClampNeg, b.toNatClampNeg, c.toNatClampNeg, (tvI (tF h 44 5)).toNatClampNeg)] ∧ cQ h2 ∧ cs h2 = cs h ∧ cP h2) := by
  refine tC_in (by rw [hG]; rfl) (fun dp => ?_)
  have g0 := cFr_r hs
  have hpn : (cs h).1 ≤ n := by rw [← hN]; exact cP_le hp
  refine tw_aload rfl rfl ?_
  refine tw_getS rfl (hi_44_7 hs) ?_
  refine tw_push rfl ?_
  refine tw_imul rfl ?_
  refine tw_istore rfl ?_
  refine tw_iload rfl rfl ?_
  refine tw_push rfl ?_
  refine tw_iadd rfl ?_
  refine tw_aload rfl rfl ?_
  refine tw_getS rfl (hs_44_6 hs) ?_
  refine tw_alen rfl ?_
  refine tw_ic_le rfl (fun q409 => ?_) (fun q409 => ?_)
  · try dsimp only [tvI_i, tvJ_j, tvR_r] at q409
    refine tw_aload rfl rfl ?_
    refine tw_getS rfl (hs_44_6 hs) ?_
    refine tw_iload rfl rfl ?_
    refine tw_iload rfl rfl ?_
    refine tw_iast rfl (fun f410 => ?_)
    refine tw_aload rfl rfl ?_
    refine tw_getS rfl (hs_44_6 (tSh_SA hs)) ?_
    refine tw_iload rfl rfl ?_
    refine tw_push rfl ?_
    refine tw_iadd rfl ?_
    refine tw_iload rfl rfl ?_
    refine tw_iast rfl (fun f411 => ?_)
    refine tw_aload rfl rfl ?_
    refine tw_getS rfl (hs_44_6 (tSh_SA (tSh_SA hs))) ?_
    refine tw_iload rfl rfl ?_
    refine tw_push rfl ?_
    refine tw_iadd rfl ?_
    refine tw_iload rfl rfl ?_
    refine tw_iast rfl (fun f412 => ?_)
    refine tw_aload rfl rfl ?_
    refine tw_getS rfl (hs_44_6 (tSh_SA (tSh_SA (tSh_SA hs)))) ?_
    refine tw_iload rfl rfl ?_
    refine tw_push rfl ?_
    refine tw_iadd rfl ?_
    refine tw_aload rfl rfl ?_
    refine tw_getS rfl (tF_a (tF_a (tF_a (hi_44_5 hs)))) ?_
    refine tw_iast rfl (fun f413 => ?_)
    refine tw_aload rfl rfl ?_
    refine tw_dup rfl ?_
    refine tw_getS rfl (tF_a (tF_a (tF_a (tF_a (hi_44_7 hs))))) ?_
    refine tw_push rfl ?_
    refine tw_iadd rfl ?_
    refine tw_put rfl (fun f414 => ?_)
    refine tw_vret rfl ?_
    refine (fun K => ⟨rfl, K.1, K.2.1, K.2.2.1, K.2.2.2.1, cP_q hp K.2.2.2.2.1 K.2.2.2.2.2 K.1.2.2.2⟩ : _ → _) (cKp_of hs hq h12 (zm4 hq.1 hq.2.1) (zm4a hq.1 hq.2.1 rfl (by decide)) (zm4a hq.1 hq.2.1 rfl (by decide)) (zm4a hq.1 hq.2.1 rfl (by decide)) rfl f410 rfl f411 rfl f412 rfl rfl f413 rfl f414)
  · try dsimp only [tvI_i, tvJ_j, tvR_r] at q409
    have e9 : (Int32.ofNat (tN h 47)).toInt = 48 := by rw [hq.2.2]; rfl
    have e8 := zm4a (y := 4) (Y := 4) hq.1 hq.2.1 rfl (by decide)
    have z := q409
    exfalso
    have e7 : (tvI (tF h 44 7) * 4 + 4).toInt ≤ 48 := by omega
    first | omega | exact absurd z (by omega) | (rw [e9] at z; omega)
theorem f_readClause {G : zG} (hG : G.1 = zProg) (hX : G.2.1 = ztx) {h : zH} {T : Nat → Int32} {n : Nat} (hs : tSh h) (hp : cP h) (hT : tA h 45 = T) (hN : cn h = n) (hq : cQ h) : tC zTt G 76 [.ref 44] h (fun w h2 => cFq h h2 ∧ cQ h2 ∧ ((w = some (.int 1) ∧ ∃ c, rCl T n (cCl h).length (cs h) (.inr (cs h2, c)) ∧ cCl h2 = cCl h ++ [c] ∧ cP h2) ∨ (w = some (.int 0) ∧ ∃ e, rCl T n (cCl h).length (cs h) (.inl e) ∧ cFt h2 e))) := by
  refine tC_in (by rw [hG]; rfl) (fun dp => ?_)
  have g0 := cFr_r hs
  have hpn : (cs h).1 ≤ n := by rw [← hN]; exact cP_le hp
  have c129 : (12 : Int32).toInt = 12 := rfl
  have c159 : (15 : Int32).toInt = 15 := rfl
  refine tw_aload rfl rfl ?_
  refine tw_virt0 rfl (f_wordHere hG hX (g0).1 hp ((cFr_T g0).trans hT) ((cFr_n g0).trans hN)) (fun wp415 hp415 p415 => ?_)
  obtain ⟨gp415, ppp415, ssp415, eep415, ip415, rfl, kwp415⟩ := p415
  have ggp415 := cFr_t g0 gp415
  refine tw_istore rfl ?_
  refine tw_iload rfl rfl ?_
  refine tw_push rfl ?_
  refine tw_ic_lt rfl (fun q416 => ?_) (fun q416 => ?_)
  · try dsimp only [tvI_i, tvJ_j, tvR_r] at q416
    refine tw_aload rfl rfl ?_
    refine tw_aload rfl rfl ?_
    refine tw_getS rfl (hi_44_2 ggp415.1) ?_
    refine tw_push rfl ?_
    refine tw_virt2 rfl (f_refuse hG hX (ggp415).1 ppp415 ((cFr_T ggp415).trans hT) ((cFr_n ggp415).trans hN)) (fun wp417 hp417 p417 => ?_)
    obtain ⟨gp417, rfl, up417⟩ := p417
    have ggp417 := cFr_t ggp415 gp417
    have kwb := kwp415.1
    have hft := cFt_of ppp415 up417 (w := 0) rfl (by decide)
    rw [ssp415] at hft
    have z0 := q416
    exact tw_iret rfl ⟨cFq_f ggp417, cQ_f ggp417 hq, Or.inr ⟨rfl, _, Or.inl ⟨fun k h1 h2 z => by have y := (kwp415.2 k (by omega)).mpr z; omega, rfl⟩, hft⟩⟩
  · try dsimp only [tvI_i, tvJ_j, tvR_r] at q416
    refine tw_iload rfl rfl ?_
    refine tw_push rfl ?_
    refine tw_ic_le rfl (fun q418 => ?_) (fun q418 => ?_)
    · try dsimp only [tvI_i, tvJ_j, tvR_r] at q418
      refine tw_aload rfl rfl ?_
      refine tw_getS rfl (hi_44_7 ggp415.1) ?_
      refine tw_push rfl ?_
      refine tw_ic_ne rfl (fun q419 => ?_) (fun q419 => ?_)
      · try dsimp only [tvI_i, tvJ_j, tvR_r] at q419
        have q419i := zneq (Y := 12) (by decide) q419
        refine tw_aload rfl rfl ?_
        refine tw_aload rfl rfl ?_
        refine tw_getS rfl (hi_44_3 ggp415.1) ?_
        refine tw_put rfl (fun f420 => ?_)
        refine tG_set f420 (hw_44_2 f420 (ggp415).1) (fun hf420 ef420 => ?_)
        try dsimp only [tvI_i] at ef420
        have gf420 := cFr_s ggp415 ef420 (by decide)
        have kwb := kwp415.1
        have hk1 : 12 ≤ ip415.toInt := by have z := q416; omega
        have hk2 : ip415.toInt ≤ 15 := by have z := q418; omega
        have hkw : rW T n (rB T n (cs h).1) (rWd ip415.toInt.toNat) = true := (kwp415.2 ip415.toInt.toNat (by omega)).mp (by omega)
        have hc12 : (cCl h).length ≠ 12 := fun z => q419 ((congrArg tvI (cFr_7 ggp415)).trans ((c12 hq).mp z))
        have hlt12 : (tvI (tF h 44 7)).toInt < 12 := by have a := hq.2.1; have b : (tvI (tF h 44 7)).toInt ≠ 12 := fun z => q419 ((congrArg tvI (cFr_7 ggp415)).trans (Int32.toInt_inj.mp z)); omega
        obtain ⟨pf420, sf420⟩ := cTo ppp415 ((cFr_n ggp415).trans hN) ef420 eep415 (by rw [ssp415]; exact rE_ge) (rE_le (rB_le hpn))
        have sf420 : cs hf420 = rA (rE T n (rB T n (cs h).1)) (cs h) := by rw [sf420, ssp415]; rfl
        refine tw_iload rfl rfl ?_
        refine tw_push rfl ?_
        refine tw_ic_ne rfl (fun q421 => ?_) (fun q421 => ?_)
        · try dsimp only [tvI_i, tvJ_j, tvR_r] at q421
          have q421i := zneq (Y := 15) (by decide) q421
          refine tw_push rfl ?_
          refine tw_istore rfl ?_
          refine tw_iload rfl rfl ?_
          refine tw_push rfl ?_
          refine tw_ic_ne rfl (fun q422 => ?_) (fun q422 => ?_)
          · try dsimp only [tvI_i, tvJ_j, tvR_r] at q422
            have q422i := zneq (Y := 12) (by decide) q422
            refine tw_aload rfl rfl ?_
            refine tw_getS rfl (hi_44_5 (gf420).1) ?_
            refine tw_istore rfl ?_
            refine tw_iload rfl rfl ?_
            refine tw_if_ne rfl (fun z => absurd z (by decide)) (fun _ => ?_)
            refine tw_aload rfl rfl ?_
            refine tw_push rfl ?_
            refine tw_virt1 rfl (tC_rec hG hX (m := 3) (d := 0) (by decide) (gf420).1 pf420 ((cFr_T gf420).trans hT) ((cFr_n gf420).trans hN) rfl (by decide)) (fun w9 hp423 p423 => ?_)
            obtain ⟨gp423, ⟨rfl, p423, ppp423⟩ | ⟨rfl, xp423, p423, up423⟩⟩ := p423
            · have ggp423 := cFr_t gf420 gp423
              refine tw_if_ne rfl (fun _ => ?_) (fun z => absurd z (by decide))
              refine tw_aload rfl rfl ?_
              refine tw_getS rfl (hi_44_5 ggp423.1) ?_
              refine tw_istore rfl ?_
              refine tw_aload rfl rfl ?_
              refine tw_virt0 rfl (f_wordHere hG hX (ggp423).1 ppp423 ((cFr_T ggp423).trans hT) ((cFr_n ggp423).trans hN)) (fun wp424 hp424 p424 => ?_)
              obtain ⟨gp424, ppp424, ssp424, eep424, ip424, rfl, kwp424⟩ := p424
              have ggp424 := cFr_t ggp423 gp424
              refine tw_push rfl ?_
              refine tw_ic_ne rfl (fun q425 => ?_) (fun q425 => ?_)
              · try dsimp only [tvI_i, tvJ_j, tvR_r] at q425
                have q425i := zneq (Y := 16) (by decide) q425
                refine tw_iload rfl rfl ?_
                refine tw_if_eq rfl (fun _ => ?_) (fun z => absurd z (by decide))
                refine tw_aload rfl rfl ?_
                refine tw_iload rfl rfl ?_
                refine tw_iload rfl rfl ?_
                refine tw_iload rfl rfl ?_
                refine tw_virt3 rfl (f_keepClause hG hX (ggp424).1 ppp424 ((cFr_T ggp424).trans hT) ((cFr_n ggp424).trans hN) (cQ_f ggp424 hq) (by have := cFr_7 ggp424; rw [this]; exact hlt12)) (fun wp426 hp426 p426 => ?_)
                obtain ⟨rfl, gqp426, clp426, qqp426, ssp426, ppp426⟩ := p426
                refine tw_push rfl ?_
                have hk15 : ip415.toInt.toNat ≠ 15 := by have z := q421i; omega
                have hk12 : ip415.toInt.toNat ≠ 12 := by have z := q422i; omega
                have hx1 := sf420
                have ho := p423
                rw [hx1] at ho
                have hnw : ¬ rW T n (rB T n (cs hp423).1) (rWd 16) = true := fun z => q425 ((wrd_k (k := 16) kwp424 (by decide) (K := 16) rfl).mpr z)
                have hc3 : rCl3 T n ip415.toInt.toNat (ip415.toInt.toNat) (rA (rE T n (rB T n (cs h).1)) (cs h)).2.2.length (cs hp423) (.inr (cs hp424, ip415.toInt.toNat, (rA (rE T n (rB T n (cs h).1)) (cs h)).2.2.length, (cs hp423).2.2.length, (cs hp424).2.2.length)) := Or.inr (Or.inr ⟨hnw, hk15, by rw [ssp424]; rfl⟩)
                have hthv : (ip415).toNatClampNeg = ip415.toInt.toNat := rfl
                have hclk : cCl hp426 = cCl h ++ [(ip415.toInt.toNat, (rA (rE T n (rB T n (cs h).1)) (cs h)).2.2.length, (cs hp423).2.2.length, (cs hp424).2.2.length)] := by
                  rw [clp426, cCl_f ggp424, ← hx1, show (cs hf420).2.2.length = _ from cCo_len, show (cs hp424).2.2.length = _ from cCo_len, show (cs hp423).2.2.length = _ from cCo_len]
                  exact congrArg (fun z => cCl h ++ [(z, _, _, _)]) hthv
                have hcz : rCl T n (cCl h).length (cs h) (.inr (cs hp426, ip415.toInt.toNat, (rA (rE T n (rB T n (cs h).1)) (cs h)).2.2.length, (cs hp423).2.2.length, (cs hp424).2.2.length)) := by rw [ssp426]; exact Or.inr ⟨ip415.toInt.toNat, by omega, by omega, hkw, Or.inr ⟨hc12, Or.inr ⟨hk12, Or.inr ⟨hk15, Or.inr ⟨_, ho, hc3⟩⟩⟩⟩⟩
                exact tw_iret rfl ⟨cFq_t (cFq_f ggp424) gqp426, qqp426, Or.inl ⟨rfl, _, hcz, hclk, ppp426⟩⟩
              · try dsimp only [tvI_i, tvJ_j, tvR_r] at q425
                have q425i := zeqi (Y := 16) (by decide) q425
                refine tw_aload rfl rfl ?_
                refine tw_aload rfl rfl ?_
                refine tw_getS rfl (hi_44_3 ggp424.1) ?_
                refine tw_put rfl (fun f427 => ?_)
                refine tG_set f427 (hw_44_2 f427 (ggp424).1) (fun hf427 ef427 => ?_)
                try dsimp only [tvI_i] at ef427
                have gf427 := cFr_s ggp424 ef427 (by decide)
                have hw16 := (wrd_k (k := 16) kwp424 (by decide) (K := 16) rfl).mp q425
                have h9w : rE T n (rB T n (cs hp423).1) = rB T n (cs hp423).1 + 2 := by rw [rW_e hw16, wlen_k.2.2.2]
                have hyn : (cs hp423).1 ≤ n := by rw [← ((cFr_n ggp423).trans hN)]; exact cP_le ppp423
                have hr9 := rE_le (T := T) (rB_le (T := T) hyn)
                rw [h9w] at hr9 eep424
                obtain ⟨pf427, sf427⟩ := cTo ppp424 ((cFr_n ggp424).trans hN) ef427 eep424 (by rw [ssp424]; exact Nat.le_add_right _ _) hr9
                have sf427 : cs hf427 = rA (rB T n (cs hp423).1 + 2) (cs hp423) := by rw [sf427, ssp424]; rfl
                refine tw_aload rfl rfl ?_
                refine tw_push rfl ?_
                refine tw_virt1 rfl (tC_rec hG hX (m := 9) (d := 0) (by decide) (gf427).1 pf427 ((cFr_T gf427).trans hT) ((cFr_n gf427).trans hN) rfl (by decide)) (fun w9 hp428 p428 => ?_)
                obtain ⟨gp428, ⟨rfl, p428, ppp428⟩ | ⟨rfl, xp428, p428, up428⟩⟩ := p428
                · have ggp428 := cFr_t gf427 gp428
                  refine tw_if_ne rfl (fun _ => ?_) (fun z => absurd z (by decide))
                  refine tw_aload rfl rfl ?_
                  refine tw_iload rfl rfl ?_
                  refine tw_iload rfl rfl ?_
                  refine tw_iload rfl rfl ?_
                  refine tw_virt3 rfl (f_keepClause hG hX (ggp428).1 ppp428 ((cFr_T ggp428).trans hT) ((cFr_n ggp428).trans hN) (cQ_f ggp428 hq) (by have := cFr_7 ggp428; rw [this]; exact hlt12)) (fun wp429 hp429 p429 => ?_)
                  obtain ⟨rfl, gqp429, clp429, qqp429, ssp429, ppp429⟩ := p429
                  refine tw_push rfl ?_
                  have hk15 : ip415.toInt.toNat ≠ 15 := by have z := q421i; omega
                  have hk12 : ip415.toInt.toNat ≠ 12 := by have z := q422i; omega
                  have hx1 := sf420
                  have ho := p423
                  rw [hx1] at ho
                  have ht := p428
                  rw [sf427] at ht
                  have hc3 : rCl3 T n ip415.toInt.toNat (ip415.toInt.toNat) (rA (rE T n (rB T n (cs h).1)) (cs h)).2.2.length (cs hp423) (.inr (cs hp428, ip415.toInt.toNat, (rA (rE T n (rB T n (cs h).1)) (cs h)).2.2.length, (cs hp423).2.2.length, (cs hp428).2.2.length)) := Or.inl ⟨hw16, Or.inr ⟨_, ht, rfl⟩⟩
                  have hthv : (ip415).toNatClampNeg = ip415.toInt.toNat := rfl
                  have hclk : cCl hp429 = cCl h ++ [(ip415.toInt.toNat, (rA (rE T n (rB T n (cs h).1)) (cs h)).2.2.length, (cs hp423).2.2.length, (cs hp428).2.2.length)] := by
                    rw [clp429, cCl_f ggp428, ← hx1, show (cs hf420).2.2.length = _ from cCo_len, show (cs hp428).2.2.length = _ from cCo_len, show (cs hp423).2.2.length = _ from cCo_len]
                    exact congrArg (fun z => cCl h ++ [(z, _, _, _)]) hthv
                  have hcz : rCl T n (cCl h).length (cs h) (.inr (cs hp429, ip415.toInt.toNat, (rA (rE T n (rB T n (cs h).1)) (cs h)).2.2.length, (cs hp423).2.2.length, (cs hp428).2.2.length)) := by rw [ssp429]; exact Or.inr ⟨ip415.toInt.toNat, by omega, by omega, hkw, Or.inr ⟨hc12, Or.inr ⟨hk12, Or.inr ⟨hk15, Or.inr ⟨_, ho, hc3⟩⟩⟩⟩⟩
                  exact tw_iret rfl ⟨cFq_t (cFq_f ggp428) gqp429, qqp429, Or.inl ⟨rfl, _, hcz, hclk, ppp429⟩⟩
                · have ggp428 := cFr_t gf427 gp428
                  refine tw_if_ne rfl (fun z => absurd z (by decide)) (fun _ => ?_)
                  refine tw_push rfl ?_
                  have hk15 : ip415.toInt.toNat ≠ 15 := by have z := q421i; omega
                  have hk12 : ip415.toInt.toNat ≠ 12 := by have z := q422i; omega
                  have hx1 := sf420
                  have ho := p423
                  rw [hx1] at ho
                  have ht := p428
                  rw [sf427] at ht
                  have hc3 : rCl3 T n ip415.toInt.toNat (ip415.toInt.toNat) (rA (rE T n (rB T n (cs h).1)) (cs h)).2.2.length (cs hp423) (.inl _) := Or.inl ⟨hw16, Or.inl ⟨_, ht, rfl⟩⟩
                  exact tw_iret rfl ⟨cFq_f ggp428, cQ_f ggp428 hq, Or.inr ⟨rfl, _, Or.inr ⟨ip415.toInt.toNat, by omega, by omega, hkw, Or.inr ⟨hc12, Or.inr ⟨hk12, Or.inr ⟨hk15, Or.inr ⟨_, ho, hc3⟩⟩⟩⟩⟩, up428⟩⟩
            · have ggp423 := cFr_t gf420 gp423
              refine tw_if_ne rfl (fun z => absurd z (by decide)) (fun _ => ?_)
              refine tw_push rfl ?_
              have hk15 : ip415.toInt.toNat ≠ 15 := by have z := q421i; omega
              have hk12 : ip415.toInt.toNat ≠ 12 := by have z := q422i; omega
              have hx1 := sf420
              have ho := p423
              rw [hx1] at ho
              exact tw_iret rfl ⟨cFq_f ggp423, cQ_f ggp423 hq, Or.inr ⟨rfl, _, Or.inr ⟨ip415.toInt.toNat, by omega, by omega, hkw, Or.inr ⟨hc12, Or.inr ⟨hk12, Or.inr ⟨hk15, Or.inl ⟨_, ho, rfl⟩⟩⟩⟩⟩, up423⟩⟩
          · try dsimp only [tvI_i, tvJ_j, tvR_r] at q422
            have q422i := zeqi (Y := 12) (by decide) q422
            refine tw_aload rfl rfl ?_
            refine tw_push rfl ?_
            refine tw_virt1 rfl (f_numberHere hG hX (gf420).1 pf420 ((cFr_T gf420).trans hT) ((cFr_n gf420).trans hN) (m := 2) (M := 2) rfl (by decide)) (fun w9 hp430 p430 => ?_)
            obtain ⟨gp430, ⟨vp430, p430, rfl, ssp430, ppp430⟩ | ⟨xp430, p430, rfl, up430⟩⟩ := p430
            · have ggp430 := cFr_t gf420 gp430
              refine tw_istore rfl ?_
              refine tw_iload rfl rfl ?_
              refine tw_push rfl ?_
              refine tw_ic_ne rfl (fun q431 => ?_) (fun q431 => ?_)
              · try dsimp only [tvI_i, tvJ_j, tvR_r] at q431
                have q431i := zneq (Y := (-1)) (by decide) q431
                refine tw_aload rfl rfl ?_
                refine tw_getS rfl (hi_44_5 ggp430.1) ?_
                refine tw_istore rfl ?_
                refine tw_iload rfl rfl ?_
                refine tw_if_ne rfl (fun z => absurd z (by decide)) (fun _ => ?_)
                refine tw_aload rfl rfl ?_
                refine tw_push rfl ?_
                refine tw_virt1 rfl (tC_rec hG hX (m := 3) (d := 0) (by decide) (ggp430).1 ppp430 ((cFr_T ggp430).trans hT) ((cFr_n ggp430).trans hN) rfl (by decide)) (fun w9 hp432 p432 => ?_)
                obtain ⟨gp432, ⟨rfl, p432, ppp432⟩ | ⟨rfl, xp432, p432, up432⟩⟩ := p432
                · have ggp432 := cFr_t ggp430 gp432
                  refine tw_if_ne rfl (fun _ => ?_) (fun z => absurd z (by decide))
                  refine tw_aload rfl rfl ?_
                  refine tw_getS rfl (hi_44_5 ggp432.1) ?_
                  refine tw_istore rfl ?_
                  refine tw_aload rfl rfl ?_
                  refine tw_virt0 rfl (f_wordHere hG hX (ggp432).1 ppp432 ((cFr_T ggp432).trans hT) ((cFr_n ggp432).trans hN)) (fun wp433 hp433 p433 => ?_)
                  obtain ⟨gp433, ppp433, ssp433, eep433, ip433, rfl, kwp433⟩ := p433
                  have ggp433 := cFr_t ggp432 gp433
                  refine tw_push rfl ?_
                  refine tw_ic_ne rfl (fun q434 => ?_) (fun q434 => ?_)
                  · try dsimp only [tvI_i, tvJ_j, tvR_r] at q434
                    have q434i := zneq (Y := 16) (by decide) q434
                    refine tw_iload rfl rfl ?_
                    refine tw_if_eq rfl (fun _ => ?_) (fun z => absurd z (by decide))
                    refine tw_aload rfl rfl ?_
                    refine tw_iload rfl rfl ?_
                    refine tw_iload rfl rfl ?_
                    refine tw_iload rfl rfl ?_
                    refine tw_virt3 rfl (f_keepClause hG hX (ggp433).1 ppp433 ((cFr_T ggp433).trans hT) ((cFr_n ggp433).trans hN) (cQ_f ggp433 hq) (by have := cFr_7 ggp433; rw [this]; exact hlt12)) (fun wp435 hp435 p435 => ?_)
                    obtain ⟨rfl, gqp435, clp435, qqp435, ssp435, ppp435⟩ := p435
                    refine tw_push rfl ?_
                    have hk15 : ip415.toInt.toNat ≠ 15 := by have z := q421i; omega
                    have hk12 : ip415.toInt.toNat = 12 := by have z := q422i; omega
                    have hrm := p430
                    rw [sf420] at hrm
                    have hx1 : cs hp430 = rA vp430.1 (rA (rE T n (rB T n (cs h).1)) (cs h)) := by rw [ssp430, sf420]
                    have ho := p432
                    rw [hx1] at ho
                    have hnw : ¬ rW T n (rB T n (cs hp432).1) (rWd 16) = true := fun z => q434 ((wrd_k (k := 16) kwp433 (by decide) (K := 16) rfl).mpr z)
                    have hc3 : rCl3 T n ip415.toInt.toNat (vp430.2) (rA vp430.1 (rA (rE T n (rB T n (cs h).1)) (cs h))).2.2.length (cs hp432) (.inr (cs hp433, vp430.2, (rA vp430.1 (rA (rE T n (rB T n (cs h).1)) (cs h))).2.2.length, (cs hp432).2.2.length, (cs hp433).2.2.length)) := Or.inr (Or.inr ⟨hnw, hk15, by rw [ssp433]; rfl⟩)
                    have hthv : (Int32.ofNat vp430.2).toNatClampNeg = vp430.2 := zoN (by have := (rM_r (rE_le (rB_le hpn)) hrm).2.2; omega)
                    have hclk : cCl hp435 = cCl h ++ [(vp430.2, (rA vp430.1 (rA (rE T n (rB T n (cs h).1)) (cs h))).2.2.length, (cs hp432).2.2.length, (cs hp433).2.2.length)] := by
                      rw [clp435, cCl_f ggp433, ← hx1, show (cs hp430).2.2.length = _ from cCo_len, show (cs hp433).2.2.length = _ from cCo_len, show (cs hp432).2.2.length = _ from cCo_len]
                      exact congrArg (fun z => cCl h ++ [(z, _, _, _)]) hthv
                    have hcz : rCl T n (cCl h).length (cs h) (.inr (cs hp435, vp430.2, (rA vp430.1 (rA (rE T n (rB T n (cs h).1)) (cs h))).2.2.length, (cs hp432).2.2.length, (cs hp433).2.2.length)) := by rw [ssp435]; exact Or.inr ⟨ip415.toInt.toNat, by omega, by omega, hkw, Or.inr ⟨hc12, Or.inl ⟨hk12, Or.inr ⟨vp430, hrm, Or.inr ⟨hk15, Or.inr ⟨_, ho, hc3⟩⟩⟩⟩⟩⟩
                    exact tw_iret rfl ⟨cFq_t (cFq_f ggp433) gqp435, qqp435, Or.inl ⟨rfl, _, hcz, hclk, ppp435⟩⟩
                  · try dsimp only [tvI_i, tvJ_j, tvR_r] at q434
                    have q434i := zeqi (Y := 16) (by decide) q434
                    refine tw_aload rfl rfl ?_
                    refine tw_aload rfl rfl ?_
                    refine tw_getS rfl (hi_44_3 ggp433.1) ?_
                    refine tw_put rfl (fun f436 => ?_)
                    refine tG_set f436 (hw_44_2 f436 (ggp433).1) (fun hf436 ef436 => ?_)
                    try dsimp only [tvI_i] at ef436
                    have gf436 := cFr_s ggp433 ef436 (by decide)
                    have hw16 := (wrd_k (k := 16) kwp433 (by decide) (K := 16) rfl).mp q434
                    have h9w : rE T n (rB T n (cs hp432).1) = rB T n (cs hp432).1 + 2 := by rw [rW_e hw16, wlen_k.2.2.2]
                    have hyn : (cs hp432).1 ≤ n := by rw [← ((cFr_n ggp432).trans hN)]; exact cP_le ppp432
                    have hr9 := rE_le (T := T) (rB_le (T := T) hyn)
                    rw [h9w] at hr9 eep433
                    obtain ⟨pf436, sf436⟩ := cTo ppp433 ((cFr_n ggp433).trans hN) ef436 eep433 (by rw [ssp433]; exact Nat.le_add_right _ _) hr9
                    have sf436 : cs hf436 = rA (rB T n (cs hp432).1 + 2) (cs hp432) := by rw [sf436, ssp433]; rfl
                    refine tw_aload rfl rfl ?_
                    refine tw_push rfl ?_
                    refine tw_virt1 rfl (tC_rec hG hX (m := 9) (d := 0) (by decide) (gf436).1 pf436 ((cFr_T gf436).trans hT) ((cFr_n gf436).trans hN) rfl (by decide)) (fun w9 hp437 p437 => ?_)
                    obtain ⟨gp437, ⟨rfl, p437, ppp437⟩ | ⟨rfl, xp437, p437, up437⟩⟩ := p437
                    · have ggp437 := cFr_t gf436 gp437
                      refine tw_if_ne rfl (fun _ => ?_) (fun z => absurd z (by decide))
                      refine tw_aload rfl rfl ?_
                      refine tw_iload rfl rfl ?_
                      refine tw_iload rfl rfl ?_
                      refine tw_iload rfl rfl ?_
                      refine tw_virt3 rfl (f_keepClause hG hX (ggp437).1 ppp437 ((cFr_T ggp437).trans hT) ((cFr_n ggp437).trans hN) (cQ_f ggp437 hq) (by have := cFr_7 ggp437; rw [this]; exact hlt12)) (fun wp438 hp438 p438 => ?_)
                      obtain ⟨rfl, gqp438, clp438, qqp438, ssp438, ppp438⟩ := p438
                      refine tw_push rfl ?_
                      have hk15 : ip415.toInt.toNat ≠ 15 := by have z := q421i; omega
                      have hk12 : ip415.toInt.toNat = 12 := by have z := q422i; omega
                      have hrm := p430
                      rw [sf420] at hrm
                      have hx1 : cs hp430 = rA vp430.1 (rA (rE T n (rB T n (cs h).1)) (cs h)) := by rw [ssp430, sf420]
                      have ho := p432
                      rw [hx1] at ho
                      have ht := p437
                      rw [sf436] at ht
                      have hc3 : rCl3 T n ip415.toInt.toNat (vp430.2) (rA vp430.1 (rA (rE T n (rB T n (cs h).1)) (cs h))).2.2.length (cs hp432) (.inr (cs hp437, vp430.2, (rA vp430.1 (rA (rE T n (rB T n (cs h).1)) (cs h))).2.2.length, (cs hp432).2.2.length, (cs hp437).2.2.length)) := Or.inl ⟨hw16, Or.inr ⟨_, ht, rfl⟩⟩
                      have hthv : (Int32.ofNat vp430.2).toNatClampNeg = vp430.2 := zoN (by have := (rM_r (rE_le (rB_le hpn)) hrm).2.2; omega)
                      have hclk : cCl hp438 = cCl h ++ [(vp430.2, (rA vp430.1 (rA (rE T n (rB T n (cs h).1)) (cs h))).2.2.length, (cs hp432).2.2.length, (cs hp437).2.2.length)] := by
                        rw [clp438, cCl_f ggp437, ← hx1, show (cs hp430).2.2.length = _ from cCo_len, show (cs hp437).2.2.length = _ from cCo_len, show (cs hp432).2.2.length = _ from cCo_len]
                        exact congrArg (fun z => cCl h ++ [(z, _, _, _)]) hthv
                      have hcz : rCl T n (cCl h).length (cs h) (.inr (cs hp438, vp430.2, (rA vp430.1 (rA (rE T n (rB T n (cs h).1)) (cs h))).2.2.length, (cs hp432).2.2.length, (cs hp437).2.2.length)) := by rw [ssp438]; exact Or.inr ⟨ip415.toInt.toNat, by omega, by omega, hkw, Or.inr ⟨hc12, Or.inl ⟨hk12, Or.inr ⟨vp430, hrm, Or.inr ⟨hk15, Or.inr ⟨_, ho, hc3⟩⟩⟩⟩⟩⟩
                      exact tw_iret rfl ⟨cFq_t (cFq_f ggp437) gqp438, qqp438, Or.inl ⟨rfl, _, hcz, hclk, ppp438⟩⟩
                    · have ggp437 := cFr_t gf436 gp437
                      refine tw_if_ne rfl (fun z => absurd z (by decide)) (fun _ => ?_)
                      refine tw_push rfl ?_
                      have hk15 : ip415.toInt.toNat ≠ 15 := by have z := q421i; omega
                      have hk12 : ip415.toInt.toNat = 12 := by have z := q422i; omega
                      have hrm := p430
                      rw [sf420] at hrm
                      have hx1 : cs hp430 = rA vp430.1 (rA (rE T n (rB T n (cs h).1)) (cs h)) := by rw [ssp430, sf420]
                      have ho := p432
                      rw [hx1] at ho
                      have ht := p437
                      rw [sf436] at ht
                      have hc3 : rCl3 T n ip415.toInt.toNat (vp430.2) (rA vp430.1 (rA (rE T n (rB T n (cs h).1)) (cs h))).2.2.length (cs hp432) (.inl _) := Or.inl ⟨hw16, Or.inl ⟨_, ht, rfl⟩⟩
                      exact tw_iret rfl ⟨cFq_f ggp437, cQ_f ggp437 hq, Or.inr ⟨rfl, _, Or.inr ⟨ip415.toInt.toNat, by omega, by omega, hkw, Or.inr ⟨hc12, Or.inl ⟨hk12, Or.inr ⟨vp430, hrm, Or.inr ⟨hk15, Or.inr ⟨_, ho, hc3⟩⟩⟩⟩⟩⟩, up437⟩⟩
                · have ggp432 := cFr_t ggp430 gp432
                  refine tw_if_ne rfl (fun z => absurd z (by decide)) (fun _ => ?_)
                  refine tw_push rfl ?_
                  have hk15 : ip415.toInt.toNat ≠ 15 := by have z := q421i; omega
                  have hk12 : ip415.toInt.toNat = 12 := by have z := q422i; omega
                  have hrm := p430
                  rw [sf420] at hrm
                  have hx1 : cs hp430 = rA vp430.1 (rA (rE T n (rB T n (cs h).1)) (cs h)) := by rw [ssp430, sf420]
                  have ho := p432
                  rw [hx1] at ho
                  exact tw_iret rfl ⟨cFq_f ggp432, cQ_f ggp432 hq, Or.inr ⟨rfl, _, Or.inr ⟨ip415.toInt.toNat, by omega, by omega, hkw, Or.inr ⟨hc12, Or.inl ⟨hk12, Or.inr ⟨vp430, hrm, Or.inr ⟨hk15, Or.inl ⟨_, ho, rfl⟩⟩⟩⟩⟩⟩, up432⟩⟩
              · try dsimp only [tvI_i, tvJ_j, tvR_r] at q431
                have q431i := zeqi (Y := (-1)) (by decide) q431
                exact absurd q431 (zoN9 (by have := (rM_r (rE_le (rB_le hpn)) (by have y := p430; rw [sf420] at y; exact y)).2.2; omega))
            · have ggp430 := cFr_t gf420 gp430
              refine tw_istore rfl ?_
              refine tw_iload rfl rfl ?_
              refine tw_push rfl ?_
              refine tw_ic_ne rfl (fun z => absurd z (by decide)) (fun _ => ?_)
              refine tw_push rfl ?_
              have hk15 : ip415.toInt.toNat ≠ 15 := by have z := q421i; omega
              have hk12 : ip415.toInt.toNat = 12 := by have z := q422i; omega
              have hrm := p430
              rw [sf420] at hrm
              exact tw_iret rfl ⟨cFq_f ggp430, cQ_f ggp430 hq, Or.inr ⟨rfl, _, Or.inr ⟨ip415.toInt.toNat, by omega, by omega, hkw, Or.inr ⟨hc12, Or.inl ⟨hk12, Or.inl ⟨_, hrm, rfl⟩⟩⟩⟩, up430⟩⟩
        · try dsimp only [tvI_i, tvJ_j, tvR_r] at q421
          have q421i := zeqi (Y := 15) (by decide) q421
          refine tw_push rfl ?_
          refine tw_goto rfl ?_
          refine tw_istore rfl ?_
          refine tw_iload rfl rfl ?_
          refine tw_push rfl ?_
          refine tw_ic_ne rfl (fun q439 => ?_) (fun q439 => ?_)
          · try dsimp only [tvI_i, tvJ_j, tvR_r] at q439
            have q439i := zneq (Y := 12) (by decide) q439
            refine tw_aload rfl rfl ?_
            refine tw_getS rfl (hi_44_5 (gf420).1) ?_
            refine tw_istore rfl ?_
            refine tw_iload rfl rfl ?_
            refine tw_if_ne rfl (fun _ => ?_) (fun z => absurd z (by decide))
            refine tw_aload rfl rfl ?_
            refine tw_getS rfl (hi_44_5 (gf420).1) ?_
            refine tw_istore rfl ?_
            refine tw_aload rfl rfl ?_
            refine tw_virt0 rfl (f_wordHere hG hX (gf420).1 pf420 ((cFr_T gf420).trans hT) ((cFr_n gf420).trans hN)) (fun wp440 hp440 p440 => ?_)
            obtain ⟨gp440, ppp440, ssp440, eep440, ip440, rfl, kwp440⟩ := p440
            have ggp440 := cFr_t gf420 gp440
            refine tw_push rfl ?_
            refine tw_ic_ne rfl (fun q441 => ?_) (fun q441 => ?_)
            · try dsimp only [tvI_i, tvJ_j, tvR_r] at q441
              have q441i := zneq (Y := 16) (by decide) q441
              refine tw_iload rfl rfl ?_
              refine tw_if_eq rfl (fun z => absurd z (by decide)) (fun _ => ?_)
              refine tw_aload rfl rfl ?_
              refine tw_aload rfl rfl ?_
              refine tw_getS rfl (hi_44_2 ggp440.1) ?_
              refine tw_push rfl ?_
              refine tw_virt2 rfl (f_refuse hG hX (ggp440).1 ppp440 ((cFr_T ggp440).trans hT) ((cFr_n ggp440).trans hN)) (fun wp442 hp442 p442 => ?_)
              obtain ⟨gp442, rfl, up442⟩ := p442
              have ggp442 := cFr_t ggp440 gp442
              have hk15 : ip415.toInt.toNat = 15 := by have z := q421i; omega
              have hk12 : ip415.toInt.toNat ≠ 12 := by omega
              have hx1 := sf420
              have hy1 := hx1
              have hnw : ¬ rW T n (rB T n (cs hf420).1) (rWd 16) = true := fun z => q441 ((wrd_k (k := 16) kwp440 (by decide) (K := 16) rfl).mpr z)
              have hft := cFt_of ppp440 up442 (w := 0) rfl (by decide)
              rw [ssp440, hx1] at hft
              rw [hx1] at hnw
              have hc3 : rCl3 T n ip415.toInt.toNat (ip415.toInt.toNat) (rA (rE T n (rB T n (cs h).1)) (cs h)).2.2.length (rA (rE T n (rB T n (cs h).1)) (cs h)) (.inl (1 + 8 * rB T n (rA (rE T n (rB T n (cs h).1)) (cs h)).1 + 0)) := Or.inr (Or.inl ⟨hnw, hk15, rfl⟩)
              have hft2 : cFt hp442 (1 + 8 * rB T n (rA (rE T n (rB T n (cs h).1)) (cs h)).1 + 0) := hft
              exact tw_iret rfl ⟨cFq_f ggp442, cQ_f ggp442 hq, Or.inr ⟨rfl, _, Or.inr ⟨ip415.toInt.toNat, by omega, by omega, hkw, Or.inr ⟨hc12, Or.inr ⟨hk12, Or.inl ⟨hk15, hc3⟩⟩⟩⟩, hft2⟩⟩
            · try dsimp only [tvI_i, tvJ_j, tvR_r] at q441
              have q441i := zeqi (Y := 16) (by decide) q441
              refine tw_aload rfl rfl ?_
              refine tw_aload rfl rfl ?_
              refine tw_getS rfl (hi_44_3 ggp440.1) ?_
              refine tw_put rfl (fun f443 => ?_)
              refine tG_set f443 (hw_44_2 f443 (ggp440).1) (fun hf443 ef443 => ?_)
              try dsimp only [tvI_i] at ef443
              have gf443 := cFr_s ggp440 ef443 (by decide)
              have hw16 := (wrd_k (k := 16) kwp440 (by decide) (K := 16) rfl).mp q441
              have h9w : rE T n (rB T n (cs hf420).1) = rB T n (cs hf420).1 + 2 := by rw [rW_e hw16, wlen_k.2.2.2]
              have hyn : (cs hf420).1 ≤ n := by rw [← ((cFr_n gf420).trans hN)]; exact cP_le pf420
              have hr9 := rE_le (T := T) (rB_le (T := T) hyn)
              rw [h9w] at hr9 eep440
              obtain ⟨pf443, sf443⟩ := cTo ppp440 ((cFr_n ggp440).trans hN) ef443 eep440 (by rw [ssp440]; exact Nat.le_add_right _ _) hr9
              have sf443 : cs hf443 = rA (rB T n (cs hf420).1 + 2) (cs hf420) := by rw [sf443, ssp440]; rfl
              refine tw_aload rfl rfl ?_
              refine tw_push rfl ?_
              refine tw_virt1 rfl (tC_rec hG hX (m := 9) (d := 0) (by decide) (gf443).1 pf443 ((cFr_T gf443).trans hT) ((cFr_n gf443).trans hN) rfl (by decide)) (fun w9 hp444 p444 => ?_)
              obtain ⟨gp444, ⟨rfl, p444, ppp444⟩ | ⟨rfl, xp444, p444, up444⟩⟩ := p444
              · have ggp444 := cFr_t gf443 gp444
                refine tw_if_ne rfl (fun _ => ?_) (fun z => absurd z (by decide))
                refine tw_aload rfl rfl ?_
                refine tw_iload rfl rfl ?_
                refine tw_iload rfl rfl ?_
                refine tw_iload rfl rfl ?_
                refine tw_virt3 rfl (f_keepClause hG hX (ggp444).1 ppp444 ((cFr_T ggp444).trans hT) ((cFr_n ggp444).trans hN) (cQ_f ggp444 hq) (by have := cFr_7 ggp444; rw [this]; exact hlt12)) (fun wp445 hp445 p445 => ?_)
                obtain ⟨rfl, gqp445, clp445, qqp445, ssp445, ppp445⟩ := p445
                refine tw_push rfl ?_
                have hk15 : ip415.toInt.toNat = 15 := by have z := q421i; omega
                have hk12 : ip415.toInt.toNat ≠ 12 := by omega
                have hx1 := sf420
                have hy1 := hx1
                rw [hx1] at hw16
                have ht := p444
                rw [sf443, hx1] at ht
                have hc3 : rCl3 T n ip415.toInt.toNat (ip415.toInt.toNat) (rA (rE T n (rB T n (cs h).1)) (cs h)).2.2.length (rA (rE T n (rB T n (cs h).1)) (cs h)) (.inr (cs hp444, ip415.toInt.toNat, (rA (rE T n (rB T n (cs h).1)) (cs h)).2.2.length, (rA (rE T n (rB T n (cs h).1)) (cs h)).2.2.length, (cs hp444).2.2.length)) := Or.inl ⟨hw16, Or.inr ⟨_, ht, rfl⟩⟩
                have hthv : (ip415).toNatClampNeg = ip415.toInt.toNat := rfl
                have hclk : cCl hp445 = cCl h ++ [(ip415.toInt.toNat, (rA (rE T n (rB T n (cs h).1)) (cs h)).2.2.length, (rA (rE T n (rB T n (cs h).1)) (cs h)).2.2.length, (cs hp444).2.2.length)] := by
                  rw [clp445, cCl_f ggp444, ← hx1, show (cs hf420).2.2.length = _ from cCo_len, show (cs hp444).2.2.length = _ from cCo_len]
                  exact congrArg (fun z => cCl h ++ [(z, _, _, _)]) hthv
                have hcz : rCl T n (cCl h).length (cs h) (.inr (cs hp445, ip415.toInt.toNat, (rA (rE T n (rB T n (cs h).1)) (cs h)).2.2.length, (rA (rE T n (rB T n (cs h).1)) (cs h)).2.2.length, (cs hp444).2.2.length)) := by rw [ssp445]; exact Or.inr ⟨ip415.toInt.toNat, by omega, by omega, hkw, Or.inr ⟨hc12, Or.inr ⟨hk12, Or.inl ⟨hk15, hc3⟩⟩⟩⟩
                exact tw_iret rfl ⟨cFq_t (cFq_f ggp444) gqp445, qqp445, Or.inl ⟨rfl, _, hcz, hclk, ppp445⟩⟩
              · have ggp444 := cFr_t gf443 gp444
                refine tw_if_ne rfl (fun z => absurd z (by decide)) (fun _ => ?_)
                refine tw_push rfl ?_
                have hk15 : ip415.toInt.toNat = 15 := by have z := q421i; omega
                have hk12 : ip415.toInt.toNat ≠ 12 := by omega
                have hx1 := sf420
                have hy1 := hx1
                rw [hx1] at hw16
                have ht := p444
                rw [sf443, hx1] at ht
                have hc3 : rCl3 T n ip415.toInt.toNat (ip415.toInt.toNat) (rA (rE T n (rB T n (cs h).1)) (cs h)).2.2.length (rA (rE T n (rB T n (cs h).1)) (cs h)) (.inl _) := Or.inl ⟨hw16, Or.inl ⟨_, ht, rfl⟩⟩
                exact tw_iret rfl ⟨cFq_f ggp444, cQ_f ggp444 hq, Or.inr ⟨rfl, _, Or.inr ⟨ip415.toInt.toNat, by omega, by omega, hkw, Or.inr ⟨hc12, Or.inr ⟨hk12, Or.inl ⟨hk15, hc3⟩⟩⟩⟩, up444⟩⟩
          · try dsimp only [tvI_i, tvJ_j, tvR_r] at q439
            have q439i := zeqi (Y := 12) (by decide) q439
            exact absurd (q421.symm.trans q439) (by decide)
      · try dsimp only [tvI_i, tvJ_j, tvR_r] at q419
        have q419i := zeqi (Y := 12) (by decide) q419
        refine tw_aload rfl rfl ?_
        refine tw_aload rfl rfl ?_
        refine tw_getS rfl (hi_44_2 ggp415.1) ?_
        refine tw_push rfl ?_
        refine tw_virt2 rfl (f_refuse hG hX (ggp415).1 ppp415 ((cFr_T ggp415).trans hT) ((cFr_n ggp415).trans hN)) (fun wp446 hp446 p446 => ?_)
        obtain ⟨gp446, rfl, up446⟩ := p446
        have ggp446 := cFr_t ggp415 gp446
        have kwb := kwp415.1
        have hk1 : 12 ≤ ip415.toInt := by have z := q416; omega
        have hk2 : ip415.toInt ≤ 15 := by have z := q418; omega
        have hkw : rW T n (rB T n (cs h).1) (rWd ip415.toInt.toNat) = true := (kwp415.2 ip415.toInt.toNat (by omega)).mp (by omega)
        have hft := cFt_of ppp415 up446 (w := 4) rfl (by decide)
        rw [ssp415] at hft
        have h12 : (cCl h).length = 12 := (c12 hq).mpr ((congrArg tvI (cFr_7 ggp415)).symm.trans q419)
        exact tw_iret rfl ⟨cFq_f ggp446, cQ_f ggp446 hq, Or.inr ⟨rfl, _, Or.inr ⟨ip415.toInt.toNat, by omega, by omega, hkw, Or.inl ⟨h12, rfl⟩⟩, hft⟩⟩
    · try dsimp only [tvI_i, tvJ_j, tvR_r] at q418
      refine tw_aload rfl rfl ?_
      refine tw_aload rfl rfl ?_
      refine tw_getS rfl (hi_44_2 ggp415.1) ?_
      refine tw_push rfl ?_
      refine tw_virt2 rfl (f_refuse hG hX (ggp415).1 ppp415 ((cFr_T ggp415).trans hT) ((cFr_n ggp415).trans hN)) (fun wp447 hp447 p447 => ?_)
      obtain ⟨gp447, rfl, up447⟩ := p447
      have ggp447 := cFr_t ggp415 gp447
      have kwb := kwp415.1
      have hft := cFt_of ppp415 up447 (w := 0) rfl (by decide)
      rw [ssp415] at hft
      have z0 := q416
      have z1 := q418
      exact tw_iret rfl ⟨cFq_f ggp447, cQ_f ggp447 hq, Or.inr ⟨rfl, _, Or.inl ⟨fun k h1 h2 z => by have y := (kwp415.2 k (by omega)).mpr z; omega, rfl⟩, hft⟩⟩
theorem cRst {h a b c d e : zH} (hs : tSh h) (hl : 0 ≤ (tvI (tF h 44 1)).toInt ∧ (tvI (tF h 44 1)).toInt ≤ 400) (hT : ∀ i, i < 400 → -128 ≤ (tA h 45 i).toInt ∧ (tA h 45 i).toInt ≤ 127) (h46 : tN h 46 = 400) (h47 : tN h 47 = 48) (e2 : cSet 2 0 h a) (e5 : cSet 5 0 a b) (e7 : cSet 7 0 b c) (e8 : cSet 8 0 c d) (e9 : cSet 9 (-1) d e) : cFq h e ∧ cs e = (0, 0, []) ∧ cCl e = [] ∧ cP e ∧ cQ e := by
  have F : ∀ p q, ¬ (p = 44 ∧ (q = 2 ∨ q = 3 ∨ q = 5 ∨ q = 7 ∨ q = 8 ∨ q = 9)) → tF e p q = tF h p q := fun p q z =>
    (e9.2.2.1 p q (fun w => z ⟨w.1, by omega⟩)).trans ((e8.2.2.1 p q (fun w => z ⟨w.1, by omega⟩)).trans ((e7.2.2.1 p q (fun w => z ⟨w.1, by omega⟩)).trans ((e5.2.2.1 p q (fun w => z ⟨w.1, by omega⟩)).trans (e2.2.2.1 p q (fun w => z ⟨w.1, by omega⟩)))))
  have A : tA e = tA h := e9.2.2.2.1.trans (e8.2.2.2.1.trans (e7.2.2.2.1.trans (e5.2.2.2.1.trans e2.2.2.2.1)))
  have N : tN e = tN h := e9.2.2.2.2.trans (e8.2.2.2.2.trans (e7.2.2.2.2.trans (e5.2.2.2.2.trans e2.2.2.2.2)))
  have f8 : tF e 44 8 = .int 0 := (e9.2.2.1 44 8 (by decide)).trans e8.2.1
  have f7 : tF e 44 7 = .int 0 := (e9.2.2.1 44 7 (by decide)).trans ((e8.2.2.1 44 7 (by decide)).trans e7.2.1)
  have f5 : tF e 44 5 = .int 0 := (e9.2.2.1 44 5 (by decide)).trans ((e8.2.2.1 44 5 (by decide)).trans ((e7.2.2.1 44 5 (by decide)).trans e5.2.1))
  have f2 : tF e 44 2 = .int 0 := (e9.2.2.1 44 2 (by decide)).trans ((e8.2.2.1 44 2 (by decide)).trans ((e7.2.2.1 44 2 (by decide)).trans ((e5.2.2.1 44 2 (by decide)).trans e2.2.1)))
  have f1 : tF e 44 1 = tF h 44 1 := F 44 1 (by decide)
  refine ⟨⟨e9.1, F, fun p _ _ => congrFun A p, N⟩, ?_, ?_, ⟨?_, ?_, ?_, ?_, ?_, e9.2.1⟩, ⟨?_, ?_, ?_⟩⟩
  · unfold cs cCo
    rw [f2, f8, f5]
    rfl
  · unfold cCl
    rw [f7]
    rfl
  · rw [f2, f1]
    refine ⟨by decide, ?_, hl.2⟩
    show (0 : Int) ≤ _
    exact hl.1
  · rw [f8]; decide
  · rw [f5, f2]; decide
  · rw [A]; exact hT
  · rw [N]; exact h46
  · rw [f7]; decide
  · rw [f7]; decide
  · rw [N]; exact h47
theorem cFtv {h : zH} {e : Nat} (u : cFt h e) : tF h 44 9 = .int (Int32.ofNat e) := u
theorem rTon {T : Nat → Int32} {n : Nat} {c : Int32} {s s2 : rS} (h : rT T n c s = some (.inr s2)) : (rB T n s.1 < n ∧ T (rB T n s.1) = c) ∧ s2 = rA (rB T n s.1 + 1) s := by
  unfold rT at h
  by_cases z : rB T n s.1 < n ∧ T (rB T n s.1) = c
  · rw [if_pos z] at h; cases h; exact ⟨z, rfl⟩
  · rw [if_neg z] at h; cases h
theorem rToff {T : Nat → Int32} {n e : Nat} {c : Int32} {s : rS} (h : rT T n c s = some (.inl e)) : ¬ (rB T n s.1 < n ∧ T (rB T n s.1) = c) ∧ e = 1 + 8 * rB T n s.1 + 0 := by
  unfold rT at h
  by_cases z : rB T n s.1 < n ∧ T (rB T n s.1) = c
  · rw [if_pos z] at h; cases h
  · rw [if_neg z] at h; cases h; exact ⟨z, rfl⟩
theorem rCl_12 {T : Nat → Int32} {n c : Nat} {s : rS} {x : rS × rCt} (h : rCl T n c s (.inr x)) : c ≠ 12 := by
  rcases h with ⟨-, h⟩ | ⟨k, -, -, -, ⟨-, h⟩ | ⟨h, -⟩⟩
  · cases h
  · cases h
  · exact h
theorem f_readRule {G : zG} (hG : G.1 = zProg) (hX : G.2.1 = ztx) {h : zH} {T : Nat → Int32} {n : Nat} (hs : tSh h) (hT : tA h 45 = T) (hN : cn h = n) (hl : 0 ≤ (tvI (tF h 44 1)).toInt ∧ (tvI (tF h 44 1)).toInt ≤ 400) (hT9 : ∀ i, i < 400 → -128 ≤ (tA h 45 i).toInt ∧ (tA h 45 i).toInt ≤ 127) (h46 : tN h 46 = 400) (h47 : tN h 47 = 48) : tC zTt G 75 [.ref 44] h (fun w h2 => cFq h h2 ∧ ((∃ f, rRu T n f (0, 0, []) [] (.inr (cs h2, cCl h2)) ∧ w = some (.int (-1)) ∧ cP h2 ∧ cQ h2) ∨ ∃ e f, rRu T n f (0, 0, []) [] (.inl e) ∧ w = some (.int (Int32.ofNat e)))) := by
  refine tC_in (by rw [hG]; rfl) (fun dp => ?_)
  refine tw_aload rfl rfl ?_
  refine tw_push rfl ?_
  refine tw_put rfl (fun f448 => ?_)
  refine tG_set f448 (hw_44_2 f448 hs) (fun hf448 ef448 => ?_)
  try dsimp only [tvI_i] at ef448
  refine tw_aload rfl rfl ?_
  refine tw_push rfl ?_
  refine tw_put rfl (fun f449 => ?_)
  refine tG_set f449 (hw_44_5 f449 ef448.1) (fun hf449 ef449 => ?_)
  try dsimp only [tvI_i] at ef449
  refine tw_aload rfl rfl ?_
  refine tw_push rfl ?_
  refine tw_put rfl (fun f450 => ?_)
  refine tG_set f450 (hw_44_7 f450 ef449.1) (fun hf450 ef450 => ?_)
  try dsimp only [tvI_i] at ef450
  refine tw_aload rfl rfl ?_
  refine tw_push rfl ?_
  refine tw_put rfl (fun f451 => ?_)
  refine tG_set f451 (hw_44_8 f451 ef450.1) (fun hf451 ef451 => ?_)
  try dsimp only [tvI_i] at ef451
  refine tw_aload rfl rfl ?_
  refine tw_push rfl ?_
  refine tw_put rfl (fun f452 => ?_)
  refine tG_set f452 (hw_44_9 f452 ef451.1) (fun hf452 ef452 => ?_)
  try dsimp only [tvI_i] at ef452
  refine tw_push rfl ?_
  refine tw_istore rfl ?_
  refine tG_loop (zW_mono zTt G dp) (zW_conj zTt G dp) (V := fun pc L st h9 _ _ => pc = 27 ∧ st = [] ∧ ∃ (h1 : zH) (k : Nat) (x : Int32), h1 = h9 ∧ x.toInt = k ∧ cFq h h1 ∧ cP h1 ∧ cQ h1 ∧ (cCl h1).length = k ∧ (∀ r, (∃ f, rRu T n f (cs h1) (cCl h1) r) → ∃ f, rRu T n f (0, 0, []) [] r) ∧ L = [some (.ref 44), some (.int x)]) ?_ (⟨rfl, rfl, _, 0, 0, rfl, rfl, (cRst hs hl hT9 h46 h47 ef448 ef449 ef450 ef451 ef452).1, (cRst hs hl hT9 h46 h47 ef448 ef449 ef450 ef451 ef452).2.2.2.1, (cRst hs hl hT9 h46 h47 ef448 ef449 ef450 ef451 ef452).2.2.2.2, (by rw [(cRst hs hl hT9 h46 h47 ef448 ef449 ef450 ef451 ef452).2.2.1]; rfl), (fun r z => by rw [(cRst hs hl hT9 h46 h47 ef448 ef449 ef450 ef451 ef452).2.1, (cRst hs hl hT9 h46 h47 ef448 ef449 ef450 ef451 ef452).2.2.1] at z; exact z), rfl⟩)
  rintro _ _ _ _ _ _ ⟨rfl, rfl, h1, k, x, rfl, hx, gF, p1, q1, hk, hR, rfl⟩
  have g1 := cFr_r gF.1
  refine tw_iload rfl rfl ?_
  refine tw_push rfl ?_
  refine tw_ic_gt rfl (fun q453 => ?_) (fun q453 => ?_)
  · try dsimp only [tvI_i, tvJ_j, tvR_r] at q453
    refine tw_aload rfl rfl ?_
    refine tw_getS rfl (hi_44_9 g1.1) ?_
    exfalso
    have := q1.1
    have := q1.2.1
    rw [cCl_len, zclE] at hk
    have c129 : (12 : Int32).toInt = 12 := rfl
    have z := q453
    omega
  · try dsimp only [tvI_i, tvJ_j, tvR_r] at q453
    refine tw_aload rfl rfl ?_
    refine tw_virt0 rfl (f_readClause hG hX g1.1 p1 ((cFq_T gF).trans hT) ((cFq_n gF).trans hN) q1) (fun w9 hp454 p454 => ?_)
    obtain ⟨gqp454, qqp454, ⟨rfl, cp454, p454, clp454, ppp454⟩ | ⟨rfl, xp454, p454, up454⟩⟩ := p454
    · have gzp454 := cFr_r gqp454.1
      refine tw_if_eq rfl (fun z => absurd z (by decide)) (fun _ => ?_)
      refine tw_aload rfl rfl ?_
      refine tw_virt0 rfl (f_signHere hG hX (gzp454).1 ppp454 ((cFq_T (cFq_t gF gqp454)).trans hT) ((cFq_n (cFq_t gF gqp454)).trans hN)) (fun wp455 hp455 p455 => ?_)
      obtain ⟨gp455, ppp455, ssp455, t3p455, cp455, rfl, kp455⟩ := p455
      have ggp455 := cFr_t gzp454 gp455
      refine tw_push rfl ?_
      refine tw_ic_eq rfl (fun q456 => ?_) (fun q456 => ?_)
      · try dsimp only [tvI_i, tvJ_j, tvR_r] at q456
        have q456i := zeqi (Y := (-1)) (by decide) q456
        refine tw_aload rfl rfl ?_
        refine tw_getS rfl (hi_44_9 ggp455.1) ?_
        have hne : ¬ rB T n (cs hp454).1 < n := kp455.2.mp q456
        obtain ⟨f9, z⟩ := hR _ ⟨1, Or.inr ⟨_, _, p454, Or.inl ⟨hne, rfl⟩⟩⟩
        have hcc : cCl hp455 = cCl h1 ++ [cp454] := (cCl_f gp455).trans clp454
        rw [← hcc, ← ssp455] at z
        exact tw_iret rfl ⟨cFq_t (cFq_t gF gqp454) (cFq_f gp455), Or.inl ⟨f9, z, by rw [ppp455.2.2.2.2.2]; rfl, ppp455, cQ_f gp455 qqp454⟩⟩
      · try dsimp only [tvI_i, tvJ_j, tvR_r] at q456
        have q456i := zneq (Y := (-1)) (by decide) q456
        refine tw_aload rfl rfl ?_
        refine tw_push rfl ?_
        refine tw_virt1 rfl (f_takeSign hG hX (ggp455).1 ppp455 ((cFr_T ggp455).trans ((cFq_T (cFq_t gF gqp454)).trans hT)) ((cFr_n ggp455).trans ((cFq_n (cFq_t gF gqp454)).trans hN)) (y := 59) (by decide)) (fun w9 hp457 p457 => ?_)
        obtain ⟨gp457, ⟨rfl, p457, ppp457⟩ | ⟨rfl, xp457, p457, up457⟩⟩ := p457
        · have ggp457 := cFr_t ggp455 gp457
          refine tw_if_ne rfl (fun _ => ?_) (fun z => absurd z (by decide))
          refine tw_iinc rfl rfl ?_
          refine tw_goto rfl ?_
          have hcl : (cCl h1).length < 12 := by have z := rCl_12 (T := T) p454; have y := q1; rw [cCl_len, zclE] at *; have := q1.1; have := q1.2.1; omega
          have hts := rTon p457
          rw [ssp455, show (rA (rB T n (cs hp454).1) (cs hp454)).1 = rB T n (cs hp454).1 from rfl, rB_2] at hts
          have hcc : cCl hp457 = cCl h1 ++ [cp454] := (cCl_f (cFr_t (cFr_t (cFr_r gqp454.1) gp455) gp457)).trans clp454
          refine tG_cut (zW_mono zTt G dp) (Or.inr ⟨rfl, rfl, _, k + 1, x + 1, rfl, zincN hx (by omega), cFq_t (cFq_t gF gqp454) (cFq_f (cFr_t gp455 gp457)), ppp457, cQ_f (cFr_t gp455 gp457) qqp454, (by rw [hcc, List.length_append, hk]; rfl), (fun r z => ?_), rfl⟩)
          rw [hcc, hts.2] at z
          obtain ⟨f9, z⟩ := z
          exact hR r ⟨f9 + 1, Or.inr ⟨_, _, p454, Or.inr (Or.inl ⟨hts.1, z⟩)⟩⟩
        · have ggp457 := cFr_t ggp455 gp457
          refine tw_if_ne rfl (fun z => absurd z (by decide)) (fun _ => ?_)
          refine tw_goto rfl ?_
          refine tw_aload rfl rfl ?_
          refine tw_getS rfl (hi_44_9 ggp457.1) ?_
          have hts := rToff p457
          rw [ssp455, show (rA (rB T n (cs hp454).1) (cs hp454)).1 = rB T n (cs hp454).1 from rfl, rB_2] at hts
          have hlt : rB T n (cs hp454).1 < n := Classical.byContradiction (fun z => q456 (kp455.2.mpr z))
          obtain ⟨f9, z⟩ := hR _ ⟨1, Or.inr ⟨_, _, p454, Or.inr (Or.inr ⟨⟨hlt, fun z => hts.1 ⟨hlt, z⟩⟩, rfl⟩)⟩⟩
          exact tw_iret rfl ⟨cFq_t (cFq_t gF gqp454) (cFq_f (cFr_t gp455 gp457)), Or.inr ⟨_, f9, z, by rw [cFtv up457, hts.2]; rfl⟩⟩
    · refine tw_if_eq rfl (fun _ => ?_) (fun z => absurd z (by decide))
      refine tw_aload rfl rfl ?_
      refine tw_getS rfl (hi_44_9 gqp454.1) ?_
      obtain ⟨f9, z⟩ := hR _ ⟨1, Or.inl ⟨_, p454, rfl⟩⟩
      exact tw_iret rfl ⟨cFq_t gF gqp454, Or.inr ⟨_, f9, z, by rw [cFtv up454]; rfl⟩⟩
/-! the reader with a pile, as it stands in the object 111 -/
noncomputable def mCode (s v : Nat) : Nat := if s = 0 then v else if s = 1 then (if v < 12 then 100000 + v else 200000 + v) else if s = 2 then 100102 else if s = 3 then 100100 else if s = 4 then 100101 else if s = 10 then 100110 else if s = 11 then 100109 else if s = 12 then 100108 else 100098 + s
theorem mCode_1 {v : Nat} (h : v < 12) : mCode 1 v = 100000 + v := by
  show (if v < 12 then 100000 + v else 200000 + v) = _
  rw [if_pos h]
noncomputable def mEn (h : zH) : List Nat := (List.range (tvI (tF h 111 31)).toNatClampNeg).map (fun i => mCode (tA h 133 (500 * (tvI (tF h 111 30)).toNatClampNeg + i)).toNatClampNeg (tA h 134 (500 * (tvI (tF h 111 30)).toNatClampNeg + i)).toNatClampNeg)
noncomputable def mSk (h : zH) : List Nat := ((List.range (tvI (tF h 111 34)).toNatClampNeg).map (fun i => (tA h 142 i).toNatClampNeg)).reverse
noncomputable def ms (h : zH) : rS := ((tvI (tF h 111 28)).toNatClampNeg, (tvI (tF h 111 33)).toNatClampNeg, mEn h)
noncomputable abbrev mn (h : zH) : Nat := (tvI (tF h 111 27)).toNatClampNeg
noncomputable def mFs (b : Nat) : Prop := b = 28 ∨ b = 29 ∨ b = 31 ∨ b = 32 ∨ b = 33 ∨ b = 34
/-- what is told of the rules before stays -/
noncomputable def mLo (h h2 : zH) : Prop := ∀ q, q < 500 * (tvI (tF h 111 30)).toNatClampNeg → tA h2 133 q = tA h 133 q ∧ tA h2 134 q = tA h 134 q
theorem mLo_r {h : zH} : mLo h h := fun _ _ => ⟨rfl, rfl⟩
theorem mLo_t {h h1 h2 : zH} (e : tF h1 111 30 = tF h 111 30) (a : mLo h h1) (k : mLo h1 h2) : mLo h h2 := fun q hq =>
  have y := k q (by rw [e]; exact hq)
  ⟨y.1.trans (a q hq).1, y.2.trans (a q hq).2⟩
theorem mLo_A {h h1 h2 : zH} (e : tA h2 = tA h1) (a : mLo h h1) : mLo h h2 := fun q hq => by rw [e]; exact a q hq
theorem mLo_p {h h2 : zH} (a : tA h2 133 = tA h 133) (b : tA h2 134 = tA h 134) : mLo h h2 := fun q _ => ⟨by rw [a], by rw [b]⟩
noncomputable def mFr (h h2 : zH) : Prop := tSh h2 ∧ (∀ p b, ¬ (p = 111 ∧ mFs b) → tF h2 p b = tF h p b) ∧ (∀ p, p ≠ 133 → p ≠ 134 → p ≠ 142 → tA h2 p = tA h p) ∧ tN h2 = tN h ∧ mLo h h2
/-- no fault so far -/
noncomputable def mP (h : zH) : Prop := tF h 111 29 = .int 0 ∧ (0 ≤ (tvI (tF h 111 28)).toInt ∧ (tvI (tF h 111 28)).toInt ≤ (tvI (tF h 111 27)).toInt ∧ (tvI (tF h 111 27)).toInt ≤ 400) ∧ (0 ≤ (tvI (tF h 111 33)).toInt ∧ (tvI (tF h 111 33)).toInt ≤ 80) ∧ (0 ≤ (tvI (tF h 111 31)).toInt ∧ (tvI (tF h 111 31)).toInt ≤ 100000) ∧ 0 ≤ (tvI (tF h 111 34)).toInt ∧ (0 ≤ (tvI (tF h 111 30)).toInt ∧ (tvI (tF h 111 30)).toInt ≤ 10) ∧ (∀ i, i < tN h 142 → 0 ≤ (tA h 142 i).toInt) ∧ (∀ i : Nat, i = i) ∧ tN h 133 ≤ 100000 ∧ tN h 142 ≤ 100000
noncomputable def mD (h : zH) : Prop := (tvI (tF h 111 32)).toInt = mDp (mSk h)
noncomputable def mSet (b : Nat) (X : Int32) (h h3 : zH) : Prop := tSh h3 ∧ tF h3 111 b = .int X ∧ (∀ p q, ¬ (p = 111 ∧ q = b) → tF h3 p q = tF h p q) ∧ tA h3 = tA h ∧ tN h3 = tN h
/-- a fault stands -/
noncomputable def mFt (h : zH) (e : Nat) : Prop := tF h 111 29 = .int (Int32.ofNat e) ∧ 0 < e ∧ e < 100000
section MF
variable {h h1 h2 h3 : zH} {b e : Nat} {X : Int32}
theorem mSet_of (hf : tFd h 111 b) (hs : tSh (tSF h 111 b (.int X))) : mSet b X h (tSF h 111 b (.int X)) := ⟨hs, tF_same hf, fun _ _ hn => tF_nz hn, tA_tSF _ _ _ _, tN_tSF _ _ _ _⟩
theorem tG_setm {tt : zT} {G : zG} {cd : zK} {bc bs : Nat} {rt : Option FieldType} {M : zM} {Q : zQ} {Z : zX} {f : Bool} {pc : Nat} {L : zL} {st : List Value} {c n : Nat} (hf : tFd h 111 b) (hs : tSh (tSF h 111 b (.int X))) (k : ∀ h3, mSet b X h h3 → tG tt G cd bc bs rt M Q Z f pc L st h3 c n) : tG tt G cd bc bs rt M Q Z f pc L st (tSF h 111 b (.int X)) c n := k _ (mSet_of hf hs)
theorem mFr_r (hs : tSh h) : mFr h h := ⟨hs, fun _ _ _ => rfl, fun _ _ _ _ => rfl, rfl, mLo_r⟩
theorem mFr_t (a : mFr h h1) (k : mFr h1 h2) : mFr h h2 := ⟨k.1, fun p q z => (k.2.1 p q z).trans (a.2.1 p q z), fun p z w y => (k.2.2.1 p z w y).trans (a.2.2.1 p z w y), k.2.2.2.1.trans a.2.2.2.1, mLo_t (a.2.1 111 30 (fun z => by have z := z.2; unfold mFs at z; omega)) a.2.2.2.2 k.2.2.2.2⟩
theorem mFr_s (a : mFr h h1) (k : mSet b X h1 h2) (hb : mFs b) : mFr h h2 := ⟨k.1, fun p q z => (k.2.2.1 p q (fun w => z ⟨w.1, w.2.symm ▸ hb⟩)).trans (a.2.1 p q z), fun p z w y => (congrFun k.2.2.2.1 p).trans (a.2.2.1 p z w y), k.2.2.2.2.trans a.2.2.2.1, mLo_A k.2.2.2.1 a.2.2.2.2⟩
theorem nFs {q : Nat} (h : q = 27 ∨ q = 30 ∨ q = 1 ∨ q = 46 ∨ q = 47) : ¬ ((111 : Nat) = 111 ∧ mFs q) := fun z => by
  have z := z.2
  unfold mFs at z
  omega
theorem mFr_T (a : mFr h h1) : tA h1 132 = tA h 132 := a.2.2.1 132 (by decide) (by decide) (by decide)
theorem mFr_27 (a : mFr h h1) : tF h1 111 27 = tF h 111 27 := a.2.1 111 27 (nFs (by decide))
theorem mFr_30 (a : mFr h h1) : tF h1 111 30 = tF h 111 30 := a.2.1 111 30 (nFs (by decide))
theorem mFr_n (a : mFr h h1) : mn h1 = mn h := by unfold mn; rw [mFr_27 a]
theorem mFr_46 (a : mFr h h1) : tF h1 111 46 = tF h 111 46 := a.2.1 111 46 (nFs (by decide))
theorem mFr_47 (a : mFr h h1) : tF h1 111 47 = tF h 111 47 := a.2.1 111 47 (nFs (by decide))
theorem mI_x (k : mSet b X h h3) : tvI (tF h3 111 b) = X := congrArg tvI k.2.1
theorem mI_o {q : Nat} (k : mSet b X h h3) (hq : q ≠ b) : tF h3 111 q = tF h 111 q := k.2.2.1 111 q (fun z => hq z.2)
theorem mEn_o (k : mSet b X h h3) (h1 : b ≠ 31) (h2 : b ≠ 30) : mEn h3 = mEn h := by
  unfold mEn
  rw [mI_o k (fun z => h1 z.symm), mI_o k (fun z => h2 z.symm), k.2.2.2.1]
theorem mSk_o (k : mSet b X h h3) (h1 : b ≠ 34) : mSk h3 = mSk h := by
  unfold mSk
  rw [mI_o k (fun z => h1 z.symm), k.2.2.2.1]
theorem mSk_len : (mSk h).length = (tvI (tF h 111 34)).toNatClampNeg := by unfold mSk; rw [List.length_reverse, List.length_map, List.length_range]
/-- the fault stays over other fields -/
theorem mFt_s (k : mFt h e) (s : mSet b X h h3) (hb : b ≠ 29) : mFt h3 e := ⟨(mI_o s (fun z => hb z.symm)).trans k.1, k.2⟩
theorem mFt_n (k : mFt h e) : ¬ tvI (tF h 111 29) = 0 := by
  rw [k.1]
  intro z
  have z : Int32.ofNat e = 0 := z
  have y := zofI (e := e) (by have := k.2; omega)
  rw [z] at y
  have : ((0 : Int32)).toInt = 0 := rfl
  have := k.2
  omega
theorem mP_0 (p : mP h) : tvI (tF h 111 29) = 0 := by rw [p.1]; rfl
theorem mPl (p : mP h) : (tvI (tF h 111 28)).toInt = ((ms h).1 : Int) := by
  show _ = ((tvI (tF h 111 28)).toNatClampNeg : Int)
  rw [zclE]
  have := p.2.1
  omega
theorem mNl {n : Nat} (p : mP h) (hn : mn h = n) : (tvI (tF h 111 27)).toInt = (n : Int) := by
  rw [← hn]
  show _ = ((tvI (tF h 111 27)).toNatClampNeg : Int)
  rw [zclE]
  have := p.2.1
  omega
theorem mCl (p : mP h) : (tvI (tF h 111 33)).toInt = ((ms h).2.1 : Int) := by
  show _ = ((tvI (tF h 111 33)).toNatClampNeg : Int)
  rw [zclE]
  have := p.2.2.1
  omega
theorem mPle {n : Nat} (p : mP h) (hn : mn h = n) : (ms h).1 ≤ n := by
  have := mPl p
  have := mNl p hn
  have := p.2.1
  omega
/-- the place was set -/
theorem mTo {n v : Nat} (p : mP h) (hn : mn h = n) (s : mSet 28 X h h3) (hx : X.toInt = v) (hv : v ≤ n) : mP h3 ∧ ms h3 = rA v (ms h) ∧ mSk h3 = mSk h := by
  have e1 := mNl p hn
  obtain ⟨a, b, c, d, e, g, i, j, t1, t2⟩ := p
  have NN : tN h3 = tN h := s.2.2.2.2
  refine ⟨⟨(mI_o s (by decide)).trans a, ?_, ?_, ?_, ?_, ?_, ?_, ?_, by rw [NN]; exact t1, by rw [NN]; exact t2⟩, ?_, mSk_o s (by decide)⟩
  · rw [mI_x s, mI_o s (by decide)]; omega
  · rw [mI_o s (by decide)]; exact c
  · rw [mI_o s (by decide)]; exact d
  · rw [mI_o s (by decide)]; exact e
  · rw [mI_o s (by decide)]; exact g
  · rw [s.2.2.2.1, s.2.2.2.2]; exact i
  · exact j
  · unfold ms
    rw [mI_x s, mI_o s (by decide), mEn_o s (by decide) (by decide), zof_cl hx]
    rfl
/-- one more is counted -/
theorem mCnt (p : mP h) (h8 : (ms h).2.1 ≠ 80) (s : mSet 33 (tvI (tF h 111 33) + 1) h h3) : mP h3 ∧ ms h3 = ((ms h).1, (ms h).2.1 + 1, (ms h).2.2) ∧ mSk h3 = mSk h := by
  have e1 := mCl p
  have e2 : (tvI (tF h 111 33) + 1).toInt = (((ms h).2.1 + 1 : Nat) : Int) := zincN e1 (by have := p.2.2.1; omega)
  obtain ⟨a, b, c, d, e, g, i, j, t1, t2⟩ := p
  have NN : tN h3 = tN h := s.2.2.2.2
  refine ⟨⟨(mI_o s (by decide)).trans a, ?_, ?_, ?_, ?_, ?_, ?_, ?_, by rw [NN]; exact t1, by rw [NN]; exact t2⟩, ?_, mSk_o s (by decide)⟩
  · rw [mI_o s (by decide), mI_o s (by decide)]; exact b
  · rw [mI_x s]; omega
  · rw [mI_o s (by decide)]; exact d
  · rw [mI_o s (by decide)]; exact e
  · rw [mI_o s (by decide)]; exact g
  · rw [s.2.2.2.1, s.2.2.2.2]; exact i
  · exact j
  · unfold ms
    rw [mI_x s, mI_o s (by decide), mEn_o s (by decide) (by decide), zof_cl e2]
    rfl
theorem mSte (p : mP h) (s : mSet 46 X h h3) : mP h3 ∧ ms h3 = ms h ∧ mSk h3 = mSk h := by
  obtain ⟨a, b, c, d, e, g, i, j, t1, t2⟩ := p
  have e1 := mEn_o s (by decide) (by decide)
  have e2 := mSk_o s (by decide)
  have NN : tN h3 = tN h := s.2.2.2.2
  refine ⟨⟨(mI_o s (by decide)).trans a, ?_, ?_, ?_, ?_, ?_, ?_, ?_, by rw [NN]; exact t1, by rw [NN]; exact t2⟩, ?_, e2⟩
  · rw [mI_o s (by decide), mI_o s (by decide)]; exact b
  · rw [mI_o s (by decide)]; exact c
  · rw [mI_o s (by decide)]; exact d
  · rw [mI_o s (by decide)]; exact e
  · rw [mI_o s (by decide)]; exact g
  · rw [s.2.2.2.1, s.2.2.2.2]; exact i
  · exact j
  · unfold ms
    rw [mI_o s (by decide), mI_o s (by decide), e1]
/-- a fault is set -/
theorem mFt_of {a y : Int32} {k w : Nat} (s : mSet 29 (1 + 8 * a + y) h h3) (ha : a.toInt = k) (hk : k ≤ 400) (hy : y.toInt = w) (hw : w ≤ 7) : mFt h3 (1 + 8 * k + w) := ⟨by rw [s.2.1, zfa ha hk hy hw], by omega, by omega⟩
/-- the top, and off with it: the depth follows by the caller -/
theorem mSk_top (hk : 0 < (tvI (tF h 111 34)).toNatClampNeg) : mSk h = (tA h 142 ((tvI (tF h 111 34)).toNatClampNeg - 1)).toNatClampNeg :: ((List.range ((tvI (tF h 111 34)).toNatClampNeg - 1)).map (fun i => (tA h 142 i).toNatClampNeg)).reverse := by
  unfold mSk
  obtain ⟨k, e⟩ : ∃ k, (tvI (tF h 111 34)).toNatClampNeg = k + 1 := ⟨_, (Nat.sub_add_cancel hk).symm⟩
  rw [e, List.range_succ, List.map_append, List.reverse_append]
  rfl
theorem mSk_nil (hk : (tvI (tF h 111 34)).toNatClampNeg = 0) : mSk h = [] := by
  unfold mSk
  rw [hk]
  rfl
theorem mD_o (k : mSet b X h h3) (h1 : b ≠ 32) (h2 : b ≠ 34) (d : mD h) : mD h3 := by
  unfold mD
  rw [mI_o k (fun z => h1 z.symm), mSk_o k h2]
  exact d
theorem mSk_pop (p : mP h) (hne : mSk h ≠ []) (s : mSet 34 (tvI (tF h 111 34) - 1) h h3) : mP h3 ∧ mSk h3 = (mSk h).tail ∧ ms h3 = ms h ∧ tF h3 111 32 = tF h 111 32 := by
  have hk : 0 < (tvI (tF h 111 34)).toNatClampNeg := by
    rcases Nat.eq_zero_or_pos (tvI (tF h 111 34)).toNatClampNeg with z | z
    · exact absurd (mSk_nil z) hne
    · exact z
  have e0 : (tvI (tF h 111 34)).toInt = ((tvI (tF h 111 34)).toNatClampNeg : Int) := by rw [zclE]; have := p.2.2.2.2.1; omega
  have e1 : (tvI (tF h 111 34) - 1).toInt = (tvI (tF h 111 34)).toInt - 1 := zsub1 p.2.2.2.2.1
  have e2 : (tvI (tF h 111 34) - 1).toNatClampNeg = (tvI (tF h 111 34)).toNatClampNeg - 1 := by rw [zclE, e1]; omega
  obtain ⟨a, b, c, d, e, g, i, j, t1, t2⟩ := p
  have NN : tN h3 = tN h := s.2.2.2.2
  refine ⟨⟨(mI_o s (by decide)).trans a, ?_, ?_, ?_, ?_, ?_, ?_, ?_, by rw [NN]; exact t1, by rw [NN]; exact t2⟩, ?_, ?_, mI_o s (by decide)⟩
  · rw [mI_o s (by decide), mI_o s (by decide)]; exact b
  · rw [mI_o s (by decide)]; exact c
  · rw [mI_o s (by decide)]; exact d
  · rw [mI_x s, e1]; omega
  · rw [mI_o s (by decide)]; exact g
  · rw [s.2.2.2.1, s.2.2.2.2]; exact i
  · exact j
  · rw [mSk_top hk]
    unfold mSk
    rw [mI_x s, e2, s.2.2.2.1]
    rfl
  · unfold ms
    rw [mI_o s (by decide), mI_o s (by decide), mEn_o s (by decide) (by decide)]
/-- the depth goes down by one -/
theorem mDn (p : mP h) (s : mSet 32 (tvI (tF h 111 32) - 1) h h3) {k : Nat} (hd : (tvI (tF h 111 32)).toInt = ((k + 1 : Nat) : Int)) (hk : k = mDp (mSk h)) : mP h3 ∧ mSk h3 = mSk h ∧ ms h3 = ms h ∧ mD h3 := by
  have e1 : (tvI (tF h 111 32) - 1).toInt = (tvI (tF h 111 32)).toInt - 1 := zsub1 (by omega)
  have e2 := mSk_o s (by decide)
  obtain ⟨a, b, c, d, e, g, i, j, t1, t2⟩ := p
  have NN : tN h3 = tN h := s.2.2.2.2
  refine ⟨⟨(mI_o s (by decide)).trans a, ?_, ?_, ?_, ?_, ?_, ?_, ?_, by rw [NN]; exact t1, by rw [NN]; exact t2⟩, e2, ?_, ?_⟩
  · rw [mI_o s (by decide), mI_o s (by decide)]; exact b
  · rw [mI_o s (by decide)]; exact c
  · rw [mI_o s (by decide)]; exact d
  · rw [mI_o s (by decide)]; exact e
  · rw [mI_o s (by decide)]; exact g
  · rw [s.2.2.2.1, s.2.2.2.2]; exact i
  · exact j
  · unfold ms
    rw [mI_o s (by decide), mI_o s (by decide), mEn_o s (by decide) (by decide)]
  · unfold mD
    rw [mI_x s, e1, e2, hd, hk]
    omega
theorem mUp (p : mP h) (s : mSet 32 (tvI (tF h 111 32) + 1) h h3) {k : Nat} (hd : (tvI (tF h 111 32)).toInt = (k : Int)) (hk : k ≤ 1000) : mP h3 ∧ mSk h3 = mSk h ∧ ms h3 = ms h ∧ (tvI (tF h3 111 32)).toInt = ((k + 1 : Nat) : Int) := by
  have e1 := zincN hd (by omega)
  have e2 := mSk_o s (by decide)
  obtain ⟨a, b, c, d, e, g, i, j, t1, t2⟩ := p
  have NN : tN h3 = tN h := s.2.2.2.2
  refine ⟨⟨(mI_o s (by decide)).trans a, ?_, ?_, ?_, ?_, ?_, ?_, ?_, by rw [NN]; exact t1, by rw [NN]; exact t2⟩, e2, ?_, ?_⟩
  · rw [mI_o s (by decide), mI_o s (by decide)]; exact b
  · rw [mI_o s (by decide)]; exact c
  · rw [mI_o s (by decide)]; exact d
  · rw [mI_o s (by decide)]; exact e
  · rw [mI_o s (by decide)]; exact g
  · rw [s.2.2.2.1, s.2.2.2.2]; exact i
  · exact j
  · unfold ms
    rw [mI_o s (by decide), mI_o s (by decide), mEn_o s (by decide) (by decide)]
  · rw [mI_x s, e1]
/-- laid on the pile -/
theorem mPush {x : Int32} {kd : Nat} (hs : tSh h) (p : mP h) (hx : 0 ≤ x.toInt) (hf : tIn h 142 kd (tvI (tF h 111 34))) (hf2 : tFd (tSA h 142 (tvI (tF h 111 34)).toNatClampNeg x) 111 34) : mFr h (tSF (tSA h 142 (tvI (tF h 111 34)).toNatClampNeg x) 111 34 (.int (tvI (tF h 111 34) + 1))) ∧ mP (tSF (tSA h 142 (tvI (tF h 111 34)).toNatClampNeg x) 111 34 (.int (tvI (tF h 111 34) + 1))) ∧ mSk (tSF (tSA h 142 (tvI (tF h 111 34)).toNatClampNeg x) 111 34 (.int (tvI (tF h 111 34) + 1))) = x.toNatClampNeg :: mSk h ∧ ms (tSF (tSA h 142 (tvI (tF h 111 34)).toNatClampNeg x) 111 34 (.int (tvI (tF h 111 34) + 1))) = ms h ∧ tF (tSF (tSA h 142 (tvI (tF h 111 34)).toNatClampNeg x) 111 34 (.int (tvI (tF h 111 34) + 1))) 111 32 = tF h 111 32 := by
  have hw := hw_111_34 (x := tvI (tF h 111 34) + 1) hf2 (tSh_SA hs)
  have e := mSet_of hf2 hw
  generalize tSF (tSA h 142 (tvI (tF h 111 34)).toNatClampNeg x) 111 34 (.int (tvI (tF h 111 34) + 1)) = h3 at e
  have hF : ∀ b, b ≠ 34 → tF h3 111 b = tF h 111 b := fun b hb => (mI_o e hb).trans (by rw [tF_tSA])
  have h34 : tvI (tF h3 111 34) = tvI (tF h 111 34) + 1 := mI_x e
  have hA : tA h3 = fun p q => if p = 142 ∧ q = (tvI (tF h 111 34)).toNatClampNeg then x else tA h p q := e.2.2.2.1.trans (tA_tSA hf.cell _ _)
  have hr := hf.rg
  have e0 : (tvI (tF h 111 34)).toInt = ((tvI (tF h 111 34)).toNatClampNeg : Int) := by rw [zclE]; omega
  have hl := p.2.2.2.2.2.2.2.2.2
  have e1 := zincN e0 (by omega)
  have e2 : (tvI (tF h 111 34) + 1).toNatClampNeg = (tvI (tF h 111 34)).toNatClampNeg + 1 := zof_cl e1
  have hE : ∀ p, p ≠ 142 → tA h3 p = tA h p := fun p hp => by rw [hA]; funext q; exact if_neg (fun w => hp w.1)
  obtain ⟨a, b, c, d, e9, g, i, j, t1, t2⟩ := p
  have NN : tN h3 = tN h := e.2.2.2.2.trans (tN_tSA _ _ _ _)
  refine ⟨⟨e.1, fun p q z => (e.2.2.1 p q (fun w => z ⟨w.1, by unfold mFs; omega⟩)).trans (by rw [tF_tSA]), fun p _ _ z => hE p z, NN, mLo_p (hE 133 (by decide)) (hE 134 (by decide))⟩, ⟨(hF 29 (by decide)).trans a, ?_, ?_, ?_, ?_, ?_, ?_, ?_, by rw [NN]; exact t1, by rw [NN]; exact t2⟩, ?_, ?_, hF 32 (by decide)⟩
  · rw [hF 28 (by decide), hF 27 (by decide)]; exact b
  · rw [hF 33 (by decide)]; exact c
  · rw [hF 31 (by decide)]; exact d
  · rw [h34, e1]; omega
  · rw [hF 30 (by decide)]; exact g
  · intro q hq
    rw [NN] at hq
    rw [hA]
    show 0 ≤ (if 142 = 142 ∧ q = _ then x else tA h 142 q : Int32).toInt
    by_cases z : q = (tvI (tF h 111 34)).toNatClampNeg
    · rw [if_pos ⟨rfl, z⟩]; exact hx
    · rw [if_neg (fun w => z w.2)]; exact i q hq
  · exact j
  · unfold mSk
    rw [h34, e2, List.range_succ, List.map_append, List.reverse_append, hA]
    show [(if 142 = 142 ∧ (tvI (tF h 111 34)).toNatClampNeg = (tvI (tF h 111 34)).toNatClampNeg then x else _ : Int32).toNatClampNeg] ++ _ = _
    rw [if_pos ⟨rfl, rfl⟩]
    refine congrArg (fun z => x.toNatClampNeg :: z) (congrArg List.reverse (List.map_congr_left (fun i hi => ?_)))
    have hi := List.mem_range.mp hi
    show (if 142 = 142 ∧ i = _ then x else tA h 142 i : Int32).toNatClampNeg = _
    rw [if_neg (fun z => by omega)]
  · unfold ms mEn
    rw [hF 28 (by decide), hF 33 (by decide), hF 31 (by decide), hF 30 (by decide), hE 133 (by decide), hE 134 (by decide)]
/-- told on -/
theorem mEnt {s v : Int32} {k1 k2 : Nat} {i1 i2 : Int32} (hs : tSh h) (p : mP h) (h0 : 0 ≤ s.toInt ∧ 0 ≤ v.toInt) (hi1 : i1 = 500 * tvI (tF h 111 30) + tvI (tF h 111 31)) (hi2 : i2 = 500 * tvI (tF h 111 30) + tvI (tF h 111 31)) (f1 : tIn h 133 k1 i1) (f2 : tIn (tSA h 133 i1.toNatClampNeg s) 134 k2 i2) (f3 : tFd (tSA (tSA h 133 i1.toNatClampNeg s) 134 i2.toNatClampNeg v) 111 31) : mFr h (tSF (tSA (tSA h 133 i1.toNatClampNeg s) 134 i2.toNatClampNeg v) 111 31 (.int (tvI (tF h 111 31) + 1))) ∧ mP (tSF (tSA (tSA h 133 i1.toNatClampNeg s) 134 i2.toNatClampNeg v) 111 31 (.int (tvI (tF h 111 31) + 1))) ∧ mSk (tSF (tSA (tSA h 133 i1.toNatClampNeg s) 134 i2.toNatClampNeg v) 111 31 (.int (tvI (tF h 111 31) + 1))) = mSk h ∧ ms (tSF (tSA (tSA h 133 i1.toNatClampNeg s) 134 i2.toNatClampNeg v) 111 31 (.int (tvI (tF h 111 31) + 1))) = rU (mCode s.toNatClampNeg v.toNatClampNeg) (ms h) ∧ tF (tSF (tSA (tSA h 133 i1.toNatClampNeg s) 134 i2.toNatClampNeg v) 111 31 (.int (tvI (tF h 111 31) + 1))) 111 32 = tF h 111 32 := by
  have hw := hw_111_31 (x := tvI (tF h 111 31) + 1) f3 (tSh_SA (tSh_SA hs))
  have e := mSet_of f3 hw
  have hr := f1.rg
  generalize tSF (tSA (tSA h 133 i1.toNatClampNeg s) 134 i2.toNatClampNeg v) 111 31 (.int (tvI (tF h 111 31) + 1)) = h3 at e
  have hF : ∀ b, b ≠ 31 → tF h3 111 b = tF h 111 b := fun b hb => (mI_o e hb).trans (by rw [tF_tSA, tF_tSA])
  have h31 : tvI (tF h3 111 31) = tvI (tF h 111 31) + 1 := mI_x e
  have hA : tA h3 = fun p q => if p = 134 ∧ q = i2.toNatClampNeg then v else if p = 133 ∧ q = i1.toNatClampNeg then s else tA h p q := e.2.2.2.1.trans ((tA_tSA f2.cell _ _).trans (by rw [tA_tSA f1.cell]))
  obtain ⟨a, b, c, d, e9, g, i, j, t1, t2⟩ := p
  have n1 : (500 * tvI (tF h 111 30)).toInt = 500 * (tvI (tF h 111 30)).toInt := by
    rw [Int32.toInt_mul, show (500 : Int32).toInt = 500 from rfl]
    exact Int.bmod_eq_of_le (by show (-2147483648 : Int) ≤ 500 * (tvI (tF h 111 30)).toInt; omega) (by show 500 * (tvI (tF h 111 30)).toInt < (2147483648 : Int); omega)
  have n2 : i1.toInt = 500 * (tvI (tF h 111 30)).toInt + (tvI (tF h 111 31)).toInt := by
    rw [hi1, Int32.toInt_add, n1]
    exact Int.bmod_eq_of_le (by show (-2147483648 : Int) ≤ 500 * (tvI (tF h 111 30)).toInt + (tvI (tF h 111 31)).toInt; omega) (by show 500 * (tvI (tF h 111 30)).toInt + (tvI (tF h 111 31)).toInt < (2147483648 : Int); omega)
  have n3 : i1.toNatClampNeg = 500 * (tvI (tF h 111 30)).toNatClampNeg + (tvI (tF h 111 31)).toNatClampNeg := by
    rw [zclE, zclE, zclE, n2]
    omega
  have n4 : i2 = i1 := hi2.trans hi1.symm
  have e0 : (tvI (tF h 111 31)).toInt = ((tvI (tF h 111 31)).toNatClampNeg : Int) := by rw [zclE]; omega
  have e1 := zincN e0 (by omega)
  have e2 : (tvI (tF h 111 31) + 1).toNatClampNeg = (tvI (tF h 111 31)).toNatClampNeg + 1 := zof_cl e1
  have hE : ∀ p, p ≠ 133 → p ≠ 134 → tA h3 p = tA h p := fun p hp hq => by
    rw [hA]; funext q
    show (if p = 134 ∧ q = _ then v else if p = 133 ∧ q = _ then s else tA h p q) = _
    rw [if_neg (fun w => hq w.1), if_neg (fun w => hp w.1)]
  have hS : tA h3 133 = fun q => if q = i1.toNatClampNeg then s else tA h 133 q := by
    rw [hA]; funext q
    show (if 133 = 134 ∧ q = _ then v else if 133 = 133 ∧ q = _ then s else tA h 133 q) = _
    rw [if_neg (fun w => absurd w.1 (by decide))]
    by_cases z : q = i1.toNatClampNeg
    · rw [if_pos ⟨rfl, z⟩, if_pos z]
    · rw [if_neg (fun w => z w.2), if_neg z]
  have hV : tA h3 134 = fun q => if q = i1.toNatClampNeg then v else tA h 134 q := by
    rw [hA]; funext q
    show (if 134 = 134 ∧ q = i2.toNatClampNeg then v else if 134 = 133 ∧ q = _ then s else tA h 134 q) = _
    rw [n4]
    by_cases z : q = i1.toNatClampNeg
    · rw [if_pos ⟨rfl, z⟩, if_pos z]
    · rw [if_neg (fun w => z w.2), if_neg z, if_neg (fun w => absurd w.1 (by decide))]
  have NN : tN h3 = tN h := e.2.2.2.2.trans ((tN_tSA _ _ _ _).trans (tN_tSA _ _ _ _))
  refine ⟨⟨e.1, fun p q z => (e.2.2.1 p q (fun w => z ⟨w.1, by unfold mFs; omega⟩)).trans (by rw [tF_tSA, tF_tSA]), fun p z y _ => hE p z y, NN, fun q hq => ⟨by rw [hS]; exact if_neg (by rw [n3]; omega), by rw [hV]; exact if_neg (by rw [n3]; omega)⟩⟩, ⟨(hF 29 (by decide)).trans a, ?_, ?_, ?_, ?_, ?_, ?_, ?_, by rw [NN]; exact t1, by rw [NN]; exact t2⟩, ?_, ?_, hF 32 (by decide)⟩
  · rw [hF 28 (by decide), hF 27 (by decide)]; exact b
  · rw [hF 33 (by decide)]; exact c
  · rw [h31, e1]; constructor <;> omega
  · rw [hF 34 (by decide)]; exact e9
  · rw [hF 30 (by decide)]; exact g
  · rw [hE 142 (by decide) (by decide), NN]; exact i
  · exact j
  · unfold mSk
    rw [hF 34 (by decide), hE 142 (by decide) (by decide)]
  · unfold ms rU mEn
    rw [hF 28 (by decide), hF 33 (by decide), hF 30 (by decide), h31, e2, List.range_succ, List.map_append, hS, hV]
    refine Prod.ext rfl (Prod.ext rfl ?_)
    show List.map _ _ ++ [mCode _ _] = List.map _ _ ++ [_]
    refine congr (congrArg HAppend.hAppend (List.map_congr_left (fun i hi => ?_))) ?_
    · have hi := List.mem_range.mp hi
      dsimp only
      rw [if_neg (by rw [n3]; omega), if_neg (by rw [n3]; omega)]
    · show [mCode (if _ = i1.toNatClampNeg then s else _ : Int32).toNatClampNeg (if _ = i1.toNatClampNeg then v else _ : Int32).toNatClampNeg] = _
      rw [if_pos n3.symm, if_pos n3.symm]
/-- a whole step's frame -/
noncomputable def mFq (h h2 : zH) : Prop := tSh h2 ∧ (∀ p b, ¬ (p = 111 ∧ (mFs b ∨ b = 46)) → tF h2 p b = tF h p b) ∧ (∀ p, p ≠ 133 → p ≠ 134 → p ≠ 142 → tA h2 p = tA h p) ∧ tN h2 = tN h ∧ mLo h h2
theorem mFq_f (k : mFr h h2) : mFq h h2 := ⟨k.1, fun p b z => k.2.1 p b (fun w => z ⟨w.1, Or.inl w.2⟩), k.2.2.1, k.2.2.2⟩
theorem mFq_t (a : mFq h h1) (k : mFq h1 h2) : mFq h h2 := ⟨k.1, fun p q z => (k.2.1 p q z).trans (a.2.1 p q z), fun p z w y => (k.2.2.1 p z w y).trans (a.2.2.1 p z w y), k.2.2.2.1.trans a.2.2.2.1, mLo_t (a.2.1 111 30 (fun z => by have z := z.2; unfold mFs at z; omega)) a.2.2.2.2 k.2.2.2.2⟩
theorem mFq_s (a : mFq h h1) (k : mSet b X h1 h2) (hb : mFs b ∨ b = 46) : mFq h h2 := ⟨k.1, fun p q z => (k.2.2.1 p q (fun w => z ⟨w.1, w.2.symm ▸ hb⟩)).trans (a.2.1 p q z), fun p z w y => (congrFun k.2.2.2.1 p).trans (a.2.2.1 p z w y), k.2.2.2.2.trans a.2.2.2.1, mLo_A k.2.2.2.1 a.2.2.2.2⟩
theorem mFq_T (a : mFq h h1) : tA h1 132 = tA h 132 := a.2.2.1 132 (by decide) (by decide) (by decide)
theorem mFq_n (a : mFq h h1) : mn h1 = mn h := by
  unfold mn
  rw [a.2.1 111 27 (fun z => by have z := z.2; unfold mFs at z; omega)]
noncomputable def mFw (h h2 : zH) : Prop := tSh h2 ∧ (∀ p b, ¬ (p = 111 ∧ (mFs b ∨ b = 46 ∨ b = 47)) → tF h2 p b = tF h p b) ∧ (∀ p, p ≠ 133 → p ≠ 134 → p ≠ 142 → tA h2 p = tA h p) ∧ tN h2 = tN h ∧ mLo h h2
theorem mFw_q (k : mFq h h2) : mFw h h2 := ⟨k.1, fun p b z => k.2.1 p b (fun w => z ⟨w.1, w.2.elim Or.inl (fun y => Or.inr (Or.inl y))⟩), k.2.2.1, k.2.2.2⟩
theorem mFw_t (a : mFw h h1) (k : mFw h1 h2) : mFw h h2 := ⟨k.1, fun p q z => (k.2.1 p q z).trans (a.2.1 p q z), fun p z w y => (k.2.2.1 p z w y).trans (a.2.2.1 p z w y), k.2.2.2.1.trans a.2.2.2.1, mLo_t (a.2.1 111 30 (fun z => by have z := z.2; unfold mFs at z; omega)) a.2.2.2.2 k.2.2.2.2⟩
theorem mFw_s (a : mFw h h1) (k : mSet b X h1 h2) (hb : mFs b ∨ b = 46 ∨ b = 47) : mFw h h2 := ⟨k.1, fun p q z => (k.2.2.1 p q (fun w => z ⟨w.1, w.2.symm ▸ hb⟩)).trans (a.2.1 p q z), fun p z w y => (congrFun k.2.2.2.1 p).trans (a.2.2.1 p z w y), k.2.2.2.2.trans a.2.2.2.1, mLo_A k.2.2.2.1 a.2.2.2.2⟩
theorem mFw_T (a : mFw h h1) : tA h1 132 = tA h 132 := a.2.2.1 132 (by decide) (by decide) (by decide)
theorem mFw_i {q : Nat} (a : mFw h h1) (hq : ¬ (mFs q ∨ q = 46 ∨ q = 47)) : tF h1 111 q = tF h 111 q := a.2.1 111 q (fun z => hq z.2)
theorem mFq_47 (a : mFq h h1) : tF h1 111 47 = tF h 111 47 := a.2.1 111 47 (fun z => by have z := z.2; unfold mFs at z; omega)
theorem mFw_27 (a : mFw h h1) : tF h1 111 27 = tF h 111 27 := mFw_i a (fun z => by unfold mFs at z; omega)
theorem mFw_n (a : mFw h h1) : mn h1 = mn h := by
  unfold mn
  rw [mFw_27 a]
noncomputable def stN (x : Int32) : Nat := if x.toInt < 0 then 99 else x.toInt.toNat
noncomputable def mst (h : zH) : rMs := (stN (tvI (tF h 111 46)), mSk h, ms h)
end MF
/-- a byte, or -1 behind the end -/
noncomputable def sgm (T : Nat → Int32) (n p : Nat) (c : Int32) : Prop := (p < n ∧ c = T p) ∨ (¬ p < n ∧ c = -1)
theorem sgm_k {T : Nat → Int32} {n p : Nat} {c : Int32} (s : sgm T n p c) (k : Int32) (hk : 0 ≤ k.toInt) : c = k ↔ p < n ∧ T p = k := by
  rcases s with ⟨a, rfl⟩ | ⟨a, rfl⟩
  · exact ⟨fun z => ⟨a, z⟩, fun z => z.2⟩
  · exact ⟨fun z => by rw [← z] at hk; exact absurd hk (by decide), fun z => absurd z.1 a⟩
theorem sgm_d {T : Nat → Int32} {n p : Nat} {c : Int32} (s : sgm T n p c) : (48 ≤ c.toInt ∧ c.toInt ≤ 57) ↔ (p < n ∧ 48 ≤ (T p).toInt ∧ (T p).toInt ≤ 57) := by
  rcases s with ⟨a, rfl⟩ | ⟨a, rfl⟩
  · exact ⟨fun z => ⟨a, z⟩, fun z => z.2⟩
  · have : ((-1 : Int32)).toInt = -1 := by decide
    exact ⟨fun z => by omega, fun z => absurd z.1 a⟩
theorem mpos {h : zH} (hf : 0 ≤ (tvI (tF h 111 28)).toInt ∧ 0 ≤ (tvI (tF h 111 27)).toInt) : ((tvI (tF h 111 28)).toInt < (tvI (tF h 111 27)).toInt) ↔ (ms h).1 < mn h := by
  show _ ↔ (tvI (tF h 111 28)).toNatClampNeg < (tvI (tF h 111 27)).toNatClampNeg
  rw [zclE, zclE]
  omega
theorem g_sign {G : zG} (hG : G.1 = zProg) (hX : G.2.1 = ztx) {h : zH} {T : Nat → Int32} {n : Nat} (hs : tSh h) (hT : tA h 132 = T) (hN : mn h = n) (h0 : 0 ≤ (tvI (tF h 111 28)).toInt ∧ 0 ≤ (tvI (tF h 111 27)).toInt) : tC zTt G 202 [.ref 111] h (fun w h2 => (∃ c, w = some (.int c) ∧ sgm T n (ms h).1 c) ∧ h = h2) := by
  refine tC_in (by rw [hG]; rfl) (fun dp => ?_)
  have g0 := mFr_r hs
  refine tw_aload rfl rfl ?_
  refine tw_getS rfl (hi_111_28 hs) ?_
  refine tw_aload rfl rfl ?_
  refine tw_getS rfl (hi_111_27 hs) ?_
  refine tw_ic_ge rfl (fun q458 => ?_) (fun q458 => ?_)
  · try dsimp only [tvI_i, tvJ_j, tvR_r] at q458
    refine tw_push rfl ?_
    exact tw_iret rfl ⟨⟨_, rfl, Or.inr ⟨fun z => absurd ((mpos h0).mpr (by rw [hN]; exact z)) (Int.not_lt.mpr q458), rfl⟩⟩, rfl⟩
  · try dsimp only [tvI_i, tvJ_j, tvR_r] at q458
    refine tw_aload rfl rfl ?_
    refine tw_getS rfl (hs_111_35 hs) ?_
    refine tw_aload rfl rfl ?_
    refine tw_getS rfl (hi_111_28 hs) ?_
    refine tw_bald rfl (fun f459 => ?_)
    refine tw_goto rfl ?_
    exact tw_iret rfl ⟨⟨_, rfl, Or.inl ⟨by rw [← hN]; exact (mpos h0).mp q458, congrFun hT _⟩⟩, rfl⟩
theorem g_isDigit {G : zG} (hG : G.1 = zProg) {h : zH} {c : Int32} : tC zTt G 204 [.int c] h (fun w h2 => tBo (48 ≤ c.toInt ∧ c.toInt ≤ 57) w ∧ h = h2) := by
  refine tC_in (by rw [hG]; rfl) (fun dp => ?_)
  refine tw_iload rfl rfl ?_
  refine tw_push rfl ?_
  refine tw_ic_lt rfl (fun q460 => ?_) (fun q460 => ?_)
  · try dsimp only [tvI_i, tvJ_j, tvR_r] at q460
    refine tw_push rfl ?_
    have c489 : (48 : Int32).toInt = 48 := rfl
    have c579 : (57 : Int32).toInt = 57 := rfl
    exact tw_iret rfl ⟨Or.inr ⟨by omega, rfl⟩, rfl⟩
  · try dsimp only [tvI_i, tvJ_j, tvR_r] at q460
    refine tw_iload rfl rfl ?_
    refine tw_push rfl ?_
    refine tw_ic_gt rfl (fun q461 => ?_) (fun q461 => ?_)
    · try dsimp only [tvI_i, tvJ_j, tvR_r] at q461
      refine tw_push rfl ?_
      have c489 : (48 : Int32).toInt = 48 := rfl
      have c579 : (57 : Int32).toInt = 57 := rfl
      exact tw_iret rfl ⟨Or.inr ⟨by omega, rfl⟩, rfl⟩
    · try dsimp only [tvI_i, tvJ_j, tvR_r] at q461
      refine tw_push rfl ?_
      refine tw_goto rfl ?_
      have c489 : (48 : Int32).toInt = 48 := rfl
      have c579 : (57 : Int32).toInt = 57 := rfl
      exact tw_iret rfl ⟨Or.inl ⟨by omega, rfl⟩, rfl⟩
theorem g_blanks {G : zG} (hG : G.1 = zProg) (hX : G.2.1 = ztx) {h : zH} {T : Nat → Int32} {n : Nat} (hs : tSh h) (hp : mP h) (hT : tA h 132 = T) (hN : mn h = n)  : tC zTt G 203 [.ref 111] h (fun w h2 => w = none ∧ mFr h h2 ∧ mP h2 ∧ ms h2 = rA (rB T n (ms h).1) (ms h) ∧ mSk h2 = mSk h ∧ tF h2 111 32 = tF h 111 32) := by
  refine tC_in (by rw [hG]; rfl) (fun dp => ?_)
  have g0 := mFr_r hs
  have hpn : (ms h).1 ≤ n := mPle hp hN
  refine tG_loop (zW_mono zTt G dp) (zW_conj zTt G dp) (V := fun pc L st h9 _ _ => pc = 0 ∧ st = [] ∧ ∃ h1, h1 = h9 ∧ mFr h h1 ∧ mP h1 ∧ (ms h1).2 = (ms h).2 ∧ mSk h1 = mSk h ∧ tF h1 111 32 = tF h 111 32 ∧ rB T n (ms h1).1 = rB T n (ms h).1 ∧ L = [some (.ref 111)]) ?_ (⟨rfl, rfl, _, rfl, g0, hp, rfl, rfl, rfl, rfl, rfl⟩)
  rintro _ _ _ _ _ _ ⟨rfl, rfl, h1, rfl, g1, p1, e1, e2, e3, e4, rfl⟩
  refine tw_aload rfl rfl ?_
  refine tw_virt0 rfl (g_sign hG hX (g1).1 ((mFr_T g1).trans hT) ((mFr_n g1).trans hN) ⟨p1.2.1.1, by have := p1.2.1; omega⟩) (fun wp462 hp462 p462 => ?_)
  obtain ⟨⟨cp462, rfl, kp462⟩, rfl⟩ := p462
  refine tw_push rfl ?_
  refine tw_ic_ne rfl (fun q463 => ?_) (fun q463 => ?_)
  · try dsimp only [tvI_i, tvJ_j, tvR_r] at q463
    have q463i := zneq (Y := 32) (by decide) q463
    have hb : (ms h1).1 = rB T n (ms h).1 := by rw [← e4, rB_n (fun z => q463 ((sgm_k kp462 32 (by decide)).mpr z))]
    exact tw_vret rfl ⟨rfl, g1, p1, Prod.ext hb e1, e2, e3⟩
  · try dsimp only [tvI_i, tvJ_j, tvR_r] at q463
    have q463i := zeqi (Y := 32) (by decide) q463
    refine tw_aload rfl rfl ?_
    refine tw_dup rfl ?_
    refine tw_getS rfl (hi_111_28 (g1).1) ?_
    refine tw_push rfl ?_
    refine tw_iadd rfl ?_
    refine tw_put rfl (fun f464 => ?_)
    refine tG_setm f464 (hw_111_28 f464 (g1).1) (fun hf464 ef464 => ?_)
    try dsimp only [tvI_i] at ef464
    have gf464 := mFr_s g1 ef464 (by unfold mFs; omega)
    have wf464 := (sgm_k kp462 32 (by decide)).mp q463
    obtain ⟨pf464, sf464, tf464⟩ := mTo p1 ((mFr_n g1).trans hN) ef464 (v := (ms h1).1 + 1) (zincN (mPl p1) (by have := mPle p1 ((mFr_n g1).trans hN); have := p1.2.1; have := mNl p1 ((mFr_n g1).trans hN); omega)) wf464.1
    refine tw_goto rfl ?_
    exact tG_cut (zW_mono zTt G dp) (Or.inr ⟨rfl, rfl, _, rfl, gf464, pf464, (by rw [sf464]; exact e1), tf464.trans e2, (mI_o ef464 (by decide)).trans e3, (by rw [sf464]; exact (rB_y wf464).symm.trans e4), rfl⟩)
theorem z_blanks {G : zG} (hG : G.1 = zProg) (hX : G.2.1 = ztx) {h : zH} {T : Nat → Int32} {n : Nat} (hs : tSh h) {ef : Nat} (hp : mFt h ef) (hT : tA h 132 = T) (hN : mn h = n) (h0 : 0 ≤ (tvI (tF h 111 28)).toInt ∧ 0 ≤ (tvI (tF h 111 27)).toInt) : tC zTt G 203 [.ref 111] h (fun w h2 => w = none ∧ mFr h h2 ∧ mFt h2 ef ∧ (0 ≤ (tvI (tF h2 111 28)).toInt ∧ 0 ≤ (tvI (tF h2 111 27)).toInt)) := by
  refine tC_in (by rw [hG]; rfl) (fun dp => ?_)
  have g0 := mFr_r hs
  refine tG_loop (zW_mono zTt G dp) (zW_conj zTt G dp) (V := fun pc L st h9 _ _ => pc = 0 ∧ st = [] ∧ ∃ h1, h1 = h9 ∧ mFr h h1 ∧ mFt h1 ef ∧ (0 ≤ (tvI (tF h1 111 28)).toInt ∧ 0 ≤ (tvI (tF h1 111 27)).toInt) ∧ L = [some (.ref 111)]) ?_ (⟨rfl, rfl, _, rfl, g0, hp, h0, rfl⟩)
  rintro _ _ _ _ _ _ ⟨rfl, rfl, h1, rfl, g1, z1, h0, rfl⟩
  refine tw_aload rfl rfl ?_
  refine tw_virt0 rfl (g_sign hG hX (g1).1 ((mFr_T g1).trans hT) ((mFr_n g1).trans hN) h0) (fun wp465 hp465 p465 => ?_)
  obtain ⟨⟨cp465, rfl, kp465⟩, rfl⟩ := p465
  refine tw_push rfl ?_
  refine tw_ic_ne rfl (fun q466 => ?_) (fun q466 => ?_)
  · try dsimp only [tvI_i, tvJ_j, tvR_r] at q466
    have q466i := zneq (Y := 32) (by decide) q466
    exact tw_vret rfl ⟨rfl, g1, z1, h0⟩
  · try dsimp only [tvI_i, tvJ_j, tvR_r] at q466
    have q466i := zeqi (Y := 32) (by decide) q466
    refine tw_aload rfl rfl ?_
    refine tw_dup rfl ?_
    refine tw_getS rfl (hi_111_28 (g1).1) ?_
    refine tw_push rfl ?_
    refine tw_iadd rfl ?_
    refine tw_put rfl (fun f467 => ?_)
    refine tG_setm f467 (hw_111_28 f467 (g1).1) (fun hf467 ef467 => ?_)
    try dsimp only [tvI_i] at ef467
    have gf467 := mFr_s g1 ef467 (by unfold mFs; omega)
    have zf467 := mFt_s z1 ef467 (by decide)
    have wf467 := (sgm_k kp465 32 (by decide)).mp q466
    have if467 : 0 ≤ (tvI (tF hf467 111 28)).toInt ∧ 0 ≤ (tvI (tF hf467 111 27)).toInt := by rw [mI_x ef467, mI_o ef467 (by decide)]; have y := (mpos h0).mpr (by rw [((mFr_n g1).trans hN)]; exact wf467.1); exact ⟨by rw [zj1 h0.1 y]; omega, h0.2⟩
    refine tw_goto rfl ?_
    exact tG_cut (zW_mono zTt G dp) (Or.inr ⟨rfl, rfl, _, rfl, gf467, zf467, if467, rfl⟩)
theorem g_fails {G : zG} (hG : G.1 = zProg) (hX : G.2.1 = ztx) {h : zH} {T : Nat → Int32} {n : Nat} (hs : tSh h) (hp : mP h) (hT : tA h 132 = T) (hN : mn h = n) {y a : Int32} {w b : Nat} (hw : y.toInt = w) (hw7 : w ≤ 7) (hb : a.toInt = b) (hb4 : b ≤ 400) : tC zTt G 201 [.ref 111, .int y, .int a] h (fun w9 h2 => w9 = none ∧ mFr h h2 ∧ mFt h2 (1 + 8 * b + w) ∧ tF h2 111 28 = tF h 111 28 ∧ tF h2 111 27 = tF h 111 27) := by
  refine tC_in (by rw [hG]; rfl) (fun dp => ?_)
  have g0 := mFr_r hs
  have hpn : (ms h).1 ≤ n := mPle hp hN
  refine tw_aload rfl rfl ?_
  refine tw_aload rfl rfl ?_
  refine tw_getS rfl (hi_111_29 hs) ?_
  refine tw_if_ne rfl (fun q468 => ?_) (fun q468 => ?_)
  · try dsimp only [tvI_i, tvJ_j, tvR_r] at q468
    have q468i := zneq (Y := 0) (by decide) q468
    refine tw_aload rfl rfl ?_
    refine tw_getS rfl (hi_111_29 hs) ?_
    refine tw_put rfl (fun f469 => ?_)
    refine tG_setm f469 (hw_111_29 f469 (g0).1) (fun hf469 ef469 => ?_)
    try dsimp only [tvI_i] at ef469
    have gf469 := mFr_s g0 ef469 (by unfold mFs; omega)
    exact absurd (mP_0 hp) q468
  · try dsimp only [tvI_i, tvJ_j, tvR_r] at q468
    have q468i := zeqi (Y := 0) (by decide) q468
    refine tw_push rfl ?_
    refine tw_push rfl ?_
    refine tw_iload rfl rfl ?_
    refine tw_imul rfl ?_
    refine tw_iadd rfl ?_
    refine tw_iload rfl rfl ?_
    refine tw_iadd rfl ?_
    refine tw_goto rfl ?_
    refine tw_put rfl (fun f470 => ?_)
    refine tG_setm f470 (hw_111_29 f470 (g0).1) (fun hf470 ef470 => ?_)
    try dsimp only [tvI_i] at ef470
    have gf470 := mFr_s g0 ef470 (by unfold mFs; omega)
    exact tw_vret rfl ⟨rfl, gf470, mFt_of ef470 hb hb4 hw hw7, mI_o ef470 (by decide), mI_o ef470 (by decide)⟩
theorem z_fails {G : zG} (hG : G.1 = zProg) (hX : G.2.1 = ztx) {h : zH} {T : Nat → Int32} {n : Nat} (hs : tSh h) {ef : Nat} (hp : mFt h ef) (hT : tA h 132 = T) (hN : mn h = n) {y a : Int32} : tC zTt G 201 [.ref 111, .int y, .int a] h (fun w9 h2 => w9 = none ∧ mFr h h2 ∧ mFt h2 ef ∧ tF h2 111 28 = tF h 111 28 ∧ tF h2 111 27 = tF h 111 27) := by
  refine tC_in (by rw [hG]; rfl) (fun dp => ?_)
  have g0 := mFr_r hs
  refine tw_aload rfl rfl ?_
  refine tw_aload rfl rfl ?_
  refine tw_getS rfl (hi_111_29 hs) ?_
  refine tw_if_ne rfl (fun q471 => ?_) (fun q471 => ?_)
  · try dsimp only [tvI_i, tvJ_j, tvR_r] at q471
    have q471i := zneq (Y := 0) (by decide) q471
    refine tw_aload rfl rfl ?_
    refine tw_getS rfl (hi_111_29 hs) ?_
    refine tw_put rfl (fun f472 => ?_)
    refine tG_setm f472 (hw_111_29 f472 (g0).1) (fun hf472 ef472 => ?_)
    try dsimp only [tvI_i] at ef472
    have gf472 := mFr_s g0 ef472 (by unfold mFs; omega)
    have hz : mFt hf472 ef := ⟨ef472.2.1.trans ((hi_111_29 hs).symm.trans hp.1), hp.2⟩
    exact tw_vret rfl ⟨rfl, gf472, hz, mI_o ef472 (by decide), mI_o ef472 (by decide)⟩
  · try dsimp only [tvI_i, tvJ_j, tvR_r] at q471
    have q471i := zeqi (Y := 0) (by decide) q471
    refine tw_push rfl ?_
    refine tw_push rfl ?_
    refine tw_iload rfl rfl ?_
    refine tw_imul rfl ?_
    refine tw_iadd rfl ?_
    refine tw_iload rfl rfl ?_
    refine tw_iadd rfl ?_
    refine tw_goto rfl ?_
    refine tw_put rfl (fun f473 => ?_)
    refine tG_setm f473 (hw_111_29 f473 (g0).1) (fun hf473 ef473 => ?_)
    try dsimp only [tvI_i] at ef473
    have gf473 := mFr_s g0 ef473 (by unfold mFs; omega)
    exact absurd q471 (mFt_n hp)
theorem mpos_k {h h2 : zH} (h0 : 0 ≤ (tvI (tF h 111 28)).toInt ∧ 0 ≤ (tvI (tF h 111 27)).toInt) (a : tF h2 111 28 = tF h 111 28) (b : tF h2 111 27 = tF h 111 27) : 0 ≤ (tvI (tF h2 111 28)).toInt ∧ 0 ≤ (tvI (tF h2 111 27)).toInt := by rw [a, b]; exact h0
theorem mpos_p {h : zH} (p : mP h) : 0 ≤ (tvI (tF h 111 28)).toInt ∧ 0 ≤ (tvI (tF h 111 27)).toInt := by have := p.2.1; exact ⟨by omega, by omega⟩
theorem m80 {h : zH} (p : mP h) (q : tvI (tF h 111 33) = 80) : (ms h).2.1 = 80 := by
  have e := mCl p
  rw [q] at e
  have : (80 : Int32).toInt = 80 := rfl
  omega
theorem mn80 {h : zH} (p : mP h) (q : ¬ tvI (tF h 111 33) = 80) : (ms h).2.1 ≠ 80 := by
  intro z
  have e := mCl p
  refine q (Int32.toInt_inj.mp ?_)
  have : (80 : Int32).toInt = 80 := rfl
  omega
theorem g_entry {G : zG} (hG : G.1 = zProg) (hX : G.2.1 = ztx) {h : zH} {T : Nat → Int32} {n : Nat} (hs : tSh h) (hp : mP h) (hT : tA h 132 = T) (hN : mn h = n) {s v : Int32} (hv : 0 ≤ s.toInt ∧ 0 ≤ v.toInt) : tC zTt G 206 [.ref 111, .int s, .int v] h (fun w h2 => w = none ∧ mFr h h2 ∧ mP h2 ∧ ms h2 = rU (mCode s.toNatClampNeg v.toNatClampNeg) (ms h) ∧ mSk h2 = mSk h ∧ tF h2 111 32 = tF h 111 32) := by
  refine tC_in (by rw [hG]; rfl) (fun dp => ?_)
  have g0 := mFr_r hs
  have hpn : (ms h).1 ≤ n := mPle hp hN
  refine tw_aload rfl rfl ?_
  refine tw_getS rfl (hi_111_29 hs) ?_
  refine tw_if_ne rfl (fun q474 => ?_) (fun q474 => ?_)
  · try dsimp only [tvI_i, tvJ_j, tvR_r] at q474
    have q474i := zneq (Y := 0) (by decide) q474
    exact absurd (mP_0 hp) q474
  · try dsimp only [tvI_i, tvJ_j, tvR_r] at q474
    have q474i := zeqi (Y := 0) (by decide) q474
    refine tw_aload rfl rfl ?_
    refine tw_getS rfl (hs_111_36 hs) ?_
    refine tw_push rfl ?_
    refine tw_aload rfl rfl ?_
    refine tw_getS rfl (hi_111_30 hs) ?_
    refine tw_imul rfl ?_
    refine tw_aload rfl rfl ?_
    refine tw_getS rfl (hi_111_31 hs) ?_
    refine tw_iadd rfl ?_
    refine tw_iload rfl rfl ?_
    refine tw_iast rfl (fun f475 => ?_)
    refine tw_aload rfl rfl ?_
    refine tw_getS rfl (hs_111_37 (tSh_SA hs)) ?_
    refine tw_push rfl ?_
    refine tw_aload rfl rfl ?_
    refine tw_getS rfl (tF_a (hi_111_30 hs)) ?_
    refine tw_imul rfl ?_
    refine tw_aload rfl rfl ?_
    refine tw_getS rfl (tF_a (hi_111_31 hs)) ?_
    refine tw_iadd rfl ?_
    refine tw_iload rfl rfl ?_
    refine tw_iast rfl (fun f476 => ?_)
    refine tw_aload rfl rfl ?_
    refine tw_dup rfl ?_
    refine tw_getS rfl (tF_a (tF_a (hi_111_31 hs))) ?_
    refine tw_push rfl ?_
    refine tw_iadd rfl ?_
    refine tw_put rfl (fun f477 => ?_)
    have K := mEnt (s := s) (v := v) hs hp hv rfl rfl f475 f476 f477
    exact tw_vret rfl ⟨rfl, K.1, K.2.1, K.2.2.2.1, K.2.2.1, K.2.2.2.2⟩
theorem z_entry {G : zG} (hG : G.1 = zProg) (hX : G.2.1 = ztx) {h : zH} {T : Nat → Int32} {n : Nat} (hs : tSh h) {ef : Nat} (hp : mFt h ef) (hT : tA h 132 = T) (hN : mn h = n) {s v : Int32} : tC zTt G 206 [.ref 111, .int s, .int v] h (fun w h2 => w = none ∧ h2 = h) := by
  refine tC_in (by rw [hG]; rfl) (fun dp => ?_)
  have g0 := mFr_r hs
  refine tw_aload rfl rfl ?_
  refine tw_getS rfl (hi_111_29 hs) ?_
  refine tw_if_ne rfl (fun q478 => ?_) (fun q478 => ?_)
  · try dsimp only [tvI_i, tvJ_j, tvR_r] at q478
    have q478i := zneq (Y := 0) (by decide) q478
    exact tw_vret rfl ⟨rfl, rfl⟩
  · try dsimp only [tvI_i, tvJ_j, tvR_r] at q478
    have q478i := zeqi (Y := 0) (by decide) q478
    refine tw_aload rfl rfl ?_
    refine tw_getS rfl (hs_111_36 hs) ?_
    refine tw_push rfl ?_
    refine tw_aload rfl rfl ?_
    refine tw_getS rfl (hi_111_30 hs) ?_
    refine tw_imul rfl ?_
    refine tw_aload rfl rfl ?_
    refine tw_getS rfl (hi_111_31 hs) ?_
    refine tw_iadd rfl ?_
    refine tw_iload rfl rfl ?_
    refine tw_iast rfl (fun f479 => ?_)
    refine tw_aload rfl rfl ?_
    refine tw_getS rfl (hs_111_37 (tSh_SA hs)) ?_
    refine tw_push rfl ?_
    refine tw_aload rfl rfl ?_
    refine tw_getS rfl (tF_a (hi_111_30 hs)) ?_
    refine tw_imul rfl ?_
    refine tw_aload rfl rfl ?_
    refine tw_getS rfl (tF_a (hi_111_31 hs)) ?_
    refine tw_iadd rfl ?_
    refine tw_iload rfl rfl ?_
    refine tw_iast rfl (fun f480 => ?_)
    refine tw_aload rfl rfl ?_
    refine tw_dup rfl ?_
    refine tw_getS rfl (tF_a (tF_a (hi_111_31 hs))) ?_
    refine tw_push rfl ?_
    refine tw_iadd rfl ?_
    refine tw_put rfl (fun f481 => ?_)
    exact absurd q478 (mFt_n hp)
theorem g_counts {G : zG} (hG : G.1 = zProg) (hX : G.2.1 = ztx) {h : zH} {T : Nat → Int32} {n : Nat} (hs : tSh h) (hp : mP h) (hT : tA h 132 = T) (hN : mn h = n) {a : Int32} {b : Nat} (hb : a.toInt = b) (hb4 : b ≤ 400) : tC zTt G 207 [.ref 111, .int a] h (fun w h2 => w = none ∧ mFr h h2 ∧ (((ms h).2.1 ≠ 80 ∧ mP h2 ∧ ms h2 = ((ms h).1, (ms h).2.1 + 1, (ms h).2.2) ∧ mSk h2 = mSk h ∧ tF h2 111 32 = tF h 111 32) ∨ ((ms h).2.1 = 80 ∧ mFt h2 (1 + 8 * b + 3))) ∧ tF h2 111 28 = tF h 111 28 ∧ tF h2 111 27 = tF h 111 27) := by
  refine tC_in (by rw [hG]; rfl) (fun dp => ?_)
  have g0 := mFr_r hs
  have hpn : (ms h).1 ≤ n := mPle hp hN
  refine tw_aload rfl rfl ?_
  refine tw_getS rfl (hi_111_33 hs) ?_
  refine tw_push rfl ?_
  refine tw_ic_ne rfl (fun q482 => ?_) (fun q482 => ?_)
  · try dsimp only [tvI_i, tvJ_j, tvR_r] at q482
    have q482i := zneq (Y := 80) (by decide) q482
    refine tw_aload rfl rfl ?_
    refine tw_dup rfl ?_
    refine tw_getS rfl (hi_111_33 hs) ?_
    refine tw_push rfl ?_
    refine tw_iadd rfl ?_
    refine tw_put rfl (fun f483 => ?_)
    refine tG_setm f483 (hw_111_33 f483 (g0).1) (fun hf483 ef483 => ?_)
    try dsimp only [tvI_i] at ef483
    have gf483 := mFr_s g0 ef483 (by unfold mFs; omega)
    obtain ⟨pf483, sf483, tf483⟩ := mCnt hp (mn80 hp q482) ef483
    exact tw_vret rfl ⟨rfl, gf483, Or.inl ⟨mn80 hp q482, pf483, sf483, tf483, mI_o ef483 (by decide)⟩, mI_o ef483 (by decide), mI_o ef483 (by decide)⟩
  · try dsimp only [tvI_i, tvJ_j, tvR_r] at q482
    have q482i := zeqi (Y := 80) (by decide) q482
    refine tw_aload rfl rfl ?_
    refine tw_push rfl ?_
    refine tw_iload rfl rfl ?_
    refine tw_virt2 rfl (g_fails hG hX (g0).1 hp ((mFr_T g0).trans hT) ((mFr_n g0).trans hN) (w := 3) (b := b) rfl (by decide) hb hb4) (fun wp484 hp484 p484 => ?_)
    obtain ⟨rfl, gp484, Fp484, ip484, jp484⟩ := p484
    have ggp484 := mFr_t g0 gp484
    refine tw_aload rfl rfl ?_
    refine tw_dup rfl ?_
    refine tw_getS rfl (hi_111_33 ggp484.1) ?_
    refine tw_push rfl ?_
    refine tw_iadd rfl ?_
    refine tw_put rfl (fun f485 => ?_)
    refine tG_setm f485 (hw_111_33 f485 (ggp484).1) (fun hf485 ef485 => ?_)
    try dsimp only [tvI_i] at ef485
    have gf485 := mFr_s ggp484 ef485 (by unfold mFs; omega)
    have zf485 := mFt_s Fp484 ef485 (by decide)
    exact tw_vret rfl ⟨rfl, gf485, Or.inr ⟨m80 hp q482, zf485⟩, (mI_o ef485 (by decide)).trans ip484, (mI_o ef485 (by decide)).trans jp484⟩
theorem z_counts {G : zG} (hG : G.1 = zProg) (hX : G.2.1 = ztx) {h : zH} {T : Nat → Int32} {n : Nat} (hs : tSh h) {ef : Nat} (hp : mFt h ef) (hT : tA h 132 = T) (hN : mn h = n) {a : Int32} : tC zTt G 207 [.ref 111, .int a] h (fun w h2 => w = none ∧ mFr h h2 ∧ mFt h2 ef ∧ tF h2 111 28 = tF h 111 28 ∧ tF h2 111 27 = tF h 111 27) := by
  refine tC_in (by rw [hG]; rfl) (fun dp => ?_)
  have g0 := mFr_r hs
  refine tw_aload rfl rfl ?_
  refine tw_getS rfl (hi_111_33 hs) ?_
  refine tw_push rfl ?_
  refine tw_ic_ne rfl (fun q486 => ?_) (fun q486 => ?_)
  · try dsimp only [tvI_i, tvJ_j, tvR_r] at q486
    have q486i := zneq (Y := 80) (by decide) q486
    refine tw_aload rfl rfl ?_
    refine tw_dup rfl ?_
    refine tw_getS rfl (hi_111_33 hs) ?_
    refine tw_push rfl ?_
    refine tw_iadd rfl ?_
    refine tw_put rfl (fun f487 => ?_)
    refine tG_setm f487 (hw_111_33 f487 (g0).1) (fun hf487 ef487 => ?_)
    try dsimp only [tvI_i] at ef487
    have gf487 := mFr_s g0 ef487 (by unfold mFs; omega)
    have zf487 := mFt_s hp ef487 (by decide)
    exact tw_vret rfl ⟨rfl, gf487, zf487, mI_o ef487 (by decide), mI_o ef487 (by decide)⟩
  · try dsimp only [tvI_i, tvJ_j, tvR_r] at q486
    have q486i := zeqi (Y := 80) (by decide) q486
    refine tw_aload rfl rfl ?_
    refine tw_push rfl ?_
    refine tw_iload rfl rfl ?_
    refine tw_virt2 rfl (z_fails hG hX (g0).1 hp ((mFr_T g0).trans hT) ((mFr_n g0).trans hN)) (fun wp488 hp488 p488 => ?_)
    obtain ⟨rfl, gp488, Fp488, ip488, jp488⟩ := p488
    have ggp488 := mFr_t g0 gp488
    refine tw_aload rfl rfl ?_
    refine tw_dup rfl ?_
    refine tw_getS rfl (hi_111_33 ggp488.1) ?_
    refine tw_push rfl ?_
    refine tw_iadd rfl ?_
    refine tw_put rfl (fun f489 => ?_)
    refine tG_setm f489 (hw_111_33 f489 (ggp488).1) (fun hf489 ef489 => ?_)
    try dsimp only [tvI_i] at ef489
    have gf489 := mFr_s ggp488 ef489 (by unfold mFs; omega)
    have zf489 := mFt_s Fp488 ef489 (by decide)
    exact tw_vret rfl ⟨rfl, gf489, zf489, (mI_o ef489 (by decide)).trans ip488, (mI_o ef489 (by decide)).trans jp488⟩
theorem g_opens {G : zG} (hG : G.1 = zProg) (hX : G.2.1 = ztx) {h : zH} {T : Nat → Int32} {n : Nat} (hs : tSh h) (hp : mP h) (hT : tA h 132 = T) (hN : mn h = n) {x : Int32} (hx0 : 0 ≤ x.toInt) : tC zTt G 208 [.ref 111, .int x] h (fun w h2 => w = none ∧ mFr h h2 ∧ mP h2 ∧ mSk h2 = x.toNatClampNeg :: mSk h ∧ ms h2 = ms h ∧ tF h2 111 32 = tF h 111 32) := by
  refine tC_in (by rw [hG]; rfl) (fun dp => ?_)
  have g0 := mFr_r hs
  have hpn : (ms h).1 ≤ n := mPle hp hN
  refine tw_aload rfl rfl ?_
  refine tw_getS rfl (hs_111_45 hs) ?_
  refine tw_aload rfl rfl ?_
  refine tw_getS rfl (hi_111_34 hs) ?_
  refine tw_iload rfl rfl ?_
  refine tw_iast rfl (fun f490 => ?_)
  refine tw_aload rfl rfl ?_
  refine tw_dup rfl ?_
  refine tw_getS rfl (tF_a (hi_111_34 hs)) ?_
  refine tw_push rfl ?_
  refine tw_iadd rfl ?_
  refine tw_put rfl (fun f491 => ?_)
  have K := mPush (x := x) hs hp hx0 f490 f491
  exact tw_vret rfl ⟨rfl, K.1, K.2.1, K.2.2.1, K.2.2.2.1, K.2.2.2.2⟩
theorem mPushz {h : zH} {x : Int32} {kd ef : Nat} (hs : tSh h) (z : mFt h ef) (hf : tIn h 142 kd (tvI (tF h 111 34))) (hf2 : tFd (tSA h 142 (tvI (tF h 111 34)).toNatClampNeg x) 111 34) : mFr h (tSF (tSA h 142 (tvI (tF h 111 34)).toNatClampNeg x) 111 34 (.int (tvI (tF h 111 34) + 1))) ∧ mFt (tSF (tSA h 142 (tvI (tF h 111 34)).toNatClampNeg x) 111 34 (.int (tvI (tF h 111 34) + 1))) ef ∧ tF (tSF (tSA h 142 (tvI (tF h 111 34)).toNatClampNeg x) 111 34 (.int (tvI (tF h 111 34) + 1))) 111 28 = tF h 111 28 ∧ tF (tSF (tSA h 142 (tvI (tF h 111 34)).toNatClampNeg x) 111 34 (.int (tvI (tF h 111 34) + 1))) 111 27 = tF h 111 27 := by
  have hw := hw_111_34 (x := tvI (tF h 111 34) + 1) hf2 (tSh_SA hs)
  have e := mSet_of hf2 hw
  generalize tSF (tSA h 142 (tvI (tF h 111 34)).toNatClampNeg x) 111 34 (.int (tvI (tF h 111 34) + 1)) = h3 at e
  have hF : ∀ b, b ≠ 34 → tF h3 111 b = tF h 111 b := fun b hb => (mI_o e hb).trans (by rw [tF_tSA])
  refine ⟨⟨e.1, fun p q z => (e.2.2.1 p q (fun w => z ⟨w.1, by unfold mFs; omega⟩)).trans (by rw [tF_tSA]), fun p _ _ y => (congrFun e.2.2.2.1 p).trans (tA_nz y), e.2.2.2.2.trans (tN_tSA _ _ _ _), mLo_p ((congrFun e.2.2.2.1 133).trans (tA_nz (by decide))) ((congrFun e.2.2.2.1 134).trans (tA_nz (by decide)))⟩, ⟨(hF 29 (by decide)).trans z.1, z.2⟩, hF 28 (by decide), hF 27 (by decide)⟩
theorem z_opens {G : zG} (hG : G.1 = zProg) (hX : G.2.1 = ztx) {h : zH} {T : Nat → Int32} {n : Nat} (hs : tSh h) {ef : Nat} (hp : mFt h ef) (hT : tA h 132 = T) (hN : mn h = n) {x : Int32} : tC zTt G 208 [.ref 111, .int x] h (fun w h2 => w = none ∧ mFr h h2 ∧ mFt h2 ef ∧ tF h2 111 28 = tF h 111 28 ∧ tF h2 111 27 = tF h 111 27) := by
  refine tC_in (by rw [hG]; rfl) (fun dp => ?_)
  have g0 := mFr_r hs
  refine tw_aload rfl rfl ?_
  refine tw_getS rfl (hs_111_45 hs) ?_
  refine tw_aload rfl rfl ?_
  refine tw_getS rfl (hi_111_34 hs) ?_
  refine tw_iload rfl rfl ?_
  refine tw_iast rfl (fun f492 => ?_)
  refine tw_aload rfl rfl ?_
  refine tw_dup rfl ?_
  refine tw_getS rfl (tF_a (hi_111_34 hs)) ?_
  refine tw_push rfl ?_
  refine tw_iadd rfl ?_
  refine tw_put rfl (fun f493 => ?_)
  have K := mPushz (x := x) hs hp f492 f493
  exact tw_vret rfl ⟨rfl, K.1, K.2.1, K.2.2.1, K.2.2.2⟩
theorem mD10 {h : zH} (d : mD h) : tvI (tF h 111 32) = 10 ↔ mDp (mSk h) = 10 := by
  have d : (tvI (tF h 111 32)).toInt = (mDp (mSk h) : Int) := d
  have e : (10 : Int32).toInt = 10 := rfl
  constructor
  · intro z
    rw [z] at d
    omega
  · intro z
    refine Int32.toInt_inj.mp ?_
    omega
theorem mDp_c {c : Nat} {S : List Nat} (h : c = 50 ∨ c = 10 ∨ c = 13) : mDp (c :: S) = mDp S + 1 := if_pos h
theorem mDp_e {c : Nat} {S : List Nat} (h : ¬ (c = 50 ∨ c = 10 ∨ c = 13)) : mDp (c :: S) = mDp S := if_neg h
theorem g_opensDeep {G : zG} (hG : G.1 = zProg) (hX : G.2.1 = ztx) {h : zH} {T : Nat → Int32} {n : Nat} (hs : tSh h) (hp : mP h) (hT : tA h 132 = T) (hN : mn h = n) {x a : Int32} {b : Nat} (hx0 : 0 ≤ x.toInt) (hx : x.toNatClampNeg = 50 ∨ x.toNatClampNeg = 10 ∨ x.toNatClampNeg = 13) (hb : a.toInt = b) (hb4 : b ≤ 400) (hD : mD h) (hd10 : mDp (mSk h) ≤ 1000) : tC zTt G 209 [.ref 111, .int x, .int a] h (fun w h2 => w = none ∧ mFr h h2 ∧ ((mDp (mSk h) ≠ 10 ∧ mP h2 ∧ mSk h2 = x.toNatClampNeg :: mSk h ∧ ms h2 = ms h ∧ mD h2) ∨ (mDp (mSk h) = 10 ∧ mFt h2 (1 + 8 * b + 2) ∧ tF h2 111 28 = tF h 111 28 ∧ tF h2 111 27 = tF h 111 27))) := by
  refine tC_in (by rw [hG]; rfl) (fun dp => ?_)
  have g0 := mFr_r hs
  have hpn : (ms h).1 ≤ n := mPle hp hN
  refine tw_aload rfl rfl ?_
  refine tw_getS rfl (hi_111_32 hs) ?_
  refine tw_push rfl ?_
  refine tw_ic_ne rfl (fun q494 => ?_) (fun q494 => ?_)
  · try dsimp only [tvI_i, tvJ_j, tvR_r] at q494
    have q494i := zneq (Y := 10) (by decide) q494
    refine tw_aload rfl rfl ?_
    refine tw_dup rfl ?_
    refine tw_getS rfl (hi_111_32 hs) ?_
    refine tw_push rfl ?_
    refine tw_iadd rfl ?_
    refine tw_put rfl (fun f495 => ?_)
    refine tG_setm f495 (hw_111_32 f495 (g0).1) (fun hf495 ef495 => ?_)
    try dsimp only [tvI_i] at ef495
    have gf495 := mFr_s g0 ef495 (by unfold mFs; omega)
    obtain ⟨pf495, tf495, sf495, df495⟩ := mUp hp ef495 hD hd10
    refine tw_aload rfl rfl ?_
    refine tw_iload rfl rfl ?_
    refine tw_virt1 rfl (g_opens hG hX (gf495).1 pf495 ((mFr_T gf495).trans hT) ((mFr_n gf495).trans hN) hx0) (fun wp496 hp496 p496 => ?_)
    obtain ⟨rfl, gp496, pp496e, tp496, sp496, dp496⟩ := p496
    have ggp496 := mFr_t gf495 gp496
    have hne : mDp (mSk h) ≠ 10 := fun z => q494 ((mD10 hD).mpr z)
    exact tw_vret rfl ⟨rfl, ggp496, Or.inl ⟨hne, pp496e, by rw [tp496, tf495], sp496.trans sf495, by unfold mD; rw [dp496, tp496, tf495, mDp_c hx]; exact df495⟩⟩
  · try dsimp only [tvI_i, tvJ_j, tvR_r] at q494
    have q494i := zeqi (Y := 10) (by decide) q494
    refine tw_aload rfl rfl ?_
    refine tw_push rfl ?_
    refine tw_iload rfl rfl ?_
    refine tw_virt2 rfl (g_fails hG hX (g0).1 hp ((mFr_T g0).trans hT) ((mFr_n g0).trans hN) (w := 2) (b := b) rfl (by decide) hb hb4) (fun wp497 hp497 p497 => ?_)
    obtain ⟨rfl, gp497, Fp497, ip497, jp497⟩ := p497
    have ggp497 := mFr_t g0 gp497
    refine tw_aload rfl rfl ?_
    refine tw_dup rfl ?_
    refine tw_getS rfl (hi_111_32 ggp497.1) ?_
    refine tw_push rfl ?_
    refine tw_iadd rfl ?_
    refine tw_put rfl (fun f498 => ?_)
    refine tG_setm f498 (hw_111_32 f498 (ggp497).1) (fun hf498 ef498 => ?_)
    try dsimp only [tvI_i] at ef498
    have gf498 := mFr_s ggp497 ef498 (by unfold mFs; omega)
    have zf498 := mFt_s Fp497 ef498 (by decide)
    refine tw_aload rfl rfl ?_
    refine tw_iload rfl rfl ?_
    refine tw_virt1 rfl (z_opens hG hX (gf498).1 zf498 ((mFr_T gf498).trans hT) ((mFr_n gf498).trans hN)) (fun wp499 hp499 p499 => ?_)
    obtain ⟨rfl, gp499, Fp499, ip499, jp499⟩ := p499
    have ggp499 := mFr_t gf498 gp499
    exact tw_vret rfl ⟨rfl, ggp499, Or.inr ⟨(mD10 hD).mp q494, Fp499, ip499.trans ((mI_o ef498 (by decide)).trans ip497), jp499.trans ((mI_o ef498 (by decide)).trans jp497)⟩⟩
noncomputable def tpm (S : List Nat) (c : Int32) : Prop := (S = [] ∧ c = -1) ∨ (S ≠ [] ∧ c.toInt = ((S.headD 0 : Nat) : Int))
theorem tpm_k {S : List Nat} {c : Int32} (t : tpm S c) {k : Int32} {K : Nat} (hk : k.toInt = K) (h0 : 0 < K) : c = k ↔ S.headD 0 = K := by
  rcases t with ⟨rfl, rfl⟩ | ⟨h, e⟩
  · have : ((-1 : Int32)).toInt = -1 := by decide
    exact ⟨fun z => by rw [← z] at hk; omega, fun z => by have z : 0 = K := z; omega⟩
  · exact ⟨fun z => by rw [z] at e; omega, fun z => Int32.toInt_inj.mp (by omega)⟩
theorem tpm_i {S : List Nat} {c : Int32} (t : tpm S c) (hc : 0 ≤ c.toInt) : S ≠ [] ∧ c.toInt = ((S.headD 0 : Nat) : Int) := by
  rcases t with ⟨rfl, rfl⟩ | t
  · exact absurd hc (by decide)
  · exact t
theorem tpm_e {S : List Nat} {c : Int32} (t : tpm S c) : c.toInt = ((S.headD 0 : Nat) : Int) ∨ (S.headD 0 = 0 ∧ c.toInt = -1) := by
  rcases t with ⟨rfl, rfl⟩ | t
  · exact Or.inr ⟨rfl, by decide⟩
  · exact Or.inl t.2
theorem g_top {G : zG} (hG : G.1 = zProg) (hX : G.2.1 = ztx) {h : zH} {T : Nat → Int32} {n : Nat} (hs : tSh h) (hp : mP h) (hT : tA h 132 = T) (hN : mn h = n)  : tC zTt G 210 [.ref 111] h (fun w h2 => (∃ c, w = some (.int c) ∧ tpm (mSk h) c) ∧ h = h2) := by
  refine tC_in (by rw [hG]; rfl) (fun dp => ?_)
  have g0 := mFr_r hs
  have hpn : (ms h).1 ≤ n := mPle hp hN
  refine tw_aload rfl rfl ?_
  refine tw_getS rfl (hi_111_34 hs) ?_
  refine tw_if_ne rfl (fun q500 => ?_) (fun q500 => ?_)
  · try dsimp only [tvI_i, tvJ_j, tvR_r] at q500
    have q500i := zneq (Y := 0) (by decide) q500
    refine tw_aload rfl rfl ?_
    refine tw_getS rfl (hs_111_45 hs) ?_
    refine tw_aload rfl rfl ?_
    refine tw_getS rfl (hi_111_34 hs) ?_
    refine tw_push rfl ?_
    refine tw_isub rfl ?_
    refine tw_iald rfl (fun f501 => ?_)
    have hk : 0 < (tvI (tF h 111 34)).toNatClampNeg := by rw [zclE]; have := hp.2.2.2.2.1; omega
    have e2 : (tvI (tF h 111 34) - 1).toNatClampNeg = (tvI (tF h 111 34)).toNatClampNeg - 1 := by rw [zclE, zclE, zsub1 hp.2.2.2.2.1]; omega
    refine tw_iret rfl ⟨⟨_, rfl, Or.inr ?_⟩, rfl⟩
    rw [mSk_top hk]
    refine ⟨List.cons_ne_nil _ _, ?_⟩
    show (tA h 142 (tvI (tF h 111 34) - 1).toNatClampNeg).toInt = _
    have hl9 : (tvI (tF h 111 34) - 1).toNatClampNeg < tN h 142 := f501.rg.2
    rw [e2] at hl9
    rw [e2]
    exact (zclx (hp.2.2.2.2.2.2.1 _ hl9)).symm
  · try dsimp only [tvI_i, tvJ_j, tvR_r] at q500
    have q500i := zeqi (Y := 0) (by decide) q500
    refine tw_push rfl ?_
    refine tw_goto rfl ?_
    exact tw_iret rfl ⟨⟨_, rfl, Or.inl ⟨mSk_nil (by rw [q500]; rfl), rfl⟩⟩, rfl⟩
theorem rQ_at {T : Nat → Int32} : ∀ (w : List Int32) (p k : Nat), rQ T p w = true → k < w.length → T (p + k) = w.getD k 0
  | c :: w, p, 0, h, _ => by
    have h : (decide (T p = c) && rQ T (p + 1) w) = true := h
    rw [Bool.and_eq_true] at h
    exact of_decide_eq_true h.1
  | c :: w, p, k + 1, h, hk => by
    have h : (decide (T p = c) && rQ T (p + 1) w) = true := h
    rw [Bool.and_eq_true] at h
    have z := rQ_at w (p + 1) k h.2 (by rw [List.length_cons] at hk; omega)
    rw [show p + 1 + k = p + (k + 1) by omega] at z
    exact z
theorem rQ_of {T : Nat → Int32} : ∀ (w : List Int32) (p : Nat), (∀ k, k < w.length → T (p + k) = w.getD k 0) → rQ T p w = true
  | [], _, _ => rfl
  | c :: w, p, h => by
    show (decide (T p = c) && rQ T (p + 1) w) = true
    rw [Bool.and_eq_true]
    refine ⟨decide_eq_true (h 0 (by rw [List.length_cons]; omega)), rQ_of w (p + 1) (fun k hk => ?_)⟩
    have z := h (k + 1) (by rw [List.length_cons]; omega)
    rw [show p + (k + 1) = p + 1 + k by omega] at z
    exact z
theorem mPz {h : zH} (h0 : 0 ≤ (tvI (tF h 111 28)).toInt) : (tvI (tF h 111 28)).toInt = ((ms h).1 : Int) := by
  show _ = ((tvI (tF h 111 28)).toNatClampNeg : Int)
  rw [zclE]
  omega
theorem mNz {h : zH} {n : Nat} (h0 : 0 ≤ (tvI (tF h 111 27)).toInt) (hN : mn h = n) : (tvI (tF h 111 27)).toInt = (n : Int) := by
  rw [← hN]
  show _ = ((tvI (tF h 111 27)).toNatClampNeg : Int)
  rw [zclE]
  omega
theorem zadN {x y : Int32} {a b : Nat} (hx : x.toInt = a) (hy : y.toInt = b) (ha : a ≤ 100000) (hb : b ≤ 100000) : (x + y).toInt = ((a + b : Nat) : Int) := by
  rw [Int32.toInt_add, hx, hy]
  exact (Int.bmod_eq_of_le (by show (-2147483648 : Int) ≤ (a : Int) + b; omega) (by show (a : Int) + b < (2147483648 : Int); omega)).trans (by omega)
theorem g_stands {G : zG} (hG : G.1 = zProg) (hX : G.2.1 = ztx) {h : zH} {T : Nat → Int32} {n : Nat} (hs : tSh h) (hT : tA h 132 = T) (hN : mn h = n) {q : Nat} (hq1 : (ztx q).length ≤ 200) (h0 : 0 ≤ (tvI (tF h 111 28)).toInt ∧ 0 ≤ (tvI (tF h 111 27)).toInt) (h4 : (tvI (tF h 111 28)).toInt ≤ 1000 ∧ (tvI (tF h 111 27)).toInt ≤ 400) : tC zTt G 205 [.ref 111, .retAddr q] h (fun w h2 => tBo (rW T n (ms h).1 (ztx q) = true) w ∧ h = h2) := by
  refine tC_in (by rw [hG]; rfl) (fun dp => ?_)
  have g0 := mFr_r hs
  have c979 : (97 : Int32).toInt = 97 := rfl
  have c1229 : (122 : Int32).toInt = 122 := rfl
  have hn4 := mNz h0.2 hN
  have hp4 := mPz h0.1
  refine tw_aload rfl rfl ?_
  refine tw_getS rfl (hi_111_28 hs) ?_
  refine tw_istore rfl ?_
  refine tG_loop (zW_mono zTt G dp) (zW_conj zTt G dp) (V := fun pc L st h9 _ _ => pc = 5 ∧ st = [] ∧ h = h9 ∧ ∃ (k : Nat) (x : Int32) (l3 l4 : Option Value), x.toInt = (((ms h).1 + k : Nat) : Int) ∧ rE T n ((ms h).1 + k) = rE T n (ms h).1 ∧ (ms h).1 + k ≤ 1400 ∧ L = [some (.ref 111), some (.retAddr q), some (.int x), l3, l4]) ?_ (⟨rfl, rfl, rfl, 0, _, _, _, mPz h0.1, rfl, by have := mPz h0.1; omega, rfl⟩)
  rintro _ _ _ _ _ _ ⟨rfl, rfl, rfl, k, x, l3, l4, hx, he, hk14, rfl⟩
  refine tw_iload rfl rfl ?_
  refine tw_aload rfl rfl ?_
  refine tw_getS rfl (hi_111_27 hs) ?_
  refine tw_ic_ge rfl (fun q502 => ?_) (fun q502 => ?_)
  · try dsimp only [tvI_i, tvJ_j, tvR_r] at q502
    refine tw_iload rfl rfl ?_
    refine tw_aload rfl rfl ?_
    refine tw_getS rfl (hi_111_28 hs) ?_
    refine tw_isub rfl ?_
    refine tw_aload rfl rfl ?_
    refine tw_tlen rfl ?_
    refine tw_ic_ne rfl (fun q503 => ?_) (fun q503 => ?_)
    · try dsimp only [tvI_i, tvJ_j, tvR_r] at q503
      have q503i := zneq rfl q503
      refine tw_push rfl ?_
      refine tw_istore rfl ?_
      refine tw_push rfl ?_
      refine tw_istore rfl ?_
      have hix : x.toNatClampNeg = (ms h).1 + k := zof_cl hx
      have hTx : tA h 132 x.toNatClampNeg = T ((ms h).1 + k) := by rw [hix, hT]
      have hnd : ¬ ((ms h).1 + k < n ∧ 97 ≤ (T ((ms h).1 + k)).toInt ∧ (T ((ms h).1 + k)).toInt ≤ 122) := by
        have z0 := q502
        try rw [hTx] at z1
        try rw [hTx] at z2
        omega
      have hE9 : rE T n (ms h).1 = (ms h).1 + k := he.symm.trans (rE_n hnd)
      have hsb : (x - tvI (tF h 111 28)).toInt = ((((ms h).1 + k : Nat) : Int)) - (((ms h).1 : Nat) : Int) := zsb hx (mPz h0.1) (by omega) (by omega)
      have hLn : (Int32.ofNat (G.2.1 q).length).toInt = ((ztx q).length : Int) := by rw [hX]; exact zofI (by omega)
      have hEL : x - tvI (tF h 111 28) = Int32.ofNat (G.2.1 q).length ↔ rE T n (ms h).1 = (ms h).1 + (ztx q).length := ⟨fun z => by rw [z, hLn] at hsb; omega, fun z => Int32.toInt_inj.mp (by rw [hsb, hLn]; omega)⟩
      refine tG_loop (zW_mono zTt G dp) (zW_conj zTt G dp) (V := fun pc L st h9 _ _ => pc = 63 ∧ st = [] ∧ h = h9 ∧ ∃ (j : Nat) (y is : Int32), y.toInt = j ∧ j ≤ (ztx q).length ∧ ((is = 1 ∧ rE T n (ms h).1 = (ms h).1 + (ztx q).length ∧ ∀ i, i < j → T ((ms h).1 + i) = (ztx q).getD i 0) ∨ (is = 0 ∧ ¬ rW T n (ms h).1 (ztx q) = true)) ∧ L = [some (.ref 111), some (.retAddr q), some (.int x), some (.int is), some (.int y)]) ?_ (⟨rfl, rfl, rfl, 0, 0, _, rfl, Nat.zero_le _, Or.inr ⟨rfl, fun z => q503 (hEL.mpr (rW_e z))⟩, rfl⟩)
      rintro _ _ _ _ _ _ ⟨rfl, rfl, rfl, j, y, is, hy, hjn, his, rfl⟩
      refine tw_iload rfl rfl ?_
      refine tw_aload rfl rfl ?_
      refine tw_tlen rfl ?_
      refine tw_ic_ge rfl (fun q504 => ?_) (fun q504 => ?_)
      · try dsimp only [tvI_i, tvJ_j, tvR_r] at q504
        refine tw_iload rfl rfl ?_
        have hlen : (Int32.ofNat (G.2.1 q).length).toInt = ((ztx q).length : Int) := by rw [hX]; exact zofI (by omega)
        have hj : j = (ztx q).length := by have z := q504; omega
        rcases his with ⟨e1, e2, e3⟩ | ⟨e1, e2⟩
        · exact tw_iret rfl ⟨Or.inl ⟨rW_i.mpr ⟨e2, rQ_of _ _ (fun k hk => e3 k (by omega))⟩, congrArg (fun z => some (Value.int z)) e1⟩, rfl⟩
        · exact tw_iret rfl ⟨Or.inr ⟨e2, congrArg (fun z => some (Value.int z)) e1⟩, rfl⟩
      · try dsimp only [tvI_i, tvJ_j, tvR_r] at q504
        refine tw_iload rfl rfl ?_
        refine tw_if_eq rfl (fun q505 => ?_) (fun q505 => ?_)
        · try dsimp only [tvI_i, tvJ_j, tvR_r] at q505
          have q505i := zeqi (Y := 0) (by decide) q505
          refine tw_iload rfl rfl ?_
          have hlen : (Int32.ofNat (G.2.1 q).length).toInt = ((ztx q).length : Int) := by rw [hX]; exact zofI (by omega)
          rcases his with ⟨e1, -, -⟩ | ⟨e1, e2⟩
          · exact absurd (e1.symm.trans q505) (by decide)
          · exact tw_iret rfl ⟨Or.inr ⟨e2, congrArg (fun z => some (Value.int z)) e1⟩, rfl⟩
        · try dsimp only [tvI_i, tvJ_j, tvR_r] at q505
          have q505i := zneq (Y := 0) (by decide) q505
          refine tw_aload rfl rfl ?_
          refine tw_getS rfl (hs_111_35 hs) ?_
          refine tw_aload rfl rfl ?_
          refine tw_getS rfl (hi_111_28 hs) ?_
          refine tw_iload rfl rfl ?_
          refine tw_iadd rfl ?_
          refine tw_bald rfl (fun f506 => ?_)
          refine tw_aload rfl rfl ?_
          refine tw_iload rfl rfl ?_
          refine tw_chr rfl (fun _ => ?_)
          refine tw_ic_ne rfl (fun q507 => ?_) (fun q507 => ?_)
          · try dsimp only [tvI_i, tvJ_j, tvR_r] at q507
            have q507i := zneq rfl q507
            refine tw_push rfl ?_
            refine tw_istore rfl ?_
            refine tw_iinc rfl rfl ?_
            refine tw_goto rfl ?_
            have hlen : (Int32.ofNat (G.2.1 q).length).toInt = ((ztx q).length : Int) := by rw [hX]; exact zofI (by omega)
            have hjl : j < (ztx q).length := by have z := q504; omega
            rcases his with ⟨e1, e2, e3⟩ | ⟨e1, -⟩
            rotate_left
            · exact absurd e1 q505
            have hpy : (tvI (tF h 111 28) + y).toNatClampNeg = (ms h).1 + j := zof_cl (zadN (mPz h0.1) hy (by omega) (by omega))
            have hTy : tA h 132 (tvI (tF h 111 28) + y).toNatClampNeg = T ((ms h).1 + j) := by rw [hpy, hT]
            have ec : (G.2.1 q).getD y.toNatClampNeg 0 = (ztx q).getD j 0 := by rw [hX, zof_cl hy]
            have hc : ¬ T ((ms h).1 + j) = (ztx q).getD j 0 := fun z => q507 (hTy.trans (z.trans ec.symm))
            exact tG_cut (zW_mono zTt G dp) (Or.inr ⟨rfl, rfl, rfl, j + 1, y + 1, _, zincN hy (by omega), by omega, Or.inr ⟨rfl, fun z => hc (rQ_at _ _ _ (rW_i.mp z).2 hjl)⟩, rfl⟩)
          · try dsimp only [tvI_i, tvJ_j, tvR_r] at q507
            have q507i := zeqi rfl q507
            refine tw_push rfl ?_
            refine tw_goto rfl ?_
            refine tw_istore rfl ?_
            refine tw_iinc rfl rfl ?_
            refine tw_goto rfl ?_
            have hlen : (Int32.ofNat (G.2.1 q).length).toInt = ((ztx q).length : Int) := by rw [hX]; exact zofI (by omega)
            have hjl : j < (ztx q).length := by have z := q504; omega
            rcases his with ⟨e1, e2, e3⟩ | ⟨e1, -⟩
            rotate_left
            · exact absurd e1 q505
            have hpy : (tvI (tF h 111 28) + y).toNatClampNeg = (ms h).1 + j := zof_cl (zadN (mPz h0.1) hy (by omega) (by omega))
            have hTy : tA h 132 (tvI (tF h 111 28) + y).toNatClampNeg = T ((ms h).1 + j) := by rw [hpy, hT]
            have ec : (G.2.1 q).getD y.toNatClampNeg 0 = (ztx q).getD j 0 := by rw [hX, zof_cl hy]
            have hc : T ((ms h).1 + j) = (ztx q).getD j 0 := hTy.symm.trans (q507.trans ec)
            exact tG_cut (zW_mono zTt G dp) (Or.inr ⟨rfl, rfl, rfl, j + 1, y + 1, _, zincN hy (by omega), by omega, Or.inl ⟨rfl, e2, fun i hi => (Classical.em (i = j)).elim (fun z => by rw [z]; exact hc) (fun z => e3 i (by omega))⟩, rfl⟩)
    · try dsimp only [tvI_i, tvJ_j, tvR_r] at q503
      have q503i := zeqi rfl q503
      refine tw_push rfl ?_
      refine tw_goto rfl ?_
      refine tw_istore rfl ?_
      refine tw_push rfl ?_
      refine tw_istore rfl ?_
      have hix : x.toNatClampNeg = (ms h).1 + k := zof_cl hx
      have hTx : tA h 132 x.toNatClampNeg = T ((ms h).1 + k) := by rw [hix, hT]
      have hnd : ¬ ((ms h).1 + k < n ∧ 97 ≤ (T ((ms h).1 + k)).toInt ∧ (T ((ms h).1 + k)).toInt ≤ 122) := by
        have z0 := q502
        try rw [hTx] at z1
        try rw [hTx] at z2
        omega
      have hE9 : rE T n (ms h).1 = (ms h).1 + k := he.symm.trans (rE_n hnd)
      have hsb : (x - tvI (tF h 111 28)).toInt = ((((ms h).1 + k : Nat) : Int)) - (((ms h).1 : Nat) : Int) := zsb hx (mPz h0.1) (by omega) (by omega)
      have hLn : (Int32.ofNat (G.2.1 q).length).toInt = ((ztx q).length : Int) := by rw [hX]; exact zofI (by omega)
      have hEL : x - tvI (tF h 111 28) = Int32.ofNat (G.2.1 q).length ↔ rE T n (ms h).1 = (ms h).1 + (ztx q).length := ⟨fun z => by rw [z, hLn] at hsb; omega, fun z => Int32.toInt_inj.mp (by rw [hsb, hLn]; omega)⟩
      refine tG_loop (zW_mono zTt G dp) (zW_conj zTt G dp) (V := fun pc L st h9 _ _ => pc = 63 ∧ st = [] ∧ h = h9 ∧ ∃ (j : Nat) (y is : Int32), y.toInt = j ∧ j ≤ (ztx q).length ∧ ((is = 1 ∧ rE T n (ms h).1 = (ms h).1 + (ztx q).length ∧ ∀ i, i < j → T ((ms h).1 + i) = (ztx q).getD i 0) ∨ (is = 0 ∧ ¬ rW T n (ms h).1 (ztx q) = true)) ∧ L = [some (.ref 111), some (.retAddr q), some (.int x), some (.int is), some (.int y)]) ?_ (⟨rfl, rfl, rfl, 0, 0, _, rfl, Nat.zero_le _, Or.inl ⟨rfl, hEL.mp q503, fun i hi => by omega⟩, rfl⟩)
      rintro _ _ _ _ _ _ ⟨rfl, rfl, rfl, j, y, is, hy, hjn, his, rfl⟩
      refine tw_iload rfl rfl ?_
      refine tw_aload rfl rfl ?_
      refine tw_tlen rfl ?_
      refine tw_ic_ge rfl (fun q508 => ?_) (fun q508 => ?_)
      · try dsimp only [tvI_i, tvJ_j, tvR_r] at q508
        refine tw_iload rfl rfl ?_
        have hlen : (Int32.ofNat (G.2.1 q).length).toInt = ((ztx q).length : Int) := by rw [hX]; exact zofI (by omega)
        have hj : j = (ztx q).length := by have z := q508; omega
        rcases his with ⟨e1, e2, e3⟩ | ⟨e1, e2⟩
        · exact tw_iret rfl ⟨Or.inl ⟨rW_i.mpr ⟨e2, rQ_of _ _ (fun k hk => e3 k (by omega))⟩, congrArg (fun z => some (Value.int z)) e1⟩, rfl⟩
        · exact tw_iret rfl ⟨Or.inr ⟨e2, congrArg (fun z => some (Value.int z)) e1⟩, rfl⟩
      · try dsimp only [tvI_i, tvJ_j, tvR_r] at q508
        refine tw_iload rfl rfl ?_
        refine tw_if_eq rfl (fun q509 => ?_) (fun q509 => ?_)
        · try dsimp only [tvI_i, tvJ_j, tvR_r] at q509
          have q509i := zeqi (Y := 0) (by decide) q509
          refine tw_iload rfl rfl ?_
          have hlen : (Int32.ofNat (G.2.1 q).length).toInt = ((ztx q).length : Int) := by rw [hX]; exact zofI (by omega)
          rcases his with ⟨e1, -, -⟩ | ⟨e1, e2⟩
          · exact absurd (e1.symm.trans q509) (by decide)
          · exact tw_iret rfl ⟨Or.inr ⟨e2, congrArg (fun z => some (Value.int z)) e1⟩, rfl⟩
        · try dsimp only [tvI_i, tvJ_j, tvR_r] at q509
          have q509i := zneq (Y := 0) (by decide) q509
          refine tw_aload rfl rfl ?_
          refine tw_getS rfl (hs_111_35 hs) ?_
          refine tw_aload rfl rfl ?_
          refine tw_getS rfl (hi_111_28 hs) ?_
          refine tw_iload rfl rfl ?_
          refine tw_iadd rfl ?_
          refine tw_bald rfl (fun f510 => ?_)
          refine tw_aload rfl rfl ?_
          refine tw_iload rfl rfl ?_
          refine tw_chr rfl (fun _ => ?_)
          refine tw_ic_ne rfl (fun q511 => ?_) (fun q511 => ?_)
          · try dsimp only [tvI_i, tvJ_j, tvR_r] at q511
            have q511i := zneq rfl q511
            refine tw_push rfl ?_
            refine tw_istore rfl ?_
            refine tw_iinc rfl rfl ?_
            refine tw_goto rfl ?_
            have hlen : (Int32.ofNat (G.2.1 q).length).toInt = ((ztx q).length : Int) := by rw [hX]; exact zofI (by omega)
            have hjl : j < (ztx q).length := by have z := q508; omega
            rcases his with ⟨e1, e2, e3⟩ | ⟨e1, -⟩
            rotate_left
            · exact absurd e1 q509
            have hpy : (tvI (tF h 111 28) + y).toNatClampNeg = (ms h).1 + j := zof_cl (zadN (mPz h0.1) hy (by omega) (by omega))
            have hTy : tA h 132 (tvI (tF h 111 28) + y).toNatClampNeg = T ((ms h).1 + j) := by rw [hpy, hT]
            have ec : (G.2.1 q).getD y.toNatClampNeg 0 = (ztx q).getD j 0 := by rw [hX, zof_cl hy]
            have hc : ¬ T ((ms h).1 + j) = (ztx q).getD j 0 := fun z => q511 (hTy.trans (z.trans ec.symm))
            exact tG_cut (zW_mono zTt G dp) (Or.inr ⟨rfl, rfl, rfl, j + 1, y + 1, _, zincN hy (by omega), by omega, Or.inr ⟨rfl, fun z => hc (rQ_at _ _ _ (rW_i.mp z).2 hjl)⟩, rfl⟩)
          · try dsimp only [tvI_i, tvJ_j, tvR_r] at q511
            have q511i := zeqi rfl q511
            refine tw_push rfl ?_
            refine tw_goto rfl ?_
            refine tw_istore rfl ?_
            refine tw_iinc rfl rfl ?_
            refine tw_goto rfl ?_
            have hlen : (Int32.ofNat (G.2.1 q).length).toInt = ((ztx q).length : Int) := by rw [hX]; exact zofI (by omega)
            have hjl : j < (ztx q).length := by have z := q508; omega
            rcases his with ⟨e1, e2, e3⟩ | ⟨e1, -⟩
            rotate_left
            · exact absurd e1 q509
            have hpy : (tvI (tF h 111 28) + y).toNatClampNeg = (ms h).1 + j := zof_cl (zadN (mPz h0.1) hy (by omega) (by omega))
            have hTy : tA h 132 (tvI (tF h 111 28) + y).toNatClampNeg = T ((ms h).1 + j) := by rw [hpy, hT]
            have ec : (G.2.1 q).getD y.toNatClampNeg 0 = (ztx q).getD j 0 := by rw [hX, zof_cl hy]
            have hc : T ((ms h).1 + j) = (ztx q).getD j 0 := hTy.symm.trans (q511.trans ec)
            exact tG_cut (zW_mono zTt G dp) (Or.inr ⟨rfl, rfl, rfl, j + 1, y + 1, _, zincN hy (by omega), by omega, Or.inl ⟨rfl, e2, fun i hi => (Classical.em (i = j)).elim (fun z => by rw [z]; exact hc) (fun z => e3 i (by omega))⟩, rfl⟩)
  · try dsimp only [tvI_i, tvJ_j, tvR_r] at q502
    refine tw_aload rfl rfl ?_
    refine tw_getS rfl (hs_111_35 hs) ?_
    refine tw_iload rfl rfl ?_
    refine tw_bald rfl (fun f512 => ?_)
    refine tw_push rfl ?_
    refine tw_ic_lt rfl (fun q513 => ?_) (fun q513 => ?_)
    · try dsimp only [tvI_i, tvJ_j, tvR_r] at q513
      refine tw_iload rfl rfl ?_
      refine tw_aload rfl rfl ?_
      refine tw_getS rfl (hi_111_28 hs) ?_
      refine tw_isub rfl ?_
      refine tw_aload rfl rfl ?_
      refine tw_tlen rfl ?_
      refine tw_ic_ne rfl (fun q514 => ?_) (fun q514 => ?_)
      · try dsimp only [tvI_i, tvJ_j, tvR_r] at q514
        have q514i := zneq rfl q514
        refine tw_push rfl ?_
        refine tw_istore rfl ?_
        refine tw_push rfl ?_
        refine tw_istore rfl ?_
        have hix : x.toNatClampNeg = (ms h).1 + k := zof_cl hx
        have hTx : tA h 132 x.toNatClampNeg = T ((ms h).1 + k) := by rw [hix, hT]
        have hnd : ¬ ((ms h).1 + k < n ∧ 97 ≤ (T ((ms h).1 + k)).toInt ∧ (T ((ms h).1 + k)).toInt ≤ 122) := by
          have z0 := q502
          have z1 := q513
          try rw [hTx] at z1
          try rw [hTx] at z2
          omega
        have hE9 : rE T n (ms h).1 = (ms h).1 + k := he.symm.trans (rE_n hnd)
        have hsb : (x - tvI (tF h 111 28)).toInt = ((((ms h).1 + k : Nat) : Int)) - (((ms h).1 : Nat) : Int) := zsb hx (mPz h0.1) (by omega) (by omega)
        have hLn : (Int32.ofNat (G.2.1 q).length).toInt = ((ztx q).length : Int) := by rw [hX]; exact zofI (by omega)
        have hEL : x - tvI (tF h 111 28) = Int32.ofNat (G.2.1 q).length ↔ rE T n (ms h).1 = (ms h).1 + (ztx q).length := ⟨fun z => by rw [z, hLn] at hsb; omega, fun z => Int32.toInt_inj.mp (by rw [hsb, hLn]; omega)⟩
        refine tG_loop (zW_mono zTt G dp) (zW_conj zTt G dp) (V := fun pc L st h9 _ _ => pc = 63 ∧ st = [] ∧ h = h9 ∧ ∃ (j : Nat) (y is : Int32), y.toInt = j ∧ j ≤ (ztx q).length ∧ ((is = 1 ∧ rE T n (ms h).1 = (ms h).1 + (ztx q).length ∧ ∀ i, i < j → T ((ms h).1 + i) = (ztx q).getD i 0) ∨ (is = 0 ∧ ¬ rW T n (ms h).1 (ztx q) = true)) ∧ L = [some (.ref 111), some (.retAddr q), some (.int x), some (.int is), some (.int y)]) ?_ (⟨rfl, rfl, rfl, 0, 0, _, rfl, Nat.zero_le _, Or.inr ⟨rfl, fun z => q514 (hEL.mpr (rW_e z))⟩, rfl⟩)
        rintro _ _ _ _ _ _ ⟨rfl, rfl, rfl, j, y, is, hy, hjn, his, rfl⟩
        refine tw_iload rfl rfl ?_
        refine tw_aload rfl rfl ?_
        refine tw_tlen rfl ?_
        refine tw_ic_ge rfl (fun q515 => ?_) (fun q515 => ?_)
        · try dsimp only [tvI_i, tvJ_j, tvR_r] at q515
          refine tw_iload rfl rfl ?_
          have hlen : (Int32.ofNat (G.2.1 q).length).toInt = ((ztx q).length : Int) := by rw [hX]; exact zofI (by omega)
          have hj : j = (ztx q).length := by have z := q515; omega
          rcases his with ⟨e1, e2, e3⟩ | ⟨e1, e2⟩
          · exact tw_iret rfl ⟨Or.inl ⟨rW_i.mpr ⟨e2, rQ_of _ _ (fun k hk => e3 k (by omega))⟩, congrArg (fun z => some (Value.int z)) e1⟩, rfl⟩
          · exact tw_iret rfl ⟨Or.inr ⟨e2, congrArg (fun z => some (Value.int z)) e1⟩, rfl⟩
        · try dsimp only [tvI_i, tvJ_j, tvR_r] at q515
          refine tw_iload rfl rfl ?_
          refine tw_if_eq rfl (fun q516 => ?_) (fun q516 => ?_)
          · try dsimp only [tvI_i, tvJ_j, tvR_r] at q516
            have q516i := zeqi (Y := 0) (by decide) q516
            refine tw_iload rfl rfl ?_
            have hlen : (Int32.ofNat (G.2.1 q).length).toInt = ((ztx q).length : Int) := by rw [hX]; exact zofI (by omega)
            rcases his with ⟨e1, -, -⟩ | ⟨e1, e2⟩
            · exact absurd (e1.symm.trans q516) (by decide)
            · exact tw_iret rfl ⟨Or.inr ⟨e2, congrArg (fun z => some (Value.int z)) e1⟩, rfl⟩
          · try dsimp only [tvI_i, tvJ_j, tvR_r] at q516
            have q516i := zneq (Y := 0) (by decide) q516
            refine tw_aload rfl rfl ?_
            refine tw_getS rfl (hs_111_35 hs) ?_
            refine tw_aload rfl rfl ?_
            refine tw_getS rfl (hi_111_28 hs) ?_
            refine tw_iload rfl rfl ?_
            refine tw_iadd rfl ?_
            refine tw_bald rfl (fun f517 => ?_)
            refine tw_aload rfl rfl ?_
            refine tw_iload rfl rfl ?_
            refine tw_chr rfl (fun _ => ?_)
            refine tw_ic_ne rfl (fun q518 => ?_) (fun q518 => ?_)
            · try dsimp only [tvI_i, tvJ_j, tvR_r] at q518
              have q518i := zneq rfl q518
              refine tw_push rfl ?_
              refine tw_istore rfl ?_
              refine tw_iinc rfl rfl ?_
              refine tw_goto rfl ?_
              have hlen : (Int32.ofNat (G.2.1 q).length).toInt = ((ztx q).length : Int) := by rw [hX]; exact zofI (by omega)
              have hjl : j < (ztx q).length := by have z := q515; omega
              rcases his with ⟨e1, e2, e3⟩ | ⟨e1, -⟩
              rotate_left
              · exact absurd e1 q516
              have hpy : (tvI (tF h 111 28) + y).toNatClampNeg = (ms h).1 + j := zof_cl (zadN (mPz h0.1) hy (by omega) (by omega))
              have hTy : tA h 132 (tvI (tF h 111 28) + y).toNatClampNeg = T ((ms h).1 + j) := by rw [hpy, hT]
              have ec : (G.2.1 q).getD y.toNatClampNeg 0 = (ztx q).getD j 0 := by rw [hX, zof_cl hy]
              have hc : ¬ T ((ms h).1 + j) = (ztx q).getD j 0 := fun z => q518 (hTy.trans (z.trans ec.symm))
              exact tG_cut (zW_mono zTt G dp) (Or.inr ⟨rfl, rfl, rfl, j + 1, y + 1, _, zincN hy (by omega), by omega, Or.inr ⟨rfl, fun z => hc (rQ_at _ _ _ (rW_i.mp z).2 hjl)⟩, rfl⟩)
            · try dsimp only [tvI_i, tvJ_j, tvR_r] at q518
              have q518i := zeqi rfl q518
              refine tw_push rfl ?_
              refine tw_goto rfl ?_
              refine tw_istore rfl ?_
              refine tw_iinc rfl rfl ?_
              refine tw_goto rfl ?_
              have hlen : (Int32.ofNat (G.2.1 q).length).toInt = ((ztx q).length : Int) := by rw [hX]; exact zofI (by omega)
              have hjl : j < (ztx q).length := by have z := q515; omega
              rcases his with ⟨e1, e2, e3⟩ | ⟨e1, -⟩
              rotate_left
              · exact absurd e1 q516
              have hpy : (tvI (tF h 111 28) + y).toNatClampNeg = (ms h).1 + j := zof_cl (zadN (mPz h0.1) hy (by omega) (by omega))
              have hTy : tA h 132 (tvI (tF h 111 28) + y).toNatClampNeg = T ((ms h).1 + j) := by rw [hpy, hT]
              have ec : (G.2.1 q).getD y.toNatClampNeg 0 = (ztx q).getD j 0 := by rw [hX, zof_cl hy]
              have hc : T ((ms h).1 + j) = (ztx q).getD j 0 := hTy.symm.trans (q518.trans ec)
              exact tG_cut (zW_mono zTt G dp) (Or.inr ⟨rfl, rfl, rfl, j + 1, y + 1, _, zincN hy (by omega), by omega, Or.inl ⟨rfl, e2, fun i hi => (Classical.em (i = j)).elim (fun z => by rw [z]; exact hc) (fun z => e3 i (by omega))⟩, rfl⟩)
      · try dsimp only [tvI_i, tvJ_j, tvR_r] at q514
        have q514i := zeqi rfl q514
        refine tw_push rfl ?_
        refine tw_goto rfl ?_
        refine tw_istore rfl ?_
        refine tw_push rfl ?_
        refine tw_istore rfl ?_
        have hix : x.toNatClampNeg = (ms h).1 + k := zof_cl hx
        have hTx : tA h 132 x.toNatClampNeg = T ((ms h).1 + k) := by rw [hix, hT]
        have hnd : ¬ ((ms h).1 + k < n ∧ 97 ≤ (T ((ms h).1 + k)).toInt ∧ (T ((ms h).1 + k)).toInt ≤ 122) := by
          have z0 := q502
          have z1 := q513
          try rw [hTx] at z1
          try rw [hTx] at z2
          omega
        have hE9 : rE T n (ms h).1 = (ms h).1 + k := he.symm.trans (rE_n hnd)
        have hsb : (x - tvI (tF h 111 28)).toInt = ((((ms h).1 + k : Nat) : Int)) - (((ms h).1 : Nat) : Int) := zsb hx (mPz h0.1) (by omega) (by omega)
        have hLn : (Int32.ofNat (G.2.1 q).length).toInt = ((ztx q).length : Int) := by rw [hX]; exact zofI (by omega)
        have hEL : x - tvI (tF h 111 28) = Int32.ofNat (G.2.1 q).length ↔ rE T n (ms h).1 = (ms h).1 + (ztx q).length := ⟨fun z => by rw [z, hLn] at hsb; omega, fun z => Int32.toInt_inj.mp (by rw [hsb, hLn]; omega)⟩
        refine tG_loop (zW_mono zTt G dp) (zW_conj zTt G dp) (V := fun pc L st h9 _ _ => pc = 63 ∧ st = [] ∧ h = h9 ∧ ∃ (j : Nat) (y is : Int32), y.toInt = j ∧ j ≤ (ztx q).length ∧ ((is = 1 ∧ rE T n (ms h).1 = (ms h).1 + (ztx q).length ∧ ∀ i, i < j → T ((ms h).1 + i) = (ztx q).getD i 0) ∨ (is = 0 ∧ ¬ rW T n (ms h).1 (ztx q) = true)) ∧ L = [some (.ref 111), some (.retAddr q), some (.int x), some (.int is), some (.int y)]) ?_ (⟨rfl, rfl, rfl, 0, 0, _, rfl, Nat.zero_le _, Or.inl ⟨rfl, hEL.mp q514, fun i hi => by omega⟩, rfl⟩)
        rintro _ _ _ _ _ _ ⟨rfl, rfl, rfl, j, y, is, hy, hjn, his, rfl⟩
        refine tw_iload rfl rfl ?_
        refine tw_aload rfl rfl ?_
        refine tw_tlen rfl ?_
        refine tw_ic_ge rfl (fun q519 => ?_) (fun q519 => ?_)
        · try dsimp only [tvI_i, tvJ_j, tvR_r] at q519
          refine tw_iload rfl rfl ?_
          have hlen : (Int32.ofNat (G.2.1 q).length).toInt = ((ztx q).length : Int) := by rw [hX]; exact zofI (by omega)
          have hj : j = (ztx q).length := by have z := q519; omega
          rcases his with ⟨e1, e2, e3⟩ | ⟨e1, e2⟩
          · exact tw_iret rfl ⟨Or.inl ⟨rW_i.mpr ⟨e2, rQ_of _ _ (fun k hk => e3 k (by omega))⟩, congrArg (fun z => some (Value.int z)) e1⟩, rfl⟩
          · exact tw_iret rfl ⟨Or.inr ⟨e2, congrArg (fun z => some (Value.int z)) e1⟩, rfl⟩
        · try dsimp only [tvI_i, tvJ_j, tvR_r] at q519
          refine tw_iload rfl rfl ?_
          refine tw_if_eq rfl (fun q520 => ?_) (fun q520 => ?_)
          · try dsimp only [tvI_i, tvJ_j, tvR_r] at q520
            have q520i := zeqi (Y := 0) (by decide) q520
            refine tw_iload rfl rfl ?_
            have hlen : (Int32.ofNat (G.2.1 q).length).toInt = ((ztx q).length : Int) := by rw [hX]; exact zofI (by omega)
            rcases his with ⟨e1, -, -⟩ | ⟨e1, e2⟩
            · exact absurd (e1.symm.trans q520) (by decide)
            · exact tw_iret rfl ⟨Or.inr ⟨e2, congrArg (fun z => some (Value.int z)) e1⟩, rfl⟩
          · try dsimp only [tvI_i, tvJ_j, tvR_r] at q520
            have q520i := zneq (Y := 0) (by decide) q520
            refine tw_aload rfl rfl ?_
            refine tw_getS rfl (hs_111_35 hs) ?_
            refine tw_aload rfl rfl ?_
            refine tw_getS rfl (hi_111_28 hs) ?_
            refine tw_iload rfl rfl ?_
            refine tw_iadd rfl ?_
            refine tw_bald rfl (fun f521 => ?_)
            refine tw_aload rfl rfl ?_
            refine tw_iload rfl rfl ?_
            refine tw_chr rfl (fun _ => ?_)
            refine tw_ic_ne rfl (fun q522 => ?_) (fun q522 => ?_)
            · try dsimp only [tvI_i, tvJ_j, tvR_r] at q522
              have q522i := zneq rfl q522
              refine tw_push rfl ?_
              refine tw_istore rfl ?_
              refine tw_iinc rfl rfl ?_
              refine tw_goto rfl ?_
              have hlen : (Int32.ofNat (G.2.1 q).length).toInt = ((ztx q).length : Int) := by rw [hX]; exact zofI (by omega)
              have hjl : j < (ztx q).length := by have z := q519; omega
              rcases his with ⟨e1, e2, e3⟩ | ⟨e1, -⟩
              rotate_left
              · exact absurd e1 q520
              have hpy : (tvI (tF h 111 28) + y).toNatClampNeg = (ms h).1 + j := zof_cl (zadN (mPz h0.1) hy (by omega) (by omega))
              have hTy : tA h 132 (tvI (tF h 111 28) + y).toNatClampNeg = T ((ms h).1 + j) := by rw [hpy, hT]
              have ec : (G.2.1 q).getD y.toNatClampNeg 0 = (ztx q).getD j 0 := by rw [hX, zof_cl hy]
              have hc : ¬ T ((ms h).1 + j) = (ztx q).getD j 0 := fun z => q522 (hTy.trans (z.trans ec.symm))
              exact tG_cut (zW_mono zTt G dp) (Or.inr ⟨rfl, rfl, rfl, j + 1, y + 1, _, zincN hy (by omega), by omega, Or.inr ⟨rfl, fun z => hc (rQ_at _ _ _ (rW_i.mp z).2 hjl)⟩, rfl⟩)
            · try dsimp only [tvI_i, tvJ_j, tvR_r] at q522
              have q522i := zeqi rfl q522
              refine tw_push rfl ?_
              refine tw_goto rfl ?_
              refine tw_istore rfl ?_
              refine tw_iinc rfl rfl ?_
              refine tw_goto rfl ?_
              have hlen : (Int32.ofNat (G.2.1 q).length).toInt = ((ztx q).length : Int) := by rw [hX]; exact zofI (by omega)
              have hjl : j < (ztx q).length := by have z := q519; omega
              rcases his with ⟨e1, e2, e3⟩ | ⟨e1, -⟩
              rotate_left
              · exact absurd e1 q520
              have hpy : (tvI (tF h 111 28) + y).toNatClampNeg = (ms h).1 + j := zof_cl (zadN (mPz h0.1) hy (by omega) (by omega))
              have hTy : tA h 132 (tvI (tF h 111 28) + y).toNatClampNeg = T ((ms h).1 + j) := by rw [hpy, hT]
              have ec : (G.2.1 q).getD y.toNatClampNeg 0 = (ztx q).getD j 0 := by rw [hX, zof_cl hy]
              have hc : T ((ms h).1 + j) = (ztx q).getD j 0 := hTy.symm.trans (q522.trans ec)
              exact tG_cut (zW_mono zTt G dp) (Or.inr ⟨rfl, rfl, rfl, j + 1, y + 1, _, zincN hy (by omega), by omega, Or.inl ⟨rfl, e2, fun i hi => (Classical.em (i = j)).elim (fun z => by rw [z]; exact hc) (fun z => e3 i (by omega))⟩, rfl⟩)
    · try dsimp only [tvI_i, tvJ_j, tvR_r] at q513
      refine tw_aload rfl rfl ?_
      refine tw_getS rfl (hs_111_35 hs) ?_
      refine tw_iload rfl rfl ?_
      refine tw_bald rfl (fun f523 => ?_)
      refine tw_push rfl ?_
      refine tw_ic_gt rfl (fun q524 => ?_) (fun q524 => ?_)
      · try dsimp only [tvI_i, tvJ_j, tvR_r] at q524
        refine tw_iload rfl rfl ?_
        refine tw_aload rfl rfl ?_
        refine tw_getS rfl (hi_111_28 hs) ?_
        refine tw_isub rfl ?_
        refine tw_aload rfl rfl ?_
        refine tw_tlen rfl ?_
        refine tw_ic_ne rfl (fun q525 => ?_) (fun q525 => ?_)
        · try dsimp only [tvI_i, tvJ_j, tvR_r] at q525
          have q525i := zneq rfl q525
          refine tw_push rfl ?_
          refine tw_istore rfl ?_
          refine tw_push rfl ?_
          refine tw_istore rfl ?_
          have hix : x.toNatClampNeg = (ms h).1 + k := zof_cl hx
          have hTx : tA h 132 x.toNatClampNeg = T ((ms h).1 + k) := by rw [hix, hT]
          have hnd : ¬ ((ms h).1 + k < n ∧ 97 ≤ (T ((ms h).1 + k)).toInt ∧ (T ((ms h).1 + k)).toInt ≤ 122) := by
            have z0 := q502
            have z1 := q513
            have z2 := q524
            try rw [hTx] at z1
            try rw [hTx] at z2
            omega
          have hE9 : rE T n (ms h).1 = (ms h).1 + k := he.symm.trans (rE_n hnd)
          have hsb : (x - tvI (tF h 111 28)).toInt = ((((ms h).1 + k : Nat) : Int)) - (((ms h).1 : Nat) : Int) := zsb hx (mPz h0.1) (by omega) (by omega)
          have hLn : (Int32.ofNat (G.2.1 q).length).toInt = ((ztx q).length : Int) := by rw [hX]; exact zofI (by omega)
          have hEL : x - tvI (tF h 111 28) = Int32.ofNat (G.2.1 q).length ↔ rE T n (ms h).1 = (ms h).1 + (ztx q).length := ⟨fun z => by rw [z, hLn] at hsb; omega, fun z => Int32.toInt_inj.mp (by rw [hsb, hLn]; omega)⟩
          refine tG_loop (zW_mono zTt G dp) (zW_conj zTt G dp) (V := fun pc L st h9 _ _ => pc = 63 ∧ st = [] ∧ h = h9 ∧ ∃ (j : Nat) (y is : Int32), y.toInt = j ∧ j ≤ (ztx q).length ∧ ((is = 1 ∧ rE T n (ms h).1 = (ms h).1 + (ztx q).length ∧ ∀ i, i < j → T ((ms h).1 + i) = (ztx q).getD i 0) ∨ (is = 0 ∧ ¬ rW T n (ms h).1 (ztx q) = true)) ∧ L = [some (.ref 111), some (.retAddr q), some (.int x), some (.int is), some (.int y)]) ?_ (⟨rfl, rfl, rfl, 0, 0, _, rfl, Nat.zero_le _, Or.inr ⟨rfl, fun z => q525 (hEL.mpr (rW_e z))⟩, rfl⟩)
          rintro _ _ _ _ _ _ ⟨rfl, rfl, rfl, j, y, is, hy, hjn, his, rfl⟩
          refine tw_iload rfl rfl ?_
          refine tw_aload rfl rfl ?_
          refine tw_tlen rfl ?_
          refine tw_ic_ge rfl (fun q526 => ?_) (fun q526 => ?_)
          · try dsimp only [tvI_i, tvJ_j, tvR_r] at q526
            refine tw_iload rfl rfl ?_
            have hlen : (Int32.ofNat (G.2.1 q).length).toInt = ((ztx q).length : Int) := by rw [hX]; exact zofI (by omega)
            have hj : j = (ztx q).length := by have z := q526; omega
            rcases his with ⟨e1, e2, e3⟩ | ⟨e1, e2⟩
            · exact tw_iret rfl ⟨Or.inl ⟨rW_i.mpr ⟨e2, rQ_of _ _ (fun k hk => e3 k (by omega))⟩, congrArg (fun z => some (Value.int z)) e1⟩, rfl⟩
            · exact tw_iret rfl ⟨Or.inr ⟨e2, congrArg (fun z => some (Value.int z)) e1⟩, rfl⟩
          · try dsimp only [tvI_i, tvJ_j, tvR_r] at q526
            refine tw_iload rfl rfl ?_
            refine tw_if_eq rfl (fun q527 => ?_) (fun q527 => ?_)
            · try dsimp only [tvI_i, tvJ_j, tvR_r] at q527
              have q527i := zeqi (Y := 0) (by decide) q527
              refine tw_iload rfl rfl ?_
              have hlen : (Int32.ofNat (G.2.1 q).length).toInt = ((ztx q).length : Int) := by rw [hX]; exact zofI (by omega)
              rcases his with ⟨e1, -, -⟩ | ⟨e1, e2⟩
              · exact absurd (e1.symm.trans q527) (by decide)
              · exact tw_iret rfl ⟨Or.inr ⟨e2, congrArg (fun z => some (Value.int z)) e1⟩, rfl⟩
            · try dsimp only [tvI_i, tvJ_j, tvR_r] at q527
              have q527i := zneq (Y := 0) (by decide) q527
              refine tw_aload rfl rfl ?_
              refine tw_getS rfl (hs_111_35 hs) ?_
              refine tw_aload rfl rfl ?_
              refine tw_getS rfl (hi_111_28 hs) ?_
              refine tw_iload rfl rfl ?_
              refine tw_iadd rfl ?_
              refine tw_bald rfl (fun f528 => ?_)
              refine tw_aload rfl rfl ?_
              refine tw_iload rfl rfl ?_
              refine tw_chr rfl (fun _ => ?_)
              refine tw_ic_ne rfl (fun q529 => ?_) (fun q529 => ?_)
              · try dsimp only [tvI_i, tvJ_j, tvR_r] at q529
                have q529i := zneq rfl q529
                refine tw_push rfl ?_
                refine tw_istore rfl ?_
                refine tw_iinc rfl rfl ?_
                refine tw_goto rfl ?_
                have hlen : (Int32.ofNat (G.2.1 q).length).toInt = ((ztx q).length : Int) := by rw [hX]; exact zofI (by omega)
                have hjl : j < (ztx q).length := by have z := q526; omega
                rcases his with ⟨e1, e2, e3⟩ | ⟨e1, -⟩
                rotate_left
                · exact absurd e1 q527
                have hpy : (tvI (tF h 111 28) + y).toNatClampNeg = (ms h).1 + j := zof_cl (zadN (mPz h0.1) hy (by omega) (by omega))
                have hTy : tA h 132 (tvI (tF h 111 28) + y).toNatClampNeg = T ((ms h).1 + j) := by rw [hpy, hT]
                have ec : (G.2.1 q).getD y.toNatClampNeg 0 = (ztx q).getD j 0 := by rw [hX, zof_cl hy]
                have hc : ¬ T ((ms h).1 + j) = (ztx q).getD j 0 := fun z => q529 (hTy.trans (z.trans ec.symm))
                exact tG_cut (zW_mono zTt G dp) (Or.inr ⟨rfl, rfl, rfl, j + 1, y + 1, _, zincN hy (by omega), by omega, Or.inr ⟨rfl, fun z => hc (rQ_at _ _ _ (rW_i.mp z).2 hjl)⟩, rfl⟩)
              · try dsimp only [tvI_i, tvJ_j, tvR_r] at q529
                have q529i := zeqi rfl q529
                refine tw_push rfl ?_
                refine tw_goto rfl ?_
                refine tw_istore rfl ?_
                refine tw_iinc rfl rfl ?_
                refine tw_goto rfl ?_
                have hlen : (Int32.ofNat (G.2.1 q).length).toInt = ((ztx q).length : Int) := by rw [hX]; exact zofI (by omega)
                have hjl : j < (ztx q).length := by have z := q526; omega
                rcases his with ⟨e1, e2, e3⟩ | ⟨e1, -⟩
                rotate_left
                · exact absurd e1 q527
                have hpy : (tvI (tF h 111 28) + y).toNatClampNeg = (ms h).1 + j := zof_cl (zadN (mPz h0.1) hy (by omega) (by omega))
                have hTy : tA h 132 (tvI (tF h 111 28) + y).toNatClampNeg = T ((ms h).1 + j) := by rw [hpy, hT]
                have ec : (G.2.1 q).getD y.toNatClampNeg 0 = (ztx q).getD j 0 := by rw [hX, zof_cl hy]
                have hc : T ((ms h).1 + j) = (ztx q).getD j 0 := hTy.symm.trans (q529.trans ec)
                exact tG_cut (zW_mono zTt G dp) (Or.inr ⟨rfl, rfl, rfl, j + 1, y + 1, _, zincN hy (by omega), by omega, Or.inl ⟨rfl, e2, fun i hi => (Classical.em (i = j)).elim (fun z => by rw [z]; exact hc) (fun z => e3 i (by omega))⟩, rfl⟩)
        · try dsimp only [tvI_i, tvJ_j, tvR_r] at q525
          have q525i := zeqi rfl q525
          refine tw_push rfl ?_
          refine tw_goto rfl ?_
          refine tw_istore rfl ?_
          refine tw_push rfl ?_
          refine tw_istore rfl ?_
          have hix : x.toNatClampNeg = (ms h).1 + k := zof_cl hx
          have hTx : tA h 132 x.toNatClampNeg = T ((ms h).1 + k) := by rw [hix, hT]
          have hnd : ¬ ((ms h).1 + k < n ∧ 97 ≤ (T ((ms h).1 + k)).toInt ∧ (T ((ms h).1 + k)).toInt ≤ 122) := by
            have z0 := q502
            have z1 := q513
            have z2 := q524
            try rw [hTx] at z1
            try rw [hTx] at z2
            omega
          have hE9 : rE T n (ms h).1 = (ms h).1 + k := he.symm.trans (rE_n hnd)
          have hsb : (x - tvI (tF h 111 28)).toInt = ((((ms h).1 + k : Nat) : Int)) - (((ms h).1 : Nat) : Int) := zsb hx (mPz h0.1) (by omega) (by omega)
          have hLn : (Int32.ofNat (G.2.1 q).length).toInt = ((ztx q).length : Int) := by rw [hX]; exact zofI (by omega)
          have hEL : x - tvI (tF h 111 28) = Int32.ofNat (G.2.1 q).length ↔ rE T n (ms h).1 = (ms h).1 + (ztx q).length := ⟨fun z => by rw [z, hLn] at hsb; omega, fun z => Int32.toInt_inj.mp (by rw [hsb, hLn]; omega)⟩
          refine tG_loop (zW_mono zTt G dp) (zW_conj zTt G dp) (V := fun pc L st h9 _ _ => pc = 63 ∧ st = [] ∧ h = h9 ∧ ∃ (j : Nat) (y is : Int32), y.toInt = j ∧ j ≤ (ztx q).length ∧ ((is = 1 ∧ rE T n (ms h).1 = (ms h).1 + (ztx q).length ∧ ∀ i, i < j → T ((ms h).1 + i) = (ztx q).getD i 0) ∨ (is = 0 ∧ ¬ rW T n (ms h).1 (ztx q) = true)) ∧ L = [some (.ref 111), some (.retAddr q), some (.int x), some (.int is), some (.int y)]) ?_ (⟨rfl, rfl, rfl, 0, 0, _, rfl, Nat.zero_le _, Or.inl ⟨rfl, hEL.mp q525, fun i hi => by omega⟩, rfl⟩)
          rintro _ _ _ _ _ _ ⟨rfl, rfl, rfl, j, y, is, hy, hjn, his, rfl⟩
          refine tw_iload rfl rfl ?_
          refine tw_aload rfl rfl ?_
          refine tw_tlen rfl ?_
          refine tw_ic_ge rfl (fun q530 => ?_) (fun q530 => ?_)
          · try dsimp only [tvI_i, tvJ_j, tvR_r] at q530
            refine tw_iload rfl rfl ?_
            have hlen : (Int32.ofNat (G.2.1 q).length).toInt = ((ztx q).length : Int) := by rw [hX]; exact zofI (by omega)
            have hj : j = (ztx q).length := by have z := q530; omega
            rcases his with ⟨e1, e2, e3⟩ | ⟨e1, e2⟩
            · exact tw_iret rfl ⟨Or.inl ⟨rW_i.mpr ⟨e2, rQ_of _ _ (fun k hk => e3 k (by omega))⟩, congrArg (fun z => some (Value.int z)) e1⟩, rfl⟩
            · exact tw_iret rfl ⟨Or.inr ⟨e2, congrArg (fun z => some (Value.int z)) e1⟩, rfl⟩
          · try dsimp only [tvI_i, tvJ_j, tvR_r] at q530
            refine tw_iload rfl rfl ?_
            refine tw_if_eq rfl (fun q531 => ?_) (fun q531 => ?_)
            · try dsimp only [tvI_i, tvJ_j, tvR_r] at q531
              have q531i := zeqi (Y := 0) (by decide) q531
              refine tw_iload rfl rfl ?_
              have hlen : (Int32.ofNat (G.2.1 q).length).toInt = ((ztx q).length : Int) := by rw [hX]; exact zofI (by omega)
              rcases his with ⟨e1, -, -⟩ | ⟨e1, e2⟩
              · exact absurd (e1.symm.trans q531) (by decide)
              · exact tw_iret rfl ⟨Or.inr ⟨e2, congrArg (fun z => some (Value.int z)) e1⟩, rfl⟩
            · try dsimp only [tvI_i, tvJ_j, tvR_r] at q531
              have q531i := zneq (Y := 0) (by decide) q531
              refine tw_aload rfl rfl ?_
              refine tw_getS rfl (hs_111_35 hs) ?_
              refine tw_aload rfl rfl ?_
              refine tw_getS rfl (hi_111_28 hs) ?_
              refine tw_iload rfl rfl ?_
              refine tw_iadd rfl ?_
              refine tw_bald rfl (fun f532 => ?_)
              refine tw_aload rfl rfl ?_
              refine tw_iload rfl rfl ?_
              refine tw_chr rfl (fun _ => ?_)
              refine tw_ic_ne rfl (fun q533 => ?_) (fun q533 => ?_)
              · try dsimp only [tvI_i, tvJ_j, tvR_r] at q533
                have q533i := zneq rfl q533
                refine tw_push rfl ?_
                refine tw_istore rfl ?_
                refine tw_iinc rfl rfl ?_
                refine tw_goto rfl ?_
                have hlen : (Int32.ofNat (G.2.1 q).length).toInt = ((ztx q).length : Int) := by rw [hX]; exact zofI (by omega)
                have hjl : j < (ztx q).length := by have z := q530; omega
                rcases his with ⟨e1, e2, e3⟩ | ⟨e1, -⟩
                rotate_left
                · exact absurd e1 q531
                have hpy : (tvI (tF h 111 28) + y).toNatClampNeg = (ms h).1 + j := zof_cl (zadN (mPz h0.1) hy (by omega) (by omega))
                have hTy : tA h 132 (tvI (tF h 111 28) + y).toNatClampNeg = T ((ms h).1 + j) := by rw [hpy, hT]
                have ec : (G.2.1 q).getD y.toNatClampNeg 0 = (ztx q).getD j 0 := by rw [hX, zof_cl hy]
                have hc : ¬ T ((ms h).1 + j) = (ztx q).getD j 0 := fun z => q533 (hTy.trans (z.trans ec.symm))
                exact tG_cut (zW_mono zTt G dp) (Or.inr ⟨rfl, rfl, rfl, j + 1, y + 1, _, zincN hy (by omega), by omega, Or.inr ⟨rfl, fun z => hc (rQ_at _ _ _ (rW_i.mp z).2 hjl)⟩, rfl⟩)
              · try dsimp only [tvI_i, tvJ_j, tvR_r] at q533
                have q533i := zeqi rfl q533
                refine tw_push rfl ?_
                refine tw_goto rfl ?_
                refine tw_istore rfl ?_
                refine tw_iinc rfl rfl ?_
                refine tw_goto rfl ?_
                have hlen : (Int32.ofNat (G.2.1 q).length).toInt = ((ztx q).length : Int) := by rw [hX]; exact zofI (by omega)
                have hjl : j < (ztx q).length := by have z := q530; omega
                rcases his with ⟨e1, e2, e3⟩ | ⟨e1, -⟩
                rotate_left
                · exact absurd e1 q531
                have hpy : (tvI (tF h 111 28) + y).toNatClampNeg = (ms h).1 + j := zof_cl (zadN (mPz h0.1) hy (by omega) (by omega))
                have hTy : tA h 132 (tvI (tF h 111 28) + y).toNatClampNeg = T ((ms h).1 + j) := by rw [hpy, hT]
                have ec : (G.2.1 q).getD y.toNatClampNeg 0 = (ztx q).getD j 0 := by rw [hX, zof_cl hy]
                have hc : T ((ms h).1 + j) = (ztx q).getD j 0 := hTy.symm.trans (q533.trans ec)
                exact tG_cut (zW_mono zTt G dp) (Or.inr ⟨rfl, rfl, rfl, j + 1, y + 1, _, zincN hy (by omega), by omega, Or.inl ⟨rfl, e2, fun i hi => (Classical.em (i = j)).elim (fun z => by rw [z]; exact hc) (fun z => e3 i (by omega))⟩, rfl⟩)
      · try dsimp only [tvI_i, tvJ_j, tvR_r] at q524
        refine tw_iinc rfl rfl ?_
        refine tw_goto rfl ?_
        have hix : x.toNatClampNeg = (ms h).1 + k := zof_cl hx
        have hTx : tA h 132 x.toNatClampNeg = T ((ms h).1 + k) := by rw [hix, hT]
        have z1 := q513
        have z2 := q524
        rw [hTx] at z1 z2
        have hlt : (ms h).1 + k < n := by omega
        exact tG_cut (zW_mono zTt G dp) (Or.inr ⟨rfl, rfl, rfl, k + 1, x + 1, _, _, zincL hx q502, (rE_y ⟨hlt, by omega, by omega⟩).symm.trans he, by omega, rfl⟩)
/-- places that bear reading, fault or not -/
noncomputable def mZp (h : zH) : Prop := (0 ≤ (tvI (tF h 111 28)).toInt ∧ 0 ≤ (tvI (tF h 111 27)).toInt) ∧ (tvI (tF h 111 28)).toInt ≤ 500 ∧ (tvI (tF h 111 27)).toInt ≤ 400
theorem mZp_k {h h2 : zH} (z : mZp h) (a : tF h2 111 28 = tF h 111 28) (b : tF h2 111 27 = tF h 111 27) : mZp h2 := by unfold mZp; rw [a, b]; exact z
theorem mZp_p {h : zH} (p : mP h) : mZp h := by have := p.2.1; exact ⟨⟨by omega, by omega⟩, by omega, by omega⟩
theorem mZp_s {h h3 : zH} {X : Int32} (z : mZp h) (s : mSet 28 X h h3) (hX : 0 ≤ X.toInt ∧ X.toInt ≤ 500) : mZp h3 := by
  unfold mZp
  rw [mI_x s, mI_o s (by decide)]
  exact ⟨⟨hX.1, z.1.2⟩, hX.2, z.2.2⟩
theorem mZp_o {h h3 : zH} {X : Int32} {b : Nat} (z : mZp h) (s : mSet b X h h3) (hb : b ≠ 28 ∧ b ≠ 27) : mZp h3 := mZp_k z (mI_o s (fun w => hb.1 w.symm)) (mI_o s (fun w => hb.2 w.symm))
theorem cNum2 {y t : Int32} {V Q : Nat} (hy : y.toInt = (V : Int)) (hV : V + 1 ≤ Q) (hQ : Q ≤ 10000) (ht : 48 ≤ t.toInt ∧ t.toInt ≤ 57) : (10 * y + t - 48).toInt = ((10 * V + (t.toInt - 48).toNat : Nat) : Int) ∧ 10 * V + (t.toInt - 48).toNat + 1 ≤ Q * 10 := by
  have h1 : (10 * y).toInt = 10 * V := by
    rw [Int32.toInt_mul, hy, show (10 : Int32).toInt = 10 from rfl]
    exact Int.bmod_eq_of_le (by show (-2147483648 : Int) ≤ 10 * (V : Int); omega) (by show 10 * (V : Int) < (2147483648 : Int); omega)
  have h2 : (10 * y + t).toInt = 10 * V + t.toInt := by
    rw [Int32.toInt_add, h1]
    exact Int.bmod_eq_of_le (by show (-2147483648 : Int) ≤ 10 * (V : Int) + t.toInt; omega) (by show 10 * (V : Int) + t.toInt < (2147483648 : Int); omega)
  refine ⟨?_, by omega⟩
  rw [Int32.toInt_sub, h2, show (48 : Int32).toInt = 48 from rfl]
  exact (Int.bmod_eq_of_le (by show (-2147483648 : Int) ≤ 10 * (V : Int) + t.toInt - 48; omega) (by show 10 * (V : Int) + t.toInt - 48 < (2147483648 : Int); omega)).trans (by omega)
theorem g_digits {G : zG} (hG : G.1 = zProg) (hX : G.2.1 = ztx) {h : zH} {T : Nat → Int32} {n : Nat} (hs : tSh h) (hp : mP h) (hT : tA h 132 = T) (hN : mn h = n) {m : Int32} {M : Nat} (hm : m.toInt = M) (hM : M ≤ 99999) (hB : rB T n (ms h).1 = (ms h).1) : tC zTt G 211 [.ref 111, .int m] h (fun w h2 => mFr h h2 ∧ ((∃ q, rM T n M (ms h).1 = .inr q ∧ w = some (.int (Int32.ofNat q.2)) ∧ mP h2 ∧ ms h2 = rA q.1 (ms h) ∧ mSk h2 = mSk h ∧ tF h2 111 32 = tF h 111 32) ∨ (∃ e x, rM T n M (ms h).1 = .inl e ∧ w = some (.int x) ∧ 0 ≤ x.toInt ∧ mFt h2 e ∧ mZp h2))) := by
  refine tC_in (by rw [hG]; rfl) (fun dp => ?_)
  have g0 := mFr_r hs
  have hpn : (ms h).1 ≤ n := mPle hp hN
  have c59 : (5 : Int32).toInt = 5 := rfl
  have hn4 : n ≤ 400 := by have a := mNl hp hN; have b := hp.2.1; omega
  refine tw_aload rfl rfl ?_
  refine tw_getS rfl (hi_111_28 hs) ?_
  refine tw_istore rfl ?_
  refine tw_aload rfl rfl ?_
  refine tw_virt0 rfl (g_sign hG hX (g0).1 ((mFr_T g0).trans hT) ((mFr_n g0).trans hN) ⟨hp.2.1.1, by have := hp.2.1; omega⟩) (fun wp534 hp534 p534 => ?_)
  obtain ⟨⟨cp534, rfl, kp534⟩, rfl⟩ := p534
  refine tw_stat1 rfl (g_isDigit hG) (fun w9 h9 p535 => ?_)
  obtain ⟨⟨p535, rfl⟩ | ⟨p535, rfl⟩, rfl⟩ := p535
  · try dsimp only [tvI_i, tvJ_j, tvR_r] at p535
    refine tw_if_ne rfl (fun _ => ?_) (fun z => absurd z (by decide))
    refine tw_push rfl ?_
    refine tw_istore rfl ?_
    refine tw_push rfl ?_
    refine tw_istore rfl ?_
    refine tG_loop (zW_mono zTt G dp) (zW_conj zTt G dp) (V := fun pc L st h9 _ _ => pc = 31 ∧ st = [] ∧ ∃ (h1 : zH) (k : Nat) (x y : Int32), h1 = h9 ∧ mFr h h1 ∧ mP h1 ∧ ms h1 = rA ((ms h).1 + k) (ms h) ∧ mSk h1 = mSk h ∧ tF h1 111 32 = tF h 111 32 ∧ (ms h).1 + k ≤ n ∧ rD T n ((ms h).1 + k) = rD T n (ms h).1 ∧ x.toInt = k ∧ y.toInt = ((rV T (ms h).1 (min k 5) : Nat) : Int) ∧ rV T (ms h).1 (min k 5) + 1 ≤ 10 ^ (min k 5) ∧ L = [some (.ref 111), some (.int m), some (.int (tvI (tF h 111 28))), some (.int x), some (.int y)]) ?_ (⟨rfl, rfl, _, 0, 0, 0, rfl, g0, hp, rfl, rfl, rfl, hpn, rfl, rfl, rfl, Nat.le_refl 1, rfl⟩)
    rintro _ _ _ _ _ _ ⟨rfl, rfl, h1, k, x, y, rfl, g1, p1, hms, hsk, h32, hkn, hrd, hx, hy, hyb, rfl⟩
    refine tw_aload rfl rfl ?_
    refine tw_virt0 rfl (g_sign hG hX (g1).1 ((mFr_T g1).trans hT) ((mFr_n g1).trans hN) ⟨p1.2.1.1, by have := p1.2.1; omega⟩) (fun wp536 hp536 p536 => ?_)
    obtain ⟨⟨cp536, rfl, kp536⟩, rfl⟩ := p536
    refine tw_stat1 rfl (g_isDigit hG) (fun w9 h9 p537 => ?_)
    obtain ⟨⟨p537, rfl⟩ | ⟨p537, rfl⟩, rfl⟩ := p537
    · try dsimp only [tvI_i, tvJ_j, tvR_r] at p537
      refine tw_if_eq rfl (fun z => absurd z (by decide)) (fun _ => ?_)
      refine tw_iload rfl rfl ?_
      refine tw_push rfl ?_
      refine tw_ic_ge rfl (fun q538 => ?_) (fun q538 => ?_)
      · try dsimp only [tvI_i, tvJ_j, tvR_r] at q538
        refine tw_iload rfl rfl ?_
        refine tw_istore rfl ?_
        refine tw_iinc rfl rfl ?_
        refine tw_aload rfl rfl ?_
        refine tw_dup rfl ?_
        refine tw_getS rfl (hi_111_28 (g1).1) ?_
        refine tw_push rfl ?_
        refine tw_iadd rfl ?_
        refine tw_put rfl (fun f539 => ?_)
        refine tG_setm f539 (hw_111_28 f539 (g1).1) (fun hf539 ef539 => ?_)
        try dsimp only [tvI_i] at ef539
        have gf539 := mFr_s g1 ef539 (by unfold mFs; omega)
        have wf539 := (sgm_d kp536).mp p537
        rw [hms] at wf539
        have wf539 : (ms h).1 + k < n ∧ 48 ≤ (T ((ms h).1 + k)).toInt ∧ (T ((ms h).1 + k)).toInt ≤ 57 := wf539
        obtain ⟨pf539, sf539, tf539⟩ := mTo p1 ((mFr_n g1).trans hN) ef539 (v := (ms h).1 + (k + 1)) (zincN (n := (ms h).1 + k) (by rw [mPl p1, hms]; rfl) (by omega)) wf539.1
        refine tw_goto rfl ?_
        have hd2 := (rD_y wf539).symm.trans hrd
        have hk5 : 5 ≤ k := by have z := q538; omega
        have hm5 : min k 5 = 5 := by omega
        have hm6 : min (k + 1) 5 = 5 := by omega
        rw [hm5] at hy hyb
        exact tG_cut (zW_mono zTt G dp) (Or.inr ⟨rfl, rfl, _, k + 1, _, _, rfl, gf539, pf539, (by rw [sf539, hms]; rfl), tf539.trans hsk, (mI_o ef539 (by decide)).trans h32, (by omega), hd2, zincN hx (by omega), (by rw [hm6]; exact hy), (by rw [hm6]; exact hyb), rfl⟩)
      · try dsimp only [tvI_i, tvJ_j, tvR_r] at q538
        refine tw_push rfl ?_
        refine tw_iload rfl rfl ?_
        refine tw_imul rfl ?_
        refine tw_aload rfl rfl ?_
        refine tw_virt0 rfl (g_sign hG hX (g1).1 ((mFr_T g1).trans hT) ((mFr_n g1).trans hN) ⟨p1.2.1.1, by have := p1.2.1; omega⟩) (fun wp540 hp540 p540 => ?_)
        obtain ⟨⟨cp540, rfl, kp540⟩, rfl⟩ := p540
        refine tw_iadd rfl ?_
        refine tw_push rfl ?_
        refine tw_isub rfl ?_
        refine tw_goto rfl ?_
        refine tw_istore rfl ?_
        refine tw_iinc rfl rfl ?_
        refine tw_aload rfl rfl ?_
        refine tw_dup rfl ?_
        refine tw_getS rfl (hi_111_28 (g1).1) ?_
        refine tw_push rfl ?_
        refine tw_iadd rfl ?_
        refine tw_put rfl (fun f541 => ?_)
        refine tG_setm f541 (hw_111_28 f541 (g1).1) (fun hf541 ef541 => ?_)
        try dsimp only [tvI_i] at ef541
        have gf541 := mFr_s g1 ef541 (by unfold mFs; omega)
        have wf541 := (sgm_d kp536).mp p537
        rw [hms] at wf541
        have wf541 : (ms h).1 + k < n ∧ 48 ≤ (T ((ms h).1 + k)).toInt ∧ (T ((ms h).1 + k)).toInt ≤ 57 := wf541
        obtain ⟨pf541, sf541, tf541⟩ := mTo p1 ((mFr_n g1).trans hN) ef541 (v := (ms h).1 + (k + 1)) (zincN (n := (ms h).1 + k) (by rw [mPl p1, hms]; rfl) (by omega)) wf541.1
        refine tw_goto rfl ?_
        have hd2 := (rD_y wf541).symm.trans hrd
        have hk5 : k < 5 := by have z := q538; omega
        have hm5 : min k 5 = k := by omega
        have hm6 : min (k + 1) 5 = k + 1 := by omega
        rw [hm5] at hy hyb
        have hc2 : cp540 = T ((ms h).1 + k) := kp540.elim (fun z => by rw [z.2, hms]; rfl) (fun z => absurd (by rw [hms]; exact wf541.1) z.1)
        have hq4 : 10 ^ k ≤ 10000 := Nat.pow_le_pow_right (n := 10) (by omega) (show k ≤ 4 by omega)
        have hnn := cNum2 hy hyb hq4 (t := T ((ms h).1 + k)) ⟨wf541.2.1, wf541.2.2⟩
        exact tG_cut (zW_mono zTt G dp) (Or.inr ⟨rfl, rfl, _, k + 1, _, _, rfl, gf541, pf541, (by rw [sf541, hms]; rfl), tf541.trans hsk, (mI_o ef541 (by decide)).trans h32, (by omega), hd2, zincN hx (by omega), (by rw [hm6]; show (10 * y + cp540 - 48).toInt = _; rw [hc2]; exact hnn.1), (by rw [hm6, Nat.pow_succ]; exact hnn.2), rfl⟩)
    · try dsimp only [tvI_i, tvJ_j, tvR_r] at p537
      refine tw_if_eq rfl (fun _ => ?_) (fun z => absurd z (by decide))
      refine tw_iload rfl rfl ?_
      refine tw_push rfl ?_
      refine tw_ic_gt rfl (fun q542 => ?_) (fun q542 => ?_)
      · try dsimp only [tvI_i, tvJ_j, tvR_r] at q542
        refine tw_aload rfl rfl ?_
        refine tw_push rfl ?_
        refine tw_iload rfl rfl ?_
        refine tw_virt2 rfl (g_fails hG hX (g1).1 p1 ((mFr_T g1).trans hT) ((mFr_n g1).trans hN) (w := 1) (b := (ms h).1) rfl (by decide) (mPl hp) (by omega)) (fun wp543 hp543 p543 => ?_)
        obtain ⟨rfl, gp543, Fp543, ip543, jp543⟩ := p543
        have ggp543 := mFr_t g1 gp543
        refine tw_iload rfl rfl ?_
        have w0 := (sgm_d kp534).mp p535
        have hge := rD_ge (T := T) (n := n) (p := (ms h).1 + 1)
        rw [← rD_y w0] at hge
        have hnd : rD T n ((ms h).1 + k) = (ms h).1 + k := rD_n (fun z => p537 ((sgm_d kp536).mpr (by rw [hms]; exact z)))
        have hrb : rD T n (ms h).1 = (ms h).1 + k := hrd.symm.trans hnd
        have hk0 : k ≠ 0 := by omega
        have z0 := q542
        have hyn : 0 ≤ y.toInt := by omega
        have hbig : 5 < k ∨ M < rV T (ms h).1 k := by
          rcases Nat.lt_or_ge 5 k with a | a
          · exact Or.inl a
          · rw [show min k 5 = k by omega] at hy; exact Or.inr (by omega)
        exact tw_iret rfl ⟨ggp543, Or.inr ⟨_, _, rM_b hB hrb hk0 hbig, rfl, hyn, Fp543, mZp_k (mZp_p p1) ip543 jp543⟩⟩
      · try dsimp only [tvI_i, tvJ_j, tvR_r] at q542
        refine tw_iload rfl rfl ?_
        refine tw_iload rfl rfl ?_
        refine tw_ic_le rfl (fun q544 => ?_) (fun q544 => ?_)
        · try dsimp only [tvI_i, tvJ_j, tvR_r] at q544
          refine tw_iload rfl rfl ?_
          have w0 := (sgm_d kp534).mp p535
          have hge := rD_ge (T := T) (n := n) (p := (ms h).1 + 1)
          rw [← rD_y w0] at hge
          have hnd : rD T n ((ms h).1 + k) = (ms h).1 + k := rD_n (fun z => p537 ((sgm_d kp536).mpr (by rw [hms]; exact z)))
          have hrb : rD T n (ms h).1 = (ms h).1 + k := hrd.symm.trans hnd
          have hk0 : k ≠ 0 := by omega
          have z0 := q542
          have z1 := q544
          have hyn : 0 ≤ y.toInt := by omega
          have hk5 : k ≤ 5 := by omega
          rw [show min k 5 = k by omega] at hy
          exact tw_iret rfl ⟨g1, Or.inl ⟨_, rM_c hB hrb hk0 (by omega), congrArg (fun z => some (Value.int z)) (zof hy), p1, hms, hsk, h32⟩⟩
        · try dsimp only [tvI_i, tvJ_j, tvR_r] at q544
          refine tw_aload rfl rfl ?_
          refine tw_push rfl ?_
          refine tw_iload rfl rfl ?_
          refine tw_virt2 rfl (g_fails hG hX (g1).1 p1 ((mFr_T g1).trans hT) ((mFr_n g1).trans hN) (w := 1) (b := (ms h).1) rfl (by decide) (mPl hp) (by omega)) (fun wp545 hp545 p545 => ?_)
          obtain ⟨rfl, gp545, Fp545, ip545, jp545⟩ := p545
          have ggp545 := mFr_t g1 gp545
          refine tw_iload rfl rfl ?_
          have w0 := (sgm_d kp534).mp p535
          have hge := rD_ge (T := T) (n := n) (p := (ms h).1 + 1)
          rw [← rD_y w0] at hge
          have hnd : rD T n ((ms h).1 + k) = (ms h).1 + k := rD_n (fun z => p537 ((sgm_d kp536).mpr (by rw [hms]; exact z)))
          have hrb : rD T n (ms h).1 = (ms h).1 + k := hrd.symm.trans hnd
          have hk0 : k ≠ 0 := by omega
          have z0 := q542
          have z1 := q544
          have hyn : 0 ≤ y.toInt := by omega
          have hbig : 5 < k ∨ M < rV T (ms h).1 k := by
            rcases Nat.lt_or_ge 5 k with a | a
            · exact Or.inl a
            · rw [show min k 5 = k by omega] at hy; exact Or.inr (by omega)
          exact tw_iret rfl ⟨ggp545, Or.inr ⟨_, _, rM_b hB hrb hk0 hbig, rfl, hyn, Fp545, mZp_k (mZp_p p1) ip545 jp545⟩⟩
  · try dsimp only [tvI_i, tvJ_j, tvR_r] at p535
    refine tw_if_ne rfl (fun z => absurd z (by decide)) (fun _ => ?_)
    refine tw_aload rfl rfl ?_
    refine tw_push rfl ?_
    refine tw_aload rfl rfl ?_
    refine tw_getS rfl (hi_111_28 (g0).1) ?_
    refine tw_virt2 rfl (g_fails hG hX (g0).1 hp ((mFr_T g0).trans hT) ((mFr_n g0).trans hN) (w := 0) (b := (ms h).1) rfl (by decide) (mPl hp) (by omega)) (fun wp546 hp546 p546 => ?_)
    obtain ⟨rfl, gp546, Fp546, ip546, jp546⟩ := p546
    have ggp546 := mFr_t g0 gp546
    refine tw_push rfl ?_
    have hnd : rD T n (ms h).1 = (ms h).1 := rD_n (fun z => p535 ((sgm_d kp534).mpr z))
    exact tw_iret rfl ⟨ggp546, Or.inr ⟨_, _, rM_a hB hnd, rfl, by decide, Fp546, mZp_k (mZp_p hp) ip546 jp546⟩⟩
theorem mhead {S : List Nat} {k : Nat} (h : S.headD 0 = k + 1) : S = (k + 1) :: S.tail := by
  cases S with
  | nil => cases h
  | cons x r => rw [show x = k + 1 from h]; rfl
theorem mT_y (r o : List Nat) : mT (102 :: r) o = mT r (o ++ [100102]) := if_pos rfl
theorem mN_y (r o : List Nat) : mN (10 :: r) o = mN r (o ++ [100110]) := if_pos rfl
theorem mA_y (r o : List Nat) : mA (11 :: r) o = mA r (o ++ [100109]) := if_pos rfl
theorem mO_y (r o : List Nat) : mO1 (12 :: r) o = mO1 r (o ++ [100108]) := if_pos rfl
theorem mP_y (r o : List Nat) : mPm (103 :: r) o = mPm r (o ++ [100100]) := if_pos rfl
theorem mM_y (r o : List Nat) : mPm (104 :: r) o = mPm r (o ++ [100101]) := (if_neg (by decide)).trans (if_pos rfl)
theorem mne {S : List Nat} {k : Nat} (h : S.headD 0 = k + 1) : S ≠ [] := fun z => by rw [z] at h; cases h
theorem g_makesProducts {G : zG} (hG : G.1 = zProg) (hX : G.2.1 = ztx) {h : zH} {T : Nat → Int32} {n : Nat} (hs : tSh h) (hp : mP h) (hT : tA h 132 = T) (hN : mn h = n)  : tC zTt G 214 [.ref 111] h (fun w h2 => w = none ∧ mFr h h2 ∧ mP h2 ∧ (ms h2).1 = (ms h).1 ∧ (ms h2).2.1 = (ms h).2.1 ∧ (mSk h2, (ms h2).2.2) = mT (mSk h) (ms h).2.2 ∧ tF h2 111 32 = tF h 111 32) := by
  refine tC_in (by rw [hG]; rfl) (fun dp => ?_)
  have g0 := mFr_r hs
  have hpn : (ms h).1 ≤ n := mPle hp hN
  refine tG_loop (zW_mono zTt G dp) (zW_conj zTt G dp) (V := fun pc L st h9 _ _ => pc = 0 ∧ st = [] ∧ ∃ h1, h1 = h9 ∧ mFr h h1 ∧ mP h1 ∧ (ms h1).1 = (ms h).1 ∧ (ms h1).2.1 = (ms h).2.1 ∧ mT (mSk h1) (ms h1).2.2 = mT (mSk h) (ms h).2.2 ∧ tF h1 111 32 = tF h 111 32 ∧ L = [some (.ref 111)]) ?_ (⟨rfl, rfl, _, rfl, g0, hp, rfl, rfl, rfl, rfl, rfl⟩)
  rintro _ _ _ _ _ _ ⟨rfl, rfl, h1, rfl, g1, p1, e1, e2, hL, h32, rfl⟩
  refine tw_aload rfl rfl ?_
  refine tw_virt0 rfl (g_top hG hX (g1).1 p1 ((mFr_T g1).trans hT) ((mFr_n g1).trans hN)) (fun wp547 hp547 p547 => ?_)
  obtain ⟨⟨cp547, rfl, Tp547⟩, rfl⟩ := p547
  refine tw_push rfl ?_
  refine tw_ic_ne rfl (fun q548 => ?_) (fun q548 => ?_)
  · try dsimp only [tvI_i, tvJ_j, tvR_r] at q548
    have q548i := zneq (Y := 102) (by decide) q548
    have hfin : (mSk h1, (ms h1).2.2) = mT (mSk h) (ms h).2.2 := by rw [← hL, mT_n (fun z => q548 ((tpm_k Tp547 (k := 102) (K := 102) rfl (by decide)).mpr z))]
    exact tw_vret rfl ⟨rfl, g1, p1, e1, e2, hfin, h32⟩
  · try dsimp only [tvI_i, tvJ_j, tvR_r] at q548
    have q548i := zeqi (Y := 102) (by decide) q548
    refine tw_aload rfl rfl ?_
    refine tw_push rfl ?_
    refine tw_push rfl ?_
    have hhd : (mSk h1).headD 0 = 102 := (tpm_k Tp547 (k := 102) (K := 102) rfl (by decide)).mp q548
    have hne := mne (k := 101) hhd
    have hst : mSk h1 = 102 :: (mSk h1).tail := mhead (k := 101) hhd
    refine tw_virt2 rfl (g_entry hG hX (g1).1 p1 ((mFr_T g1).trans hT) ((mFr_n g1).trans hN) ⟨by decide, by decide⟩) (fun wp549 hp549 p549 => ?_)
    obtain ⟨rfl, gp549, pp549e, sp549, tp549, dp549⟩ := p549
    have ggp549 := mFr_t g1 gp549
    refine tw_aload rfl rfl ?_
    refine tw_dup rfl ?_
    refine tw_getS rfl (hi_111_34 ggp549.1) ?_
    refine tw_push rfl ?_
    refine tw_isub rfl ?_
    refine tw_put rfl (fun f550 => ?_)
    refine tG_setm f550 (hw_111_34 f550 (ggp549).1) (fun hf550 ef550 => ?_)
    try dsimp only [tvI_i] at ef550
    have gf550 := mFr_s ggp549 ef550 (by unfold mFs; omega)
    have hnef550 : mSk hp549 ≠ [] := by rw [tp549]; exact hne
    obtain ⟨pf550, tf550, sf550, df550⟩ := mSk_pop pp549e hnef550 ef550
    refine tw_goto rfl ?_
    have hst : mSk h1 = 102 :: (mSk h1).tail := mhead (k := 101) hhd
    have hsp : mSk hf550 = (mSk h1).tail := by rw [tf550, tp549]
    have hms2 : ms hf550 = rU 100102 (ms h1) := by rw [sf550, sp549]; rfl
    have hlp : mT (mSk hf550) (ms hf550).2.2 = mT (mSk h) (ms h).2.2 := by rw [hsp, hms2, ← hL, hst]; exact (mT_y (mSk h1).tail _).symm
    exact tG_cut (zW_mono zTt G dp) (Or.inr ⟨rfl, rfl, _, rfl, gf550, pf550, by rw [hms2]; exact e1, by rw [hms2]; exact e2, hlp, df550.trans (dp549.trans h32), rfl⟩)
theorem g_makesNots {G : zG} (hG : G.1 = zProg) (hX : G.2.1 = ztx) {h : zH} {T : Nat → Int32} {n : Nat} (hs : tSh h) (hp : mP h) (hT : tA h 132 = T) (hN : mn h = n) (hD : mD h) : tC zTt G 219 [.ref 111] h (fun w h2 => w = none ∧ mFr h h2 ∧ mP h2 ∧ (ms h2).1 = (ms h).1 ∧ (ms h2).2.1 = (ms h).2.1 ∧ (mSk h2, (ms h2).2.2) = mN (mSk h) (ms h).2.2 ∧ mD h2) := by
  refine tC_in (by rw [hG]; rfl) (fun dp => ?_)
  have g0 := mFr_r hs
  have hpn : (ms h).1 ≤ n := mPle hp hN
  refine tG_loop (zW_mono zTt G dp) (zW_conj zTt G dp) (V := fun pc L st h9 _ _ => pc = 0 ∧ st = [] ∧ ∃ h1, h1 = h9 ∧ mFr h h1 ∧ mP h1 ∧ (ms h1).1 = (ms h).1 ∧ (ms h1).2.1 = (ms h).2.1 ∧ mN (mSk h1) (ms h1).2.2 = mN (mSk h) (ms h).2.2 ∧ mD h1 ∧ L = [some (.ref 111)]) ?_ (⟨rfl, rfl, _, rfl, g0, hp, rfl, rfl, rfl, hD, rfl⟩)
  rintro _ _ _ _ _ _ ⟨rfl, rfl, h1, rfl, g1, p1, e1, e2, hL, hDn, rfl⟩
  refine tw_aload rfl rfl ?_
  refine tw_virt0 rfl (g_top hG hX (g1).1 p1 ((mFr_T g1).trans hT) ((mFr_n g1).trans hN)) (fun wp551 hp551 p551 => ?_)
  obtain ⟨⟨cp551, rfl, Tp551⟩, rfl⟩ := p551
  refine tw_push rfl ?_
  refine tw_ic_ne rfl (fun q552 => ?_) (fun q552 => ?_)
  · try dsimp only [tvI_i, tvJ_j, tvR_r] at q552
    have q552i := zneq (Y := 10) (by decide) q552
    have hfin : (mSk h1, (ms h1).2.2) = mN (mSk h) (ms h).2.2 := by rw [← hL, mN_n (fun z => q552 ((tpm_k Tp551 (k := 10) (K := 10) rfl (by decide)).mpr z))]
    exact tw_vret rfl ⟨rfl, g1, p1, e1, e2, hfin, hDn⟩
  · try dsimp only [tvI_i, tvJ_j, tvR_r] at q552
    have q552i := zeqi (Y := 10) (by decide) q552
    refine tw_aload rfl rfl ?_
    refine tw_push rfl ?_
    refine tw_push rfl ?_
    have hhd : (mSk h1).headD 0 = 10 := (tpm_k Tp551 (k := 10) (K := 10) rfl (by decide)).mp q552
    have hne := mne (k := 9) hhd
    have hst : mSk h1 = 10 :: (mSk h1).tail := mhead (k := 9) hhd
    refine tw_virt2 rfl (g_entry hG hX (g1).1 p1 ((mFr_T g1).trans hT) ((mFr_n g1).trans hN) ⟨by decide, by decide⟩) (fun wp553 hp553 p553 => ?_)
    obtain ⟨rfl, gp553, pp553e, sp553, tp553, dp553⟩ := p553
    have ggp553 := mFr_t g1 gp553
    refine tw_aload rfl rfl ?_
    refine tw_dup rfl ?_
    refine tw_getS rfl (hi_111_34 ggp553.1) ?_
    refine tw_push rfl ?_
    refine tw_isub rfl ?_
    refine tw_put rfl (fun f554 => ?_)
    refine tG_setm f554 (hw_111_34 f554 (ggp553).1) (fun hf554 ef554 => ?_)
    try dsimp only [tvI_i] at ef554
    have gf554 := mFr_s ggp553 ef554 (by unfold mFs; omega)
    have hnef554 : mSk hp553 ≠ [] := by rw [tp553]; exact hne
    obtain ⟨pf554, tf554, sf554, df554⟩ := mSk_pop pp553e hnef554 ef554
    refine tw_aload rfl rfl ?_
    refine tw_dup rfl ?_
    refine tw_getS rfl (hi_111_32 (gf554).1) ?_
    refine tw_push rfl ?_
    refine tw_isub rfl ?_
    refine tw_put rfl (fun f555 => ?_)
    refine tG_setm f555 (hw_111_32 f555 (gf554).1) (fun hf555 ef555 => ?_)
    try dsimp only [tvI_i] at ef555
    have gf555 := mFr_s gf554 ef555 (by unfold mFs; omega)
    have hdf555 : (tvI (tF hf554 111 32)).toInt = ((mDp (mSk hf554) + 1 : Nat) : Int) := by
      rw [df554, dp553]
      refine (show (tvI (tF h1 111 32)).toInt = (mDp (mSk h1) : Int) from hDn).trans ?_
      rw [tf554, tp553]
      exact congrArg (fun z : Nat => (z : Int)) ((congrArg mDp hst).trans (mDp_c (by decide)))
    obtain ⟨pf555, tf555, sf555, ddf555⟩ := mDn pf554 ef555 hdf555 rfl
    refine tw_goto rfl ?_
    have hst : mSk h1 = 10 :: (mSk h1).tail := mhead (k := 9) hhd
    have hsp : mSk hf555 = (mSk h1).tail := by rw [tf555, tf554, tp553]
    have hms2 : ms hf555 = rU 100110 (ms h1) := by rw [sf555, sf554, sp553]; rfl
    have hlp : mN (mSk hf555) (ms hf555).2.2 = mN (mSk h) (ms h).2.2 := by rw [hsp, hms2, ← hL, hst]; exact (mN_y (mSk h1).tail _).symm
    exact tG_cut (zW_mono zTt G dp) (Or.inr ⟨rfl, rfl, _, rfl, gf555, pf555, by rw [hms2]; exact e1, by rw [hms2]; exact e2, hlp, ddf555, rfl⟩)
theorem g_makesAnds {G : zG} (hG : G.1 = zProg) (hX : G.2.1 = ztx) {h : zH} {T : Nat → Int32} {n : Nat} (hs : tSh h) (hp : mP h) (hT : tA h 132 = T) (hN : mn h = n)  : tC zTt G 220 [.ref 111] h (fun w h2 => w = none ∧ mFr h h2 ∧ mP h2 ∧ (ms h2).1 = (ms h).1 ∧ (ms h2).2.1 = (ms h).2.1 ∧ (mSk h2, (ms h2).2.2) = mA (mSk h) (ms h).2.2 ∧ tF h2 111 32 = tF h 111 32) := by
  refine tC_in (by rw [hG]; rfl) (fun dp => ?_)
  have g0 := mFr_r hs
  have hpn : (ms h).1 ≤ n := mPle hp hN
  refine tG_loop (zW_mono zTt G dp) (zW_conj zTt G dp) (V := fun pc L st h9 _ _ => pc = 0 ∧ st = [] ∧ ∃ h1, h1 = h9 ∧ mFr h h1 ∧ mP h1 ∧ (ms h1).1 = (ms h).1 ∧ (ms h1).2.1 = (ms h).2.1 ∧ mA (mSk h1) (ms h1).2.2 = mA (mSk h) (ms h).2.2 ∧ tF h1 111 32 = tF h 111 32 ∧ L = [some (.ref 111)]) ?_ (⟨rfl, rfl, _, rfl, g0, hp, rfl, rfl, rfl, rfl, rfl⟩)
  rintro _ _ _ _ _ _ ⟨rfl, rfl, h1, rfl, g1, p1, e1, e2, hL, h32, rfl⟩
  refine tw_aload rfl rfl ?_
  refine tw_virt0 rfl (g_top hG hX (g1).1 p1 ((mFr_T g1).trans hT) ((mFr_n g1).trans hN)) (fun wp556 hp556 p556 => ?_)
  obtain ⟨⟨cp556, rfl, Tp556⟩, rfl⟩ := p556
  refine tw_push rfl ?_
  refine tw_ic_ne rfl (fun q557 => ?_) (fun q557 => ?_)
  · try dsimp only [tvI_i, tvJ_j, tvR_r] at q557
    have q557i := zneq (Y := 11) (by decide) q557
    have hfin : (mSk h1, (ms h1).2.2) = mA (mSk h) (ms h).2.2 := by rw [← hL, mA_n (fun z => q557 ((tpm_k Tp556 (k := 11) (K := 11) rfl (by decide)).mpr z))]
    exact tw_vret rfl ⟨rfl, g1, p1, e1, e2, hfin, h32⟩
  · try dsimp only [tvI_i, tvJ_j, tvR_r] at q557
    have q557i := zeqi (Y := 11) (by decide) q557
    refine tw_aload rfl rfl ?_
    refine tw_push rfl ?_
    refine tw_push rfl ?_
    have hhd : (mSk h1).headD 0 = 11 := (tpm_k Tp556 (k := 11) (K := 11) rfl (by decide)).mp q557
    have hne := mne (k := 10) hhd
    have hst : mSk h1 = 11 :: (mSk h1).tail := mhead (k := 10) hhd
    refine tw_virt2 rfl (g_entry hG hX (g1).1 p1 ((mFr_T g1).trans hT) ((mFr_n g1).trans hN) ⟨by decide, by decide⟩) (fun wp558 hp558 p558 => ?_)
    obtain ⟨rfl, gp558, pp558e, sp558, tp558, dp558⟩ := p558
    have ggp558 := mFr_t g1 gp558
    refine tw_aload rfl rfl ?_
    refine tw_dup rfl ?_
    refine tw_getS rfl (hi_111_34 ggp558.1) ?_
    refine tw_push rfl ?_
    refine tw_isub rfl ?_
    refine tw_put rfl (fun f559 => ?_)
    refine tG_setm f559 (hw_111_34 f559 (ggp558).1) (fun hf559 ef559 => ?_)
    try dsimp only [tvI_i] at ef559
    have gf559 := mFr_s ggp558 ef559 (by unfold mFs; omega)
    have hnef559 : mSk hp558 ≠ [] := by rw [tp558]; exact hne
    obtain ⟨pf559, tf559, sf559, df559⟩ := mSk_pop pp558e hnef559 ef559
    refine tw_goto rfl ?_
    have hst : mSk h1 = 11 :: (mSk h1).tail := mhead (k := 10) hhd
    have hsp : mSk hf559 = (mSk h1).tail := by rw [tf559, tp558]
    have hms2 : ms hf559 = rU 100109 (ms h1) := by rw [sf559, sp558]; rfl
    have hlp : mA (mSk hf559) (ms hf559).2.2 = mA (mSk h) (ms h).2.2 := by rw [hsp, hms2, ← hL, hst]; exact (mA_y (mSk h1).tail _).symm
    exact tG_cut (zW_mono zTt G dp) (Or.inr ⟨rfl, rfl, _, rfl, gf559, pf559, by rw [hms2]; exact e1, by rw [hms2]; exact e2, hlp, df559.trans (dp558.trans h32), rfl⟩)
theorem g_makesSums {G : zG} (hG : G.1 = zProg) (hX : G.2.1 = ztx) {h : zH} {T : Nat → Int32} {n : Nat} (hs : tSh h) (hp : mP h) (hT : tA h 132 = T) (hN : mn h = n)  : tC zTt G 215 [.ref 111] h (fun w h2 => w = none ∧ mFr h h2 ∧ mP h2 ∧ (ms h2).1 = (ms h).1 ∧ (ms h2).2.1 = (ms h).2.1 ∧ (mSk h2, (ms h2).2.2) = mS (mSk h) (ms h).2.2 ∧ tF h2 111 32 = tF h 111 32) := by
  refine tC_in (by rw [hG]; rfl) (fun dp => ?_)
  have g0 := mFr_r hs
  have hpn : (ms h).1 ≤ n := mPle hp hN
  refine tw_aload rfl rfl ?_
  refine tw_virt0 rfl (g_makesProducts hG hX (g0).1 hp ((mFr_T g0).trans hT) ((mFr_n g0).trans hN)) (fun wp560 hp560 p560 => ?_)
  obtain ⟨rfl, gp560, pp560e, ap560, bp560, mp560, dp560⟩ := p560
  have ggp560 := mFr_t g0 gp560
  refine tG_loop (zW_mono zTt G dp) (zW_conj zTt G dp) (V := fun pc L st h9 _ _ => pc = 4 ∧ st = [] ∧ ∃ h1, h1 = h9 ∧ mFr h h1 ∧ mP h1 ∧ (ms h1).1 = (ms h).1 ∧ (ms h1).2.1 = (ms h).2.1 ∧ mPm (mSk h1) (ms h1).2.2 = mS (mSk h) (ms h).2.2 ∧ tF h1 111 32 = tF h 111 32 ∧ L = [some (.ref 111)]) ?_ (⟨rfl, rfl, _, rfl, ggp560, pp560e, ap560, bp560, (by unfold mS; rw [← mp560]), dp560, rfl⟩)
  rintro _ _ _ _ _ _ ⟨rfl, rfl, h1, rfl, g1, p1, e1, e2, hL, h32, rfl⟩
  refine tw_aload rfl rfl ?_
  refine tw_virt0 rfl (g_top hG hX (g1).1 p1 ((mFr_T g1).trans hT) ((mFr_n g1).trans hN)) (fun wp561 hp561 p561 => ?_)
  obtain ⟨⟨cp561, rfl, Tp561⟩, rfl⟩ := p561
  refine tw_push rfl ?_
  refine tw_ic_eq rfl (fun q562 => ?_) (fun q562 => ?_)
  · try dsimp only [tvI_i, tvJ_j, tvR_r] at q562
    have q562i := zeqi (Y := 103) (by decide) q562
    refine tw_aload rfl rfl ?_
    refine tw_aload rfl rfl ?_
    refine tw_virt0 rfl (g_top hG hX (g1).1 p1 ((mFr_T g1).trans hT) ((mFr_n g1).trans hN)) (fun wp563 hp563 p563 => ?_)
    obtain ⟨⟨cp563, rfl, Tp563⟩, rfl⟩ := p563
    refine tw_push rfl ?_
    refine tw_isub rfl ?_
    refine tw_push rfl ?_
    have hhd : (mSk h1).headD 0 = 103 := (tpm_k Tp561 (k := 103) (K := 103) rfl (by decide)).mp q562
    have hne := mne (k := 102) hhd
    have hst : mSk h1 = 103 :: (mSk h1).tail := mhead (k := 102) hhd
    have hc9 := (tpm_k Tp563 (k := 103) (K := 103) rfl (by decide)).mpr hhd
    subst hc9
    refine tw_virt2 rfl (g_entry hG hX (g1).1 p1 ((mFr_T g1).trans hT) ((mFr_n g1).trans hN) ⟨by decide, by decide⟩) (fun wp564 hp564 p564 => ?_)
    obtain ⟨rfl, gp564, pp564e, sp564, tp564, dp564⟩ := p564
    have ggp564 := mFr_t g1 gp564
    refine tw_aload rfl rfl ?_
    refine tw_dup rfl ?_
    refine tw_getS rfl (hi_111_34 ggp564.1) ?_
    refine tw_push rfl ?_
    refine tw_isub rfl ?_
    refine tw_put rfl (fun f565 => ?_)
    refine tG_setm f565 (hw_111_34 f565 (ggp564).1) (fun hf565 ef565 => ?_)
    try dsimp only [tvI_i] at ef565
    have gf565 := mFr_s ggp564 ef565 (by unfold mFs; omega)
    have hnef565 : mSk hp564 ≠ [] := by rw [tp564]; exact hne
    obtain ⟨pf565, tf565, sf565, df565⟩ := mSk_pop pp564e hnef565 ef565
    refine tw_goto rfl ?_
    have hst : mSk h1 = 103 :: (mSk h1).tail := mhead (k := 102) hhd
    have hsp : mSk hf565 = (mSk h1).tail := by rw [tf565, tp564]
    have hms2 : ms hf565 = rU 100100 (ms h1) := by rw [sf565, sp564]; rfl
    have hlp : mPm (mSk hf565) (ms hf565).2.2 = mS (mSk h) (ms h).2.2 := by rw [hsp, hms2, ← hL, hst]; exact (mP_y (mSk h1).tail _).symm
    exact tG_cut (zW_mono zTt G dp) (Or.inr ⟨rfl, rfl, _, rfl, gf565, pf565, by rw [hms2]; exact e1, by rw [hms2]; exact e2, hlp, df565.trans (dp564.trans h32), rfl⟩)
  · try dsimp only [tvI_i, tvJ_j, tvR_r] at q562
    have q562i := zneq (Y := 103) (by decide) q562
    refine tw_aload rfl rfl ?_
    refine tw_virt0 rfl (g_top hG hX (g1).1 p1 ((mFr_T g1).trans hT) ((mFr_n g1).trans hN)) (fun wp566 hp566 p566 => ?_)
    obtain ⟨⟨cp566, rfl, Tp566⟩, rfl⟩ := p566
    refine tw_push rfl ?_
    refine tw_ic_ne rfl (fun q567 => ?_) (fun q567 => ?_)
    · try dsimp only [tvI_i, tvJ_j, tvR_r] at q567
      have q567i := zneq (Y := 104) (by decide) q567
      have hfin : (mSk h1, (ms h1).2.2) = mS (mSk h) (ms h).2.2 := by rw [← hL, mPm_n (fun z => q562 ((tpm_k Tp561 (k := 103) (K := 103) rfl (by decide)).mpr z)) (fun z => q567 ((tpm_k Tp566 (k := 104) (K := 104) rfl (by decide)).mpr z))]
      exact tw_vret rfl ⟨rfl, g1, p1, e1, e2, hfin, h32⟩
    · try dsimp only [tvI_i, tvJ_j, tvR_r] at q567
      have q567i := zeqi (Y := 104) (by decide) q567
      refine tw_aload rfl rfl ?_
      refine tw_aload rfl rfl ?_
      refine tw_virt0 rfl (g_top hG hX (g1).1 p1 ((mFr_T g1).trans hT) ((mFr_n g1).trans hN)) (fun wp568 hp568 p568 => ?_)
      obtain ⟨⟨cp568, rfl, Tp568⟩, rfl⟩ := p568
      refine tw_push rfl ?_
      refine tw_isub rfl ?_
      refine tw_push rfl ?_
      have hhd : (mSk h1).headD 0 = 104 := (tpm_k Tp566 (k := 104) (K := 104) rfl (by decide)).mp q567
      have hne := mne (k := 103) hhd
      have hst : mSk h1 = 104 :: (mSk h1).tail := mhead (k := 103) hhd
      have hc9 := (tpm_k Tp568 (k := 104) (K := 104) rfl (by decide)).mpr hhd
      subst hc9
      refine tw_virt2 rfl (g_entry hG hX (g1).1 p1 ((mFr_T g1).trans hT) ((mFr_n g1).trans hN) ⟨by decide, by decide⟩) (fun wp569 hp569 p569 => ?_)
      obtain ⟨rfl, gp569, pp569e, sp569, tp569, dp569⟩ := p569
      have ggp569 := mFr_t g1 gp569
      refine tw_aload rfl rfl ?_
      refine tw_dup rfl ?_
      refine tw_getS rfl (hi_111_34 ggp569.1) ?_
      refine tw_push rfl ?_
      refine tw_isub rfl ?_
      refine tw_put rfl (fun f570 => ?_)
      refine tG_setm f570 (hw_111_34 f570 (ggp569).1) (fun hf570 ef570 => ?_)
      try dsimp only [tvI_i] at ef570
      have gf570 := mFr_s ggp569 ef570 (by unfold mFs; omega)
      have hnef570 : mSk hp569 ≠ [] := by rw [tp569]; exact hne
      obtain ⟨pf570, tf570, sf570, df570⟩ := mSk_pop pp569e hnef570 ef570
      refine tw_goto rfl ?_
      have hst : mSk h1 = 104 :: (mSk h1).tail := mhead (k := 103) hhd
      have hsp : mSk hf570 = (mSk h1).tail := by rw [tf570, tp569]
      have hms2 : ms hf570 = rU 100101 (ms h1) := by rw [sf570, sp569]; rfl
      have hlp : mPm (mSk hf570) (ms hf570).2.2 = mS (mSk h) (ms h).2.2 := by rw [hsp, hms2, ← hL, hst]; exact (mM_y (mSk h1).tail _).symm
      exact tG_cut (zW_mono zTt G dp) (Or.inr ⟨rfl, rfl, _, rfl, gf570, pf570, by rw [hms2]; exact e1, by rw [hms2]; exact e2, hlp, df570.trans (dp569.trans h32), rfl⟩)
theorem g_makesOrs {G : zG} (hG : G.1 = zProg) (hX : G.2.1 = ztx) {h : zH} {T : Nat → Int32} {n : Nat} (hs : tSh h) (hp : mP h) (hT : tA h 132 = T) (hN : mn h = n)  : tC zTt G 221 [.ref 111] h (fun w h2 => w = none ∧ mFr h h2 ∧ mP h2 ∧ (ms h2).1 = (ms h).1 ∧ (ms h2).2.1 = (ms h).2.1 ∧ (mSk h2, (ms h2).2.2) = mO (mSk h) (ms h).2.2 ∧ tF h2 111 32 = tF h 111 32) := by
  refine tC_in (by rw [hG]; rfl) (fun dp => ?_)
  have g0 := mFr_r hs
  have hpn : (ms h).1 ≤ n := mPle hp hN
  refine tw_aload rfl rfl ?_
  refine tw_virt0 rfl (g_makesAnds hG hX (g0).1 hp ((mFr_T g0).trans hT) ((mFr_n g0).trans hN)) (fun wp571 hp571 p571 => ?_)
  obtain ⟨rfl, gp571, pp571e, ap571, bp571, mp571, dp571⟩ := p571
  have ggp571 := mFr_t g0 gp571
  refine tG_loop (zW_mono zTt G dp) (zW_conj zTt G dp) (V := fun pc L st h9 _ _ => pc = 4 ∧ st = [] ∧ ∃ h1, h1 = h9 ∧ mFr h h1 ∧ mP h1 ∧ (ms h1).1 = (ms h).1 ∧ (ms h1).2.1 = (ms h).2.1 ∧ mO1 (mSk h1) (ms h1).2.2 = mO (mSk h) (ms h).2.2 ∧ tF h1 111 32 = tF h 111 32 ∧ L = [some (.ref 111)]) ?_ (⟨rfl, rfl, _, rfl, ggp571, pp571e, ap571, bp571, (by unfold mO; rw [← mp571]), dp571, rfl⟩)
  rintro _ _ _ _ _ _ ⟨rfl, rfl, h1, rfl, g1, p1, e1, e2, hL, h32, rfl⟩
  refine tw_aload rfl rfl ?_
  refine tw_virt0 rfl (g_top hG hX (g1).1 p1 ((mFr_T g1).trans hT) ((mFr_n g1).trans hN)) (fun wp572 hp572 p572 => ?_)
  obtain ⟨⟨cp572, rfl, Tp572⟩, rfl⟩ := p572
  refine tw_push rfl ?_
  refine tw_ic_ne rfl (fun q573 => ?_) (fun q573 => ?_)
  · try dsimp only [tvI_i, tvJ_j, tvR_r] at q573
    have q573i := zneq (Y := 12) (by decide) q573
    have hfin : (mSk h1, (ms h1).2.2) = mO (mSk h) (ms h).2.2 := by rw [← hL, mO1_n (fun z => q573 ((tpm_k Tp572 (k := 12) (K := 12) rfl (by decide)).mpr z))]
    exact tw_vret rfl ⟨rfl, g1, p1, e1, e2, hfin, h32⟩
  · try dsimp only [tvI_i, tvJ_j, tvR_r] at q573
    have q573i := zeqi (Y := 12) (by decide) q573
    refine tw_aload rfl rfl ?_
    refine tw_push rfl ?_
    refine tw_push rfl ?_
    have hhd : (mSk h1).headD 0 = 12 := (tpm_k Tp572 (k := 12) (K := 12) rfl (by decide)).mp q573
    have hne := mne (k := 11) hhd
    have hst : mSk h1 = 12 :: (mSk h1).tail := mhead (k := 11) hhd
    refine tw_virt2 rfl (g_entry hG hX (g1).1 p1 ((mFr_T g1).trans hT) ((mFr_n g1).trans hN) ⟨by decide, by decide⟩) (fun wp574 hp574 p574 => ?_)
    obtain ⟨rfl, gp574, pp574e, sp574, tp574, dp574⟩ := p574
    have ggp574 := mFr_t g1 gp574
    refine tw_aload rfl rfl ?_
    refine tw_dup rfl ?_
    refine tw_getS rfl (hi_111_34 ggp574.1) ?_
    refine tw_push rfl ?_
    refine tw_isub rfl ?_
    refine tw_put rfl (fun f575 => ?_)
    refine tG_setm f575 (hw_111_34 f575 (ggp574).1) (fun hf575 ef575 => ?_)
    try dsimp only [tvI_i] at ef575
    have gf575 := mFr_s ggp574 ef575 (by unfold mFs; omega)
    have hnef575 : mSk hp574 ≠ [] := by rw [tp574]; exact hne
    obtain ⟨pf575, tf575, sf575, df575⟩ := mSk_pop pp574e hnef575 ef575
    refine tw_goto rfl ?_
    have hst : mSk h1 = 12 :: (mSk h1).tail := mhead (k := 11) hhd
    have hsp : mSk hf575 = (mSk h1).tail := by rw [tf575, tp574]
    have hms2 : ms hf575 = rU 100108 (ms h1) := by rw [sf575, sp574]; rfl
    have hlp : mO1 (mSk hf575) (ms hf575).2.2 = mO (mSk h) (ms h).2.2 := by rw [hsp, hms2, ← hL, hst]; exact (mO_y (mSk h1).tail _).symm
    exact tG_cut (zW_mono zTt G dp) (Or.inr ⟨rfl, rfl, _, rfl, gf575, pf575, by rw [hms2]; exact e1, by rw [hms2]; exact e2, hlp, df575.trans (dp574.trans h32), rfl⟩)
theorem zp0 {x : Int32} {k : Nat} (h : x.toInt = k) : (x + 0).toInt = ((k + 0 : Nat) : Int) := by
  rw [Int32.toInt_add, show (0 : Int32).toInt = 0 from rfl, Int.add_zero, h]
  have := Int32.toInt_lt x
  exact Int.bmod_eq_of_le (by show (-2147483648 : Int) ≤ (k : Int); omega) (by show (k : Int) < (2147483648 : Int); omega)
theorem cmw {K : Int32} {k : Nat} (hk : K.toInt = (k : Int)) {C p : Nat} (h : k + 100098 = C) : K.toInt + 100098 = (((C, p) : Nat × Nat).1 : Int) := by
  show K.toInt + 100098 = (C : Int)
  rw [hk, ← h]
  omega
theorem zp1 {x : Int32} {k : Nat} (h : x.toInt = k) (hk : k ≤ 1000) : (x + 1).toInt = ((k + 1 : Nat) : Int) := zincN h (by omega)
theorem g_compares {G : zG} (hG : G.1 = zProg) (hX : G.2.1 = ztx) {h : zH} {T : Nat → Int32} {n : Nat} (hs : tSh h) (hp : mP h) (hT : tA h 132 = T) (hN : mn h = n)  : tC zTt G 212 [.ref 111] h (fun w h2 => mFr h h2 ∧ ((rCm T n (ms h).1 = none ∧ w = some (.int 0) ∧ h2 = h) ∨ (∃ q, rCm T n (ms h).1 = some q ∧ (((ms h).2.1 ≠ 80 ∧ (∃ x : Int32, w = some (.int x) ∧ x.toInt + 100098 = (q.1 : Int)) ∧ mP h2 ∧ ms h2 = (q.2, (ms h).2.1 + 1, (ms h).2.2) ∧ mSk h2 = mSk h ∧ tF h2 111 32 = tF h 111 32) ∨ ((ms h).2.1 = 80 ∧ ∃ x, w = some (.int x) ∧ 5 ≤ x.toInt ∧ x.toInt ≤ 9 ∧ mFt h2 (1 + 8 * (ms h).1 + 3) ∧ mZp h2))))) := by
  refine tC_in (by rw [hG]; rfl) (fun dp => ?_)
  have g0 := mFr_r hs
  have hpn : (ms h).1 ≤ n := mPle hp hN
  have hn4 : n ≤ 400 := by have a := mNl hp hN; have b := hp.2.1; omega
  refine tw_aload rfl rfl ?_
  refine tw_virt0 rfl (g_sign hG hX (g0).1 ((mFr_T g0).trans hT) ((mFr_n g0).trans hN) ⟨hp.2.1.1, by have := hp.2.1; omega⟩) (fun wp576 hp576 p576 => ?_)
  obtain ⟨⟨cp576, rfl, kp576⟩, rfl⟩ := p576
  refine tw_istore rfl ?_
  refine tw_iload rfl rfl ?_
  refine tw_push rfl ?_
  refine tw_ic_eq rfl (fun q577 => ?_) (fun q577 => ?_)
  · try dsimp only [tvI_i, tvJ_j, tvR_r] at q577
    have q577i := zeqi (Y := 60) (by decide) q577
    refine tw_aload rfl rfl ?_
    refine tw_aload rfl rfl ?_
    refine tw_getS rfl (hi_111_28 (g0).1) ?_
    refine tw_virt1 rfl (g_counts hG hX (g0).1 hp ((mFr_T g0).trans hT) ((mFr_n g0).trans hN) (b := (ms h).1) (mPl hp) (by omega)) (fun w9 hp578 p578 => ?_)
    obtain ⟨rfl, gp578, ⟨np578, pp578e, sp578, tp578, dp578⟩ | ⟨np578, Fp578⟩, ip578, jp578⟩ := p578
    · have ggp578 := mFr_t g0 gp578
      refine tw_aload rfl rfl ?_
      refine tw_dup rfl ?_
      refine tw_getS rfl (hi_111_28 ggp578.1) ?_
      refine tw_push rfl ?_
      refine tw_iadd rfl ?_
      refine tw_put rfl (fun f579 => ?_)
      refine tG_setm f579 (hw_111_28 f579 (ggp578).1) (fun hf579 ef579 => ?_)
      try dsimp only [tvI_i] at ef579
      have gf579 := mFr_s ggp578 ef579 (by unfold mFs; omega)
      have wf579 := (sgm_k kp576 60 (by decide)).mp q577
      obtain ⟨pf579, sf579, tf579⟩ := mTo pp578e ((mFr_n ggp578).trans hN) ef579 (v := (ms h).1 + 1) (zincN (n := (ms h).1) (by rw [mPl pp578e, sp578]) (by omega)) wf579.1
      rw [sp578] at sf579
      refine tw_iload rfl rfl ?_
      refine tw_push rfl ?_
      refine tw_ic_eq rfl (fun q580 => ?_) (fun q580 => ?_)
      · try dsimp only [tvI_i, tvJ_j, tvR_r] at q580
        have q580i := zeqi (Y := 61) (by decide) q580
        exact absurd (q577.symm.trans q580) (by decide)
      · try dsimp only [tvI_i, tvJ_j, tvR_r] at q580
        have q580i := zneq (Y := 61) (by decide) q580
        refine tw_aload rfl rfl ?_
        refine tw_virt0 rfl (g_sign hG hX (gf579).1 ((mFr_T gf579).trans hT) ((mFr_n gf579).trans hN) ⟨pf579.2.1.1, by have := pf579.2.1; omega⟩) (fun wp581 hp581 p581 => ?_)
        obtain ⟨⟨cp581, rfl, kp581⟩, rfl⟩ := p581
        refine tw_push rfl ?_
        refine tw_ic_ne rfl (fun q582 => ?_) (fun q582 => ?_)
        · try dsimp only [tvI_i, tvJ_j, tvR_r] at q582
          have q582i := zneq (Y := 61) (by decide) q582
          refine tw_push rfl ?_
          refine tw_istore rfl ?_
          refine tw_aload rfl rfl ?_
          refine tw_dup rfl ?_
          refine tw_getS rfl (hi_111_28 (gf579).1) ?_
          refine tw_iload rfl rfl ?_
          refine tw_if_eq rfl (fun _ => ?_) (fun z => absurd z (by decide))
          refine tw_push rfl ?_
          refine tw_iadd rfl ?_
          refine tw_put rfl (fun f583 => ?_)
          refine tG_setm f583 (hw_111_28 f583 (gf579).1) (fun hf583 ef583 => ?_)
          try dsimp only [tvI_i] at ef583
          have gf583 := mFr_s gf579 ef583 (by unfold mFs; omega)
          obtain ⟨pf583, sf583, tf583⟩ := mTo pf579 ((mFr_n gf579).trans hN) ef583 (v := (ms h).1 + 1 + 0) (zp0 (by rw [mPl pf579, sf579]; rfl)) (by have z := mPle pf579 ((mFr_n gf579).trans hN); rw [sf579] at z; exact z)
          rw [sf579] at sf583
          refine tw_iload rfl rfl ?_
          refine tw_push rfl ?_
          refine tw_ic_ne rfl (fun q584 => ?_) (fun q584 => ?_)
          · try dsimp only [tvI_i, tvJ_j, tvR_r] at q584
            have q584i := zneq (Y := 61) (by decide) q584
            refine tw_iload rfl rfl ?_
            refine tw_push rfl ?_
            refine tw_ic_ne rfl (fun q585 => ?_) (fun q585 => ?_)
            · try dsimp only [tvI_i, tvJ_j, tvR_r] at q585
              have q585i := zneq (Y := 60) (by decide) q585
              exact absurd q577 q585
            · try dsimp only [tvI_i, tvJ_j, tvR_r] at q585
              have q585i := zeqi (Y := 60) (by decide) q585
              refine tw_iload rfl rfl ?_
              refine tw_if_eq rfl (fun _ => ?_) (fun z => absurd z (by decide))
              refine tw_push rfl ?_
              refine tw_goto rfl ?_
              have w9 := (sgm_k kp576 60 (by decide)).mp q577
              have hk2 := sgm_k kp581 61 (by decide)
              rw [sf579] at hk2
              have hk2 : _ ↔ ((ms h).1 + 1 < n ∧ T ((ms h).1 + 1) = 61) := hk2
              have hq9 := (cm60 w9).trans (if_neg (fun z => q582 (hk2.mpr z)))
              exact tw_iret rfl ⟨gf583, Or.inr ⟨(100103, (ms h).1 + 1), hq9, Or.inl ⟨np578, ⟨5, rfl, cmw (k := 5) (C := 100103) rfl rfl⟩, pf583, sf583, tf583.trans (tf579.trans tp578), (mI_o ef583 (by decide)).trans ((mI_o ef579 (by decide)).trans dp578)⟩⟩⟩
          · try dsimp only [tvI_i, tvJ_j, tvR_r] at q584
            have q584i := zeqi (Y := 61) (by decide) q584
            exact absurd (q577.symm.trans q584) (by decide)
        · try dsimp only [tvI_i, tvJ_j, tvR_r] at q582
          have q582i := zeqi (Y := 61) (by decide) q582
          refine tw_push rfl ?_
          refine tw_goto rfl ?_
          refine tw_istore rfl ?_
          refine tw_aload rfl rfl ?_
          refine tw_dup rfl ?_
          refine tw_getS rfl (hi_111_28 (gf579).1) ?_
          refine tw_iload rfl rfl ?_
          refine tw_if_eq rfl (fun z => absurd z (by decide)) (fun _ => ?_)
          refine tw_push rfl ?_
          refine tw_goto rfl ?_
          refine tw_iadd rfl ?_
          refine tw_put rfl (fun f586 => ?_)
          refine tG_setm f586 (hw_111_28 f586 (gf579).1) (fun hf586 ef586 => ?_)
          try dsimp only [tvI_i] at ef586
          have gf586 := mFr_s gf579 ef586 (by unfold mFs; omega)
          have vf586 := (sgm_k kp581 61 (by decide)).mp q582
          rw [sf579] at vf586
          have vf586 : (ms h).1 + 1 < n ∧ T ((ms h).1 + 1) = 61 := vf586
          obtain ⟨pf586, sf586, tf586⟩ := mTo pf579 ((mFr_n gf579).trans hN) ef586 (v := (ms h).1 + 1 + 1) (zincN (n := (ms h).1 + 1) (by rw [mPl pf579, sf579]; rfl) (by omega)) (by omega)
          rw [sf579] at sf586
          refine tw_iload rfl rfl ?_
          refine tw_push rfl ?_
          refine tw_ic_ne rfl (fun q587 => ?_) (fun q587 => ?_)
          · try dsimp only [tvI_i, tvJ_j, tvR_r] at q587
            have q587i := zneq (Y := 61) (by decide) q587
            refine tw_iload rfl rfl ?_
            refine tw_push rfl ?_
            refine tw_ic_ne rfl (fun q588 => ?_) (fun q588 => ?_)
            · try dsimp only [tvI_i, tvJ_j, tvR_r] at q588
              have q588i := zneq (Y := 60) (by decide) q588
              exact absurd q577 q588
            · try dsimp only [tvI_i, tvJ_j, tvR_r] at q588
              have q588i := zeqi (Y := 60) (by decide) q588
              refine tw_iload rfl rfl ?_
              refine tw_if_eq rfl (fun z => absurd z (by decide)) (fun _ => ?_)
              refine tw_push rfl ?_
              refine tw_goto rfl ?_
              have w9 := (sgm_k kp576 60 (by decide)).mp q577
              have hk2 := sgm_k kp581 61 (by decide)
              rw [sf579] at hk2
              have hk2 : _ ↔ ((ms h).1 + 1 < n ∧ T ((ms h).1 + 1) = 61) := hk2
              have hq9 := (cm60 w9).trans (if_pos (hk2.mp q582))
              exact tw_iret rfl ⟨gf586, Or.inr ⟨(100104, (ms h).1 + 2), hq9, Or.inl ⟨np578, ⟨6, rfl, cmw (k := 6) (C := 100104) rfl rfl⟩, pf586, sf586, tf586.trans (tf579.trans tp578), (mI_o ef586 (by decide)).trans ((mI_o ef579 (by decide)).trans dp578)⟩⟩⟩
          · try dsimp only [tvI_i, tvJ_j, tvR_r] at q587
            have q587i := zeqi (Y := 61) (by decide) q587
            exact absurd (q577.symm.trans q587) (by decide)
    · have ggp578 := mFr_t g0 gp578
      refine tw_aload rfl rfl ?_
      refine tw_dup rfl ?_
      refine tw_getS rfl (hi_111_28 ggp578.1) ?_
      refine tw_push rfl ?_
      refine tw_iadd rfl ?_
      refine tw_put rfl (fun f589 => ?_)
      refine tG_setm f589 (hw_111_28 f589 (ggp578).1) (fun hf589 ef589 => ?_)
      try dsimp only [tvI_i] at ef589
      have gf589 := mFr_s ggp578 ef589 (by unfold mFs; omega)
      have zf589 := mFt_s Fp578 ef589 (by decide)
      have ZBf589 : mZp hp578 := mZp_k (mZp_p hp) ip578 jp578
      have yf589 : (tvI (tF hp578 111 28) + 1).toInt = (((ms h).1 + 1 : Nat) : Int) := zp1 (by rw [ip578]; exact mPl hp) (by omega)
      have Zf589 : mZp hf589 := mZp_s ZBf589 ef589 (by omega)
      refine tw_iload rfl rfl ?_
      refine tw_push rfl ?_
      refine tw_ic_eq rfl (fun q590 => ?_) (fun q590 => ?_)
      · try dsimp only [tvI_i, tvJ_j, tvR_r] at q590
        have q590i := zeqi (Y := 61) (by decide) q590
        exact absurd (q577.symm.trans q590) (by decide)
      · try dsimp only [tvI_i, tvJ_j, tvR_r] at q590
        have q590i := zneq (Y := 61) (by decide) q590
        refine tw_aload rfl rfl ?_
        refine tw_virt0 rfl (g_sign hG hX (gf589).1 ((mFr_T gf589).trans hT) ((mFr_n gf589).trans hN) Zf589.1) (fun wp591 hp591 p591 => ?_)
        obtain ⟨⟨cp591, rfl, kp591⟩, rfl⟩ := p591
        refine tw_push rfl ?_
        refine tw_ic_ne rfl (fun q592 => ?_) (fun q592 => ?_)
        · try dsimp only [tvI_i, tvJ_j, tvR_r] at q592
          have q592i := zneq (Y := 61) (by decide) q592
          refine tw_push rfl ?_
          refine tw_istore rfl ?_
          refine tw_aload rfl rfl ?_
          refine tw_dup rfl ?_
          refine tw_getS rfl (hi_111_28 (gf589).1) ?_
          refine tw_iload rfl rfl ?_
          refine tw_if_eq rfl (fun _ => ?_) (fun z => absurd z (by decide))
          refine tw_push rfl ?_
          refine tw_iadd rfl ?_
          refine tw_put rfl (fun f593 => ?_)
          refine tG_setm f593 (hw_111_28 f593 (gf589).1) (fun hf593 ef593 => ?_)
          try dsimp only [tvI_i] at ef593
          have gf593 := mFr_s gf589 ef593 (by unfold mFs; omega)
          have zf593 := mFt_s zf589 ef593 (by decide)
          have xf593 : (tvI (tF hf589 111 28)).toInt = (((ms h).1 + 1 : Nat) : Int) := by rw [mI_x ef589]; exact yf589
          have Zf593 : mZp hf593 := mZp_s Zf589 ef593 (by have y := zp0 xf593; omega)
          refine tw_iload rfl rfl ?_
          refine tw_push rfl ?_
          refine tw_ic_ne rfl (fun q594 => ?_) (fun q594 => ?_)
          · try dsimp only [tvI_i, tvJ_j, tvR_r] at q594
            have q594i := zneq (Y := 61) (by decide) q594
            refine tw_iload rfl rfl ?_
            refine tw_push rfl ?_
            refine tw_ic_ne rfl (fun q595 => ?_) (fun q595 => ?_)
            · try dsimp only [tvI_i, tvJ_j, tvR_r] at q595
              have q595i := zneq (Y := 60) (by decide) q595
              exact absurd q577 q595
            · try dsimp only [tvI_i, tvJ_j, tvR_r] at q595
              have q595i := zeqi (Y := 60) (by decide) q595
              refine tw_iload rfl rfl ?_
              refine tw_if_eq rfl (fun _ => ?_) (fun z => absurd z (by decide))
              refine tw_push rfl ?_
              refine tw_goto rfl ?_
              have w9 := (sgm_k kp576 60 (by decide)).mp q577
              obtain ⟨q9, hq9⟩ := cm_s (Or.inr (Or.inl w9))
              exact tw_iret rfl ⟨gf593, Or.inr ⟨q9, hq9, Or.inr ⟨np578, _, rfl, by decide, by decide, zf593, Zf593⟩⟩⟩
          · try dsimp only [tvI_i, tvJ_j, tvR_r] at q594
            have q594i := zeqi (Y := 61) (by decide) q594
            exact absurd (q577.symm.trans q594) (by decide)
        · try dsimp only [tvI_i, tvJ_j, tvR_r] at q592
          have q592i := zeqi (Y := 61) (by decide) q592
          refine tw_push rfl ?_
          refine tw_goto rfl ?_
          refine tw_istore rfl ?_
          refine tw_aload rfl rfl ?_
          refine tw_dup rfl ?_
          refine tw_getS rfl (hi_111_28 (gf589).1) ?_
          refine tw_iload rfl rfl ?_
          refine tw_if_eq rfl (fun z => absurd z (by decide)) (fun _ => ?_)
          refine tw_push rfl ?_
          refine tw_goto rfl ?_
          refine tw_iadd rfl ?_
          refine tw_put rfl (fun f596 => ?_)
          refine tG_setm f596 (hw_111_28 f596 (gf589).1) (fun hf596 ef596 => ?_)
          try dsimp only [tvI_i] at ef596
          have gf596 := mFr_s gf589 ef596 (by unfold mFs; omega)
          have zf596 := mFt_s zf589 ef596 (by decide)
          have xf596 : (tvI (tF hf589 111 28)).toInt = (((ms h).1 + 1 : Nat) : Int) := by rw [mI_x ef589]; exact yf589
          have Zf596 : mZp hf596 := mZp_s Zf589 ef596 (by have y := zp1 xf596 (by omega); omega)
          refine tw_iload rfl rfl ?_
          refine tw_push rfl ?_
          refine tw_ic_ne rfl (fun q597 => ?_) (fun q597 => ?_)
          · try dsimp only [tvI_i, tvJ_j, tvR_r] at q597
            have q597i := zneq (Y := 61) (by decide) q597
            refine tw_iload rfl rfl ?_
            refine tw_push rfl ?_
            refine tw_ic_ne rfl (fun q598 => ?_) (fun q598 => ?_)
            · try dsimp only [tvI_i, tvJ_j, tvR_r] at q598
              have q598i := zneq (Y := 60) (by decide) q598
              exact absurd q577 q598
            · try dsimp only [tvI_i, tvJ_j, tvR_r] at q598
              have q598i := zeqi (Y := 60) (by decide) q598
              refine tw_iload rfl rfl ?_
              refine tw_if_eq rfl (fun z => absurd z (by decide)) (fun _ => ?_)
              refine tw_push rfl ?_
              refine tw_goto rfl ?_
              have w9 := (sgm_k kp576 60 (by decide)).mp q577
              obtain ⟨q9, hq9⟩ := cm_s (Or.inr (Or.inl w9))
              exact tw_iret rfl ⟨gf596, Or.inr ⟨q9, hq9, Or.inr ⟨np578, _, rfl, by decide, by decide, zf596, Zf596⟩⟩⟩
          · try dsimp only [tvI_i, tvJ_j, tvR_r] at q597
            have q597i := zeqi (Y := 61) (by decide) q597
            exact absurd (q577.symm.trans q597) (by decide)
  · try dsimp only [tvI_i, tvJ_j, tvR_r] at q577
    have q577i := zneq (Y := 60) (by decide) q577
    refine tw_iload rfl rfl ?_
    refine tw_push rfl ?_
    refine tw_ic_eq rfl (fun q599 => ?_) (fun q599 => ?_)
    · try dsimp only [tvI_i, tvJ_j, tvR_r] at q599
      have q599i := zeqi (Y := 62) (by decide) q599
      refine tw_aload rfl rfl ?_
      refine tw_aload rfl rfl ?_
      refine tw_getS rfl (hi_111_28 (g0).1) ?_
      refine tw_virt1 rfl (g_counts hG hX (g0).1 hp ((mFr_T g0).trans hT) ((mFr_n g0).trans hN) (b := (ms h).1) (mPl hp) (by omega)) (fun w9 hp600 p600 => ?_)
      obtain ⟨rfl, gp600, ⟨np600, pp600e, sp600, tp600, dp600⟩ | ⟨np600, Fp600⟩, ip600, jp600⟩ := p600
      · have ggp600 := mFr_t g0 gp600
        refine tw_aload rfl rfl ?_
        refine tw_dup rfl ?_
        refine tw_getS rfl (hi_111_28 ggp600.1) ?_
        refine tw_push rfl ?_
        refine tw_iadd rfl ?_
        refine tw_put rfl (fun f601 => ?_)
        refine tG_setm f601 (hw_111_28 f601 (ggp600).1) (fun hf601 ef601 => ?_)
        try dsimp only [tvI_i] at ef601
        have gf601 := mFr_s ggp600 ef601 (by unfold mFs; omega)
        have wf601 := (sgm_k kp576 62 (by decide)).mp q599
        obtain ⟨pf601, sf601, tf601⟩ := mTo pp600e ((mFr_n ggp600).trans hN) ef601 (v := (ms h).1 + 1) (zincN (n := (ms h).1) (by rw [mPl pp600e, sp600]) (by omega)) wf601.1
        rw [sp600] at sf601
        refine tw_iload rfl rfl ?_
        refine tw_push rfl ?_
        refine tw_ic_eq rfl (fun q602 => ?_) (fun q602 => ?_)
        · try dsimp only [tvI_i, tvJ_j, tvR_r] at q602
          have q602i := zeqi (Y := 61) (by decide) q602
          exact absurd (q599.symm.trans q602) (by decide)
        · try dsimp only [tvI_i, tvJ_j, tvR_r] at q602
          have q602i := zneq (Y := 61) (by decide) q602
          refine tw_aload rfl rfl ?_
          refine tw_virt0 rfl (g_sign hG hX (gf601).1 ((mFr_T gf601).trans hT) ((mFr_n gf601).trans hN) ⟨pf601.2.1.1, by have := pf601.2.1; omega⟩) (fun wp603 hp603 p603 => ?_)
          obtain ⟨⟨cp603, rfl, kp603⟩, rfl⟩ := p603
          refine tw_push rfl ?_
          refine tw_ic_ne rfl (fun q604 => ?_) (fun q604 => ?_)
          · try dsimp only [tvI_i, tvJ_j, tvR_r] at q604
            have q604i := zneq (Y := 61) (by decide) q604
            refine tw_push rfl ?_
            refine tw_istore rfl ?_
            refine tw_aload rfl rfl ?_
            refine tw_dup rfl ?_
            refine tw_getS rfl (hi_111_28 (gf601).1) ?_
            refine tw_iload rfl rfl ?_
            refine tw_if_eq rfl (fun _ => ?_) (fun z => absurd z (by decide))
            refine tw_push rfl ?_
            refine tw_iadd rfl ?_
            refine tw_put rfl (fun f605 => ?_)
            refine tG_setm f605 (hw_111_28 f605 (gf601).1) (fun hf605 ef605 => ?_)
            try dsimp only [tvI_i] at ef605
            have gf605 := mFr_s gf601 ef605 (by unfold mFs; omega)
            obtain ⟨pf605, sf605, tf605⟩ := mTo pf601 ((mFr_n gf601).trans hN) ef605 (v := (ms h).1 + 1 + 0) (zp0 (by rw [mPl pf601, sf601]; rfl)) (by have z := mPle pf601 ((mFr_n gf601).trans hN); rw [sf601] at z; exact z)
            rw [sf601] at sf605
            refine tw_iload rfl rfl ?_
            refine tw_push rfl ?_
            refine tw_ic_ne rfl (fun q606 => ?_) (fun q606 => ?_)
            · try dsimp only [tvI_i, tvJ_j, tvR_r] at q606
              have q606i := zneq (Y := 61) (by decide) q606
              refine tw_iload rfl rfl ?_
              refine tw_push rfl ?_
              refine tw_ic_ne rfl (fun q607 => ?_) (fun q607 => ?_)
              · try dsimp only [tvI_i, tvJ_j, tvR_r] at q607
                have q607i := zneq (Y := 60) (by decide) q607
                refine tw_iload rfl rfl ?_
                refine tw_if_eq rfl (fun _ => ?_) (fun z => absurd z (by decide))
                refine tw_push rfl ?_
                have w9 := (sgm_k kp576 62 (by decide)).mp q599
                have hk2 := sgm_k kp603 61 (by decide)
                rw [sf601] at hk2
                have hk2 : _ ↔ ((ms h).1 + 1 < n ∧ T ((ms h).1 + 1) = 61) := hk2
                have hq9 := (cm62 w9).trans (if_neg (fun z => q604 (hk2.mpr z)))
                exact tw_iret rfl ⟨gf605, Or.inr ⟨(100107, (ms h).1 + 1), hq9, Or.inl ⟨np600, ⟨9, rfl, cmw (k := 9) (C := 100107) rfl rfl⟩, pf605, sf605, tf605.trans (tf601.trans tp600), (mI_o ef605 (by decide)).trans ((mI_o ef601 (by decide)).trans dp600)⟩⟩⟩
              · try dsimp only [tvI_i, tvJ_j, tvR_r] at q607
                have q607i := zeqi (Y := 60) (by decide) q607
                exact absurd (q599.symm.trans q607) (by decide)
            · try dsimp only [tvI_i, tvJ_j, tvR_r] at q606
              have q606i := zeqi (Y := 61) (by decide) q606
              exact absurd (q599.symm.trans q606) (by decide)
          · try dsimp only [tvI_i, tvJ_j, tvR_r] at q604
            have q604i := zeqi (Y := 61) (by decide) q604
            refine tw_push rfl ?_
            refine tw_goto rfl ?_
            refine tw_istore rfl ?_
            refine tw_aload rfl rfl ?_
            refine tw_dup rfl ?_
            refine tw_getS rfl (hi_111_28 (gf601).1) ?_
            refine tw_iload rfl rfl ?_
            refine tw_if_eq rfl (fun z => absurd z (by decide)) (fun _ => ?_)
            refine tw_push rfl ?_
            refine tw_goto rfl ?_
            refine tw_iadd rfl ?_
            refine tw_put rfl (fun f608 => ?_)
            refine tG_setm f608 (hw_111_28 f608 (gf601).1) (fun hf608 ef608 => ?_)
            try dsimp only [tvI_i] at ef608
            have gf608 := mFr_s gf601 ef608 (by unfold mFs; omega)
            have vf608 := (sgm_k kp603 61 (by decide)).mp q604
            rw [sf601] at vf608
            have vf608 : (ms h).1 + 1 < n ∧ T ((ms h).1 + 1) = 61 := vf608
            obtain ⟨pf608, sf608, tf608⟩ := mTo pf601 ((mFr_n gf601).trans hN) ef608 (v := (ms h).1 + 1 + 1) (zincN (n := (ms h).1 + 1) (by rw [mPl pf601, sf601]; rfl) (by omega)) (by omega)
            rw [sf601] at sf608
            refine tw_iload rfl rfl ?_
            refine tw_push rfl ?_
            refine tw_ic_ne rfl (fun q609 => ?_) (fun q609 => ?_)
            · try dsimp only [tvI_i, tvJ_j, tvR_r] at q609
              have q609i := zneq (Y := 61) (by decide) q609
              refine tw_iload rfl rfl ?_
              refine tw_push rfl ?_
              refine tw_ic_ne rfl (fun q610 => ?_) (fun q610 => ?_)
              · try dsimp only [tvI_i, tvJ_j, tvR_r] at q610
                have q610i := zneq (Y := 60) (by decide) q610
                refine tw_iload rfl rfl ?_
                refine tw_if_eq rfl (fun z => absurd z (by decide)) (fun _ => ?_)
                refine tw_push rfl ?_
                refine tw_goto rfl ?_
                have w9 := (sgm_k kp576 62 (by decide)).mp q599
                have hk2 := sgm_k kp603 61 (by decide)
                rw [sf601] at hk2
                have hk2 : _ ↔ ((ms h).1 + 1 < n ∧ T ((ms h).1 + 1) = 61) := hk2
                have hq9 := (cm62 w9).trans (if_pos (hk2.mp q604))
                exact tw_iret rfl ⟨gf608, Or.inr ⟨(100106, (ms h).1 + 2), hq9, Or.inl ⟨np600, ⟨8, rfl, cmw (k := 8) (C := 100106) rfl rfl⟩, pf608, sf608, tf608.trans (tf601.trans tp600), (mI_o ef608 (by decide)).trans ((mI_o ef601 (by decide)).trans dp600)⟩⟩⟩
              · try dsimp only [tvI_i, tvJ_j, tvR_r] at q610
                have q610i := zeqi (Y := 60) (by decide) q610
                exact absurd (q599.symm.trans q610) (by decide)
            · try dsimp only [tvI_i, tvJ_j, tvR_r] at q609
              have q609i := zeqi (Y := 61) (by decide) q609
              exact absurd (q599.symm.trans q609) (by decide)
      · have ggp600 := mFr_t g0 gp600
        refine tw_aload rfl rfl ?_
        refine tw_dup rfl ?_
        refine tw_getS rfl (hi_111_28 ggp600.1) ?_
        refine tw_push rfl ?_
        refine tw_iadd rfl ?_
        refine tw_put rfl (fun f611 => ?_)
        refine tG_setm f611 (hw_111_28 f611 (ggp600).1) (fun hf611 ef611 => ?_)
        try dsimp only [tvI_i] at ef611
        have gf611 := mFr_s ggp600 ef611 (by unfold mFs; omega)
        have zf611 := mFt_s Fp600 ef611 (by decide)
        have ZBf611 : mZp hp600 := mZp_k (mZp_p hp) ip600 jp600
        have yf611 : (tvI (tF hp600 111 28) + 1).toInt = (((ms h).1 + 1 : Nat) : Int) := zp1 (by rw [ip600]; exact mPl hp) (by omega)
        have Zf611 : mZp hf611 := mZp_s ZBf611 ef611 (by omega)
        refine tw_iload rfl rfl ?_
        refine tw_push rfl ?_
        refine tw_ic_eq rfl (fun q612 => ?_) (fun q612 => ?_)
        · try dsimp only [tvI_i, tvJ_j, tvR_r] at q612
          have q612i := zeqi (Y := 61) (by decide) q612
          exact absurd (q599.symm.trans q612) (by decide)
        · try dsimp only [tvI_i, tvJ_j, tvR_r] at q612
          have q612i := zneq (Y := 61) (by decide) q612
          refine tw_aload rfl rfl ?_
          refine tw_virt0 rfl (g_sign hG hX (gf611).1 ((mFr_T gf611).trans hT) ((mFr_n gf611).trans hN) Zf611.1) (fun wp613 hp613 p613 => ?_)
          obtain ⟨⟨cp613, rfl, kp613⟩, rfl⟩ := p613
          refine tw_push rfl ?_
          refine tw_ic_ne rfl (fun q614 => ?_) (fun q614 => ?_)
          · try dsimp only [tvI_i, tvJ_j, tvR_r] at q614
            have q614i := zneq (Y := 61) (by decide) q614
            refine tw_push rfl ?_
            refine tw_istore rfl ?_
            refine tw_aload rfl rfl ?_
            refine tw_dup rfl ?_
            refine tw_getS rfl (hi_111_28 (gf611).1) ?_
            refine tw_iload rfl rfl ?_
            refine tw_if_eq rfl (fun _ => ?_) (fun z => absurd z (by decide))
            refine tw_push rfl ?_
            refine tw_iadd rfl ?_
            refine tw_put rfl (fun f615 => ?_)
            refine tG_setm f615 (hw_111_28 f615 (gf611).1) (fun hf615 ef615 => ?_)
            try dsimp only [tvI_i] at ef615
            have gf615 := mFr_s gf611 ef615 (by unfold mFs; omega)
            have zf615 := mFt_s zf611 ef615 (by decide)
            have xf615 : (tvI (tF hf611 111 28)).toInt = (((ms h).1 + 1 : Nat) : Int) := by rw [mI_x ef611]; exact yf611
            have Zf615 : mZp hf615 := mZp_s Zf611 ef615 (by have y := zp0 xf615; omega)
            refine tw_iload rfl rfl ?_
            refine tw_push rfl ?_
            refine tw_ic_ne rfl (fun q616 => ?_) (fun q616 => ?_)
            · try dsimp only [tvI_i, tvJ_j, tvR_r] at q616
              have q616i := zneq (Y := 61) (by decide) q616
              refine tw_iload rfl rfl ?_
              refine tw_push rfl ?_
              refine tw_ic_ne rfl (fun q617 => ?_) (fun q617 => ?_)
              · try dsimp only [tvI_i, tvJ_j, tvR_r] at q617
                have q617i := zneq (Y := 60) (by decide) q617
                refine tw_iload rfl rfl ?_
                refine tw_if_eq rfl (fun _ => ?_) (fun z => absurd z (by decide))
                refine tw_push rfl ?_
                have w9 := (sgm_k kp576 62 (by decide)).mp q599
                obtain ⟨q9, hq9⟩ := cm_s (Or.inr (Or.inr w9))
                exact tw_iret rfl ⟨gf615, Or.inr ⟨q9, hq9, Or.inr ⟨np600, _, rfl, by decide, by decide, zf615, Zf615⟩⟩⟩
              · try dsimp only [tvI_i, tvJ_j, tvR_r] at q617
                have q617i := zeqi (Y := 60) (by decide) q617
                exact absurd (q599.symm.trans q617) (by decide)
            · try dsimp only [tvI_i, tvJ_j, tvR_r] at q616
              have q616i := zeqi (Y := 61) (by decide) q616
              exact absurd (q599.symm.trans q616) (by decide)
          · try dsimp only [tvI_i, tvJ_j, tvR_r] at q614
            have q614i := zeqi (Y := 61) (by decide) q614
            refine tw_push rfl ?_
            refine tw_goto rfl ?_
            refine tw_istore rfl ?_
            refine tw_aload rfl rfl ?_
            refine tw_dup rfl ?_
            refine tw_getS rfl (hi_111_28 (gf611).1) ?_
            refine tw_iload rfl rfl ?_
            refine tw_if_eq rfl (fun z => absurd z (by decide)) (fun _ => ?_)
            refine tw_push rfl ?_
            refine tw_goto rfl ?_
            refine tw_iadd rfl ?_
            refine tw_put rfl (fun f618 => ?_)
            refine tG_setm f618 (hw_111_28 f618 (gf611).1) (fun hf618 ef618 => ?_)
            try dsimp only [tvI_i] at ef618
            have gf618 := mFr_s gf611 ef618 (by unfold mFs; omega)
            have zf618 := mFt_s zf611 ef618 (by decide)
            have xf618 : (tvI (tF hf611 111 28)).toInt = (((ms h).1 + 1 : Nat) : Int) := by rw [mI_x ef611]; exact yf611
            have Zf618 : mZp hf618 := mZp_s Zf611 ef618 (by have y := zp1 xf618 (by omega); omega)
            refine tw_iload rfl rfl ?_
            refine tw_push rfl ?_
            refine tw_ic_ne rfl (fun q619 => ?_) (fun q619 => ?_)
            · try dsimp only [tvI_i, tvJ_j, tvR_r] at q619
              have q619i := zneq (Y := 61) (by decide) q619
              refine tw_iload rfl rfl ?_
              refine tw_push rfl ?_
              refine tw_ic_ne rfl (fun q620 => ?_) (fun q620 => ?_)
              · try dsimp only [tvI_i, tvJ_j, tvR_r] at q620
                have q620i := zneq (Y := 60) (by decide) q620
                refine tw_iload rfl rfl ?_
                refine tw_if_eq rfl (fun z => absurd z (by decide)) (fun _ => ?_)
                refine tw_push rfl ?_
                refine tw_goto rfl ?_
                have w9 := (sgm_k kp576 62 (by decide)).mp q599
                obtain ⟨q9, hq9⟩ := cm_s (Or.inr (Or.inr w9))
                exact tw_iret rfl ⟨gf618, Or.inr ⟨q9, hq9, Or.inr ⟨np600, _, rfl, by decide, by decide, zf618, Zf618⟩⟩⟩
              · try dsimp only [tvI_i, tvJ_j, tvR_r] at q620
                have q620i := zeqi (Y := 60) (by decide) q620
                exact absurd (q599.symm.trans q620) (by decide)
            · try dsimp only [tvI_i, tvJ_j, tvR_r] at q619
              have q619i := zeqi (Y := 61) (by decide) q619
              exact absurd (q599.symm.trans q619) (by decide)
    · try dsimp only [tvI_i, tvJ_j, tvR_r] at q599
      have q599i := zneq (Y := 62) (by decide) q599
      refine tw_iload rfl rfl ?_
      refine tw_push rfl ?_
      refine tw_ic_eq rfl (fun q621 => ?_) (fun q621 => ?_)
      · try dsimp only [tvI_i, tvJ_j, tvR_r] at q621
        have q621i := zeqi (Y := 61) (by decide) q621
        refine tw_aload rfl rfl ?_
        refine tw_aload rfl rfl ?_
        refine tw_getS rfl (hi_111_28 (g0).1) ?_
        refine tw_virt1 rfl (g_counts hG hX (g0).1 hp ((mFr_T g0).trans hT) ((mFr_n g0).trans hN) (b := (ms h).1) (mPl hp) (by omega)) (fun w9 hp622 p622 => ?_)
        obtain ⟨rfl, gp622, ⟨np622, pp622e, sp622, tp622, dp622⟩ | ⟨np622, Fp622⟩, ip622, jp622⟩ := p622
        · have ggp622 := mFr_t g0 gp622
          refine tw_aload rfl rfl ?_
          refine tw_dup rfl ?_
          refine tw_getS rfl (hi_111_28 ggp622.1) ?_
          refine tw_push rfl ?_
          refine tw_iadd rfl ?_
          refine tw_put rfl (fun f623 => ?_)
          refine tG_setm f623 (hw_111_28 f623 (ggp622).1) (fun hf623 ef623 => ?_)
          try dsimp only [tvI_i] at ef623
          have gf623 := mFr_s ggp622 ef623 (by unfold mFs; omega)
          have wf623 := (sgm_k kp576 61 (by decide)).mp q621
          obtain ⟨pf623, sf623, tf623⟩ := mTo pp622e ((mFr_n ggp622).trans hN) ef623 (v := (ms h).1 + 1) (zincN (n := (ms h).1) (by rw [mPl pp622e, sp622]) (by omega)) wf623.1
          rw [sp622] at sf623
          refine tw_iload rfl rfl ?_
          refine tw_push rfl ?_
          refine tw_ic_eq rfl (fun q624 => ?_) (fun q624 => ?_)
          · try dsimp only [tvI_i, tvJ_j, tvR_r] at q624
            have q624i := zeqi (Y := 61) (by decide) q624
            refine tw_push rfl ?_
            refine tw_istore rfl ?_
            refine tw_aload rfl rfl ?_
            refine tw_dup rfl ?_
            refine tw_getS rfl (hi_111_28 (gf623).1) ?_
            refine tw_iload rfl rfl ?_
            refine tw_if_eq rfl (fun _ => ?_) (fun z => absurd z (by decide))
            refine tw_push rfl ?_
            refine tw_iadd rfl ?_
            refine tw_put rfl (fun f625 => ?_)
            refine tG_setm f625 (hw_111_28 f625 (gf623).1) (fun hf625 ef625 => ?_)
            try dsimp only [tvI_i] at ef625
            have gf625 := mFr_s gf623 ef625 (by unfold mFs; omega)
            obtain ⟨pf625, sf625, tf625⟩ := mTo pf623 ((mFr_n gf623).trans hN) ef625 (v := (ms h).1 + 1 + 0) (zp0 (by rw [mPl pf623, sf623]; rfl)) (by have z := mPle pf623 ((mFr_n gf623).trans hN); rw [sf623] at z; exact z)
            rw [sf623] at sf625
            refine tw_iload rfl rfl ?_
            refine tw_push rfl ?_
            refine tw_ic_ne rfl (fun q626 => ?_) (fun q626 => ?_)
            · try dsimp only [tvI_i, tvJ_j, tvR_r] at q626
              have q626i := zneq (Y := 61) (by decide) q626
              exact absurd q621 q626
            · try dsimp only [tvI_i, tvJ_j, tvR_r] at q626
              have q626i := zeqi (Y := 61) (by decide) q626
              refine tw_push rfl ?_
              refine tw_goto rfl ?_
              have w9 := (sgm_k kp576 61 (by decide)).mp q621
              have hq9 := cm61 w9
              exact tw_iret rfl ⟨gf625, Or.inr ⟨(100105, (ms h).1 + 1), hq9, Or.inl ⟨np622, ⟨7, rfl, cmw (k := 7) (C := 100105) rfl rfl⟩, pf625, sf625, tf625.trans (tf623.trans tp622), (mI_o ef625 (by decide)).trans ((mI_o ef623 (by decide)).trans dp622)⟩⟩⟩
          · try dsimp only [tvI_i, tvJ_j, tvR_r] at q624
            have q624i := zneq (Y := 61) (by decide) q624
            exact absurd q621 q624
        · have ggp622 := mFr_t g0 gp622
          refine tw_aload rfl rfl ?_
          refine tw_dup rfl ?_
          refine tw_getS rfl (hi_111_28 ggp622.1) ?_
          refine tw_push rfl ?_
          refine tw_iadd rfl ?_
          refine tw_put rfl (fun f627 => ?_)
          refine tG_setm f627 (hw_111_28 f627 (ggp622).1) (fun hf627 ef627 => ?_)
          try dsimp only [tvI_i] at ef627
          have gf627 := mFr_s ggp622 ef627 (by unfold mFs; omega)
          have zf627 := mFt_s Fp622 ef627 (by decide)
          have ZBf627 : mZp hp622 := mZp_k (mZp_p hp) ip622 jp622
          have yf627 : (tvI (tF hp622 111 28) + 1).toInt = (((ms h).1 + 1 : Nat) : Int) := zp1 (by rw [ip622]; exact mPl hp) (by omega)
          have Zf627 : mZp hf627 := mZp_s ZBf627 ef627 (by omega)
          refine tw_iload rfl rfl ?_
          refine tw_push rfl ?_
          refine tw_ic_eq rfl (fun q628 => ?_) (fun q628 => ?_)
          · try dsimp only [tvI_i, tvJ_j, tvR_r] at q628
            have q628i := zeqi (Y := 61) (by decide) q628
            refine tw_push rfl ?_
            refine tw_istore rfl ?_
            refine tw_aload rfl rfl ?_
            refine tw_dup rfl ?_
            refine tw_getS rfl (hi_111_28 (gf627).1) ?_
            refine tw_iload rfl rfl ?_
            refine tw_if_eq rfl (fun _ => ?_) (fun z => absurd z (by decide))
            refine tw_push rfl ?_
            refine tw_iadd rfl ?_
            refine tw_put rfl (fun f629 => ?_)
            refine tG_setm f629 (hw_111_28 f629 (gf627).1) (fun hf629 ef629 => ?_)
            try dsimp only [tvI_i] at ef629
            have gf629 := mFr_s gf627 ef629 (by unfold mFs; omega)
            have zf629 := mFt_s zf627 ef629 (by decide)
            have xf629 : (tvI (tF hf627 111 28)).toInt = (((ms h).1 + 1 : Nat) : Int) := by rw [mI_x ef627]; exact yf627
            have Zf629 : mZp hf629 := mZp_s Zf627 ef629 (by have y := zp0 xf629; omega)
            refine tw_iload rfl rfl ?_
            refine tw_push rfl ?_
            refine tw_ic_ne rfl (fun q630 => ?_) (fun q630 => ?_)
            · try dsimp only [tvI_i, tvJ_j, tvR_r] at q630
              have q630i := zneq (Y := 61) (by decide) q630
              exact absurd q621 q630
            · try dsimp only [tvI_i, tvJ_j, tvR_r] at q630
              have q630i := zeqi (Y := 61) (by decide) q630
              refine tw_push rfl ?_
              refine tw_goto rfl ?_
              have w9 := (sgm_k kp576 61 (by decide)).mp q621
              obtain ⟨q9, hq9⟩ := cm_s (Or.inl w9)
              exact tw_iret rfl ⟨gf629, Or.inr ⟨q9, hq9, Or.inr ⟨np622, _, rfl, by decide, by decide, zf629, Zf629⟩⟩⟩
          · try dsimp only [tvI_i, tvJ_j, tvR_r] at q628
            have q628i := zneq (Y := 61) (by decide) q628
            exact absurd q621 q628
      · try dsimp only [tvI_i, tvJ_j, tvR_r] at q621
        have q621i := zneq (Y := 61) (by decide) q621
        refine tw_push rfl ?_
        exact tw_iret rfl ⟨g0, Or.inl ⟨cm_n (fun z => q621 ((sgm_k kp576 61 (by decide)).mpr z)) (fun z => q577 ((sgm_k kp576 60 (by decide)).mpr z)) (fun z => q599 ((sgm_k kp576 62 (by decide)).mpr z)), rfl, rfl⟩⟩
