theorem zd1 {x : Int32} {d : Nat} (hx : x.toInt = d) (hd : d ≤ 10) : (x + 1).toInt = ((d + 1 : Nat) : Int) := zincN hx (by omega)
theorem wrd_k {T : Nat → Int32} {n b k : Nat} {i : Int32} (w : wrd T n b i) (hk : k < 20) {K : Int32} (hK : K.toInt = k) : i = K ↔ rW T n b (rWd k) = true := (by
  rw [← w.2 k hk, ← hK]
  exact Int32.toInt_inj.symm)
theorem cTw_of {h : zH} {k : Nat} {i : Int32} (hi : i.toInt = k) (hk : k < 20) : (100000 + i).toNatClampNeg = 100000 + k := by
  have e : (100000 + i).toInt = 100000 + k := by
    rw [Int32.toInt_add, hi]
    exact Int.bmod_eq_of_le (by show (-2147483648 : Int) ≤ 100000 + (k : Int); omega) (by show 100000 + (k : Int) < (2147483648 : Int); omega)
  rw [zclE, e]
  omega
theorem cPe {T : Nat → Int32} {n m d : Nat} {h h2 : zH} (p : cP h) (hn : cn h = n) (k : pE T n m d (cs h) (.inr (cs h2))) : rPg n (cs h) (cs h2) := pE_pg k (by rw [← hn]; exact cP_le p)
theorem cHc {h : zH} (p : cP h) (q : (cs h).2.2.length < (cs h).1) : (tvI (tF h 44 5)).toInt < (tvI (tF h 44 2)).toInt := by
  have q : (cCo h).length < (tvI (tF h 44 2)).toNatClampNeg := q
  rw [cCo_len, zclE, zclE] at q
  have := p.1
  have := p.2.2.1
  omega
theorem c400 {T : Nat → Int32} {n x : Nat} (h : 400 ≤ x) (h2 : x ≤ n) (hn : n ≤ 400) {c : Prop} : ¬ (rB T n x < n ∧ c) := by
  have := rB_ge (T := T) (n := n) (p := x)
  intro z
  omega
theorem rB_400 {T : Nat → Int32} {n x : Nat} (h : n ≤ x) : rB T n x = x := rB_n (by omega)
theorem w400 {T : Nat → Int32} {n x i : Nat} (hi : i < 20) (h : n ≤ x) : ¬ rW T n x (rWd i) = true := fun z => by
  have := (rW_l hi z).1
  omega
theorem f_takeWord {G : zG} (hG : G.1 = zProg) (hX : G.2.1 = ztx) {h : zH} {T : Nat → Int32} {n : Nat} (hs : tSh h) (hp : cP h) (hT : tA h 45 = T) (hN : cn h = n) {i : Int32} {k E : Nat} (hi : i.toInt = k) (hk : k < 12) (hE : (tvI (tF h 44 3)).toInt = E) (hE1 : (cs h).1 < E) (hE2 : E ≤ n) : tC zTt G 86 [.ref 44, .int i] h (fun w h2 => cFr h h2 ∧ w = some (.int 1) ∧ cs h2 = rU (100000 + k) (rA E (cs h)) ∧ cP h2) := by
  refine tC_in (by rw [hG]; rfl) (fun dp => ?_)
  have g0 := cFr_r hs
  have hpn : (cs h).1 ≤ n := by rw [← hN]; exact cP_le hp
  refine tw_aload rfl rfl ?_
  refine tw_aload rfl rfl ?_
  refine tw_getS rfl (hi_44_3 hs) ?_
  refine tw_put rfl (fun f280 => ?_)
  refine tG_set f280 (hw_44_2 f280 (g0).1) (fun hf280 ef280 => ?_)
  try dsimp only [tvI_i] at ef280
  have gf280 := cFr_s g0 ef280 (by decide)
  obtain ⟨pf280, sf280⟩ := cTo hp ((cFr_n g0).trans hN) ef280 hE (by omega) hE2
  refine tw_aload rfl rfl ?_
  refine tw_push rfl ?_
  refine tw_iload rfl rfl ?_
  refine tw_iadd rfl ?_
  refine tw_virt1 rfl (f_putCode hG hX (gf280).1 pf280 ((cFr_T gf280).trans hT) ((cFr_n gf280).trans hN) (cHc pf280 (by rw [sf280]; show (cs h).2.2.length < E; have := cP_len hp; omega))) (fun wp281 hp281 p281 => ?_)
  obtain ⟨gp281, rfl, ssp281, ppp281⟩ := p281
  have ggp281 := cFr_t gf280 gp281
  refine tw_push rfl ?_
  refine tw_iret rfl ⟨ggp281, rfl, ?_, ppp281⟩
  rw [ssp281, sf280]
  show rU (100000 + i).toNatClampNeg _ = _
  rw [cTw_of (h := h) hi (by omega)]
theorem zoN {v : Nat} (h : v ≤ 200000) : (Int32.ofNat v).toNatClampNeg = v := zof_cl (zofI (by omega))
theorem zoN9 {v : Nat} (h : v ≤ 200000) : ¬ Int32.ofNat v = -1 := fun z => by
  have e := zofI (e := v) (by omega)
  rw [z] at e
  have : ((-1 : Int32)).toInt = -1 := by decide
  omega
theorem f_readValue {G : zG} (hG : G.1 = zProg) (hX : G.2.1 = ztx) {dp : Nat} (IH : cIH G dp) {h : zH} {T : Nat → Int32} {n : Nat} (hs : tSh h) (hp : cP h) (hT : tA h 45 = T) (hN : cn h = n) {x : Int32} {d : Nat} (hx : x.toInt = d) (hd : d ≤ 10) : tCp zTt G (dp + 1) 85 [.ref 44, .int x] h (cR T n 0 d h) := by
  refine tCp_in (by rw [hG]; rfl) ?_
  have g0 := cFr_r hs
  have hpn : (cs h).1 ≤ n := by rw [← hN]; exact cP_le hp
  have c129 : (12 : Int32).toInt = 12 := rfl
  have c4009 : (400 : Int32).toInt = 400 := rfl
  have c109 : (10 : Int32).toInt = 10 := rfl
  refine tw_aload rfl rfl ?_
  refine tw_virt0 rfl (f_signHere hG hX (g0).1 hp ((cFr_T g0).trans hT) ((cFr_n g0).trans hN)) (fun wp282 hp282 p282 => ?_)
  obtain ⟨gp282, ppp282, ssp282, t3p282, cp282, rfl, kp282⟩ := p282
  have ggp282 := cFr_t g0 gp282
  refine tw_push rfl ?_
  refine tw_ic_ne rfl (fun q283 => ?_) (fun q283 => ?_)
  · try dsimp only [tvI_i, tvJ_j, tvR_r] at q283
    have q283i := zneq (Y := 40) (by decide) q283
    refine tw_aload rfl rfl ?_
    refine tw_virt0 rfl (f_wordHere hG hX (ggp282).1 ppp282 ((cFr_T ggp282).trans hT) ((cFr_n ggp282).trans hN)) (fun wp284 hp284 p284 => ?_)
    obtain ⟨gp284, ppp284, ssp284, eep284, ip284, rfl, kwp284⟩ := p284
    have ggp284 := cFr_t ggp282 gp284
    have hbS : rB T n (cs hp282).1 = (rB T n (cs h).1) := by rw [ssp282]; exact rB_2
    rw [hbS] at ssp284 eep284 kwp284
    rw [ssp282] at ssp284
    refine tw_istore rfl ?_
    refine tw_iload rfl rfl ?_
    refine tw_push rfl ?_
    refine tw_ic_eq rfl (fun q285 => ?_) (fun q285 => ?_)
    · try dsimp only [tvI_i, tvJ_j, tvR_r] at q285
      have q285i := zeqi (Y := (-1)) (by decide) q285
      refine tw_aload rfl rfl ?_
      refine tw_getS rfl (hi_44_2 ggp284.1) ?_
      refine tw_istore rfl ?_
      refine tw_aload rfl rfl ?_
      refine tw_push rfl ?_
      refine tw_virt1 rfl (f_numberHere hG hX (ggp284).1 ppp284 ((cFr_T ggp284).trans hT) ((cFr_n ggp284).trans hN) (m := 99999) (M := 99999) rfl (by decide)) (fun w9 hp286 p286 => ?_)
      obtain ⟨gp286, ⟨vp286, p286, rfl, ssp286, ppp286⟩ | ⟨xp286, p286, rfl, up286⟩⟩ := p286
      · have ggp286 := cFr_t ggp284 gp286
        have hrm := p286
        rw [ssp284] at hrm
        refine tw_istore rfl ?_
        refine tw_iload rfl rfl ?_
        refine tw_push rfl ?_
        refine tw_ic_ne rfl (fun q287 => ?_) (fun q287 => ?_)
        · try dsimp only [tvI_i, tvJ_j, tvR_r] at q287
          have q287i := zneq (Y := (-1)) (by decide) q287
          refine tw_aload rfl rfl ?_
          refine tw_getS rfl (hi_44_8 ggp286.1) ?_
          refine tw_push rfl ?_
          refine tw_ic_ne rfl (fun q288 => ?_) (fun q288 => ?_)
          · try dsimp only [tvI_i, tvJ_j, tvR_r] at q288
            have q288i := zneq (Y := 80) (by decide) q288
            refine tw_aload rfl rfl ?_
            refine tw_dup rfl ?_
            refine tw_getS rfl (hi_44_8 ggp286.1) ?_
            refine tw_push rfl ?_
            refine tw_iadd rfl ?_
            refine tw_put rfl (fun f289 => ?_)
            refine tG_set f289 (hw_44_8 f289 (ggp286).1) (fun hf289 ef289 => ?_)
            try dsimp only [tvI_i] at ef289
            have gf289 := cFr_s ggp286 ef289 (by decide)
            obtain ⟨pf289, sf289⟩ := cCnt ppp286 q288 ef289
            refine tw_aload rfl rfl ?_
            refine tw_iload rfl rfl ?_
            refine tw_virt1 rfl (f_putCode hG hX (gf289).1 pf289 ((cFr_T gf289).trans hT) ((cFr_n gf289).trans hN) (cHc pf289 (by rw [sf289]; show (cs hp286).2.2.length < (cs hp286).1; rw [ssp286, ssp284]; show (cs h).2.2.length < vp286.1; have z := (rM_r (rB_le (T := T) hpn) hrm).1; rw [rB_2] at z; have := rB_ge (T := T) (n := n) (p := (cs h).1); have := cP_len hp; omega))) (fun wp290 hp290 p290 => ?_)
            obtain ⟨gp290, rfl, ssp290, ppp290⟩ := p290
            have ggp290 := cFr_t gf289 gp290
            refine tw_push rfl ?_
            have hi9 : ip284.toInt = -1 := congrArg Int32.toInt q285
            have hnw : ∀ k, k < 12 → ¬ rW T n (rB T n (cs h).1) (rWd k) = true := fun k hk z => by have y := (kwp284.2 k (by omega)).mpr z; omega
            have h80 := cn80 ppp286 q288
            rw [ssp286, ssp284] at h80
            refine tw_iret rfl ⟨ggp290, Or.inl ⟨rfl, ?_, ppp290⟩⟩
            rw [ssp290, sf289, ssp286, ssp284]
            have e9 := zoN (v := vp286.2) (by have := (rM_r (rB_le (T := T) hpn) hrm).2.2; omega)
            show pE T n 0 d (cs h) (.inr (vp286.1, (cs h).2.1 + 1, (cs h).2.2 ++ [(Int32.ofNat vp286.2).toNatClampNeg]))
            rw [e9]
            exact pE_0z (fun z => q283 ((sgn_k kp282 40 (by decide)).mpr z)) hnw hrm h80
          · try dsimp only [tvI_i, tvJ_j, tvR_r] at q288
            have q288i := zeqi (Y := 80) (by decide) q288
            refine tw_aload rfl rfl ?_
            refine tw_iload rfl rfl ?_
            refine tw_push rfl ?_
            refine tw_virt2 rfl (f_refuse hG hX (ggp286).1 ppp286 ((cFr_T ggp286).trans hT) ((cFr_n ggp286).trans hN)) (fun wp291 hp291 p291 => ?_)
            obtain ⟨gp291, rfl, up291⟩ := p291
            have ggp291 := cFr_t ggp286 gp291
            have hi9 : ip284.toInt = -1 := congrArg Int32.toInt q285
            have hnw : ∀ k, k < 12 → ¬ rW T n (rB T n (cs h).1) (rWd k) = true := fun k hk z => by have y := (kwp284.2 k (by omega)).mpr z; omega
            have hft := cFt_of ppp284 up291 (w := 3) rfl (by decide)
            rw [ssp284] at hft
            have h80 := c80 q288
            rw [ssp286, ssp284] at h80
            exact tw_iret rfl ⟨ggp291, Or.inr ⟨rfl, _, pE_0y (fun z => q283 ((sgn_k kp282 40 (by decide)).mpr z)) hnw hrm h80, hft⟩⟩
        · try dsimp only [tvI_i, tvJ_j, tvR_r] at q287
          have q287i := zeqi (Y := (-1)) (by decide) q287
          exact absurd q287 (zoN9 (by have := (rM_r (rB_le (T := T) hpn) hrm).2.2; omega))
      · have ggp286 := cFr_t ggp284 gp286
        have hrm := p286
        rw [ssp284] at hrm
        refine tw_istore rfl ?_
        refine tw_iload rfl rfl ?_
        refine tw_push rfl ?_
        refine tw_ic_ne rfl (fun z => absurd z (by decide)) (fun _ => ?_)
        refine tw_push rfl ?_
        have hi9 : ip284.toInt = -1 := congrArg Int32.toInt q285
        have hnw : ∀ k, k < 12 → ¬ rW T n (rB T n (cs h).1) (rWd k) = true := fun k hk z => by have y := (kwp284.2 k (by omega)).mpr z; omega
        exact tw_iret rfl ⟨ggp286, Or.inr ⟨rfl, _, pE_0m (fun z => q283 ((sgn_k kp282 40 (by decide)).mpr z)) hnw hrm, up286⟩⟩
    · try dsimp only [tvI_i, tvJ_j, tvR_r] at q285
      have q285i := zneq (Y := (-1)) (by decide) q285
      refine tw_iload rfl rfl ?_
      refine tw_push rfl ?_
      refine tw_ic_ge rfl (fun q292 => ?_) (fun q292 => ?_)
      · try dsimp only [tvI_i, tvJ_j, tvR_r] at q292
        refine tw_aload rfl rfl ?_
        refine tw_getS rfl (hi_44_2 ggp284.1) ?_
        refine tw_istore rfl ?_
        refine tw_aload rfl rfl ?_
        refine tw_push rfl ?_
        refine tw_virt1 rfl (f_numberHere hG hX (ggp284).1 ppp284 ((cFr_T ggp284).trans hT) ((cFr_n ggp284).trans hN) (m := 99999) (M := 99999) rfl (by decide)) (fun w9 hp293 p293 => ?_)
        obtain ⟨gp293, ⟨vp293, p293, rfl, ssp293, ppp293⟩ | ⟨xp293, p293, rfl, up293⟩⟩ := p293
        · have ggp293 := cFr_t ggp284 gp293
          have hrm := p293
          rw [ssp284] at hrm
          refine tw_istore rfl ?_
          refine tw_iload rfl rfl ?_
          refine tw_push rfl ?_
          refine tw_ic_ne rfl (fun q294 => ?_) (fun q294 => ?_)
          · try dsimp only [tvI_i, tvJ_j, tvR_r] at q294
            have q294i := zneq (Y := (-1)) (by decide) q294
            refine tw_aload rfl rfl ?_
            refine tw_getS rfl (hi_44_8 ggp293.1) ?_
            refine tw_push rfl ?_
            refine tw_ic_ne rfl (fun q295 => ?_) (fun q295 => ?_)
            · try dsimp only [tvI_i, tvJ_j, tvR_r] at q295
              have q295i := zneq (Y := 80) (by decide) q295
              refine tw_aload rfl rfl ?_
              refine tw_dup rfl ?_
              refine tw_getS rfl (hi_44_8 ggp293.1) ?_
              refine tw_push rfl ?_
              refine tw_iadd rfl ?_
              refine tw_put rfl (fun f296 => ?_)
              refine tG_set f296 (hw_44_8 f296 (ggp293).1) (fun hf296 ef296 => ?_)
              try dsimp only [tvI_i] at ef296
              have gf296 := cFr_s ggp293 ef296 (by decide)
              obtain ⟨pf296, sf296⟩ := cCnt ppp293 q295 ef296
              refine tw_aload rfl rfl ?_
              refine tw_iload rfl rfl ?_
              refine tw_virt1 rfl (f_putCode hG hX (gf296).1 pf296 ((cFr_T gf296).trans hT) ((cFr_n gf296).trans hN) (cHc pf296 (by rw [sf296]; show (cs hp293).2.2.length < (cs hp293).1; rw [ssp293, ssp284]; show (cs h).2.2.length < vp293.1; have z := (rM_r (rB_le (T := T) hpn) hrm).1; rw [rB_2] at z; have := rB_ge (T := T) (n := n) (p := (cs h).1); have := cP_len hp; omega))) (fun wp297 hp297 p297 => ?_)
              obtain ⟨gp297, rfl, ssp297, ppp297⟩ := p297
              have ggp297 := cFr_t gf296 gp297
              refine tw_push rfl ?_
              have hi9 : 12 ≤ ip284.toInt := by have z := q292; exact z
              have hnw : ∀ k, k < 12 → ¬ rW T n (rB T n (cs h).1) (rWd k) = true := fun k hk z => by have y := (kwp284.2 k (by omega)).mpr z; omega
              have h80 := cn80 ppp293 q295
              rw [ssp293, ssp284] at h80
              refine tw_iret rfl ⟨ggp297, Or.inl ⟨rfl, ?_, ppp297⟩⟩
              rw [ssp297, sf296, ssp293, ssp284]
              have e9 := zoN (v := vp293.2) (by have := (rM_r (rB_le (T := T) hpn) hrm).2.2; omega)
              show pE T n 0 d (cs h) (.inr (vp293.1, (cs h).2.1 + 1, (cs h).2.2 ++ [(Int32.ofNat vp293.2).toNatClampNeg]))
              rw [e9]
              exact pE_0z (fun z => q283 ((sgn_k kp282 40 (by decide)).mpr z)) hnw hrm h80
            · try dsimp only [tvI_i, tvJ_j, tvR_r] at q295
              have q295i := zeqi (Y := 80) (by decide) q295
              refine tw_aload rfl rfl ?_
              refine tw_iload rfl rfl ?_
              refine tw_push rfl ?_
              refine tw_virt2 rfl (f_refuse hG hX (ggp293).1 ppp293 ((cFr_T ggp293).trans hT) ((cFr_n ggp293).trans hN)) (fun wp298 hp298 p298 => ?_)
              obtain ⟨gp298, rfl, up298⟩ := p298
              have ggp298 := cFr_t ggp293 gp298
              have hi9 : 12 ≤ ip284.toInt := by have z := q292; exact z
              have hnw : ∀ k, k < 12 → ¬ rW T n (rB T n (cs h).1) (rWd k) = true := fun k hk z => by have y := (kwp284.2 k (by omega)).mpr z; omega
              have hft := cFt_of ppp284 up298 (w := 3) rfl (by decide)
              rw [ssp284] at hft
              have h80 := c80 q295
              rw [ssp293, ssp284] at h80
              exact tw_iret rfl ⟨ggp298, Or.inr ⟨rfl, _, pE_0y (fun z => q283 ((sgn_k kp282 40 (by decide)).mpr z)) hnw hrm h80, hft⟩⟩
          · try dsimp only [tvI_i, tvJ_j, tvR_r] at q294
            have q294i := zeqi (Y := (-1)) (by decide) q294
            exact absurd q294 (zoN9 (by have := (rM_r (rB_le (T := T) hpn) hrm).2.2; omega))
        · have ggp293 := cFr_t ggp284 gp293
          have hrm := p293
          rw [ssp284] at hrm
          refine tw_istore rfl ?_
          refine tw_iload rfl rfl ?_
          refine tw_push rfl ?_
          refine tw_ic_ne rfl (fun z => absurd z (by decide)) (fun _ => ?_)
          refine tw_push rfl ?_
          have hi9 : 12 ≤ ip284.toInt := by have z := q292; exact z
          have hnw : ∀ k, k < 12 → ¬ rW T n (rB T n (cs h).1) (rWd k) = true := fun k hk z => by have y := (kwp284.2 k (by omega)).mpr z; omega
          exact tw_iret rfl ⟨ggp293, Or.inr ⟨rfl, _, pE_0m (fun z => q283 ((sgn_k kp282 40 (by decide)).mpr z)) hnw hrm, up293⟩⟩
      · try dsimp only [tvI_i, tvJ_j, tvR_r] at q292
        refine tw_aload rfl rfl ?_
        refine tw_virt0 rfl (f_countOne hG hX (ggp284).1 ppp284 ((cFr_T ggp284).trans hT) ((cFr_n ggp284).trans hN)) (fun w9 hp299 p299 => ?_)
        obtain ⟨gp299, ⟨rfl, p299, ppp299, t3p299⟩ | ⟨rfl, xp299, p299, up299⟩⟩ := p299
        · have ggp299 := cFr_t ggp284 gp299
          have kwb := kwp284.1
          have hk12 : rW T n (rB T n (cs h).1) (rWd ip284.toInt.toNat) = true := (kwp284.2 ip284.toInt.toNat (by omega)).mp (by omega)
          have hEb : (rB T n (cs h).1) < rE T n (rB T n (cs h).1) := by have z := rE_ge (T := T) (n := n) (p := (rB T n (cs h).1) + 1); rw [← rE_y (rW_l (by omega) hk12)] at z; omega
          refine tw_if_eq rfl (fun z => absurd z (by decide)) (fun _ => ?_)
          refine tw_aload rfl rfl ?_
          refine tw_iload rfl rfl ?_
          refine tw_virt1 rfl (f_takeWord hG hX (ggp299).1 ppp299 ((cFr_T ggp299).trans hT) ((cFr_n ggp299).trans hN) (i := ip284) (k := ip284.toInt.toNat) (E := rE T n (rB T n (cs h).1)) (by have := kwp284.1; omega) (by omega) (by rw [t3p299]; exact eep284) (by rw [(rC_y p299).2]; show (cs hp284).1 < _; rw [ssp284]; exact hEb) (rE_le (rB_le hpn))) (fun wp300 hp300 p300 => ?_)
          obtain ⟨gp300, rfl, ssp300, ppp300⟩ := p300
          have ggp300 := cFr_t ggp299 gp300
          refine tw_if_eq rfl (fun z => absurd z (by decide)) (fun _ => ?_)
          refine tw_push rfl ?_
          refine tw_goto rfl ?_
          obtain ⟨hcn, hce⟩ := rC_y p299
          rw [ssp284] at hcn
          refine tw_iret rfl ⟨ggp300, Or.inl ⟨rfl, ?_, ppp300⟩⟩
          rw [ssp300, hce, ssp284]
          exact pE_0w (by omega) hk12 hcn
        · have ggp299 := cFr_t ggp284 gp299
          have kwb := kwp284.1
          have hk12 : rW T n (rB T n (cs h).1) (rWd ip284.toInt.toNat) = true := (kwp284.2 ip284.toInt.toNat (by omega)).mp (by omega)
          have hEb : (rB T n (cs h).1) < rE T n (rB T n (cs h).1) := by have z := rE_ge (T := T) (n := n) (p := (rB T n (cs h).1) + 1); rw [← rE_y (rW_l (by omega) hk12)] at z; omega
          refine tw_if_eq rfl (fun _ => ?_) (fun z => absurd z (by decide))
          refine tw_push rfl ?_
          obtain ⟨o1, o2⟩ := rC_n p299
          rw [ssp284] at o1 o2
          subst o2
          exact tw_iret rfl ⟨ggp299, Or.inr ⟨rfl, _, pE_0x (k := ip284.toInt.toNat) (by omega) hk12 o1, up299⟩⟩
  · try dsimp only [tvI_i, tvJ_j, tvR_r] at q283
    have q283i := zeqi (Y := 40) (by decide) q283
    refine tw_iload rfl rfl ?_
    refine tw_push rfl ?_
    refine tw_ic_ne rfl (fun q301 => ?_) (fun q301 => ?_)
    · try dsimp only [tvI_i, tvJ_j, tvR_r] at q301
      have q301i := zneq (Y := 10) (by decide) q301
      refine tw_aload rfl rfl ?_
      refine tw_virt0 rfl (f_countOne hG hX (ggp282).1 ppp282 ((cFr_T ggp282).trans hT) ((cFr_n ggp282).trans hN)) (fun w9 hp302 p302 => ?_)
      obtain ⟨gp302, ⟨rfl, p302, ppp302, t3p302⟩ | ⟨rfl, xp302, p302, up302⟩⟩ := p302
      · have ggp302 := cFr_t ggp282 gp302
        refine tw_if_ne rfl (fun _ => ?_) (fun z => absurd z (by decide))
        refine tw_aload rfl rfl ?_
        refine tw_dup rfl ?_
        refine tw_getS rfl (hi_44_2 ggp302.1) ?_
        refine tw_push rfl ?_
        refine tw_iadd rfl ?_
        refine tw_put rfl (fun f303 => ?_)
        refine tG_set f303 (hw_44_2 f303 (ggp302).1) (fun hf303 ef303 => ?_)
        try dsimp only [tvI_i] at ef303
        have gf303 := cFr_s ggp302 ef303 (by decide)
        obtain ⟨hcn, hce⟩ := rC_y p302
        have hw := (sgn_k kp282 40 (by decide)).mp q283
        have hlf303 : (cs hp302).1 < n := by rw [hce]; show (cs hp282).1 < n; rw [ssp282]; exact hw.1
        obtain ⟨pf303, sf303⟩ := cInc ppp302 hlf303 ((cFr_n ggp302).trans hN) ef303
        rw [hce, ssp282] at sf303
        refine tw_aload rfl rfl ?_
        refine tw_iload rfl rfl ?_
        refine tw_push rfl ?_
        refine tw_iadd rfl ?_
        refine tw_virt1p rfl (IH 3 83 (by decide) _ _ _ (d + 1) _ (gf303).1 pf303 ((cFr_T gf303).trans hT) ((cFr_n gf303).trans hN) (zd1 hx hd) (by omega)) (fun w9 hp304 p304 => ?_)
        obtain ⟨gp304, ⟨rfl, p304, ppp304⟩ | ⟨rfl, xp304, p304, up304⟩⟩ := p304
        · have ggp304 := cFr_t gf303 gp304
          refine tw_if_eq rfl (fun z => absurd z (by decide)) (fun _ => ?_)
          refine tw_aload rfl rfl ?_
          refine tw_push rfl ?_
          refine tw_virt1 rfl (f_takeSign hG hX (ggp304).1 ppp304 ((cFr_T ggp304).trans hT) ((cFr_n ggp304).trans hN) (y := 41) (by decide)) (fun w9 hp305 p305 => ?_)
          obtain ⟨gp305, ⟨rfl, p305, ppp305⟩ | ⟨rfl, xp305, p305, up305⟩⟩ := p305
          · have ggp305 := cFr_t ggp304 gp305
            refine tw_if_eq rfl (fun z => absurd z (by decide)) (fun _ => ?_)
            refine tw_push rfl ?_
            refine tw_goto rfl ?_
            have hw9 := ((sgn_k kp282 40 (by decide)).mp q283)
            have hd10 : d ≠ 10 := fun z => q301 (Int32.toInt_inj.mp (by rw [hx, z]; rfl))
            rw [ssp282] at hcn
            rw [sf303] at p304
            exact tw_iret rfl ⟨ggp305, Or.inl ⟨rfl, pE_0d hw9 hd10 hcn p304 p305, ppp305⟩⟩
          · have ggp305 := cFr_t ggp304 gp305
            refine tw_if_eq rfl (fun _ => ?_) (fun z => absurd z (by decide))
            refine tw_push rfl ?_
            have hw9 := ((sgn_k kp282 40 (by decide)).mp q283)
            have hd10 : d ≠ 10 := fun z => q301 (Int32.toInt_inj.mp (by rw [hx, z]; rfl))
            rw [ssp282] at hcn
            rw [sf303] at p304
            exact tw_iret rfl ⟨ggp305, Or.inr ⟨rfl, _, pE_0d hw9 hd10 hcn p304 p305, up305⟩⟩
        · have ggp304 := cFr_t gf303 gp304
          refine tw_if_eq rfl (fun _ => ?_) (fun z => absurd z (by decide))
          refine tw_push rfl ?_
          have hw9 := ((sgn_k kp282 40 (by decide)).mp q283)
          have hd10 : d ≠ 10 := fun z => q301 (Int32.toInt_inj.mp (by rw [hx, z]; rfl))
          rw [ssp282] at hcn
          rw [sf303] at p304
          exact tw_iret rfl ⟨ggp304, Or.inr ⟨rfl, _, pE_0c hw9 hd10 hcn p304, up304⟩⟩
      · have ggp302 := cFr_t ggp282 gp302
        refine tw_if_ne rfl (fun z => absurd z (by decide)) (fun _ => ?_)
        refine tw_push rfl ?_
        have hw9 := ((sgn_k kp282 40 (by decide)).mp q283)
        have hd10 : d ≠ 10 := fun z => q301 (Int32.toInt_inj.mp (by rw [hx, z]; rfl))
        obtain ⟨o1, o2⟩ := rC_n p302
        rw [ssp282] at o1 o2
        subst o2
        exact tw_iret rfl ⟨ggp302, Or.inr ⟨rfl, _, pE_0b hw9 hd10 o1, up302⟩⟩
    · try dsimp only [tvI_i, tvJ_j, tvR_r] at q301
      have q301i := zeqi (Y := 10) (by decide) q301
      refine tw_aload rfl rfl ?_
      refine tw_aload rfl rfl ?_
      refine tw_getS rfl (hi_44_2 ggp282.1) ?_
      refine tw_push rfl ?_
      refine tw_virt2 rfl (f_refuse hG hX (ggp282).1 ppp282 ((cFr_T ggp282).trans hT) ((cFr_n ggp282).trans hN)) (fun wp306 hp306 p306 => ?_)
      obtain ⟨gp306, rfl, up306⟩ := p306
      have ggp306 := cFr_t ggp282 gp306
      have hw9 := ((sgn_k kp282 40 (by decide)).mp q283)
      have hd10 : d = 10 := by have z : x.toInt = 10 := congrArg Int32.toInt q301; omega
      have hft := cFt_of ppp282 up306 (w := 2) rfl (by decide)
      rw [ssp282] at hft
      exact tw_iret rfl ⟨ggp306, Or.inr ⟨rfl, _, pE_0a hw9 hd10, hft⟩⟩
theorem wlen_k : (rWd 18).length = 3 ∧ (rWd 17).length = 2 ∧ (rWd 19).length = 3 ∧ (rWd 16).length = 2 := by decide +kernel
theorem f_readTerm {G : zG} (hG : G.1 = zProg) (hX : G.2.1 = ztx) {dp : Nat} (IH : cIH G dp) {h : zH} {T : Nat → Int32} {n : Nat} (hs : tSh h) (hp : cP h) (hT : tA h 45 = T) (hN : cn h = n) {x : Int32} {d : Nat} (hx : x.toInt = d) (hd : d ≤ 10) : tCp zTt G (dp + 1) 84 [.ref 44, .int x] h (cR T n 1 d h) := by
  refine tCp_in (by rw [hG]; rfl) ?_
  have g0 := cFr_r hs
  have hpn : (cs h).1 ≤ n := by rw [← hN]; exact cP_le hp
  have c129 : (12 : Int32).toInt = 12 := rfl
  have c4009 : (400 : Int32).toInt = 400 := rfl
  have c109 : (10 : Int32).toInt = 10 := rfl
  refine tw_aload rfl rfl ?_
  refine tw_iload rfl rfl ?_
  refine tw_virt1p rfl (IH 0 85 (by decide) _ _ _ d _ (g0).1 hp ((cFr_T g0).trans hT) ((cFr_n g0).trans hN) hx hd) (fun w9 hp307 p307 => ?_)
  obtain ⟨gp307, ⟨rfl, p307, ppp307⟩ | ⟨rfl, xp307, p307, up307⟩⟩ := p307
  · have ggp307 := cFr_t g0 gp307
    refine tw_if_ne rfl (fun _ => ?_) (fun z => absurd z (by decide))
    refine tw_push rfl ?_
    refine tw_istore rfl ?_
    refine tG_loop (zW_mono zTt G dp) (zW_conj zTt G dp) (V := fun pc L st h9 _ _ => pc = 12 ∧ st = [] ∧ ∃ (h1 : zH) (k : Nat) (y : Int32), h1 = h9 ∧ y.toInt = k ∧ k ≤ (cs h1).1 ∧ cFr h h1 ∧ cP h1 ∧ (∀ r, pE T n 2 d (cs h1) r → pE T n 1 d (cs h) r) ∧ L = [some (.ref 44), some (.int x), some (.int y)]) ?_ (⟨rfl, rfl, _, 0, _, rfl, rfl, Nat.zero_le _, ggp307, ppp307, fun r z => pE_q (by decide) p307 z, rfl⟩)
    rintro _ _ _ _ _ _ ⟨rfl, rfl, h1, k, y, rfl, hy, hk, g1, p1, hR, rfl⟩
    refine tw_iload rfl rfl ?_
    refine tw_push rfl ?_
    refine tw_ic_ge rfl (fun q308 => ?_) (fun q308 => ?_)
    · try dsimp only [tvI_i, tvJ_j, tvR_r] at q308
      refine tw_push rfl ?_
      have h4 : 400 ≤ (cs h1).1 := by omega
      have h5 := cP_400 p1
      rw [((cFr_n g1).trans hN)] at h5
      have h6 := rB_400 (T := T) (show n ≤ (cs h1).1 by omega)
      have h7 := pE_2n (T := T) (n := n) (d := d) (s := cs h1) (c400 (T := T) h4 (by have := cP_le p1; rw [((cFr_n g1).trans hN)] at this; exact this) h5)
      rw [h6] at h7
      exact tw_iret rfl ⟨g1, Or.inl ⟨rfl, hR _ h7, p1⟩⟩
    · try dsimp only [tvI_i, tvJ_j, tvR_r] at q308
      refine tw_aload rfl rfl ?_
      refine tw_virt0 rfl (f_signHere hG hX (g1).1 p1 ((cFr_T g1).trans hT) ((cFr_n g1).trans hN)) (fun wp309 hp309 p309 => ?_)
      obtain ⟨gp309, ppp309, ssp309, t3p309, cp309, rfl, kp309⟩ := p309
      have ggp309 := cFr_t g1 gp309
      refine tw_push rfl ?_
      refine tw_ic_ne rfl (fun q310 => ?_) (fun q310 => ?_)
      · try dsimp only [tvI_i, tvJ_j, tvR_r] at q310
        have q310i := zneq (Y := 42) (by decide) q310
        refine tw_push rfl ?_
        have h7 := pE_2n (T := T) (n := n) (d := d) (s := cs h1) (fun z => q310 ((sgn_k kp309 42 (by decide)).mpr z))
        rw [← ssp309] at h7
        exact tw_iret rfl ⟨ggp309, Or.inl ⟨rfl, hR _ h7, ppp309⟩⟩
      · try dsimp only [tvI_i, tvJ_j, tvR_r] at q310
        have q310i := zeqi (Y := 42) (by decide) q310
        refine tw_aload rfl rfl ?_
        refine tw_dup rfl ?_
        refine tw_getS rfl (hi_44_2 ggp309.1) ?_
        refine tw_push rfl ?_
        refine tw_iadd rfl ?_
        refine tw_put rfl (fun f311 => ?_)
        refine tG_set f311 (hw_44_2 f311 (ggp309).1) (fun hf311 ef311 => ?_)
        try dsimp only [tvI_i] at ef311
        have gf311 := cFr_s ggp309 ef311 (by decide)
        have hwf311 := ((sgn_k kp309 42 (by decide)).mp q310)
        have hlf311 : (cs hp309).1 < n := by rw [ssp309]; exact hwf311.1
        obtain ⟨pf311, sf311⟩ := cInc ppp309 hlf311 ((cFr_n ggp309).trans hN) ef311
        rw [ssp309] at sf311
        refine tw_aload rfl rfl ?_
        refine tw_iload rfl rfl ?_
        refine tw_virt1p rfl (IH 0 85 (by decide) _ _ _ d _ (gf311).1 pf311 ((cFr_T gf311).trans hT) ((cFr_n gf311).trans hN) hx hd) (fun w9 hp312 p312 => ?_)
        obtain ⟨gp312, ⟨rfl, p312, ppp312⟩ | ⟨rfl, xp312, p312, up312⟩⟩ := p312
        · have ggp312 := cFr_t gf311 gp312
          refine tw_if_ne rfl (fun _ => ?_) (fun z => absurd z (by decide))
          refine tw_aload rfl rfl ?_
          refine tw_push rfl ?_
          refine tw_virt1 rfl (f_putCode hG hX (ggp312).1 ppp312 ((cFr_T ggp312).trans hT) ((cFr_n ggp312).trans hN) (cHc ppp312 (by have z := cPe pf311 ((cFr_n gf311).trans hN) p312; have z2 := cP_len p1; have z3 := rB_ge (T := T) (n := n) (p := (cs h1).1); obtain ⟨z4, z5, z6⟩ := z; rw [sf311] at z4 z6; have z4 : (rB T n (cs h1).1) + 1 ≤ (cs hp312).1 := z4; have z6 : (rB T n (cs h1).1) + 1 + (cs hp312).2.2.length ≤ (cs hp312).1 + (cs h1).2.2.length := z6; omega))) (fun wp313 hp313 p313 => ?_)
          obtain ⟨gp313, rfl, ssp313, ppp313⟩ := p313
          have ggp313 := cFr_t ggp312 gp313
          refine tw_iinc rfl rfl ?_
          refine tw_goto rfl ?_
          have z := cPe pf311 ((cFr_n gf311).trans hN) p312
          have z3 := rB_ge (T := T) (n := n) (p := (cs h1).1)
          obtain ⟨z4, z5, z6⟩ := z
          have hon := p312
          rw [sf311] at z4 hon
          have z4 : (rB T n (cs h1).1) + 1 ≤ (cs hp312).1 := z4
          exact tG_cut (zW_mono zTt G dp) (Or.inr ⟨rfl, rfl, _, k + 1, _, rfl, zincL hy q308, (by rw [ssp313]; show k + 1 ≤ (cs hp312).1; omega), ggp313, ppp313, fun r w => hR r (pE_2y hwf311 hon (by rw [ssp313] at w; exact w)), rfl⟩)
        · have ggp312 := cFr_t gf311 gp312
          refine tw_if_ne rfl (fun z => absurd z (by decide)) (fun _ => ?_)
          refine tw_push rfl ?_
          have hoff := p312
          rw [sf311] at hoff
          exact tw_iret rfl ⟨ggp312, Or.inr ⟨rfl, _, hR _ (pE_2f hwf311 hoff), up312⟩⟩
  · have ggp307 := cFr_t g0 gp307
    refine tw_if_ne rfl (fun z => absurd z (by decide)) (fun _ => ?_)
    refine tw_push rfl ?_
    exact tw_iret rfl ⟨ggp307, Or.inr ⟨rfl, _, pE_qf (c := 2) (by decide) p307, up307⟩⟩
theorem f_readSum {G : zG} (hG : G.1 = zProg) (hX : G.2.1 = ztx) {dp : Nat} (IH : cIH G dp) {h : zH} {T : Nat → Int32} {n : Nat} (hs : tSh h) (hp : cP h) (hT : tA h 45 = T) (hN : cn h = n) {x : Int32} {d : Nat} (hx : x.toInt = d) (hd : d ≤ 10) : tCp zTt G (dp + 1) 83 [.ref 44, .int x] h (cR T n 3 d h) := by
  refine tCp_in (by rw [hG]; rfl) ?_
  have g0 := cFr_r hs
  have hpn : (cs h).1 ≤ n := by rw [← hN]; exact cP_le hp
  have c129 : (12 : Int32).toInt = 12 := rfl
  have c4009 : (400 : Int32).toInt = 400 := rfl
  have c109 : (10 : Int32).toInt = 10 := rfl
  refine tw_aload rfl rfl ?_
  refine tw_iload rfl rfl ?_
  refine tw_virt1p rfl (IH 1 84 (by decide) _ _ _ d _ (g0).1 hp ((cFr_T g0).trans hT) ((cFr_n g0).trans hN) hx hd) (fun w9 hp314 p314 => ?_)
  obtain ⟨gp314, ⟨rfl, p314, ppp314⟩ | ⟨rfl, xp314, p314, up314⟩⟩ := p314
  · have ggp314 := cFr_t g0 gp314
    refine tw_if_ne rfl (fun _ => ?_) (fun z => absurd z (by decide))
    refine tw_push rfl ?_
    refine tw_istore rfl ?_
    refine tG_loop (zW_mono zTt G dp) (zW_conj zTt G dp) (V := fun pc L st h9 _ _ => pc = 12 ∧ st = [] ∧ ∃ (h1 : zH) (k : Nat) (y : Int32) (v3 : Option Value), h1 = h9 ∧ y.toInt = k ∧ k ≤ (cs h1).1 ∧ cFr h h1 ∧ cP h1 ∧ (∀ r, pE T n 4 d (cs h1) r → pE T n 3 d (cs h) r) ∧ L = [some (.ref 44), some (.int x), some (.int y), v3]) ?_ (⟨rfl, rfl, _, 0, _, _, rfl, rfl, Nat.zero_le _, ggp314, ppp314, fun r z => pE_q (by decide) p314 z, rfl⟩)
    rintro _ _ _ _ _ _ ⟨rfl, rfl, h1, k, y, v3, rfl, hy, hk, g1, p1, hR, rfl⟩
    refine tw_iload rfl rfl ?_
    refine tw_push rfl ?_
    refine tw_ic_ge rfl (fun q315 => ?_) (fun q315 => ?_)
    · try dsimp only [tvI_i, tvJ_j, tvR_r] at q315
      refine tw_push rfl ?_
      have h4 : 400 ≤ (cs h1).1 := by omega
      have h5 := cP_400 p1
      rw [((cFr_n g1).trans hN)] at h5
      have h6 := rB_400 (T := T) (show n ≤ (cs h1).1 by omega)
      have h7 := pE_4n (T := T) (n := n) (d := d) (s := cs h1) (c400 (T := T) h4 (by have := cP_le p1; rw [((cFr_n g1).trans hN)] at this; exact this) h5) (c400 (T := T) h4 (by have := cP_le p1; rw [((cFr_n g1).trans hN)] at this; exact this) h5)
      rw [h6] at h7
      exact tw_iret rfl ⟨g1, Or.inl ⟨rfl, hR _ h7, p1⟩⟩
    · try dsimp only [tvI_i, tvJ_j, tvR_r] at q315
      refine tw_aload rfl rfl ?_
      refine tw_virt0 rfl (f_signHere hG hX (g1).1 p1 ((cFr_T g1).trans hT) ((cFr_n g1).trans hN)) (fun wp316 hp316 p316 => ?_)
      obtain ⟨gp316, ppp316, ssp316, t3p316, cp316, rfl, kp316⟩ := p316
      have ggp316 := cFr_t g1 gp316
      refine tw_istore rfl ?_
      refine tw_iload rfl rfl ?_
      refine tw_push rfl ?_
      refine tw_ic_eq rfl (fun q317 => ?_) (fun q317 => ?_)
      · try dsimp only [tvI_i, tvJ_j, tvR_r] at q317
        have q317i := zeqi (Y := 43) (by decide) q317
        refine tw_aload rfl rfl ?_
        refine tw_dup rfl ?_
        refine tw_getS rfl (hi_44_2 ggp316.1) ?_
        refine tw_push rfl ?_
        refine tw_iadd rfl ?_
        refine tw_put rfl (fun f318 => ?_)
        refine tG_set f318 (hw_44_2 f318 (ggp316).1) (fun hf318 ef318 => ?_)
        try dsimp only [tvI_i] at ef318
        have gf318 := cFr_s ggp316 ef318 (by decide)
        have hwf318 := ((sgn_k kp316 43 (by decide)).mp q317)
        have hlf318 : (cs hp316).1 < n := by rw [ssp316]; exact hwf318.1
        obtain ⟨pf318, sf318⟩ := cInc ppp316 hlf318 ((cFr_n ggp316).trans hN) ef318
        rw [ssp316] at sf318
        refine tw_aload rfl rfl ?_
        refine tw_iload rfl rfl ?_
        refine tw_virt1p rfl (IH 1 84 (by decide) _ _ _ d _ (gf318).1 pf318 ((cFr_T gf318).trans hT) ((cFr_n gf318).trans hN) hx hd) (fun w9 hp319 p319 => ?_)
        obtain ⟨gp319, ⟨rfl, p319, ppp319⟩ | ⟨rfl, xp319, p319, up319⟩⟩ := p319
        · have ggp319 := cFr_t gf318 gp319
          refine tw_if_ne rfl (fun _ => ?_) (fun z => absurd z (by decide))
          refine tw_aload rfl rfl ?_
          refine tw_iload rfl rfl ?_
          refine tw_push rfl ?_
          refine tw_ic_ne rfl (fun q320 => ?_) (fun q320 => ?_)
          · try dsimp only [tvI_i, tvJ_j, tvR_r] at q320
            have q320i := zneq (Y := 43) (by decide) q320
            exact absurd q317 q320
          · try dsimp only [tvI_i, tvJ_j, tvR_r] at q320
            have q320i := zeqi (Y := 43) (by decide) q320
            refine tw_push rfl ?_
            refine tw_goto rfl ?_
            refine tw_virt1 rfl (f_putCode hG hX (ggp319).1 ppp319 ((cFr_T ggp319).trans hT) ((cFr_n ggp319).trans hN) (cHc ppp319 (by have z := cPe pf318 ((cFr_n gf318).trans hN) p319; have z2 := cP_len p1; have z3 := rB_ge (T := T) (n := n) (p := (cs h1).1); obtain ⟨z4, z5, z6⟩ := z; rw [sf318] at z4 z6; have z4 : (rB T n (cs h1).1) + 1 ≤ (cs hp319).1 := z4; have z6 : (rB T n (cs h1).1) + 1 + (cs hp319).2.2.length ≤ (cs hp319).1 + (cs h1).2.2.length := z6; omega))) (fun wp321 hp321 p321 => ?_)
            obtain ⟨gp321, rfl, ssp321, ppp321⟩ := p321
            have ggp321 := cFr_t ggp319 gp321
            refine tw_iinc rfl rfl ?_
            refine tw_goto rfl ?_
            have z := cPe pf318 ((cFr_n gf318).trans hN) p319
            have z3 := rB_ge (T := T) (n := n) (p := (cs h1).1)
            obtain ⟨z4, z5, z6⟩ := z
            have hon := p319
            rw [sf318] at z4 hon
            have z4 : (rB T n (cs h1).1) + 1 ≤ (cs hp319).1 := z4
            exact tG_cut (zW_mono zTt G dp) (Or.inr ⟨rfl, rfl, _, k + 1, _, _, rfl, zincL hy q315, (by rw [ssp321]; show k + 1 ≤ (cs hp319).1; omega), ggp321, ppp321, fun r w => hR r (pE_4p hwf318 hon (by rw [ssp321] at w; exact w)), rfl⟩)
        · have ggp319 := cFr_t gf318 gp319
          refine tw_if_ne rfl (fun z => absurd z (by decide)) (fun _ => ?_)
          refine tw_push rfl ?_
          have hoff := p319
          rw [sf318] at hoff
          exact tw_iret rfl ⟨ggp319, Or.inr ⟨rfl, _, hR _ (pE_4pf hwf318 hoff), up319⟩⟩
      · try dsimp only [tvI_i, tvJ_j, tvR_r] at q317
        have q317i := zneq (Y := 43) (by decide) q317
        refine tw_iload rfl rfl ?_
        refine tw_push rfl ?_
        refine tw_ic_eq rfl (fun q322 => ?_) (fun q322 => ?_)
        · try dsimp only [tvI_i, tvJ_j, tvR_r] at q322
          have q322i := zeqi (Y := 45) (by decide) q322
          refine tw_aload rfl rfl ?_
          refine tw_dup rfl ?_
          refine tw_getS rfl (hi_44_2 ggp316.1) ?_
          refine tw_push rfl ?_
          refine tw_iadd rfl ?_
          refine tw_put rfl (fun f323 => ?_)
          refine tG_set f323 (hw_44_2 f323 (ggp316).1) (fun hf323 ef323 => ?_)
          try dsimp only [tvI_i] at ef323
          have gf323 := cFr_s ggp316 ef323 (by decide)
          have hwf323 := ((sgn_k kp316 45 (by decide)).mp q322)
          have hlf323 : (cs hp316).1 < n := by rw [ssp316]; exact hwf323.1
          obtain ⟨pf323, sf323⟩ := cInc ppp316 hlf323 ((cFr_n ggp316).trans hN) ef323
          rw [ssp316] at sf323
          refine tw_aload rfl rfl ?_
          refine tw_iload rfl rfl ?_
          refine tw_virt1p rfl (IH 1 84 (by decide) _ _ _ d _ (gf323).1 pf323 ((cFr_T gf323).trans hT) ((cFr_n gf323).trans hN) hx hd) (fun w9 hp324 p324 => ?_)
          obtain ⟨gp324, ⟨rfl, p324, ppp324⟩ | ⟨rfl, xp324, p324, up324⟩⟩ := p324
          · have ggp324 := cFr_t gf323 gp324
            refine tw_if_ne rfl (fun _ => ?_) (fun z => absurd z (by decide))
            refine tw_aload rfl rfl ?_
            refine tw_iload rfl rfl ?_
            refine tw_push rfl ?_
            refine tw_ic_ne rfl (fun q325 => ?_) (fun q325 => ?_)
            · try dsimp only [tvI_i, tvJ_j, tvR_r] at q325
              have q325i := zneq (Y := 43) (by decide) q325
              refine tw_push rfl ?_
              refine tw_virt1 rfl (f_putCode hG hX (ggp324).1 ppp324 ((cFr_T ggp324).trans hT) ((cFr_n ggp324).trans hN) (cHc ppp324 (by have z := cPe pf323 ((cFr_n gf323).trans hN) p324; have z2 := cP_len p1; have z3 := rB_ge (T := T) (n := n) (p := (cs h1).1); obtain ⟨z4, z5, z6⟩ := z; rw [sf323] at z4 z6; have z4 : (rB T n (cs h1).1) + 1 ≤ (cs hp324).1 := z4; have z6 : (rB T n (cs h1).1) + 1 + (cs hp324).2.2.length ≤ (cs hp324).1 + (cs h1).2.2.length := z6; omega))) (fun wp326 hp326 p326 => ?_)
              obtain ⟨gp326, rfl, ssp326, ppp326⟩ := p326
              have ggp326 := cFr_t ggp324 gp326
              refine tw_iinc rfl rfl ?_
              refine tw_goto rfl ?_
              have z := cPe pf323 ((cFr_n gf323).trans hN) p324
              have z3 := rB_ge (T := T) (n := n) (p := (cs h1).1)
              obtain ⟨z4, z5, z6⟩ := z
              have hon := p324
              rw [sf323] at z4 hon
              have z4 : (rB T n (cs h1).1) + 1 ≤ (cs hp324).1 := z4
              exact tG_cut (zW_mono zTt G dp) (Or.inr ⟨rfl, rfl, _, k + 1, _, _, rfl, zincL hy q315, (by rw [ssp326]; show k + 1 ≤ (cs hp324).1; omega), ggp326, ppp326, fun r w => hR r (pE_4m hwf323 hon (by rw [ssp326] at w; exact w)), rfl⟩)
            · try dsimp only [tvI_i, tvJ_j, tvR_r] at q325
              have q325i := zeqi (Y := 43) (by decide) q325
              exact absurd q325 q317
          · have ggp324 := cFr_t gf323 gp324
            refine tw_if_ne rfl (fun z => absurd z (by decide)) (fun _ => ?_)
            refine tw_push rfl ?_
            have hoff := p324
            rw [sf323] at hoff
            exact tw_iret rfl ⟨ggp324, Or.inr ⟨rfl, _, hR _ (pE_4mf hwf323 hoff), up324⟩⟩
        · try dsimp only [tvI_i, tvJ_j, tvR_r] at q322
          have q322i := zneq (Y := 45) (by decide) q322
          refine tw_goto rfl ?_
          refine tw_push rfl ?_
          have h7 := pE_4n (T := T) (n := n) (d := d) (s := cs h1) (fun z => q317 ((sgn_k kp316 43 (by decide)).mpr z)) (fun z => q322 ((sgn_k kp316 45 (by decide)).mpr z))
          rw [← ssp316] at h7
          exact tw_iret rfl ⟨ggp316, Or.inl ⟨rfl, hR _ h7, ppp316⟩⟩
  · have ggp314 := cFr_t g0 gp314
    refine tw_if_ne rfl (fun z => absurd z (by decide)) (fun _ => ?_)
    refine tw_push rfl ?_
    exact tw_iret rfl ⟨ggp314, Or.inr ⟨rfl, _, pE_qf (c := 4) (by decide) p314, up314⟩⟩
theorem f_readPart {G : zG} (hG : G.1 = zProg) (hX : G.2.1 = ztx) {dp : Nat} (IH : cIH G dp) {h : zH} {T : Nat → Int32} {n : Nat} (hs : tSh h) (hp : cP h) (hT : tA h 45 = T) (hN : cn h = n) {x : Int32} {d : Nat} (hx : x.toInt = d) (hd : d ≤ 10) : tCp zTt G (dp + 1) 79 [.ref 44, .int x] h (cR T n 7 d h) := by
  refine tCp_in (by rw [hG]; rfl) ?_
  have g0 := cFr_r hs
  have hpn : (cs h).1 ≤ n := by rw [← hN]; exact cP_le hp
  have c129 : (12 : Int32).toInt = 12 := rfl
  have c4009 : (400 : Int32).toInt = 400 := rfl
  have c109 : (10 : Int32).toInt = 10 := rfl
  refine tw_aload rfl rfl ?_
  refine tw_iload rfl rfl ?_
  refine tw_virt1p rfl (IH 6 80 (by decide) _ _ _ d _ (g0).1 hp ((cFr_T g0).trans hT) ((cFr_n g0).trans hN) hx hd) (fun w9 hp327 p327 => ?_)
  obtain ⟨gp327, ⟨rfl, p327, ppp327⟩ | ⟨rfl, xp327, p327, up327⟩⟩ := p327
  · have ggp327 := cFr_t g0 gp327
    refine tw_if_ne rfl (fun _ => ?_) (fun z => absurd z (by decide))
    refine tw_push rfl ?_
    refine tw_istore rfl ?_
    refine tG_loop (zW_mono zTt G dp) (zW_conj zTt G dp) (V := fun pc L st h9 _ _ => pc = 12 ∧ st = [] ∧ ∃ (h1 : zH) (k : Nat) (y : Int32), h1 = h9 ∧ y.toInt = k ∧ k ≤ (cs h1).1 ∧ cFr h h1 ∧ cP h1 ∧ (∀ r, pE T n 8 d (cs h1) r → pE T n 7 d (cs h) r) ∧ L = [some (.ref 44), some (.int x), some (.int y)]) ?_ (⟨rfl, rfl, _, 0, _, rfl, rfl, Nat.zero_le _, ggp327, ppp327, fun r z => pE_q (by decide) p327 z, rfl⟩)
    rintro _ _ _ _ _ _ ⟨rfl, rfl, h1, k, y, rfl, hy, hk, g1, p1, hR, rfl⟩
    refine tw_iload rfl rfl ?_
    refine tw_push rfl ?_
    refine tw_ic_ge rfl (fun q328 => ?_) (fun q328 => ?_)
    · try dsimp only [tvI_i, tvJ_j, tvR_r] at q328
      refine tw_push rfl ?_
      have h4 : 400 ≤ (cs h1).1 := by omega
      have h5 := cP_400 p1
      rw [((cFr_n g1).trans hN)] at h5
      have h6 := rB_400 (T := T) (show n ≤ (cs h1).1 by omega)
      have h7 := pE_8n (T := T) (n := n) (d := d) (s := cs h1) (w400 (by decide) (by rw [h6]; omega))
      rw [h6] at h7
      exact tw_iret rfl ⟨g1, Or.inl ⟨rfl, hR _ h7, p1⟩⟩
    · try dsimp only [tvI_i, tvJ_j, tvR_r] at q328
      refine tw_aload rfl rfl ?_
      refine tw_virt0 rfl (f_wordHere hG hX (g1).1 p1 ((cFr_T g1).trans hT) ((cFr_n g1).trans hN)) (fun wp329 hp329 p329 => ?_)
      obtain ⟨gp329, ppp329, ssp329, eep329, ip329, rfl, kwp329⟩ := p329
      have ggp329 := cFr_t g1 gp329
      refine tw_push rfl ?_
      refine tw_ic_ne rfl (fun q330 => ?_) (fun q330 => ?_)
      · try dsimp only [tvI_i, tvJ_j, tvR_r] at q330
        have q330i := zneq (Y := 18) (by decide) q330
        refine tw_push rfl ?_
        have h7 := pE_8n (T := T) (n := n) (d := d) (s := cs h1) (fun z => q330 ((wrd_k (k := 18) kwp329 (by decide) (K := 18) rfl).mpr z))
        rw [← ssp329] at h7
        exact tw_iret rfl ⟨ggp329, Or.inl ⟨rfl, hR _ h7, ppp329⟩⟩
      · try dsimp only [tvI_i, tvJ_j, tvR_r] at q330
        have q330i := zeqi (Y := 18) (by decide) q330
        refine tw_aload rfl rfl ?_
        refine tw_aload rfl rfl ?_
        refine tw_getS rfl (hi_44_3 ggp329.1) ?_
        refine tw_put rfl (fun f331 => ?_)
        refine tG_set f331 (hw_44_2 f331 (ggp329).1) (fun hf331 ef331 => ?_)
        try dsimp only [tvI_i] at ef331
        have gf331 := cFr_s ggp329 ef331 (by decide)
        have hwf331 := ((wrd_k (k := 18) kwp329 (by decide) (K := 18) rfl).mp q330)
        have h9wf331 : rE T n (rB T n (cs h1).1) = (rB T n (cs h1).1) + 3 := by rw [rW_e hwf331, wlen_k.1]
        rw [h9wf331] at eep329
        have hp1n : (cs h1).1 ≤ n := by rw [← ((cFr_n g1).trans hN)]; exact cP_le p1
        have hr9f331 := rE_le (T := T) (rB_le (T := T) hp1n)
        rw [h9wf331] at hr9f331
        obtain ⟨pf331, sf331⟩ := cTo ppp329 ((cFr_n ggp329).trans hN) ef331 eep329 (by rw [ssp329]; exact Nat.le_add_right _ _) hr9f331
        rw [ssp329] at sf331
        refine tw_aload rfl rfl ?_
        refine tw_iload rfl rfl ?_
        refine tw_virt1p rfl (IH 6 80 (by decide) _ _ _ d _ (gf331).1 pf331 ((cFr_T gf331).trans hT) ((cFr_n gf331).trans hN) hx hd) (fun w9 hp332 p332 => ?_)
        obtain ⟨gp332, ⟨rfl, p332, ppp332⟩ | ⟨rfl, xp332, p332, up332⟩⟩ := p332
        · have ggp332 := cFr_t gf331 gp332
          refine tw_if_ne rfl (fun _ => ?_) (fun z => absurd z (by decide))
          refine tw_aload rfl rfl ?_
          refine tw_push rfl ?_
          refine tw_virt1 rfl (f_putCode hG hX (ggp332).1 ppp332 ((cFr_T ggp332).trans hT) ((cFr_n ggp332).trans hN) (cHc ppp332 (by have z := cPe pf331 ((cFr_n gf331).trans hN) p332; have z2 := cP_len p1; have z3 := rB_ge (T := T) (n := n) (p := (cs h1).1); obtain ⟨z4, z5, z6⟩ := z; rw [sf331] at z4 z6; have z4 : (rB T n (cs h1).1) + 3 ≤ (cs hp332).1 := z4; have z6 : (rB T n (cs h1).1) + 3 + (cs hp332).2.2.length ≤ (cs hp332).1 + (cs h1).2.2.length := z6; omega))) (fun wp333 hp333 p333 => ?_)
          obtain ⟨gp333, rfl, ssp333, ppp333⟩ := p333
          have ggp333 := cFr_t ggp332 gp333
          refine tw_iinc rfl rfl ?_
          refine tw_goto rfl ?_
          have z := cPe pf331 ((cFr_n gf331).trans hN) p332
          have z3 := rB_ge (T := T) (n := n) (p := (cs h1).1)
          obtain ⟨z4, z5, z6⟩ := z
          have hon := p332
          rw [sf331] at z4 hon
          have z4 : (rB T n (cs h1).1) + 3 ≤ (cs hp332).1 := z4
          exact tG_cut (zW_mono zTt G dp) (Or.inr ⟨rfl, rfl, _, k + 1, _, rfl, zincL hy q328, (by rw [ssp333]; show k + 1 ≤ (cs hp332).1; omega), ggp333, ppp333, fun r w => hR r (pE_8y hwf331 hon (by rw [ssp333] at w; exact w)), rfl⟩)
        · have ggp332 := cFr_t gf331 gp332
          refine tw_if_ne rfl (fun z => absurd z (by decide)) (fun _ => ?_)
          refine tw_push rfl ?_
          have hoff := p332
          rw [sf331] at hoff
          exact tw_iret rfl ⟨ggp332, Or.inr ⟨rfl, _, hR _ (pE_8f hwf331 hoff), up332⟩⟩
  · have ggp327 := cFr_t g0 gp327
    refine tw_if_ne rfl (fun z => absurd z (by decide)) (fun _ => ?_)
    refine tw_push rfl ?_
    exact tw_iret rfl ⟨ggp327, Or.inr ⟨rfl, _, pE_qf (c := 8) (by decide) p327, up327⟩⟩
theorem f_readTest {G : zG} (hG : G.1 = zProg) (hX : G.2.1 = ztx) {dp : Nat} (IH : cIH G dp) {h : zH} {T : Nat → Int32} {n : Nat} (hs : tSh h) (hp : cP h) (hT : tA h 45 = T) (hN : cn h = n) {x : Int32} {d : Nat} (hx : x.toInt = d) (hd : d ≤ 10) : tCp zTt G (dp + 1) 78 [.ref 44, .int x] h (cR T n 9 d h) := by
  refine tCp_in (by rw [hG]; rfl) ?_
  have g0 := cFr_r hs
  have hpn : (cs h).1 ≤ n := by rw [← hN]; exact cP_le hp
  have c129 : (12 : Int32).toInt = 12 := rfl
  have c4009 : (400 : Int32).toInt = 400 := rfl
  have c109 : (10 : Int32).toInt = 10 := rfl
  refine tw_aload rfl rfl ?_
  refine tw_iload rfl rfl ?_
  refine tw_virt1p rfl (IH 7 79 (by decide) _ _ _ d _ (g0).1 hp ((cFr_T g0).trans hT) ((cFr_n g0).trans hN) hx hd) (fun w9 hp334 p334 => ?_)
  obtain ⟨gp334, ⟨rfl, p334, ppp334⟩ | ⟨rfl, xp334, p334, up334⟩⟩ := p334
  · have ggp334 := cFr_t g0 gp334
    refine tw_if_ne rfl (fun _ => ?_) (fun z => absurd z (by decide))
    refine tw_push rfl ?_
    refine tw_istore rfl ?_
    refine tG_loop (zW_mono zTt G dp) (zW_conj zTt G dp) (V := fun pc L st h9 _ _ => pc = 12 ∧ st = [] ∧ ∃ (h1 : zH) (k : Nat) (y : Int32), h1 = h9 ∧ y.toInt = k ∧ k ≤ (cs h1).1 ∧ cFr h h1 ∧ cP h1 ∧ (∀ r, pE T n 10 d (cs h1) r → pE T n 9 d (cs h) r) ∧ L = [some (.ref 44), some (.int x), some (.int y)]) ?_ (⟨rfl, rfl, _, 0, _, rfl, rfl, Nat.zero_le _, ggp334, ppp334, fun r z => pE_q (by decide) p334 z, rfl⟩)
    rintro _ _ _ _ _ _ ⟨rfl, rfl, h1, k, y, rfl, hy, hk, g1, p1, hR, rfl⟩
    refine tw_iload rfl rfl ?_
    refine tw_push rfl ?_
    refine tw_ic_ge rfl (fun q335 => ?_) (fun q335 => ?_)
    · try dsimp only [tvI_i, tvJ_j, tvR_r] at q335
      refine tw_push rfl ?_
      have h4 : 400 ≤ (cs h1).1 := by omega
      have h5 := cP_400 p1
      rw [((cFr_n g1).trans hN)] at h5
      have h6 := rB_400 (T := T) (show n ≤ (cs h1).1 by omega)
      have h7 := pE_10n (T := T) (n := n) (d := d) (s := cs h1) (w400 (by decide) (by rw [h6]; omega))
      rw [h6] at h7
      exact tw_iret rfl ⟨g1, Or.inl ⟨rfl, hR _ h7, p1⟩⟩
    · try dsimp only [tvI_i, tvJ_j, tvR_r] at q335
      refine tw_aload rfl rfl ?_
      refine tw_virt0 rfl (f_wordHere hG hX (g1).1 p1 ((cFr_T g1).trans hT) ((cFr_n g1).trans hN)) (fun wp336 hp336 p336 => ?_)
      obtain ⟨gp336, ppp336, ssp336, eep336, ip336, rfl, kwp336⟩ := p336
      have ggp336 := cFr_t g1 gp336
      refine tw_push rfl ?_
      refine tw_ic_ne rfl (fun q337 => ?_) (fun q337 => ?_)
      · try dsimp only [tvI_i, tvJ_j, tvR_r] at q337
        have q337i := zneq (Y := 17) (by decide) q337
        refine tw_push rfl ?_
        have h7 := pE_10n (T := T) (n := n) (d := d) (s := cs h1) (fun z => q337 ((wrd_k (k := 17) kwp336 (by decide) (K := 17) rfl).mpr z))
        rw [← ssp336] at h7
        exact tw_iret rfl ⟨ggp336, Or.inl ⟨rfl, hR _ h7, ppp336⟩⟩
      · try dsimp only [tvI_i, tvJ_j, tvR_r] at q337
        have q337i := zeqi (Y := 17) (by decide) q337
        refine tw_aload rfl rfl ?_
        refine tw_aload rfl rfl ?_
        refine tw_getS rfl (hi_44_3 ggp336.1) ?_
        refine tw_put rfl (fun f338 => ?_)
        refine tG_set f338 (hw_44_2 f338 (ggp336).1) (fun hf338 ef338 => ?_)
        try dsimp only [tvI_i] at ef338
        have gf338 := cFr_s ggp336 ef338 (by decide)
        have hwf338 := ((wrd_k (k := 17) kwp336 (by decide) (K := 17) rfl).mp q337)
        have h9wf338 : rE T n (rB T n (cs h1).1) = (rB T n (cs h1).1) + 2 := by rw [rW_e hwf338, wlen_k.2.1]
        rw [h9wf338] at eep336
        have hp1n : (cs h1).1 ≤ n := by rw [← ((cFr_n g1).trans hN)]; exact cP_le p1
        have hr9f338 := rE_le (T := T) (rB_le (T := T) hp1n)
        rw [h9wf338] at hr9f338
        obtain ⟨pf338, sf338⟩ := cTo ppp336 ((cFr_n ggp336).trans hN) ef338 eep336 (by rw [ssp336]; exact Nat.le_add_right _ _) hr9f338
        rw [ssp336] at sf338
        refine tw_aload rfl rfl ?_
        refine tw_iload rfl rfl ?_
        refine tw_virt1p rfl (IH 7 79 (by decide) _ _ _ d _ (gf338).1 pf338 ((cFr_T gf338).trans hT) ((cFr_n gf338).trans hN) hx hd) (fun w9 hp339 p339 => ?_)
        obtain ⟨gp339, ⟨rfl, p339, ppp339⟩ | ⟨rfl, xp339, p339, up339⟩⟩ := p339
        · have ggp339 := cFr_t gf338 gp339
          refine tw_if_ne rfl (fun _ => ?_) (fun z => absurd z (by decide))
          refine tw_aload rfl rfl ?_
          refine tw_push rfl ?_
          refine tw_virt1 rfl (f_putCode hG hX (ggp339).1 ppp339 ((cFr_T ggp339).trans hT) ((cFr_n ggp339).trans hN) (cHc ppp339 (by have z := cPe pf338 ((cFr_n gf338).trans hN) p339; have z2 := cP_len p1; have z3 := rB_ge (T := T) (n := n) (p := (cs h1).1); obtain ⟨z4, z5, z6⟩ := z; rw [sf338] at z4 z6; have z4 : (rB T n (cs h1).1) + 2 ≤ (cs hp339).1 := z4; have z6 : (rB T n (cs h1).1) + 2 + (cs hp339).2.2.length ≤ (cs hp339).1 + (cs h1).2.2.length := z6; omega))) (fun wp340 hp340 p340 => ?_)
          obtain ⟨gp340, rfl, ssp340, ppp340⟩ := p340
          have ggp340 := cFr_t ggp339 gp340
          refine tw_iinc rfl rfl ?_
          refine tw_goto rfl ?_
          have z := cPe pf338 ((cFr_n gf338).trans hN) p339
          have z3 := rB_ge (T := T) (n := n) (p := (cs h1).1)
          obtain ⟨z4, z5, z6⟩ := z
          have hon := p339
          rw [sf338] at z4 hon
          have z4 : (rB T n (cs h1).1) + 2 ≤ (cs hp339).1 := z4
          exact tG_cut (zW_mono zTt G dp) (Or.inr ⟨rfl, rfl, _, k + 1, _, rfl, zincL hy q335, (by rw [ssp340]; show k + 1 ≤ (cs hp339).1; omega), ggp340, ppp340, fun r w => hR r (pE_10y hwf338 hon (by rw [ssp340] at w; exact w)), rfl⟩)
        · have ggp339 := cFr_t gf338 gp339
          refine tw_if_ne rfl (fun z => absurd z (by decide)) (fun _ => ?_)
          refine tw_push rfl ?_
          have hoff := p339
          rw [sf338] at hoff
          exact tw_iret rfl ⟨ggp339, Or.inr ⟨rfl, _, hR _ (pE_10f hwf338 hoff), up339⟩⟩
  · have ggp334 := cFr_t g0 gp334
    refine tw_if_ne rfl (fun z => absurd z (by decide)) (fun _ => ?_)
    refine tw_push rfl ?_
    exact tw_iret rfl ⟨ggp334, Or.inr ⟨rfl, _, pE_qf (c := 10) (by decide) p334, up334⟩⟩
theorem f_readComparison {G : zG} (hG : G.1 = zProg) (hX : G.2.1 = ztx) {dp : Nat} (IH : cIH G dp) {h : zH} {T : Nat → Int32} {n : Nat} (hs : tSh h) (hp : cP h) (hT : tA h 45 = T) (hN : cn h = n) {x : Int32} {d : Nat} (hx : x.toInt = d) (hd : d ≤ 10) : tCp zTt G (dp + 1) 81 [.ref 44, .int x] h (cR T n 5 d h) := by
  refine tCp_in (by rw [hG]; rfl) ?_
  have g0 := cFr_r hs
  have hpn : (cs h).1 ≤ n := by rw [← hN]; exact cP_le hp
  have c129 : (12 : Int32).toInt = 12 := rfl
  have c4009 : (400 : Int32).toInt = 400 := rfl
  have c109 : (10 : Int32).toInt = 10 := rfl
  refine tw_aload rfl rfl ?_
  refine tw_iload rfl rfl ?_
  refine tw_virt1p rfl (IH 3 83 (by decide) _ _ _ d _ (g0).1 hp ((cFr_T g0).trans hT) ((cFr_n g0).trans hN) hx hd) (fun w9 hp341 p341 => ?_)
  obtain ⟨gp341, ⟨rfl, p341, ppp341⟩ | ⟨rfl, xp341, p341, up341⟩⟩ := p341
  · have ggp341 := cFr_t g0 gp341
    refine tw_if_ne rfl (fun _ => ?_) (fun z => absurd z (by decide))
    refine tw_aload rfl rfl ?_
    refine tw_virt0 rfl (f_comparisonHere hG hX (ggp341).1 ppp341 ((cFr_T ggp341).trans hT) ((cFr_n ggp341).trans hN)) (fun w9 hp342 p342 => ?_)
    obtain ⟨gp342, ⟨vp342, p342, c8p342, rfl, ssp342, ppp342⟩ | ⟨rfl, xp342, up342, p342⟩⟩ := p342
    · have ggp342 := cFr_t ggp341 gp342
      refine tw_istore rfl ?_
      refine tw_iload rfl rfl ?_
      refine tw_push rfl ?_
      refine tw_ic_eq rfl (fun q343 => ?_) (fun q343 => ?_)
      · try dsimp only [tvI_i, tvJ_j, tvR_r] at q343
        have q343i := zeqi (Y := (-1)) (by decide) q343
        exact absurd q343 (zoN9 (by have := (rCm_r p342).2.1; omega))
      · try dsimp only [tvI_i, tvJ_j, tvR_r] at q343
        have q343i := zneq (Y := (-1)) (by decide) q343
        refine tw_aload rfl rfl ?_
        refine tw_iload rfl rfl ?_
        refine tw_virt1p rfl (IH 3 83 (by decide) _ _ _ d _ (ggp342).1 ppp342 ((cFr_T ggp342).trans hT) ((cFr_n ggp342).trans hN) hx hd) (fun w9 hp344 p344 => ?_)
        obtain ⟨gp344, ⟨rfl, p344, ppp344⟩ | ⟨rfl, xp344, p344, up344⟩⟩ := p344
        · have ggp344 := cFr_t ggp342 gp344
          refine tw_if_ne rfl (fun _ => ?_) (fun z => absurd z (by decide))
          refine tw_aload rfl rfl ?_
          refine tw_iload rfl rfl ?_
          refine tw_virt1 rfl (f_putCode hG hX (ggp344).1 ppp344 ((cFr_T ggp344).trans hT) ((cFr_n ggp344).trans hN) (cHc ppp344 (by have z := cPe ppp342 ((cFr_n ggp342).trans hN) p344; have z1 := cP_len ppp341; have z3 := rB_ge (T := T) (n := n) (p := (cs hp341).1); have z7 := (rCm_r p342).2.2; obtain ⟨z4, z5, z6⟩ := z; rw [ssp342] at z4 z6; have z4 : vp342.2 ≤ (cs hp344).1 := z4; have z6 : vp342.2 + (cs hp344).2.2.length ≤ (cs hp344).1 + (cs hp341).2.2.length := z6; omega))) (fun wp345 hp345 p345 => ?_)
          obtain ⟨gp345, rfl, ssp345, ppp345⟩ := p345
          have ggp345 := cFr_t ggp344 gp345
          refine tw_push rfl ?_
          have ho := p344
          rw [ssp342] at ho
          refine tw_iret rfl ⟨ggp345, Or.inl ⟨rfl, ?_, ppp345⟩⟩
          rw [ssp345]
          show pE T n 5 d (cs h) (.inr (rU (Int32.ofNat vp342.1).toNatClampNeg _))
          rw [zoN (v := vp342.1) (by have := (rCm_r p342).2.1; omega)]
          exact pE_5e p341 p342 c8p342 ho
        · have ggp344 := cFr_t ggp342 gp344
          refine tw_if_ne rfl (fun z => absurd z (by decide)) (fun _ => ?_)
          refine tw_push rfl ?_
          have ho := p344
          rw [ssp342] at ho
          exact tw_iret rfl ⟨ggp344, Or.inr ⟨rfl, _, pE_5d p341 p342 c8p342 ho, up344⟩⟩
    · have ggp342 := cFr_t ggp341 gp342
      refine tw_istore rfl ?_
      refine tw_iload rfl rfl ?_
      refine tw_push rfl ?_
      refine tw_ic_eq rfl (fun _ => ?_) (fun z => absurd z (by decide))
      refine tw_push rfl ?_
      rcases p342 with ⟨a1, rfl⟩ | ⟨q9, a1, a2, rfl⟩
      · exact tw_iret rfl ⟨ggp342, Or.inr ⟨rfl, _, pE_5b p341 a1, up342⟩⟩
      · exact tw_iret rfl ⟨ggp342, Or.inr ⟨rfl, _, pE_5c p341 a1 a2, up342⟩⟩
  · have ggp341 := cFr_t g0 gp341
    refine tw_if_ne rfl (fun z => absurd z (by decide)) (fun _ => ?_)
    refine tw_push rfl ?_
    exact tw_iret rfl ⟨ggp341, Or.inr ⟨rfl, _, pE_5a p341, up341⟩⟩
theorem f_readFact {G : zG} (hG : G.1 = zProg) (hX : G.2.1 = ztx) {dp : Nat} (IH : cIH G dp) {h : zH} {T : Nat → Int32} {n : Nat} (hs : tSh h) (hp : cP h) (hT : tA h 45 = T) (hN : cn h = n) {x : Int32} {d : Nat} (hx : x.toInt = d) (hd : d ≤ 10) : tCp zTt G (dp + 1) 80 [.ref 44, .int x] h (cR T n 6 d h) := by
  refine tCp_in (by rw [hG]; rfl) ?_
  have g0 := cFr_r hs
  have hpn : (cs h).1 ≤ n := by rw [← hN]; exact cP_le hp
  have c129 : (12 : Int32).toInt = 12 := rfl
  have c4009 : (400 : Int32).toInt = 400 := rfl
  have c109 : (10 : Int32).toInt = 10 := rfl
  refine tw_aload rfl rfl ?_
  refine tw_virt0 rfl (f_wordHere hG hX (g0).1 hp ((cFr_T g0).trans hT) ((cFr_n g0).trans hN)) (fun wp346 hp346 p346 => ?_)
  obtain ⟨gp346, ppp346, ssp346, eep346, ip346, rfl, kwp346⟩ := p346
  have ggp346 := cFr_t g0 gp346
  refine tw_push rfl ?_
  refine tw_ic_ne rfl (fun q347 => ?_) (fun q347 => ?_)
  · try dsimp only [tvI_i, tvJ_j, tvR_r] at q347
    have q347i := zneq (Y := 19) (by decide) q347
    refine tw_push rfl ?_
    refine tw_istore rfl ?_
    refine tw_aload rfl rfl ?_
    refine tw_virt0 rfl (f_signHere hG hX (ggp346).1 ppp346 ((cFr_T ggp346).trans hT) ((cFr_n ggp346).trans hN)) (fun wp348 hp348 p348 => ?_)
    obtain ⟨gp348, ppp348, ssp348, t3p348, cp348, rfl, kp348⟩ := p348
    have ggp348 := cFr_t ggp346 gp348
    refine tw_push rfl ?_
    refine tw_ic_ne rfl (fun q349 => ?_) (fun q349 => ?_)
    · try dsimp only [tvI_i, tvJ_j, tvR_r] at q349
      have q349i := zneq (Y := 91) (by decide) q349
      refine tw_push rfl ?_
      refine tw_istore rfl ?_
      refine tw_iload rfl rfl ?_
      refine tw_if_ne rfl (fun z => absurd z (by decide)) (fun _ => ?_)
      refine tw_iload rfl rfl ?_
      refine tw_if_ne rfl (fun z => absurd z (by decide)) (fun _ => ?_)
      refine tw_aload rfl rfl ?_
      refine tw_iload rfl rfl ?_
      refine tw_virt1p rfl (IH 5 81 (by decide) _ _ _ d _ (ggp348).1 ppp348 ((cFr_T ggp348).trans hT) ((cFr_n ggp348).trans hN) hx hd) (fun w9 hp350 p350 => ?_)
      obtain ⟨gp350, ⟨rfl, p350, ppp350⟩ | ⟨rfl, xp350, p350, up350⟩⟩ := p350
      · have ggp350 := cFr_t ggp348 gp350
        have hK := (sgn_k kp348 91 (by decide))
        rw [ssp346, show (rA (rB T n (cs h).1) (cs h)).1 = (rB T n (cs h).1) from rfl, rB_2] at hK
        have hss : cs hp348 = rA (rB T n (cs h).1) (cs h) := by rw [ssp348, ssp346]; show rA (rB T n (rB T n (cs h).1)) _ = _; rw [rB_2]; rfl
        have ho := p350
        rw [hss] at ho
        exact tw_iret rfl ⟨ggp350, Or.inl ⟨rfl, (pE_6h (fun z => q347 ((wrd_k (k := 19) kwp346 (by decide) (K := 19) rfl).mpr z)) (fun z => q349 (hK.mpr z)) ho), ppp350⟩⟩
      · have ggp350 := cFr_t ggp348 gp350
        have hK := (sgn_k kp348 91 (by decide))
        rw [ssp346, show (rA (rB T n (cs h).1) (cs h)).1 = (rB T n (cs h).1) from rfl, rB_2] at hK
        have hss : cs hp348 = rA (rB T n (cs h).1) (cs h) := by rw [ssp348, ssp346]; show rA (rB T n (rB T n (cs h).1)) _ = _; rw [rB_2]; rfl
        have ho := p350
        rw [hss] at ho
        exact tw_iret rfl ⟨ggp350, Or.inr ⟨rfl, _, (pE_6h (fun z => q347 ((wrd_k (k := 19) kwp346 (by decide) (K := 19) rfl).mpr z)) (fun z => q349 (hK.mpr z)) ho), up350⟩⟩
    · try dsimp only [tvI_i, tvJ_j, tvR_r] at q349
      have q349i := zeqi (Y := 91) (by decide) q349
      refine tw_push rfl ?_
      refine tw_goto rfl ?_
      refine tw_istore rfl ?_
      refine tw_iload rfl rfl ?_
      refine tw_if_ne rfl (fun z => absurd z (by decide)) (fun _ => ?_)
      refine tw_iload rfl rfl ?_
      refine tw_if_ne rfl (fun _ => ?_) (fun z => absurd z (by decide))
      refine tw_iload rfl rfl ?_
      refine tw_push rfl ?_
      refine tw_ic_ne rfl (fun q351 => ?_) (fun q351 => ?_)
      · try dsimp only [tvI_i, tvJ_j, tvR_r] at q351
        have q351i := zneq (Y := 10) (by decide) q351
        refine tw_iload rfl rfl ?_
        refine tw_if_eq rfl (fun z => absurd z (by decide)) (fun _ => ?_)
        refine tw_aload rfl rfl ?_
        refine tw_dup rfl ?_
        refine tw_getS rfl (hi_44_2 ggp348.1) ?_
        refine tw_push rfl ?_
        refine tw_iadd rfl ?_
        refine tw_put rfl (fun f352 => ?_)
        refine tG_set f352 (hw_44_2 f352 (ggp348).1) (fun hf352 ef352 => ?_)
        try dsimp only [tvI_i] at ef352
        have gf352 := cFr_s ggp348 ef352 (by decide)
        have hw9 : (rB T n (cs h).1) < n ∧ T (rB T n (cs h).1) = 91 := by have z := (sgn_k kp348 91 (by decide)).mp q349; rw [ssp346] at z; rw [show (rA (rB T n (cs h).1) (cs h)).1 = (rB T n (cs h).1) from rfl, rB_2] at z; exact z
        have hlf352 : (cs hp348).1 < n := by rw [ssp348, ssp346]; show rB T n (rB T n (cs h).1) < n; rw [rB_2]; exact hw9.1
        obtain ⟨pf352, sf352⟩ := cInc ppp348 hlf352 ((cFr_n ggp348).trans hN) ef352
        rw [ssp348, ssp346] at sf352
        have sf352 : cs hf352 = rA ((rB T n (cs h).1) + 1) (cs h) := by rw [sf352]; show rA (rB T n (rB T n (cs h).1) + 1) _ = _; rw [rB_2]; rfl
        refine tw_aload rfl rfl ?_
        refine tw_iload rfl rfl ?_
        refine tw_push rfl ?_
        refine tw_iadd rfl ?_
        refine tw_virt1p rfl (IH 9 78 (by decide) _ _ _ (d + 1) _ (gf352).1 pf352 ((cFr_T gf352).trans hT) ((cFr_n gf352).trans hN) (zd1 hx hd) (by omega)) (fun w9 hp353 p353 => ?_)
        obtain ⟨gp353, ⟨rfl, p353, ppp353⟩ | ⟨rfl, xp353, p353, up353⟩⟩ := p353
        · have ggp353 := cFr_t gf352 gp353
          refine tw_if_eq rfl (fun z => absurd z (by decide)) (fun _ => ?_)
          refine tw_aload rfl rfl ?_
          refine tw_push rfl ?_
          refine tw_virt1 rfl (f_takeSign hG hX (ggp353).1 ppp353 ((cFr_T ggp353).trans hT) ((cFr_n ggp353).trans hN) (y := 93) (by decide)) (fun w9 hp354 p354 => ?_)
          obtain ⟨gp354, ⟨rfl, p354, ppp354⟩ | ⟨rfl, xp354, p354, up354⟩⟩ := p354
          · have ggp354 := cFr_t ggp353 gp354
            refine tw_if_eq rfl (fun z => absurd z (by decide)) (fun _ => ?_)
            refine tw_push rfl ?_
            refine tw_goto rfl ?_
            have hd10 : d ≠ 10 := fun z => q351 (Int32.toInt_inj.mp (by rw [hx, z]; rfl))
            have ho := p353
            rw [sf352] at ho
            exact tw_iret rfl ⟨ggp354, Or.inl ⟨rfl, pE_6g hw9 hd10 ho p354, ppp354⟩⟩
          · have ggp354 := cFr_t ggp353 gp354
            refine tw_if_eq rfl (fun _ => ?_) (fun z => absurd z (by decide))
            refine tw_push rfl ?_
            have hd10 : d ≠ 10 := fun z => q351 (Int32.toInt_inj.mp (by rw [hx, z]; rfl))
            have ho := p353
            rw [sf352] at ho
            exact tw_iret rfl ⟨ggp354, Or.inr ⟨rfl, _, pE_6g hw9 hd10 ho p354, up354⟩⟩
        · have ggp353 := cFr_t gf352 gp353
          refine tw_if_eq rfl (fun _ => ?_) (fun z => absurd z (by decide))
          refine tw_push rfl ?_
          have hd10 : d ≠ 10 := fun z => q351 (Int32.toInt_inj.mp (by rw [hx, z]; rfl))
          have ho := p353
          rw [sf352] at ho
          exact tw_iret rfl ⟨ggp353, Or.inr ⟨rfl, _, pE_6e hw9 hd10 ho, up353⟩⟩
      · try dsimp only [tvI_i, tvJ_j, tvR_r] at q351
        have q351i := zeqi (Y := 10) (by decide) q351
        refine tw_aload rfl rfl ?_
        refine tw_aload rfl rfl ?_
        refine tw_getS rfl (hi_44_2 ggp348.1) ?_
        refine tw_push rfl ?_
        refine tw_virt2 rfl (f_refuse hG hX (ggp348).1 ppp348 ((cFr_T ggp348).trans hT) ((cFr_n ggp348).trans hN)) (fun wp355 hp355 p355 => ?_)
        obtain ⟨gp355, rfl, up355⟩ := p355
        have ggp355 := cFr_t ggp348 gp355
        have hd10 : d = 10 := by have z : x.toInt = 10 := congrArg Int32.toInt q351; omega
        have hss : cs hp348 = rA (rB T n (cs h).1) (cs h) := by rw [ssp348, ssp346]; show rA (rB T n (rB T n (cs h).1)) _ = _; rw [rB_2]; rfl
        have hft := cFt_of ppp348 up355 (w := 2) rfl (by decide)
        rw [hss] at hft
        have hK := (sgn_k kp348 91 (by decide))
        rw [ssp346, show (rA (rB T n (cs h).1) (cs h)).1 = (rB T n (cs h).1) from rfl, rB_2] at hK
        exact tw_iret rfl ⟨ggp355, Or.inr ⟨rfl, _, pE_6d (hK.mp q349) hd10, hft⟩⟩
  · try dsimp only [tvI_i, tvJ_j, tvR_r] at q347
    have q347i := zeqi (Y := 19) (by decide) q347
    refine tw_push rfl ?_
    refine tw_goto rfl ?_
    refine tw_istore rfl ?_
    refine tw_aload rfl rfl ?_
    refine tw_virt0 rfl (f_signHere hG hX (ggp346).1 ppp346 ((cFr_T ggp346).trans hT) ((cFr_n ggp346).trans hN)) (fun wp356 hp356 p356 => ?_)
    obtain ⟨gp356, ppp356, ssp356, t3p356, cp356, rfl, kp356⟩ := p356
    have ggp356 := cFr_t ggp346 gp356
    refine tw_push rfl ?_
    refine tw_ic_ne rfl (fun q357 => ?_) (fun q357 => ?_)
    · try dsimp only [tvI_i, tvJ_j, tvR_r] at q357
      have q357i := zneq (Y := 91) (by decide) q357
      refine tw_push rfl ?_
      refine tw_istore rfl ?_
      refine tw_iload rfl rfl ?_
      refine tw_if_ne rfl (fun _ => ?_) (fun z => absurd z (by decide))
      refine tw_iload rfl rfl ?_
      refine tw_push rfl ?_
      refine tw_ic_ne rfl (fun q358 => ?_) (fun q358 => ?_)
      · try dsimp only [tvI_i, tvJ_j, tvR_r] at q358
        have q358i := zneq (Y := 10) (by decide) q358
        refine tw_iload rfl rfl ?_
        refine tw_if_eq rfl (fun _ => ?_) (fun z => absurd z (by decide))
        refine tw_aload rfl rfl ?_
        refine tw_aload rfl rfl ?_
        refine tw_getS rfl (hi_44_3 ggp356.1) ?_
        refine tw_put rfl (fun f359 => ?_)
        refine tG_set f359 (hw_44_2 f359 (ggp356).1) (fun hf359 ef359 => ?_)
        try dsimp only [tvI_i] at ef359
        have gf359 := cFr_s ggp356 ef359 (by decide)
        have hw9 := (wrd_k (k := 19) kwp346 (by decide) (K := 19) rfl).mp q347
        have h9w : rE T n (rB T n (cs h).1) = (rB T n (cs h).1) + 3 := by rw [rW_e hw9, wlen_k.2.2.1]
        have hr9 := rE_le (T := T) (rB_le (T := T) hpn)
        rw [h9w] at hr9 eep346
        obtain ⟨pf359, sf359⟩ := cTo ppp356 ((cFr_n ggp356).trans hN) ef359 (by rw [t3p356]; exact eep346) (by rw [ssp356, ssp346]; show rB T n (rB T n (cs h).1) ≤ _; rw [rB_2]; exact Nat.le_add_right _ _) hr9
        rw [ssp356, ssp346] at sf359
        have sf359 : cs hf359 = rA ((rB T n (cs h).1) + 3) (cs h) := sf359
        refine tw_aload rfl rfl ?_
        refine tw_iload rfl rfl ?_
        refine tw_push rfl ?_
        refine tw_iadd rfl ?_
        refine tw_virt1p rfl (IH 6 80 (by decide) _ _ _ (d + 1) _ (gf359).1 pf359 ((cFr_T gf359).trans hT) ((cFr_n gf359).trans hN) (zd1 hx hd) (by omega)) (fun w9 hp360 p360 => ?_)
        obtain ⟨gp360, ⟨rfl, p360, ppp360⟩ | ⟨rfl, xp360, p360, up360⟩⟩ := p360
        · have ggp360 := cFr_t gf359 gp360
          refine tw_if_ne rfl (fun _ => ?_) (fun z => absurd z (by decide))
          refine tw_aload rfl rfl ?_
          refine tw_push rfl ?_
          refine tw_virt1 rfl (f_putCode hG hX (ggp360).1 ppp360 ((cFr_T ggp360).trans hT) ((cFr_n ggp360).trans hN) (cHc ppp360 (by have z := cPe pf359 ((cFr_n gf359).trans hN) p360; have z2 := cP_len hp; have z3 := rB_ge (T := T) (n := n) (p := (cs h).1); obtain ⟨z4, z5, z6⟩ := z; rw [sf359] at z4 z6; have z4 : (rB T n (cs h).1) + 3 ≤ (cs hp360).1 := z4; have z6 : (rB T n (cs h).1) + 3 + (cs hp360).2.2.length ≤ (cs hp360).1 + (cs h).2.2.length := z6; omega))) (fun wp361 hp361 p361 => ?_)
          obtain ⟨gp361, rfl, ssp361, ppp361⟩ := p361
          have ggp361 := cFr_t ggp360 gp361
          refine tw_push rfl ?_
          have hd10 : d ≠ 10 := fun z => q358 (Int32.toInt_inj.mp (by rw [hx, z]; rfl))
          have ho := p360
          rw [sf359] at ho
          refine tw_iret rfl ⟨ggp361, Or.inl ⟨rfl, ?_, ppp361⟩⟩
          rw [ssp361]
          exact pE_6c hw9 hd10 ho
        · have ggp360 := cFr_t gf359 gp360
          refine tw_if_ne rfl (fun z => absurd z (by decide)) (fun _ => ?_)
          refine tw_push rfl ?_
          have hd10 : d ≠ 10 := fun z => q358 (Int32.toInt_inj.mp (by rw [hx, z]; rfl))
          have ho := p360
          rw [sf359] at ho
          exact tw_iret rfl ⟨ggp360, Or.inr ⟨rfl, _, pE_6b hw9 hd10 ho, up360⟩⟩
      · try dsimp only [tvI_i, tvJ_j, tvR_r] at q358
        have q358i := zeqi (Y := 10) (by decide) q358
        refine tw_aload rfl rfl ?_
        refine tw_aload rfl rfl ?_
        refine tw_getS rfl (hi_44_2 ggp356.1) ?_
        refine tw_push rfl ?_
        refine tw_virt2 rfl (f_refuse hG hX (ggp356).1 ppp356 ((cFr_T ggp356).trans hT) ((cFr_n ggp356).trans hN)) (fun wp362 hp362 p362 => ?_)
        obtain ⟨gp362, rfl, up362⟩ := p362
        have ggp362 := cFr_t ggp356 gp362
        have hd10 : d = 10 := by have z : x.toInt = 10 := congrArg Int32.toInt q358; omega
        have hss : cs hp356 = rA (rB T n (cs h).1) (cs h) := by rw [ssp356, ssp346]; show rA (rB T n (rB T n (cs h).1)) _ = _; rw [rB_2]; rfl
        have hft := cFt_of ppp356 up362 (w := 2) rfl (by decide)
        rw [hss] at hft
        have hw9 := (wrd_k (k := 19) kwp346 (by decide) (K := 19) rfl).mp q347
        exact tw_iret rfl ⟨ggp362, Or.inr ⟨rfl, _, pE_6a hw9 hd10, hft⟩⟩
    · try dsimp only [tvI_i, tvJ_j, tvR_r] at q357
      have q357i := zeqi (Y := 91) (by decide) q357
      have hw9 := (wrd_k (k := 19) kwp346 (by decide) (K := 19) rfl).mp q347
      have z := (sgn_k kp356 91 (by decide)).mp q357
      rw [ssp346, show (rA (rB T n (cs h).1) (cs h)).1 = (rB T n (cs h).1) from rfl, rB_2] at z
      exact absurd hw9 (no_91 z (by decide))
theorem f_rec {G : zG} (hG : G.1 = zProg) (hX : G.2.1 = ztx) : ∀ dp, cIH G dp
  | 0 => fun m j hm h T n d x hs hp hT hN hx hd z => z.elim
  | dp + 1 => by
    have IH := f_rec hG hX dp
    intro m j hm h T n d x hs hp hT hN hx hd
    have hm : (m, j) = (0, 85) ∨ (m, j) = (1, 84) ∨ (m, j) = (3, 83) ∨ (m, j) = (5, 81) ∨ (m, j) = (6, 80) ∨ (m, j) = (7, 79) ∨ (m, j) = (9, 78) := by
      unfold cML at hm
      simpa using hm
    rcases hm with e | e | e | e | e | e | e <;> cases e
    · exact f_readValue hG hX IH hs hp hT hN hx hd
    · exact f_readTerm hG hX IH hs hp hT hN hx hd
    · exact f_readSum hG hX IH hs hp hT hN hx hd
    · exact f_readComparison hG hX IH hs hp hT hN hx hd
    · exact f_readFact hG hX IH hs hp hT hN hx hd
    · exact f_readPart hG hX IH hs hp hT hN hx hd
    · exact f_readTest hG hX IH hs hp hT hN hx hd
theorem tC_rec {G : zG} (hG : G.1 = zProg) (hX : G.2.1 = ztx) {m j : Nat} (hm : (m, j) ∈ cML) {h : zH} {T : Nat → Int32} {n d : Nat} {x : Int32} (hs : tSh h) (hp : cP h) (hT : tA h 45 = T) (hN : cn h = n) (hx : x.toInt = d) (hd : d ≤ 10) : tC zTt G j [.ref 44, .int x] h (cR T n m d h) := fun dp => f_rec hG hX dp m j hm h T n d x hs hp hT hN hx hd
/-! clauses, and a whole rule -/
noncomputable abbrev rCt : Type := Nat × Nat × Nat × Nat
noncomputable def rCl3 (T : Nat → Int32) (n k th f0 : Nat) (s2 : rS) (r : Nat ⊕ (rS × rCt)) : Prop :=
  (rW T n (rB T n s2.1) (rWd 16) = true ∧ ((∃ e, pE T n 9 0 (rA (rB T n s2.1 + 2) s2) (.inl e) ∧ r = .inl e) ∨ ∃ s3, pE T n 9 0 (rA (rB T n s2.1 + 2) s2) (.inr s3) ∧ r = .inr (s3, th, f0, s2.2.2.length, s3.2.2.length)))
  ∨ (¬ rW T n (rB T n s2.1) (rWd 16) = true ∧ k = 15 ∧ r = .inl (1 + 8 * rB T n s2.1 + 0))
  ∨ (¬ rW T n (rB T n s2.1) (rWd 16) = true ∧ k ≠ 15 ∧ r = .inr (rA (rB T n s2.1) s2, th, f0, s2.2.2.length, s2.2.2.length))
noncomputable def rCl2 (T : Nat → Int32) (n k th : Nat) (s1 : rS) (r : Nat ⊕ (rS × rCt)) : Prop :=
  (k = 15 ∧ rCl3 T n k th s1.2.2.length s1 r) ∨ (k ≠ 15 ∧ ((∃ e, pE T n 3 0 s1 (.inl e) ∧ r = .inl e) ∨ ∃ s2, pE T n 3 0 s1 (.inr s2) ∧ rCl3 T n k th s1.2.2.length s2 r))
noncomputable def rCl1 (T : Nat → Int32) (n k : Nat) (s0 : rS) (r : Nat ⊕ (rS × rCt)) : Prop :=
  (k = 12 ∧ ((∃ e, rM T n 2 s0.1 = .inl e ∧ r = .inl e) ∨ ∃ q, rM T n 2 s0.1 = .inr q ∧ rCl2 T n k q.2 (rA q.1 s0) r)) ∨ (k ≠ 12 ∧ rCl2 T n k k s0 r)
noncomputable def rCl (T : Nat → Int32) (n c : Nat) (s : rS) (r : Nat ⊕ (rS × rCt)) : Prop :=
  ((∀ k, 12 ≤ k → k ≤ 15 → ¬ rW T n (rB T n s.1) (rWd k) = true) ∧ r = .inl (1 + 8 * rB T n s.1 + 0))
  ∨ (∃ k, 12 ≤ k ∧ k ≤ 15 ∧ rW T n (rB T n s.1) (rWd k) = true ∧ ((c = 12 ∧ r = .inl (1 + 8 * rB T n s.1 + 4)) ∨ (c ≠ 12 ∧ rCl1 T n k (rA (rE T n (rB T n s.1)) s) r)))
noncomputable def rRu (T : Nat → Int32) (n : Nat) : Nat → rS → List rCt → Nat ⊕ (rS × List rCt) → Prop
  | 0, _, _, _ => False
  | f + 1, s, cl, r => (∃ e, rCl T n cl.length s (.inl e) ∧ r = .inl e) ∨ ∃ s1 c, rCl T n cl.length s (.inr (s1, c)) ∧ ((¬ rB T n s1.1 < n ∧ r = .inr (rA (rB T n s1.1) s1, cl ++ [c])) ∨ ((rB T n s1.1 < n ∧ T (rB T n s1.1) = 59) ∧ rRu T n f (rA (rB T n s1.1 + 1) s1) (cl ++ [c]) r) ∨ ((rB T n s1.1 < n ∧ ¬ T (rB T n s1.1) = 59) ∧ r = .inl (1 + 8 * rB T n s1.1 + 0)))
noncomputable def cCl (h : zH) : List rCt := (List.range (tvI (tF h 44 7)).toNatClampNeg).map (fun i => ((tA h 47 (4 * i)).toNatClampNeg, (tA h 47 (4 * i + 1)).toNatClampNeg, (tA h 47 (4 * i + 2)).toNatClampNeg, (tA h 47 (4 * i + 3)).toNatClampNeg))
noncomputable def cFq (h h2 : zH) : Prop := tSh h2 ∧ (∀ p b, ¬ (p = 44 ∧ (b = 2 ∨ b = 3 ∨ b = 5 ∨ b = 7 ∨ b = 8 ∨ b = 9)) → tF h2 p b = tF h p b) ∧ (∀ p, p ≠ 46 → p ≠ 47 → tA h2 p = tA h p) ∧ tN h2 = tN h
noncomputable def cQ (h : zH) : Prop := 0 ≤ (tvI (tF h 44 7)).toInt ∧ (tvI (tF h 44 7)).toInt ≤ 12 ∧ tN h 47 = 48
section RQ
variable {h h1 h2 : zH}
theorem cFq_f (k : cFr h h2) : cFq h h2 := ⟨k.1, fun p b z => k.2.1 p b (fun w => z ⟨w.1, by omega⟩), fun p z _ => k.2.2.1 p z, k.2.2.2⟩
theorem cFq_t (a : cFq h h1) (k : cFq h1 h2) : cFq h h2 := ⟨k.1, fun p q z => (k.2.1 p q z).trans (a.2.1 p q z), fun p z w => (k.2.2.1 p z w).trans (a.2.2.1 p z w), k.2.2.2.trans a.2.2.2⟩
theorem cFr_7 (k : cFr h h2) : tF h2 44 7 = tF h 44 7 := k.2.1 44 7 (by decide)
theorem cCl_f (k : cFr h h2) : cCl h2 = cCl h := by
  unfold cCl
  rw [cFr_7 k, k.2.2.1 47 (by decide)]
theorem cQ_f (k : cFr h h2) (q : cQ h) : cQ h2 := by
  unfold cQ
  rw [cFr_7 k, k.2.2.2]
  exact q
theorem cCl_len : (cCl h).length = (tvI (tF h 44 7)).toNatClampNeg := by unfold cCl; rw [List.length_map, List.length_range]
theorem cFq_T (a : cFq h h1) : tA h1 45 = tA h 45 := a.2.2.1 45 (by decide) (by decide)
theorem cFq_n (a : cFq h h1) : cn h1 = cn h := by
  unfold cn
  rw [a.2.1 44 1 (by decide)]
/-- a clause is kept -/
theorem cKp_of {a b c : Int32} {k1 k2 k3 k4 : Nat} (hs : tSh h) (q : cQ h) (h12 : (tvI (tF h 44 7)).toInt < 12) {i0 i1 i2 i3 : Int32} (e0 : i0.toInt = 4 * (tvI (tF h 44 7)).toInt) (e1 : i1.toInt = 4 * (tvI (tF h 44 7)).toInt + 1) (e2 : i2.toInt = 4 * (tvI (tF h 44 7)).toInt + 2) (e3 : i3.toInt = 4 * (tvI (tF h 44 7)).toInt + 3)
  {g1 g2 g3 g4 : zH} (d1 : g1 = tSA h 47 i0.toNatClampNeg a) (f1 : tIn h 47 k1 i0) (d2 : g2 = tSA g1 47 i1.toNatClampNeg b) (f2 : tIn g1 47 k2 i1) (d3 : g3 = tSA g2 47 i2.toNatClampNeg c) (f3 : tIn g2 47 k3 i2) {x5 : Int32} (h5 : x5 = tvI (tF h 44 5)) (d4 : g4 = tSA g3 47 i3.toNatClampNeg x5) (f4 : tIn g3 47 k4 i3) {x7 : Int32} (h7 : x7 = tvI (tF h 44 7) + 1) (f5 : tFd g4 44 7) :
  cFq h (tSF g4 44 7 (.int x7)) ∧ cCl (tSF g4 44 7 (.int x7)) = cCl h ++ [(a.toNatClampNeg, b.toNatClampNeg, c.toNatClampNeg, (tvI (tF h 44 5)).toNatClampNeg)] ∧ cQ (tSF g4 44 7 (.int x7)) ∧ cs (tSF g4 44 7 (.int x7)) = cs h ∧ (∀ b, b ≠ 7 → tF (tSF g4 44 7 (.int x7)) 44 b = tF h 44 b) ∧ tA (tSF g4 44 7 (.int x7)) 45 = tA h 45 := by
  subst h5 h7
  have F4 : tF g4 = tF h := by rw [d4, tF_tSA, d3, tF_tSA, d2, tF_tSA, d1, tF_tSA]
  have N4 : tN g4 = tN h := by rw [d4, tN_tSA, d3, tN_tSA, d2, tN_tSA, d1, tN_tSA]
  have A4 : ∀ p, p ≠ 47 → tA g4 p = tA h p := fun p hp => by rw [d4, tA_nz hp, d3, tA_nz hp, d2, tA_nz hp, d1, tA_nz hp]
  have hs4 := tSh_F F4 hs
  have e := cSet_of f5 (hw_44_7 (x := tvI (tF h 44 7) + 1) f5 hs4)
  have n0 : i0.toNatClampNeg = 4 * (tvI (tF h 44 7)).toNatClampNeg := by rw [zclE, zclE]; have := q.1; omega
  have n1 : i1.toNatClampNeg = 4 * (tvI (tF h 44 7)).toNatClampNeg + 1 := by rw [zclE, zclE]; have := q.1; omega
  have n2 : i2.toNatClampNeg = 4 * (tvI (tF h 44 7)).toNatClampNeg + 2 := by rw [zclE, zclE]; have := q.1; omega
  have n3 : i3.toNatClampNeg = 4 * (tvI (tF h 44 7)).toNatClampNeg + 3 := by rw [zclE, zclE]; have := q.1; omega
  have A47 : ∀ i, tA g4 47 i = if i = i3.toNatClampNeg then tvI (tF h 44 5) else if i = i2.toNatClampNeg then c else if i = i1.toNatClampNeg then b else if i = i0.toNatClampNeg then a else tA h 47 i := by
    intro i
    rw [d4, tA_tSA f4.cell, d3, tA_tSA f3.cell, d2, tA_tSA f2.cell, d1, tA_tSA f1.cell]
    simp only [true_and]
  generalize tSF g4 44 7 (.int (tvI (tF h 44 7) + 1)) = h3 at e
  have hF : ∀ b, b ≠ 7 → tF h3 44 b = tF h 44 b := fun b hb => (e.2.2.1 44 b (fun z => hb z.2)).trans (by rw [F4])
  have i7 : (tvI (tF h 44 7) + 1).toInt = (tvI (tF h 44 7)).toInt + 1 := zj1 (y := 12) q.1 h12
  have i7n : (tvI (tF h 44 7) + 1).toNatClampNeg = (tvI (tF h 44 7)).toNatClampNeg + 1 := zj1n (y := 12) q.1 h12
  refine ⟨⟨e.1, fun p b z => (e.2.2.1 p b (fun w => z ⟨w.1, by omega⟩)).trans (by rw [F4]), fun p _ z => (congrFun e.2.2.2.1 p).trans (A4 p z), e.2.2.2.2.trans N4⟩, ?_, ⟨?_, ?_, ?_⟩, ?_, hF, (congrFun e.2.2.2.1 45).trans (A4 45 (by decide))⟩
  · unfold cCl
    rw [cI_x e, i7n, List.range_succ, List.map_append, e.2.2.2.1]
    refine congr (congrArg HAppend.hAppend (List.map_congr_left (fun i hi => ?_))) ?_
    · have hi := List.mem_range.mp hi
      rw [A47, A47, A47, A47, n0, n1, n2, n3]
      rw [if_neg (by omega), if_neg (by omega), if_neg (by omega), if_neg (by omega), if_neg (by omega), if_neg (by omega), if_neg (by omega), if_neg (by omega), if_neg (by omega), if_neg (by omega), if_neg (by omega), if_neg (by omega), if_neg (by omega), if_neg (by omega), if_neg (by omega), if_neg (by omega)]
    · show [((tA g4 47 (4 * (tvI (tF h 44 7)).toNatClampNeg)).toNatClampNeg, (tA g4 47 (4 * (tvI (tF h 44 7)).toNatClampNeg + 1)).toNatClampNeg, (tA g4 47 (4 * (tvI (tF h 44 7)).toNatClampNeg + 2)).toNatClampNeg, (tA g4 47 (4 * (tvI (tF h 44 7)).toNatClampNeg + 3)).toNatClampNeg)] = _
      rw [A47, A47, A47, A47, n0, n1, n2, n3]
      rw [if_neg (by omega), if_neg (by omega), if_neg (by omega), if_pos rfl, if_neg (by omega), if_neg (by omega), if_pos rfl, if_neg (by omega), if_pos rfl, if_pos rfl]
  · rw [cI_x e, i7]; have := q.1; omega
  · rw [cI_x e, i7]; omega
  · rw [e.2.2.2.2, N4]; exact q.2.2
  · unfold cs cCo
    rw [hF 2 (by decide), hF 8 (by decide), hF 5 (by decide), e.2.2.2.1, A4 46 (by decide)]
theorem cP_q (p : cP h) (hF : ∀ b, b ≠ 7 → tF h2 44 b = tF h 44 b) (hT : tA h2 45 = tA h 45) (hN : tN h2 = tN h) : cP h2 := by
  unfold cP
  rw [hF 2 (by decide), hF 1 (by decide), hF 8 (by decide), hF 5 (by decide), hF 9 (by decide), hT, hN]
  exact p
theorem zm4 {x : Int32} (h0 : 0 ≤ x.toInt) (h1 : x.toInt ≤ 12) : (x * 4).toInt = 4 * x.toInt := by
  rw [Int32.toInt_mul, show (4 : Int32).toInt = 4 from rfl]
  exact (Int.bmod_eq_of_le (by show (-2147483648 : Int) ≤ x.toInt * 4; omega) (by show x.toInt * 4 < (2147483648 : Int); omega)).trans (by omega)
theorem zm4a {x y : Int32} {Y : Int} (h0 : 0 ≤ x.toInt) (h1 : x.toInt ≤ 12) (hy : y.toInt = Y) (hY : 0 ≤ Y ∧ Y ≤ 10) : (x * 4 + y).toInt = 4 * x.toInt + Y := by
  rw [Int32.toInt_add, zm4 h0 h1, hy]
  exact Int.bmod_eq_of_le (by show (-2147483648 : Int) ≤ 4 * x.toInt + Y; omega) (by show 4 * x.toInt + Y < (2147483648 : Int); omega)
theorem c12 (q : cQ h) : (cCl h).length = 12 ↔ tvI (tF h 44 7) = 12 := by
  rw [cCl_len, zclE]
  have := q.1
  constructor
  · intro z
    refine Int32.toInt_inj.mp ?_
    show _ = (12 : Int)
    omega
  · intro z
    rw [z]; rfl
end RQ
theorem f_keepClause {G : zG} (hG : G.1 = zProg) (hX : G.2.1 = ztx) {h : zH} {T : Nat → Int32} {n : Nat} (hs : tSh h) (hp : cP h) (hT : tA h 45 = T) (hN : cn h = n) {a b c : Int32} (hq : cQ h) (h12 : (tvI (tF h 44 7)).toInt < 12) : tC zTt G 77 [.ref 44, .int a, .int b, .int c] h (fun w h2 => w = none ∧ cFq h h2 ∧ cCl h2 = cCl h ++ [(a.toNatClampNeg, b.toNatClampNeg, c.toNatClampNeg, (tvI (tF h 44 5)).toNatClampNeg)] ∧ cQ h2 ∧ cs h2 = cs h ∧ cP h2) := by
  refine tC_in (by rw [hG]; rfl) (fun dp => ?_)
  have g0 := cFr_r hs
  have hpn : (cs h).1 ≤ n := by rw [← hN]; exact cP_le hp
  refine tw_aload rfl rfl ?_
  refine tw_getS rfl (hi_44_7 hs) ?_
  refine tw_push rfl ?_
  refine tw_imul rfl ?_
  refine tw_istore rfl ?_
  refine tw_iload rfl rfl ?_
  refine tw_push rfl ?_
  refine tw_iadd rfl ?_
  refine tw_aload rfl rfl ?_
  refine tw_getS rfl (hs_44_6 hs) ?_
  refine tw_alen rfl ?_
  refine tw_ic_le rfl (fun q363 => ?_) (fun q363 => ?_)
  · try dsimp only [tvI_i, tvJ_j, tvR_r] at q363
    refine tw_aload rfl rfl ?_
    refine tw_getS rfl (hs_44_6 hs) ?_
    refine tw_iload rfl rfl ?_
    refine tw_iload rfl rfl ?_
    refine tw_iast rfl (fun f364 => ?_)
    refine tw_aload rfl rfl ?_
    refine tw_getS rfl (hs_44_6 (tSh_SA hs)) ?_
    refine tw_iload rfl rfl ?_
    refine tw_push rfl ?_
    refine tw_iadd rfl ?_
    refine tw_iload rfl rfl ?_
    refine tw_iast rfl (fun f365 => ?_)
    refine tw_aload rfl rfl ?_
    refine tw_getS rfl (hs_44_6 (tSh_SA (tSh_SA hs))) ?_
    refine tw_iload rfl rfl ?_
    refine tw_push rfl ?_
    refine tw_iadd rfl ?_
    refine tw_iload rfl rfl ?_
    refine tw_iast rfl (fun f366 => ?_)
    refine tw_aload rfl rfl ?_
    refine tw_getS rfl (hs_44_6 (tSh_SA (tSh_SA (tSh_SA hs)))) ?_
    refine tw_iload rfl rfl ?_
    refine tw_push rfl ?_
    refine tw_iadd rfl ?_
    refine tw_aload rfl rfl ?_
    refine tw_getS rfl (tF_a (tF_a (tF_a (hi_44_5 hs)))) ?_
    refine tw_iast rfl (fun f367 => ?_)
    refine tw_aload rfl rfl ?_
    refine tw_dup rfl ?_
    refine tw_getS rfl (tF_a (tF_a (tF_a (tF_a (hi_44_7 hs))))) ?_
    refine tw_push rfl ?_
    refine tw_iadd rfl ?_
    refine tw_put rfl (fun f368 => ?_)
    refine tw_vret rfl ?_
    refine (fun K => ⟨rfl, K.1, K.2.1, K.2.2.1, K.2.2.2.1, cP_q hp K.2.2.2.2.1 K.2.2.2.2.2 K.1.2.2.2⟩ : _ → _) (cKp_of hs hq h12 (zm4 hq.1 hq.2.1) (zm4a hq.1 hq.2.1 rfl (by decide)) (zm4a hq.1 hq.2.1 rfl (by decide)) (zm4a hq.1 hq.2.1 rfl (by decide)) rfl f364 rfl f365 rfl f366 rfl rfl f367 rfl f368)
  · try dsimp only [tvI_i, tvJ_j, tvR_r] at q363
    have e9 : (Int32.ofNat (tN h 47)).toInt = 48 := by rw [hq.2.2]; rfl
    have e8 := zm4a (y := 4) (Y := 4) hq.1 hq.2.1 rfl (by decide)
    have z := q363
    exfalso
    have e7 : (tvI (tF h 44 7) * 4 + 4).toInt ≤ 48 := by omega
    first | omega | exact absurd z (by omega) | (rw [e9] at z; omega)
theorem f_readClause {G : zG} (hG : G.1 = zProg) (hX : G.2.1 = ztx) {h : zH} {T : Nat → Int32} {n : Nat} (hs : tSh h) (hp : cP h) (hT : tA h 45 = T) (hN : cn h = n) (hq : cQ h) : tC zTt G 76 [.ref 44] h (fun w h2 => cFq h h2 ∧ cQ h2 ∧ ((w = some (.int 1) ∧ ∃ c, rCl T n (cCl h).length (cs h) (.inr (cs h2, c)) ∧ cCl h2 = cCl h ++ [c] ∧ cP h2) ∨ (w = some (.int 0) ∧ ∃ e, rCl T n (cCl h).length (cs h) (.inl e) ∧ cFt h2 e))) := by
  refine tC_in (by rw [hG]; rfl) (fun dp => ?_)
  have g0 := cFr_r hs
  have hpn : (cs h).1 ≤ n := by rw [← hN]; exact cP_le hp
  have c129 : (12 : Int32).toInt = 12 := rfl
  have c159 : (15 : Int32).toInt = 15 := rfl
  refine tw_aload rfl rfl ?_
  refine tw_virt0 rfl (f_wordHere hG hX (g0).1 hp ((cFr_T g0).trans hT) ((cFr_n g0).trans hN)) (fun wp369 hp369 p369 => ?_)
  obtain ⟨gp369, ppp369, ssp369, eep369, ip369, rfl, kwp369⟩ := p369
  have ggp369 := cFr_t g0 gp369
  refine tw_istore rfl ?_
  refine tw_iload rfl rfl ?_
  refine tw_push rfl ?_
  refine tw_ic_lt rfl (fun q370 => ?_) (fun q370 => ?_)
  · try dsimp only [tvI_i, tvJ_j, tvR_r] at q370
    refine tw_aload rfl rfl ?_
    refine tw_aload rfl rfl ?_
    refine tw_getS rfl (hi_44_2 ggp369.1) ?_
    refine tw_push rfl ?_
    refine tw_virt2 rfl (f_refuse hG hX (ggp369).1 ppp369 ((cFr_T ggp369).trans hT) ((cFr_n ggp369).trans hN)) (fun wp371 hp371 p371 => ?_)
    obtain ⟨gp371, rfl, up371⟩ := p371
    have ggp371 := cFr_t ggp369 gp371
    have kwb := kwp369.1
    have hft := cFt_of ppp369 up371 (w := 0) rfl (by decide)
    rw [ssp369] at hft
    have z0 := q370
    exact tw_iret rfl ⟨cFq_f ggp371, cQ_f ggp371 hq, Or.inr ⟨rfl, _, Or.inl ⟨fun k h1 h2 z => by have y := (kwp369.2 k (by omega)).mpr z; omega, rfl⟩, hft⟩⟩
  · try dsimp only [tvI_i, tvJ_j, tvR_r] at q370
    refine tw_iload rfl rfl ?_
    refine tw_push rfl ?_
    refine tw_ic_le rfl (fun q372 => ?_) (fun q372 => ?_)
    · try dsimp only [tvI_i, tvJ_j, tvR_r] at q372
      refine tw_aload rfl rfl ?_
      refine tw_getS rfl (hi_44_7 ggp369.1) ?_
      refine tw_push rfl ?_
      refine tw_ic_ne rfl (fun q373 => ?_) (fun q373 => ?_)
      · try dsimp only [tvI_i, tvJ_j, tvR_r] at q373
        have q373i := zneq (Y := 12) (by decide) q373
        refine tw_aload rfl rfl ?_
        refine tw_aload rfl rfl ?_
        refine tw_getS rfl (hi_44_3 ggp369.1) ?_
        refine tw_put rfl (fun f374 => ?_)
        refine tG_set f374 (hw_44_2 f374 (ggp369).1) (fun hf374 ef374 => ?_)
        try dsimp only [tvI_i] at ef374
        have gf374 := cFr_s ggp369 ef374 (by decide)
        have kwb := kwp369.1
        have hk1 : 12 ≤ ip369.toInt := by have z := q370; omega
        have hk2 : ip369.toInt ≤ 15 := by have z := q372; omega
        have hkw : rW T n (rB T n (cs h).1) (rWd ip369.toInt.toNat) = true := (kwp369.2 ip369.toInt.toNat (by omega)).mp (by omega)
        have hc12 : (cCl h).length ≠ 12 := fun z => q373 ((congrArg tvI (cFr_7 ggp369)).trans ((c12 hq).mp z))
        have hlt12 : (tvI (tF h 44 7)).toInt < 12 := by have a := hq.2.1; have b : (tvI (tF h 44 7)).toInt ≠ 12 := fun z => q373 ((congrArg tvI (cFr_7 ggp369)).trans (Int32.toInt_inj.mp z)); omega
        obtain ⟨pf374, sf374⟩ := cTo ppp369 ((cFr_n ggp369).trans hN) ef374 eep369 (by rw [ssp369]; exact rE_ge) (rE_le (rB_le hpn))
        have sf374 : cs hf374 = rA (rE T n (rB T n (cs h).1)) (cs h) := by rw [sf374, ssp369]; rfl
        refine tw_iload rfl rfl ?_
        refine tw_push rfl ?_
        refine tw_ic_ne rfl (fun q375 => ?_) (fun q375 => ?_)
        · try dsimp only [tvI_i, tvJ_j, tvR_r] at q375
          have q375i := zneq (Y := 15) (by decide) q375
          refine tw_push rfl ?_
          refine tw_istore rfl ?_
          refine tw_iload rfl rfl ?_
          refine tw_push rfl ?_
          refine tw_ic_ne rfl (fun q376 => ?_) (fun q376 => ?_)
          · try dsimp only [tvI_i, tvJ_j, tvR_r] at q376
            have q376i := zneq (Y := 12) (by decide) q376
            refine tw_aload rfl rfl ?_
            refine tw_getS rfl (hi_44_5 (gf374).1) ?_
            refine tw_istore rfl ?_
            refine tw_iload rfl rfl ?_
            refine tw_if_ne rfl (fun z => absurd z (by decide)) (fun _ => ?_)
            refine tw_aload rfl rfl ?_
            refine tw_push rfl ?_
            refine tw_virt1 rfl (tC_rec hG hX (m := 3) (d := 0) (by decide) (gf374).1 pf374 ((cFr_T gf374).trans hT) ((cFr_n gf374).trans hN) rfl (by decide)) (fun w9 hp377 p377 => ?_)
            obtain ⟨gp377, ⟨rfl, p377, ppp377⟩ | ⟨rfl, xp377, p377, up377⟩⟩ := p377
            · have ggp377 := cFr_t gf374 gp377
              refine tw_if_ne rfl (fun _ => ?_) (fun z => absurd z (by decide))
              refine tw_aload rfl rfl ?_
              refine tw_getS rfl (hi_44_5 ggp377.1) ?_
              refine tw_istore rfl ?_
              refine tw_aload rfl rfl ?_
              refine tw_virt0 rfl (f_wordHere hG hX (ggp377).1 ppp377 ((cFr_T ggp377).trans hT) ((cFr_n ggp377).trans hN)) (fun wp378 hp378 p378 => ?_)
              obtain ⟨gp378, ppp378, ssp378, eep378, ip378, rfl, kwp378⟩ := p378
              have ggp378 := cFr_t ggp377 gp378
              refine tw_push rfl ?_
              refine tw_ic_ne rfl (fun q379 => ?_) (fun q379 => ?_)
              · try dsimp only [tvI_i, tvJ_j, tvR_r] at q379
                have q379i := zneq (Y := 16) (by decide) q379
                refine tw_iload rfl rfl ?_
                refine tw_if_eq rfl (fun _ => ?_) (fun z => absurd z (by decide))
                refine tw_aload rfl rfl ?_
                refine tw_iload rfl rfl ?_
                refine tw_iload rfl rfl ?_
                refine tw_iload rfl rfl ?_
                refine tw_virt3 rfl (f_keepClause hG hX (ggp378).1 ppp378 ((cFr_T ggp378).trans hT) ((cFr_n ggp378).trans hN) (cQ_f ggp378 hq) (by have := cFr_7 ggp378; rw [this]; exact hlt12)) (fun wp380 hp380 p380 => ?_)
                obtain ⟨rfl, gqp380, clp380, qqp380, ssp380, ppp380⟩ := p380
                refine tw_push rfl ?_
                have hk15 : ip369.toInt.toNat ≠ 15 := by have z := q375i; omega
                have hk12 : ip369.toInt.toNat ≠ 12 := by have z := q376i; omega
                have hx1 := sf374
                have ho := p377
                rw [hx1] at ho
                have hnw : ¬ rW T n (rB T n (cs hp377).1) (rWd 16) = true := fun z => q379 ((wrd_k (k := 16) kwp378 (by decide) (K := 16) rfl).mpr z)
                have hc3 : rCl3 T n ip369.toInt.toNat (ip369.toInt.toNat) (rA (rE T n (rB T n (cs h).1)) (cs h)).2.2.length (cs hp377) (.inr (cs hp378, ip369.toInt.toNat, (rA (rE T n (rB T n (cs h).1)) (cs h)).2.2.length, (cs hp377).2.2.length, (cs hp378).2.2.length)) := Or.inr (Or.inr ⟨hnw, hk15, by rw [ssp378]; rfl⟩)
                have hthv : (ip369).toNatClampNeg = ip369.toInt.toNat := rfl
                have hclk : cCl hp380 = cCl h ++ [(ip369.toInt.toNat, (rA (rE T n (rB T n (cs h).1)) (cs h)).2.2.length, (cs hp377).2.2.length, (cs hp378).2.2.length)] := by
                  rw [clp380, cCl_f ggp378, ← hx1, show (cs hf374).2.2.length = _ from cCo_len, show (cs hp378).2.2.length = _ from cCo_len, show (cs hp377).2.2.length = _ from cCo_len]
                  exact congrArg (fun z => cCl h ++ [(z, _, _, _)]) hthv
                have hcz : rCl T n (cCl h).length (cs h) (.inr (cs hp380, ip369.toInt.toNat, (rA (rE T n (rB T n (cs h).1)) (cs h)).2.2.length, (cs hp377).2.2.length, (cs hp378).2.2.length)) := by rw [ssp380]; exact Or.inr ⟨ip369.toInt.toNat, by omega, by omega, hkw, Or.inr ⟨hc12, Or.inr ⟨hk12, Or.inr ⟨hk15, Or.inr ⟨_, ho, hc3⟩⟩⟩⟩⟩
                exact tw_iret rfl ⟨cFq_t (cFq_f ggp378) gqp380, qqp380, Or.inl ⟨rfl, _, hcz, hclk, ppp380⟩⟩
              · try dsimp only [tvI_i, tvJ_j, tvR_r] at q379
                have q379i := zeqi (Y := 16) (by decide) q379
                refine tw_aload rfl rfl ?_
                refine tw_aload rfl rfl ?_
                refine tw_getS rfl (hi_44_3 ggp378.1) ?_
                refine tw_put rfl (fun f381 => ?_)
                refine tG_set f381 (hw_44_2 f381 (ggp378).1) (fun hf381 ef381 => ?_)
                try dsimp only [tvI_i] at ef381
                have gf381 := cFr_s ggp378 ef381 (by decide)
                have hw16 := (wrd_k (k := 16) kwp378 (by decide) (K := 16) rfl).mp q379
                have h9w : rE T n (rB T n (cs hp377).1) = rB T n (cs hp377).1 + 2 := by rw [rW_e hw16, wlen_k.2.2.2]
                have hyn : (cs hp377).1 ≤ n := by rw [← ((cFr_n ggp377).trans hN)]; exact cP_le ppp377
                have hr9 := rE_le (T := T) (rB_le (T := T) hyn)
                rw [h9w] at hr9 eep378
                obtain ⟨pf381, sf381⟩ := cTo ppp378 ((cFr_n ggp378).trans hN) ef381 eep378 (by rw [ssp378]; exact Nat.le_add_right _ _) hr9
                have sf381 : cs hf381 = rA (rB T n (cs hp377).1 + 2) (cs hp377) := by rw [sf381, ssp378]; rfl
                refine tw_aload rfl rfl ?_
                refine tw_push rfl ?_
                refine tw_virt1 rfl (tC_rec hG hX (m := 9) (d := 0) (by decide) (gf381).1 pf381 ((cFr_T gf381).trans hT) ((cFr_n gf381).trans hN) rfl (by decide)) (fun w9 hp382 p382 => ?_)
                obtain ⟨gp382, ⟨rfl, p382, ppp382⟩ | ⟨rfl, xp382, p382, up382⟩⟩ := p382
                · have ggp382 := cFr_t gf381 gp382
                  refine tw_if_ne rfl (fun _ => ?_) (fun z => absurd z (by decide))
                  refine tw_aload rfl rfl ?_
                  refine tw_iload rfl rfl ?_
                  refine tw_iload rfl rfl ?_
                  refine tw_iload rfl rfl ?_
                  refine tw_virt3 rfl (f_keepClause hG hX (ggp382).1 ppp382 ((cFr_T ggp382).trans hT) ((cFr_n ggp382).trans hN) (cQ_f ggp382 hq) (by have := cFr_7 ggp382; rw [this]; exact hlt12)) (fun wp383 hp383 p383 => ?_)
                  obtain ⟨rfl, gqp383, clp383, qqp383, ssp383, ppp383⟩ := p383
                  refine tw_push rfl ?_
                  have hk15 : ip369.toInt.toNat ≠ 15 := by have z := q375i; omega
                  have hk12 : ip369.toInt.toNat ≠ 12 := by have z := q376i; omega
                  have hx1 := sf374
                  have ho := p377
                  rw [hx1] at ho
                  have ht := p382
                  rw [sf381] at ht
                  have hc3 : rCl3 T n ip369.toInt.toNat (ip369.toInt.toNat) (rA (rE T n (rB T n (cs h).1)) (cs h)).2.2.length (cs hp377) (.inr (cs hp382, ip369.toInt.toNat, (rA (rE T n (rB T n (cs h).1)) (cs h)).2.2.length, (cs hp377).2.2.length, (cs hp382).2.2.length)) := Or.inl ⟨hw16, Or.inr ⟨_, ht, rfl⟩⟩
                  have hthv : (ip369).toNatClampNeg = ip369.toInt.toNat := rfl
                  have hclk : cCl hp383 = cCl h ++ [(ip369.toInt.toNat, (rA (rE T n (rB T n (cs h).1)) (cs h)).2.2.length, (cs hp377).2.2.length, (cs hp382).2.2.length)] := by
                    rw [clp383, cCl_f ggp382, ← hx1, show (cs hf374).2.2.length = _ from cCo_len, show (cs hp382).2.2.length = _ from cCo_len, show (cs hp377).2.2.length = _ from cCo_len]
                    exact congrArg (fun z => cCl h ++ [(z, _, _, _)]) hthv
                  have hcz : rCl T n (cCl h).length (cs h) (.inr (cs hp383, ip369.toInt.toNat, (rA (rE T n (rB T n (cs h).1)) (cs h)).2.2.length, (cs hp377).2.2.length, (cs hp382).2.2.length)) := by rw [ssp383]; exact Or.inr ⟨ip369.toInt.toNat, by omega, by omega, hkw, Or.inr ⟨hc12, Or.inr ⟨hk12, Or.inr ⟨hk15, Or.inr ⟨_, ho, hc3⟩⟩⟩⟩⟩
                  exact tw_iret rfl ⟨cFq_t (cFq_f ggp382) gqp383, qqp383, Or.inl ⟨rfl, _, hcz, hclk, ppp383⟩⟩
                · have ggp382 := cFr_t gf381 gp382
                  refine tw_if_ne rfl (fun z => absurd z (by decide)) (fun _ => ?_)
                  refine tw_push rfl ?_
                  have hk15 : ip369.toInt.toNat ≠ 15 := by have z := q375i; omega
                  have hk12 : ip369.toInt.toNat ≠ 12 := by have z := q376i; omega
                  have hx1 := sf374
                  have ho := p377
                  rw [hx1] at ho
                  have ht := p382
                  rw [sf381] at ht
                  have hc3 : rCl3 T n ip369.toInt.toNat (ip369.toInt.toNat) (rA (rE T n (rB T n (cs h).1)) (cs h)).2.2.length (cs hp377) (.inl _) := Or.inl ⟨hw16, Or.inl ⟨_, ht, rfl⟩⟩
                  exact tw_iret rfl ⟨cFq_f ggp382, cQ_f ggp382 hq, Or.inr ⟨rfl, _, Or.inr ⟨ip369.toInt.toNat, by omega, by omega, hkw, Or.inr ⟨hc12, Or.inr ⟨hk12, Or.inr ⟨hk15, Or.inr ⟨_, ho, hc3⟩⟩⟩⟩⟩, up382⟩⟩
            · have ggp377 := cFr_t gf374 gp377
              refine tw_if_ne rfl (fun z => absurd z (by decide)) (fun _ => ?_)
              refine tw_push rfl ?_
              have hk15 : ip369.toInt.toNat ≠ 15 := by have z := q375i; omega
              have hk12 : ip369.toInt.toNat ≠ 12 := by have z := q376i; omega
              have hx1 := sf374
              have ho := p377
              rw [hx1] at ho
              exact tw_iret rfl ⟨cFq_f ggp377, cQ_f ggp377 hq, Or.inr ⟨rfl, _, Or.inr ⟨ip369.toInt.toNat, by omega, by omega, hkw, Or.inr ⟨hc12, Or.inr ⟨hk12, Or.inr ⟨hk15, Or.inl ⟨_, ho, rfl⟩⟩⟩⟩⟩, up377⟩⟩
          · try dsimp only [tvI_i, tvJ_j, tvR_r] at q376
            have q376i := zeqi (Y := 12) (by decide) q376
            refine tw_aload rfl rfl ?_
            refine tw_push rfl ?_
            refine tw_virt1 rfl (f_numberHere hG hX (gf374).1 pf374 ((cFr_T gf374).trans hT) ((cFr_n gf374).trans hN) (m := 2) (M := 2) rfl (by decide)) (fun w9 hp384 p384 => ?_)
            obtain ⟨gp384, ⟨vp384, p384, rfl, ssp384, ppp384⟩ | ⟨xp384, p384, rfl, up384⟩⟩ := p384
            · have ggp384 := cFr_t gf374 gp384
              refine tw_istore rfl ?_
              refine tw_iload rfl rfl ?_
              refine tw_push rfl ?_
              refine tw_ic_ne rfl (fun q385 => ?_) (fun q385 => ?_)
              · try dsimp only [tvI_i, tvJ_j, tvR_r] at q385
                have q385i := zneq (Y := (-1)) (by decide) q385
                refine tw_aload rfl rfl ?_
                refine tw_getS rfl (hi_44_5 ggp384.1) ?_
                refine tw_istore rfl ?_
                refine tw_iload rfl rfl ?_
                refine tw_if_ne rfl (fun z => absurd z (by decide)) (fun _ => ?_)
                refine tw_aload rfl rfl ?_
                refine tw_push rfl ?_
                refine tw_virt1 rfl (tC_rec hG hX (m := 3) (d := 0) (by decide) (ggp384).1 ppp384 ((cFr_T ggp384).trans hT) ((cFr_n ggp384).trans hN) rfl (by decide)) (fun w9 hp386 p386 => ?_)
                obtain ⟨gp386, ⟨rfl, p386, ppp386⟩ | ⟨rfl, xp386, p386, up386⟩⟩ := p386
                · have ggp386 := cFr_t ggp384 gp386
                  refine tw_if_ne rfl (fun _ => ?_) (fun z => absurd z (by decide))
                  refine tw_aload rfl rfl ?_
                  refine tw_getS rfl (hi_44_5 ggp386.1) ?_
                  refine tw_istore rfl ?_
                  refine tw_aload rfl rfl ?_
                  refine tw_virt0 rfl (f_wordHere hG hX (ggp386).1 ppp386 ((cFr_T ggp386).trans hT) ((cFr_n ggp386).trans hN)) (fun wp387 hp387 p387 => ?_)
                  obtain ⟨gp387, ppp387, ssp387, eep387, ip387, rfl, kwp387⟩ := p387
                  have ggp387 := cFr_t ggp386 gp387
                  refine tw_push rfl ?_
                  refine tw_ic_ne rfl (fun q388 => ?_) (fun q388 => ?_)
                  · try dsimp only [tvI_i, tvJ_j, tvR_r] at q388
                    have q388i := zneq (Y := 16) (by decide) q388
                    refine tw_iload rfl rfl ?_
                    refine tw_if_eq rfl (fun _ => ?_) (fun z => absurd z (by decide))
                    refine tw_aload rfl rfl ?_
                    refine tw_iload rfl rfl ?_
                    refine tw_iload rfl rfl ?_
                    refine tw_iload rfl rfl ?_
                    refine tw_virt3 rfl (f_keepClause hG hX (ggp387).1 ppp387 ((cFr_T ggp387).trans hT) ((cFr_n ggp387).trans hN) (cQ_f ggp387 hq) (by have := cFr_7 ggp387; rw [this]; exact hlt12)) (fun wp389 hp389 p389 => ?_)
                    obtain ⟨rfl, gqp389, clp389, qqp389, ssp389, ppp389⟩ := p389
                    refine tw_push rfl ?_
                    have hk15 : ip369.toInt.toNat ≠ 15 := by have z := q375i; omega
                    have hk12 : ip369.toInt.toNat = 12 := by have z := q376i; omega
                    have hrm := p384
                    rw [sf374] at hrm
                    have hx1 : cs hp384 = rA vp384.1 (rA (rE T n (rB T n (cs h).1)) (cs h)) := by rw [ssp384, sf374]
                    have ho := p386
                    rw [hx1] at ho
                    have hnw : ¬ rW T n (rB T n (cs hp386).1) (rWd 16) = true := fun z => q388 ((wrd_k (k := 16) kwp387 (by decide) (K := 16) rfl).mpr z)
                    have hc3 : rCl3 T n ip369.toInt.toNat (vp384.2) (rA vp384.1 (rA (rE T n (rB T n (cs h).1)) (cs h))).2.2.length (cs hp386) (.inr (cs hp387, vp384.2, (rA vp384.1 (rA (rE T n (rB T n (cs h).1)) (cs h))).2.2.length, (cs hp386).2.2.length, (cs hp387).2.2.length)) := Or.inr (Or.inr ⟨hnw, hk15, by rw [ssp387]; rfl⟩)
                    have hthv : (Int32.ofNat vp384.2).toNatClampNeg = vp384.2 := zoN (by have := (rM_r (rE_le (rB_le hpn)) hrm).2.2; omega)
                    have hclk : cCl hp389 = cCl h ++ [(vp384.2, (rA vp384.1 (rA (rE T n (rB T n (cs h).1)) (cs h))).2.2.length, (cs hp386).2.2.length, (cs hp387).2.2.length)] := by
                      rw [clp389, cCl_f ggp387, ← hx1, show (cs hp384).2.2.length = _ from cCo_len, show (cs hp387).2.2.length = _ from cCo_len, show (cs hp386).2.2.length = _ from cCo_len]
                      exact congrArg (fun z => cCl h ++ [(z, _, _, _)]) hthv
                    have hcz : rCl T n (cCl h).length (cs h) (.inr (cs hp389, vp384.2, (rA vp384.1 (rA (rE T n (rB T n (cs h).1)) (cs h))).2.2.length, (cs hp386).2.2.length, (cs hp387).2.2.length)) := by rw [ssp389]; exact Or.inr ⟨ip369.toInt.toNat, by omega, by omega, hkw, Or.inr ⟨hc12, Or.inl ⟨hk12, Or.inr ⟨vp384, hrm, Or.inr ⟨hk15, Or.inr ⟨_, ho, hc3⟩⟩⟩⟩⟩⟩
                    exact tw_iret rfl ⟨cFq_t (cFq_f ggp387) gqp389, qqp389, Or.inl ⟨rfl, _, hcz, hclk, ppp389⟩⟩
                  · try dsimp only [tvI_i, tvJ_j, tvR_r] at q388
                    have q388i := zeqi (Y := 16) (by decide) q388
                    refine tw_aload rfl rfl ?_
                    refine tw_aload rfl rfl ?_
                    refine tw_getS rfl (hi_44_3 ggp387.1) ?_
                    refine tw_put rfl (fun f390 => ?_)
                    refine tG_set f390 (hw_44_2 f390 (ggp387).1) (fun hf390 ef390 => ?_)
                    try dsimp only [tvI_i] at ef390
                    have gf390 := cFr_s ggp387 ef390 (by decide)
                    have hw16 := (wrd_k (k := 16) kwp387 (by decide) (K := 16) rfl).mp q388
                    have h9w : rE T n (rB T n (cs hp386).1) = rB T n (cs hp386).1 + 2 := by rw [rW_e hw16, wlen_k.2.2.2]
                    have hyn : (cs hp386).1 ≤ n := by rw [← ((cFr_n ggp386).trans hN)]; exact cP_le ppp386
                    have hr9 := rE_le (T := T) (rB_le (T := T) hyn)
                    rw [h9w] at hr9 eep387
                    obtain ⟨pf390, sf390⟩ := cTo ppp387 ((cFr_n ggp387).trans hN) ef390 eep387 (by rw [ssp387]; exact Nat.le_add_right _ _) hr9
                    have sf390 : cs hf390 = rA (rB T n (cs hp386).1 + 2) (cs hp386) := by rw [sf390, ssp387]; rfl
                    refine tw_aload rfl rfl ?_
                    refine tw_push rfl ?_
                    refine tw_virt1 rfl (tC_rec hG hX (m := 9) (d := 0) (by decide) (gf390).1 pf390 ((cFr_T gf390).trans hT) ((cFr_n gf390).trans hN) rfl (by decide)) (fun w9 hp391 p391 => ?_)
                    obtain ⟨gp391, ⟨rfl, p391, ppp391⟩ | ⟨rfl, xp391, p391, up391⟩⟩ := p391
                    · have ggp391 := cFr_t gf390 gp391
                      refine tw_if_ne rfl (fun _ => ?_) (fun z => absurd z (by decide))
                      refine tw_aload rfl rfl ?_
                      refine tw_iload rfl rfl ?_
                      refine tw_iload rfl rfl ?_
                      refine tw_iload rfl rfl ?_
                      refine tw_virt3 rfl (f_keepClause hG hX (ggp391).1 ppp391 ((cFr_T ggp391).trans hT) ((cFr_n ggp391).trans hN) (cQ_f ggp391 hq) (by have := cFr_7 ggp391; rw [this]; exact hlt12)) (fun wp392 hp392 p392 => ?_)
                      obtain ⟨rfl, gqp392, clp392, qqp392, ssp392, ppp392⟩ := p392
                      refine tw_push rfl ?_
                      have hk15 : ip369.toInt.toNat ≠ 15 := by have z := q375i; omega
                      have hk12 : ip369.toInt.toNat = 12 := by have z := q376i; omega
                      have hrm := p384
                      rw [sf374] at hrm
                      have hx1 : cs hp384 = rA vp384.1 (rA (rE T n (rB T n (cs h).1)) (cs h)) := by rw [ssp384, sf374]
                      have ho := p386
                      rw [hx1] at ho
                      have ht := p391
                      rw [sf390] at ht
                      have hc3 : rCl3 T n ip369.toInt.toNat (vp384.2) (rA vp384.1 (rA (rE T n (rB T n (cs h).1)) (cs h))).2.2.length (cs hp386) (.inr (cs hp391, vp384.2, (rA vp384.1 (rA (rE T n (rB T n (cs h).1)) (cs h))).2.2.length, (cs hp386).2.2.length, (cs hp391).2.2.length)) := Or.inl ⟨hw16, Or.inr ⟨_, ht, rfl⟩⟩
                      have hthv : (Int32.ofNat vp384.2).toNatClampNeg = vp384.2 := zoN (by have := (rM_r (rE_le (rB_le hpn)) hrm).2.2; omega)
                      have hclk : cCl hp392 = cCl h ++ [(vp384.2, (rA vp384.1 (rA (rE T n (rB T n (cs h).1)) (cs h))).2.2.length, (cs hp386).2.2.length, (cs hp391).2.2.length)] := by
                        rw [clp392, cCl_f ggp391, ← hx1, show (cs hp384).2.2.length = _ from cCo_len, show (cs hp391).2.2.length = _ from cCo_len, show (cs hp386).2.2.length = _ from cCo_len]
                        exact congrArg (fun z => cCl h ++ [(z, _, _, _)]) hthv
                      have hcz : rCl T n (cCl h).length (cs h) (.inr (cs hp392, vp384.2, (rA vp384.1 (rA (rE T n (rB T n (cs h).1)) (cs h))).2.2.length, (cs hp386).2.2.length, (cs hp391).2.2.length)) := by rw [ssp392]; exact Or.inr ⟨ip369.toInt.toNat, by omega, by omega, hkw, Or.inr ⟨hc12, Or.inl ⟨hk12, Or.inr ⟨vp384, hrm, Or.inr ⟨hk15, Or.inr ⟨_, ho, hc3⟩⟩⟩⟩⟩⟩
                      exact tw_iret rfl ⟨cFq_t (cFq_f ggp391) gqp392, qqp392, Or.inl ⟨rfl, _, hcz, hclk, ppp392⟩⟩
                    · have ggp391 := cFr_t gf390 gp391
                      refine tw_if_ne rfl (fun z => absurd z (by decide)) (fun _ => ?_)
                      refine tw_push rfl ?_
                      have hk15 : ip369.toInt.toNat ≠ 15 := by have z := q375i; omega
                      have hk12 : ip369.toInt.toNat = 12 := by have z := q376i; omega
                      have hrm := p384
                      rw [sf374] at hrm
                      have hx1 : cs hp384 = rA vp384.1 (rA (rE T n (rB T n (cs h).1)) (cs h)) := by rw [ssp384, sf374]
                      have ho := p386
                      rw [hx1] at ho
                      have ht := p391
                      rw [sf390] at ht
                      have hc3 : rCl3 T n ip369.toInt.toNat (vp384.2) (rA vp384.1 (rA (rE T n (rB T n (cs h).1)) (cs h))).2.2.length (cs hp386) (.inl _) := Or.inl ⟨hw16, Or.inl ⟨_, ht, rfl⟩⟩
                      exact tw_iret rfl ⟨cFq_f ggp391, cQ_f ggp391 hq, Or.inr ⟨rfl, _, Or.inr ⟨ip369.toInt.toNat, by omega, by omega, hkw, Or.inr ⟨hc12, Or.inl ⟨hk12, Or.inr ⟨vp384, hrm, Or.inr ⟨hk15, Or.inr ⟨_, ho, hc3⟩⟩⟩⟩⟩⟩, up391⟩⟩
                · have ggp386 := cFr_t ggp384 gp386
                  refine tw_if_ne rfl (fun z => absurd z (by decide)) (fun _ => ?_)
                  refine tw_push rfl ?_
                  have hk15 : ip369.toInt.toNat ≠ 15 := by have z := q375i; omega
                  have hk12 : ip369.toInt.toNat = 12 := by have z := q376i; omega
                  have hrm := p384
                  rw [sf374] at hrm
                  have hx1 : cs hp384 = rA vp384.1 (rA (rE T n (rB T n (cs h).1)) (cs h)) := by rw [ssp384, sf374]
                  have ho := p386
                  rw [hx1] at ho
                  exact tw_iret rfl ⟨cFq_f ggp386, cQ_f ggp386 hq, Or.inr ⟨rfl, _, Or.inr ⟨ip369.toInt.toNat, by omega, by omega, hkw, Or.inr ⟨hc12, Or.inl ⟨hk12, Or.inr ⟨vp384, hrm, Or.inr ⟨hk15, Or.inl ⟨_, ho, rfl⟩⟩⟩⟩⟩⟩, up386⟩⟩
              · try dsimp only [tvI_i, tvJ_j, tvR_r] at q385
                have q385i := zeqi (Y := (-1)) (by decide) q385
                exact absurd q385 (zoN9 (by have := (rM_r (rE_le (rB_le hpn)) (by have y := p384; rw [sf374] at y; exact y)).2.2; omega))
            · have ggp384 := cFr_t gf374 gp384
              refine tw_istore rfl ?_
              refine tw_iload rfl rfl ?_
              refine tw_push rfl ?_
              refine tw_ic_ne rfl (fun z => absurd z (by decide)) (fun _ => ?_)
              refine tw_push rfl ?_
              have hk15 : ip369.toInt.toNat ≠ 15 := by have z := q375i; omega
              have hk12 : ip369.toInt.toNat = 12 := by have z := q376i; omega
              have hrm := p384
              rw [sf374] at hrm
              exact tw_iret rfl ⟨cFq_f ggp384, cQ_f ggp384 hq, Or.inr ⟨rfl, _, Or.inr ⟨ip369.toInt.toNat, by omega, by omega, hkw, Or.inr ⟨hc12, Or.inl ⟨hk12, Or.inl ⟨_, hrm, rfl⟩⟩⟩⟩, up384⟩⟩
        · try dsimp only [tvI_i, tvJ_j, tvR_r] at q375
          have q375i := zeqi (Y := 15) (by decide) q375
          refine tw_push rfl ?_
          refine tw_goto rfl ?_
          refine tw_istore rfl ?_
          refine tw_iload rfl rfl ?_
          refine tw_push rfl ?_
          refine tw_ic_ne rfl (fun q393 => ?_) (fun q393 => ?_)
          · try dsimp only [tvI_i, tvJ_j, tvR_r] at q393
            have q393i := zneq (Y := 12) (by decide) q393
            refine tw_aload rfl rfl ?_
            refine tw_getS rfl (hi_44_5 (gf374).1) ?_
            refine tw_istore rfl ?_
            refine tw_iload rfl rfl ?_
            refine tw_if_ne rfl (fun _ => ?_) (fun z => absurd z (by decide))
            refine tw_aload rfl rfl ?_
            refine tw_getS rfl (hi_44_5 (gf374).1) ?_
            refine tw_istore rfl ?_
            refine tw_aload rfl rfl ?_
            refine tw_virt0 rfl (f_wordHere hG hX (gf374).1 pf374 ((cFr_T gf374).trans hT) ((cFr_n gf374).trans hN)) (fun wp394 hp394 p394 => ?_)
            obtain ⟨gp394, ppp394, ssp394, eep394, ip394, rfl, kwp394⟩ := p394
            have ggp394 := cFr_t gf374 gp394
            refine tw_push rfl ?_
            refine tw_ic_ne rfl (fun q395 => ?_) (fun q395 => ?_)
            · try dsimp only [tvI_i, tvJ_j, tvR_r] at q395
              have q395i := zneq (Y := 16) (by decide) q395
              refine tw_iload rfl rfl ?_
              refine tw_if_eq rfl (fun z => absurd z (by decide)) (fun _ => ?_)
              refine tw_aload rfl rfl ?_
              refine tw_aload rfl rfl ?_
              refine tw_getS rfl (hi_44_2 ggp394.1) ?_
              refine tw_push rfl ?_
              refine tw_virt2 rfl (f_refuse hG hX (ggp394).1 ppp394 ((cFr_T ggp394).trans hT) ((cFr_n ggp394).trans hN)) (fun wp396 hp396 p396 => ?_)
              obtain ⟨gp396, rfl, up396⟩ := p396
              have ggp396 := cFr_t ggp394 gp396
              have hk15 : ip369.toInt.toNat = 15 := by have z := q375i; omega
              have hk12 : ip369.toInt.toNat ≠ 12 := by omega
              have hx1 := sf374
              have hy1 := hx1
              have hnw : ¬ rW T n (rB T n (cs hf374).1) (rWd 16) = true := fun z => q395 ((wrd_k (k := 16) kwp394 (by decide) (K := 16) rfl).mpr z)
              have hft := cFt_of ppp394 up396 (w := 0) rfl (by decide)
              rw [ssp394, hx1] at hft
              rw [hx1] at hnw
              have hc3 : rCl3 T n ip369.toInt.toNat (ip369.toInt.toNat) (rA (rE T n (rB T n (cs h).1)) (cs h)).2.2.length (rA (rE T n (rB T n (cs h).1)) (cs h)) (.inl (1 + 8 * rB T n (rA (rE T n (rB T n (cs h).1)) (cs h)).1 + 0)) := Or.inr (Or.inl ⟨hnw, hk15, rfl⟩)
              have hft2 : cFt hp396 (1 + 8 * rB T n (rA (rE T n (rB T n (cs h).1)) (cs h)).1 + 0) := hft
              exact tw_iret rfl ⟨cFq_f ggp396, cQ_f ggp396 hq, Or.inr ⟨rfl, _, Or.inr ⟨ip369.toInt.toNat, by omega, by omega, hkw, Or.inr ⟨hc12, Or.inr ⟨hk12, Or.inl ⟨hk15, hc3⟩⟩⟩⟩, hft2⟩⟩
            · try dsimp only [tvI_i, tvJ_j, tvR_r] at q395
              have q395i := zeqi (Y := 16) (by decide) q395
              refine tw_aload rfl rfl ?_
              refine tw_aload rfl rfl ?_
              refine tw_getS rfl (hi_44_3 ggp394.1) ?_
              refine tw_put rfl (fun f397 => ?_)
              refine tG_set f397 (hw_44_2 f397 (ggp394).1) (fun hf397 ef397 => ?_)
              try dsimp only [tvI_i] at ef397
              have gf397 := cFr_s ggp394 ef397 (by decide)
              have hw16 := (wrd_k (k := 16) kwp394 (by decide) (K := 16) rfl).mp q395
              have h9w : rE T n (rB T n (cs hf374).1) = rB T n (cs hf374).1 + 2 := by rw [rW_e hw16, wlen_k.2.2.2]
              have hyn : (cs hf374).1 ≤ n := by rw [← ((cFr_n gf374).trans hN)]; exact cP_le pf374
              have hr9 := rE_le (T := T) (rB_le (T := T) hyn)
              rw [h9w] at hr9 eep394
              obtain ⟨pf397, sf397⟩ := cTo ppp394 ((cFr_n ggp394).trans hN) ef397 eep394 (by rw [ssp394]; exact Nat.le_add_right _ _) hr9
              have sf397 : cs hf397 = rA (rB T n (cs hf374).1 + 2) (cs hf374) := by rw [sf397, ssp394]; rfl
              refine tw_aload rfl rfl ?_
              refine tw_push rfl ?_
              refine tw_virt1 rfl (tC_rec hG hX (m := 9) (d := 0) (by decide) (gf397).1 pf397 ((cFr_T gf397).trans hT) ((cFr_n gf397).trans hN) rfl (by decide)) (fun w9 hp398 p398 => ?_)
              obtain ⟨gp398, ⟨rfl, p398, ppp398⟩ | ⟨rfl, xp398, p398, up398⟩⟩ := p398
              · have ggp398 := cFr_t gf397 gp398
                refine tw_if_ne rfl (fun _ => ?_) (fun z => absurd z (by decide))
                refine tw_aload rfl rfl ?_
                refine tw_iload rfl rfl ?_
                refine tw_iload rfl rfl ?_
                refine tw_iload rfl rfl ?_
                refine tw_virt3 rfl (f_keepClause hG hX (ggp398).1 ppp398 ((cFr_T ggp398).trans hT) ((cFr_n ggp398).trans hN) (cQ_f ggp398 hq) (by have := cFr_7 ggp398; rw [this]; exact hlt12)) (fun wp399 hp399 p399 => ?_)
                obtain ⟨rfl, gqp399, clp399, qqp399, ssp399, ppp399⟩ := p399
                refine tw_push rfl ?_
                have hk15 : ip369.toInt.toNat = 15 := by have z := q375i; omega
                have hk12 : ip369.toInt.toNat ≠ 12 := by omega
                have hx1 := sf374
                have hy1 := hx1
                rw [hx1] at hw16
                have ht := p398
                rw [sf397, hx1] at ht
                have hc3 : rCl3 T n ip369.toInt.toNat (ip369.toInt.toNat) (rA (rE T n (rB T n (cs h).1)) (cs h)).2.2.length (rA (rE T n (rB T n (cs h).1)) (cs h)) (.inr (cs hp398, ip369.toInt.toNat, (rA (rE T n (rB T n (cs h).1)) (cs h)).2.2.length, (rA (rE T n (rB T n (cs h).1)) (cs h)).2.2.length, (cs hp398).2.2.length)) := Or.inl ⟨hw16, Or.inr ⟨_, ht, rfl⟩⟩
                have hthv : (ip369).toNatClampNeg = ip369.toInt.toNat := rfl
                have hclk : cCl hp399 = cCl h ++ [(ip369.toInt.toNat, (rA (rE T n (rB T n (cs h).1)) (cs h)).2.2.length, (rA (rE T n (rB T n (cs h).1)) (cs h)).2.2.length, (cs hp398).2.2.length)] := by
                  rw [clp399, cCl_f ggp398, ← hx1, show (cs hf374).2.2.length = _ from cCo_len, show (cs hp398).2.2.length = _ from cCo_len]
                  exact congrArg (fun z => cCl h ++ [(z, _, _, _)]) hthv
                have hcz : rCl T n (cCl h).length (cs h) (.inr (cs hp399, ip369.toInt.toNat, (rA (rE T n (rB T n (cs h).1)) (cs h)).2.2.length, (rA (rE T n (rB T n (cs h).1)) (cs h)).2.2.length, (cs hp398).2.2.length)) := by rw [ssp399]; exact Or.inr ⟨ip369.toInt.toNat, by omega, by omega, hkw, Or.inr ⟨hc12, Or.inr ⟨hk12, Or.inl ⟨hk15, hc3⟩⟩⟩⟩
                exact tw_iret rfl ⟨cFq_t (cFq_f ggp398) gqp399, qqp399, Or.inl ⟨rfl, _, hcz, hclk, ppp399⟩⟩
              · have ggp398 := cFr_t gf397 gp398
                refine tw_if_ne rfl (fun z => absurd z (by decide)) (fun _ => ?_)
                refine tw_push rfl ?_
                have hk15 : ip369.toInt.toNat = 15 := by have z := q375i; omega
                have hk12 : ip369.toInt.toNat ≠ 12 := by omega
                have hx1 := sf374
                have hy1 := hx1
                rw [hx1] at hw16
                have ht := p398
                rw [sf397, hx1] at ht
                have hc3 : rCl3 T n ip369.toInt.toNat (ip369.toInt.toNat) (rA (rE T n (rB T n (cs h).1)) (cs h)).2.2.length (rA (rE T n (rB T n (cs h).1)) (cs h)) (.inl _) := Or.inl ⟨hw16, Or.inl ⟨_, ht, rfl⟩⟩
                exact tw_iret rfl ⟨cFq_f ggp398, cQ_f ggp398 hq, Or.inr ⟨rfl, _, Or.inr ⟨ip369.toInt.toNat, by omega, by omega, hkw, Or.inr ⟨hc12, Or.inr ⟨hk12, Or.inl ⟨hk15, hc3⟩⟩⟩⟩, up398⟩⟩
          · try dsimp only [tvI_i, tvJ_j, tvR_r] at q393
            have q393i := zeqi (Y := 12) (by decide) q393
            exact absurd (q375.symm.trans q393) (by decide)
      · try dsimp only [tvI_i, tvJ_j, tvR_r] at q373
        have q373i := zeqi (Y := 12) (by decide) q373
        refine tw_aload rfl rfl ?_
        refine tw_aload rfl rfl ?_
        refine tw_getS rfl (hi_44_2 ggp369.1) ?_
        refine tw_push rfl ?_
        refine tw_virt2 rfl (f_refuse hG hX (ggp369).1 ppp369 ((cFr_T ggp369).trans hT) ((cFr_n ggp369).trans hN)) (fun wp400 hp400 p400 => ?_)
        obtain ⟨gp400, rfl, up400⟩ := p400
        have ggp400 := cFr_t ggp369 gp400
        have kwb := kwp369.1
        have hk1 : 12 ≤ ip369.toInt := by have z := q370; omega
        have hk2 : ip369.toInt ≤ 15 := by have z := q372; omega
        have hkw : rW T n (rB T n (cs h).1) (rWd ip369.toInt.toNat) = true := (kwp369.2 ip369.toInt.toNat (by omega)).mp (by omega)
        have hft := cFt_of ppp369 up400 (w := 4) rfl (by decide)
        rw [ssp369] at hft
        have h12 : (cCl h).length = 12 := (c12 hq).mpr ((congrArg tvI (cFr_7 ggp369)).symm.trans q373)
        exact tw_iret rfl ⟨cFq_f ggp400, cQ_f ggp400 hq, Or.inr ⟨rfl, _, Or.inr ⟨ip369.toInt.toNat, by omega, by omega, hkw, Or.inl ⟨h12, rfl⟩⟩, hft⟩⟩
    · try dsimp only [tvI_i, tvJ_j, tvR_r] at q372
      refine tw_aload rfl rfl ?_
      refine tw_aload rfl rfl ?_
      refine tw_getS rfl (hi_44_2 ggp369.1) ?_
      refine tw_push rfl ?_
      refine tw_virt2 rfl (f_refuse hG hX (ggp369).1 ppp369 ((cFr_T ggp369).trans hT) ((cFr_n ggp369).trans hN)) (fun wp401 hp401 p401 => ?_)
      obtain ⟨gp401, rfl, up401⟩ := p401
      have ggp401 := cFr_t ggp369 gp401
      have kwb := kwp369.1
      have hft := cFt_of ppp369 up401 (w := 0) rfl (by decide)
      rw [ssp369] at hft
      have z0 := q370
      have z1 := q372
      exact tw_iret rfl ⟨cFq_f ggp401, cQ_f ggp401 hq, Or.inr ⟨rfl, _, Or.inl ⟨fun k h1 h2 z => by have y := (kwp369.2 k (by omega)).mpr z; omega, rfl⟩, hft⟩⟩
theorem cRst {h a b c d e : zH} (hs : tSh h) (hl : 0 ≤ (tvI (tF h 44 1)).toInt ∧ (tvI (tF h 44 1)).toInt ≤ 400) (hT : ∀ i, i < 400 → -128 ≤ (tA h 45 i).toInt ∧ (tA h 45 i).toInt ≤ 127) (h46 : tN h 46 = 400) (h47 : tN h 47 = 48) (e2 : cSet 2 0 h a) (e5 : cSet 5 0 a b) (e7 : cSet 7 0 b c) (e8 : cSet 8 0 c d) (e9 : cSet 9 (-1) d e) : cFq h e ∧ cs e = (0, 0, []) ∧ cCl e = [] ∧ cP e ∧ cQ e := by
  have F : ∀ p q, ¬ (p = 44 ∧ (q = 2 ∨ q = 3 ∨ q = 5 ∨ q = 7 ∨ q = 8 ∨ q = 9)) → tF e p q = tF h p q := fun p q z =>
    (e9.2.2.1 p q (fun w => z ⟨w.1, by omega⟩)).trans ((e8.2.2.1 p q (fun w => z ⟨w.1, by omega⟩)).trans ((e7.2.2.1 p q (fun w => z ⟨w.1, by omega⟩)).trans ((e5.2.2.1 p q (fun w => z ⟨w.1, by omega⟩)).trans (e2.2.2.1 p q (fun w => z ⟨w.1, by omega⟩)))))
  have A : tA e = tA h := e9.2.2.2.1.trans (e8.2.2.2.1.trans (e7.2.2.2.1.trans (e5.2.2.2.1.trans e2.2.2.2.1)))
  have N : tN e = tN h := e9.2.2.2.2.trans (e8.2.2.2.2.trans (e7.2.2.2.2.trans (e5.2.2.2.2.trans e2.2.2.2.2)))
  have f8 : tF e 44 8 = .int 0 := (e9.2.2.1 44 8 (by decide)).trans e8.2.1
  have f7 : tF e 44 7 = .int 0 := (e9.2.2.1 44 7 (by decide)).trans ((e8.2.2.1 44 7 (by decide)).trans e7.2.1)
  have f5 : tF e 44 5 = .int 0 := (e9.2.2.1 44 5 (by decide)).trans ((e8.2.2.1 44 5 (by decide)).trans ((e7.2.2.1 44 5 (by decide)).trans e5.2.1))
  have f2 : tF e 44 2 = .int 0 := (e9.2.2.1 44 2 (by decide)).trans ((e8.2.2.1 44 2 (by decide)).trans ((e7.2.2.1 44 2 (by decide)).trans ((e5.2.2.1 44 2 (by decide)).trans e2.2.1)))
  have f1 : tF e 44 1 = tF h 44 1 := F 44 1 (by decide)
  refine ⟨⟨e9.1, F, fun p _ _ => congrFun A p, N⟩, ?_, ?_, ⟨?_, ?_, ?_, ?_, ?_, e9.2.1⟩, ⟨?_, ?_, ?_⟩⟩
  · unfold cs cCo
    rw [f2, f8, f5]
    rfl
  · unfold cCl
    rw [f7]
    rfl
  · rw [f2, f1]
    refine ⟨by decide, ?_, hl.2⟩
    show (0 : Int) ≤ _
    exact hl.1
  · rw [f8]; decide
  · rw [f5, f2]; decide
  · rw [A]; exact hT
  · rw [N]; exact h46
  · rw [f7]; decide
  · rw [f7]; decide
  · rw [N]; exact h47
theorem cFtv {h : zH} {e : Nat} (u : cFt h e) : tF h 44 9 = .int (Int32.ofNat e) := u
theorem rTon {T : Nat → Int32} {n : Nat} {c : Int32} {s s2 : rS} (h : rT T n c s = some (.inr s2)) : (rB T n s.1 < n ∧ T (rB T n s.1) = c) ∧ s2 = rA (rB T n s.1 + 1) s := by
  unfold rT at h
  by_cases z : rB T n s.1 < n ∧ T (rB T n s.1) = c
  · rw [if_pos z] at h; cases h; exact ⟨z, rfl⟩
  · rw [if_neg z] at h; cases h
theorem rToff {T : Nat → Int32} {n e : Nat} {c : Int32} {s : rS} (h : rT T n c s = some (.inl e)) : ¬ (rB T n s.1 < n ∧ T (rB T n s.1) = c) ∧ e = 1 + 8 * rB T n s.1 + 0 := by
  unfold rT at h
  by_cases z : rB T n s.1 < n ∧ T (rB T n s.1) = c
  · rw [if_pos z] at h; cases h
  · rw [if_neg z] at h; cases h; exact ⟨z, rfl⟩
theorem rCl_12 {T : Nat → Int32} {n c : Nat} {s : rS} {x : rS × rCt} (h : rCl T n c s (.inr x)) : c ≠ 12 := by
  rcases h with ⟨-, h⟩ | ⟨k, -, -, -, ⟨-, h⟩ | ⟨h, -⟩⟩
  · cases h
  · cases h
  · exact h
theorem f_readRule {G : zG} (hG : G.1 = zProg) (hX : G.2.1 = ztx) {h : zH} {T : Nat → Int32} {n : Nat} (hs : tSh h) (hT : tA h 45 = T) (hN : cn h = n) (hl : 0 ≤ (tvI (tF h 44 1)).toInt ∧ (tvI (tF h 44 1)).toInt ≤ 400) (hT9 : ∀ i, i < 400 → -128 ≤ (tA h 45 i).toInt ∧ (tA h 45 i).toInt ≤ 127) (h46 : tN h 46 = 400) (h47 : tN h 47 = 48) : tC zTt G 75 [.ref 44] h (fun w h2 => cFq h h2 ∧ ((∃ f, rRu T n f (0, 0, []) [] (.inr (cs h2, cCl h2)) ∧ w = some (.int (-1)) ∧ cP h2 ∧ cQ h2) ∨ ∃ e f, rRu T n f (0, 0, []) [] (.inl e) ∧ w = some (.int (Int32.ofNat e)))) := by
  refine tC_in (by rw [hG]; rfl) (fun dp => ?_)
  refine tw_aload rfl rfl ?_
  refine tw_push rfl ?_
  refine tw_put rfl (fun f402 => ?_)
  refine tG_set f402 (hw_44_2 f402 hs) (fun hf402 ef402 => ?_)
  try dsimp only [tvI_i] at ef402
  refine tw_aload rfl rfl ?_
  refine tw_push rfl ?_
  refine tw_put rfl (fun f403 => ?_)
  refine tG_set f403 (hw_44_5 f403 ef402.1) (fun hf403 ef403 => ?_)
  try dsimp only [tvI_i] at ef403
  refine tw_aload rfl rfl ?_
  refine tw_push rfl ?_
  refine tw_put rfl (fun f404 => ?_)
  refine tG_set f404 (hw_44_7 f404 ef403.1) (fun hf404 ef404 => ?_)
  try dsimp only [tvI_i] at ef404
  refine tw_aload rfl rfl ?_
  refine tw_push rfl ?_
  refine tw_put rfl (fun f405 => ?_)
  refine tG_set f405 (hw_44_8 f405 ef404.1) (fun hf405 ef405 => ?_)
  try dsimp only [tvI_i] at ef405
  refine tw_aload rfl rfl ?_
  refine tw_push rfl ?_
  refine tw_put rfl (fun f406 => ?_)
  refine tG_set f406 (hw_44_9 f406 ef405.1) (fun hf406 ef406 => ?_)
  try dsimp only [tvI_i] at ef406
  refine tw_push rfl ?_
  refine tw_istore rfl ?_
  refine tG_loop (zW_mono zTt G dp) (zW_conj zTt G dp) (V := fun pc L st h9 _ _ => pc = 27 ∧ st = [] ∧ ∃ (h1 : zH) (k : Nat) (x : Int32), h1 = h9 ∧ x.toInt = k ∧ cFq h h1 ∧ cP h1 ∧ cQ h1 ∧ (cCl h1).length = k ∧ (∀ r, (∃ f, rRu T n f (cs h1) (cCl h1) r) → ∃ f, rRu T n f (0, 0, []) [] r) ∧ L = [some (.ref 44), some (.int x)]) ?_ (⟨rfl, rfl, _, 0, 0, rfl, rfl, (cRst hs hl hT9 h46 h47 ef402 ef403 ef404 ef405 ef406).1, (cRst hs hl hT9 h46 h47 ef402 ef403 ef404 ef405 ef406).2.2.2.1, (cRst hs hl hT9 h46 h47 ef402 ef403 ef404 ef405 ef406).2.2.2.2, (by rw [(cRst hs hl hT9 h46 h47 ef402 ef403 ef404 ef405 ef406).2.2.1]; rfl), (fun r z => by rw [(cRst hs hl hT9 h46 h47 ef402 ef403 ef404 ef405 ef406).2.1, (cRst hs hl hT9 h46 h47 ef402 ef403 ef404 ef405 ef406).2.2.1] at z; exact z), rfl⟩)
  rintro _ _ _ _ _ _ ⟨rfl, rfl, h1, k, x, rfl, hx, gF, p1, q1, hk, hR, rfl⟩
  have g1 := cFr_r gF.1
  refine tw_iload rfl rfl ?_
  refine tw_push rfl ?_
  refine tw_ic_gt rfl (fun q407 => ?_) (fun q407 => ?_)
  · try dsimp only [tvI_i, tvJ_j, tvR_r] at q407
    refine tw_aload rfl rfl ?_
    refine tw_getS rfl (hi_44_9 g1.1) ?_
    exfalso
    have := q1.1
    have := q1.2.1
    rw [cCl_len, zclE] at hk
    have c129 : (12 : Int32).toInt = 12 := rfl
    have z := q407
    omega
  · try dsimp only [tvI_i, tvJ_j, tvR_r] at q407
    refine tw_aload rfl rfl ?_
    refine tw_virt0 rfl (f_readClause hG hX g1.1 p1 ((cFq_T gF).trans hT) ((cFq_n gF).trans hN) q1) (fun w9 hp408 p408 => ?_)
    obtain ⟨gqp408, qqp408, ⟨rfl, cp408, p408, clp408, ppp408⟩ | ⟨rfl, xp408, p408, up408⟩⟩ := p408
    · have gzp408 := cFr_r gqp408.1
      refine tw_if_eq rfl (fun z => absurd z (by decide)) (fun _ => ?_)
      refine tw_aload rfl rfl ?_
      refine tw_virt0 rfl (f_signHere hG hX (gzp408).1 ppp408 ((cFq_T (cFq_t gF gqp408)).trans hT) ((cFq_n (cFq_t gF gqp408)).trans hN)) (fun wp409 hp409 p409 => ?_)
      obtain ⟨gp409, ppp409, ssp409, t3p409, cp409, rfl, kp409⟩ := p409
      have ggp409 := cFr_t gzp408 gp409
      refine tw_push rfl ?_
      refine tw_ic_eq rfl (fun q410 => ?_) (fun q410 => ?_)
      · try dsimp only [tvI_i, tvJ_j, tvR_r] at q410
        have q410i := zeqi (Y := (-1)) (by decide) q410
        refine tw_aload rfl rfl ?_
        refine tw_getS rfl (hi_44_9 ggp409.1) ?_
        have hne : ¬ rB T n (cs hp408).1 < n := kp409.2.mp q410
        obtain ⟨f9, z⟩ := hR _ ⟨1, Or.inr ⟨_, _, p408, Or.inl ⟨hne, rfl⟩⟩⟩
        have hcc : cCl hp409 = cCl h1 ++ [cp408] := (cCl_f gp409).trans clp408
        rw [← hcc, ← ssp409] at z
        exact tw_iret rfl ⟨cFq_t (cFq_t gF gqp408) (cFq_f gp409), Or.inl ⟨f9, z, by rw [ppp409.2.2.2.2.2]; rfl, ppp409, cQ_f gp409 qqp408⟩⟩
      · try dsimp only [tvI_i, tvJ_j, tvR_r] at q410
        have q410i := zneq (Y := (-1)) (by decide) q410
        refine tw_aload rfl rfl ?_
        refine tw_push rfl ?_
        refine tw_virt1 rfl (f_takeSign hG hX (ggp409).1 ppp409 ((cFr_T ggp409).trans ((cFq_T (cFq_t gF gqp408)).trans hT)) ((cFr_n ggp409).trans ((cFq_n (cFq_t gF gqp408)).trans hN)) (y := 59) (by decide)) (fun w9 hp411 p411 => ?_)
        obtain ⟨gp411, ⟨rfl, p411, ppp411⟩ | ⟨rfl, xp411, p411, up411⟩⟩ := p411
        · have ggp411 := cFr_t ggp409 gp411
          refine tw_if_ne rfl (fun _ => ?_) (fun z => absurd z (by decide))
          refine tw_iinc rfl rfl ?_
          refine tw_goto rfl ?_
          have hcl : (cCl h1).length < 12 := by have z := rCl_12 (T := T) p408; have y := q1; rw [cCl_len, zclE] at *; have := q1.1; have := q1.2.1; omega
          have hts := rTon p411
          rw [ssp409, show (rA (rB T n (cs hp408).1) (cs hp408)).1 = rB T n (cs hp408).1 from rfl, rB_2] at hts
          have hcc : cCl hp411 = cCl h1 ++ [cp408] := (cCl_f (cFr_t (cFr_t (cFr_r gqp408.1) gp409) gp411)).trans clp408
          refine tG_cut (zW_mono zTt G dp) (Or.inr ⟨rfl, rfl, _, k + 1, x + 1, rfl, zincN hx (by omega), cFq_t (cFq_t gF gqp408) (cFq_f (cFr_t gp409 gp411)), ppp411, cQ_f (cFr_t gp409 gp411) qqp408, (by rw [hcc, List.length_append, hk]; rfl), (fun r z => ?_), rfl⟩)
          rw [hcc, hts.2] at z
          obtain ⟨f9, z⟩ := z
          exact hR r ⟨f9 + 1, Or.inr ⟨_, _, p408, Or.inr (Or.inl ⟨hts.1, z⟩)⟩⟩
        · have ggp411 := cFr_t ggp409 gp411
          refine tw_if_ne rfl (fun z => absurd z (by decide)) (fun _ => ?_)
          refine tw_goto rfl ?_
          refine tw_aload rfl rfl ?_
          refine tw_getS rfl (hi_44_9 ggp411.1) ?_
          have hts := rToff p411
          rw [ssp409, show (rA (rB T n (cs hp408).1) (cs hp408)).1 = rB T n (cs hp408).1 from rfl, rB_2] at hts
          have hlt : rB T n (cs hp408).1 < n := Classical.byContradiction (fun z => q410 (kp409.2.mpr z))
          obtain ⟨f9, z⟩ := hR _ ⟨1, Or.inr ⟨_, _, p408, Or.inr (Or.inr ⟨⟨hlt, fun z => hts.1 ⟨hlt, z⟩⟩, rfl⟩)⟩⟩
          exact tw_iret rfl ⟨cFq_t (cFq_t gF gqp408) (cFq_f (cFr_t gp409 gp411)), Or.inr ⟨_, f9, z, by rw [cFtv up411, hts.2]; rfl⟩⟩
    · refine tw_if_eq rfl (fun _ => ?_) (fun z => absurd z (by decide))
      refine tw_aload rfl rfl ?_
      refine tw_getS rfl (hi_44_9 gqp408.1) ?_
      obtain ⟨f9, z⟩ := hR _ ⟨1, Or.inl ⟨_, p408, rfl⟩⟩
      exact tw_iret rfl ⟨cFq_t gF gqp408, Or.inr ⟨_, f9, z, by rw [cFtv up408]; rfl⟩⟩
/-! the reader with a pile, as it stands in the object 111 -/
noncomputable def mCode (s v : Nat) : Nat := if s = 0 then v else if s = 1 then (if v < 12 then 100000 + v else 200000 + v) else if s = 2 then 100102 else if s = 3 then 100100 else if s = 4 then 100101 else if s = 10 then 100110 else if s = 11 then 100109 else if s = 12 then 100108 else 100098 + s
theorem mCode_1 {v : Nat} (h : v < 12) : mCode 1 v = 100000 + v := by
  show (if v < 12 then 100000 + v else 200000 + v) = _
  rw [if_pos h]
noncomputable def mEn (h : zH) : List Nat := (List.range (tvI (tF h 111 31)).toNatClampNeg).map (fun i => mCode (tA h 133 (500 * (tvI (tF h 111 30)).toNatClampNeg + i)).toNatClampNeg (tA h 134 (500 * (tvI (tF h 111 30)).toNatClampNeg + i)).toNatClampNeg)
noncomputable def mSk (h : zH) : List Nat := ((List.range (tvI (tF h 111 34)).toNatClampNeg).map (fun i => (tA h 142 i).toNatClampNeg)).reverse
noncomputable def ms (h : zH) : rS := ((tvI (tF h 111 28)).toNatClampNeg, (tvI (tF h 111 33)).toNatClampNeg, mEn h)
noncomputable abbrev mn (h : zH) : Nat := (tvI (tF h 111 27)).toNatClampNeg
noncomputable def mFs (b : Nat) : Prop := b = 28 ∨ b = 29 ∨ b = 31 ∨ b = 32 ∨ b = 33 ∨ b = 34
/-- what is told of the rules before stays -/
noncomputable def mLo (h h2 : zH) : Prop := ∀ q, q < 500 * (tvI (tF h 111 30)).toNatClampNeg → tA h2 133 q = tA h 133 q ∧ tA h2 134 q = tA h 134 q
theorem mLo_r {h : zH} : mLo h h := fun _ _ => ⟨rfl, rfl⟩
theorem mLo_t {h h1 h2 : zH} (e : tF h1 111 30 = tF h 111 30) (a : mLo h h1) (k : mLo h1 h2) : mLo h h2 := fun q hq =>
  have y := k q (by rw [e]; exact hq)
  ⟨y.1.trans (a q hq).1, y.2.trans (a q hq).2⟩
theorem mLo_A {h h1 h2 : zH} (e : tA h2 = tA h1) (a : mLo h h1) : mLo h h2 := fun q hq => by rw [e]; exact a q hq
theorem mLo_p {h h2 : zH} (a : tA h2 133 = tA h 133) (b : tA h2 134 = tA h 134) : mLo h h2 := fun q _ => ⟨by rw [a], by rw [b]⟩
noncomputable def mFr (h h2 : zH) : Prop := tSh h2 ∧ (∀ p b, ¬ (p = 111 ∧ mFs b) → tF h2 p b = tF h p b) ∧ (∀ p, p ≠ 133 → p ≠ 134 → p ≠ 142 → tA h2 p = tA h p) ∧ tN h2 = tN h ∧ mLo h h2
/-- no fault so far -/
noncomputable def mP (h : zH) : Prop := tF h 111 29 = .int 0 ∧ (0 ≤ (tvI (tF h 111 28)).toInt ∧ (tvI (tF h 111 28)).toInt ≤ (tvI (tF h 111 27)).toInt ∧ (tvI (tF h 111 27)).toInt ≤ 400) ∧ (0 ≤ (tvI (tF h 111 33)).toInt ∧ (tvI (tF h 111 33)).toInt ≤ 80) ∧ (0 ≤ (tvI (tF h 111 31)).toInt ∧ (tvI (tF h 111 31)).toInt ≤ 100000) ∧ 0 ≤ (tvI (tF h 111 34)).toInt ∧ (0 ≤ (tvI (tF h 111 30)).toInt ∧ (tvI (tF h 111 30)).toInt ≤ 10) ∧ (∀ i, i < tN h 142 → 0 ≤ (tA h 142 i).toInt) ∧ (∀ i : Nat, i = i) ∧ tN h 133 ≤ 100000 ∧ tN h 142 ≤ 100000
noncomputable def mD (h : zH) : Prop := (tvI (tF h 111 32)).toInt = mDp (mSk h)
noncomputable def mSet (b : Nat) (X : Int32) (h h3 : zH) : Prop := tSh h3 ∧ tF h3 111 b = .int X ∧ (∀ p q, ¬ (p = 111 ∧ q = b) → tF h3 p q = tF h p q) ∧ tA h3 = tA h ∧ tN h3 = tN h
/-- a fault stands -/
noncomputable def mFt (h : zH) (e : Nat) : Prop := tF h 111 29 = .int (Int32.ofNat e) ∧ 0 < e ∧ e < 100000
section MF
variable {h h1 h2 h3 : zH} {b e : Nat} {X : Int32}
theorem mSet_of (hf : tFd h 111 b) (hs : tSh (tSF h 111 b (.int X))) : mSet b X h (tSF h 111 b (.int X)) := ⟨hs, tF_same hf, fun _ _ hn => tF_nz hn, tA_tSF _ _ _ _, tN_tSF _ _ _ _⟩
theorem tG_setm {tt : zT} {G : zG} {cd : zK} {bc bs : Nat} {rt : Option FieldType} {M : zM} {Q : zQ} {Z : zX} {f : Bool} {pc : Nat} {L : zL} {st : List Value} {c n : Nat} (hf : tFd h 111 b) (hs : tSh (tSF h 111 b (.int X))) (k : ∀ h3, mSet b X h h3 → tG tt G cd bc bs rt M Q Z f pc L st h3 c n) : tG tt G cd bc bs rt M Q Z f pc L st (tSF h 111 b (.int X)) c n := k _ (mSet_of hf hs)
theorem mFr_r (hs : tSh h) : mFr h h := ⟨hs, fun _ _ _ => rfl, fun _ _ _ _ => rfl, rfl, mLo_r⟩
theorem mFr_t (a : mFr h h1) (k : mFr h1 h2) : mFr h h2 := ⟨k.1, fun p q z => (k.2.1 p q z).trans (a.2.1 p q z), fun p z w y => (k.2.2.1 p z w y).trans (a.2.2.1 p z w y), k.2.2.2.1.trans a.2.2.2.1, mLo_t (a.2.1 111 30 (fun z => by have z := z.2; unfold mFs at z; omega)) a.2.2.2.2 k.2.2.2.2⟩
theorem mFr_s (a : mFr h h1) (k : mSet b X h1 h2) (hb : mFs b) : mFr h h2 := ⟨k.1, fun p q z => (k.2.2.1 p q (fun w => z ⟨w.1, w.2.symm ▸ hb⟩)).trans (a.2.1 p q z), fun p z w y => (congrFun k.2.2.2.1 p).trans (a.2.2.1 p z w y), k.2.2.2.2.trans a.2.2.2.1, mLo_A k.2.2.2.1 a.2.2.2.2⟩
theorem nFs {q : Nat} (h : q = 27 ∨ q = 30 ∨ q = 1 ∨ q = 46 ∨ q = 47) : ¬ ((111 : Nat) = 111 ∧ mFs q) := fun z => by
  have z := z.2
  unfold mFs at z
  omega
theorem mFr_T (a : mFr h h1) : tA h1 132 = tA h 132 := a.2.2.1 132 (by decide) (by decide) (by decide)
theorem mFr_27 (a : mFr h h1) : tF h1 111 27 = tF h 111 27 := a.2.1 111 27 (nFs (by decide))
theorem mFr_30 (a : mFr h h1) : tF h1 111 30 = tF h 111 30 := a.2.1 111 30 (nFs (by decide))
theorem mFr_n (a : mFr h h1) : mn h1 = mn h := by unfold mn; rw [mFr_27 a]
theorem mFr_46 (a : mFr h h1) : tF h1 111 46 = tF h 111 46 := a.2.1 111 46 (nFs (by decide))
theorem mFr_47 (a : mFr h h1) : tF h1 111 47 = tF h 111 47 := a.2.1 111 47 (nFs (by decide))
theorem mI_x (k : mSet b X h h3) : tvI (tF h3 111 b) = X := congrArg tvI k.2.1
theorem mI_o {q : Nat} (k : mSet b X h h3) (hq : q ≠ b) : tF h3 111 q = tF h 111 q := k.2.2.1 111 q (fun z => hq z.2)
theorem mEn_o (k : mSet b X h h3) (h1 : b ≠ 31) (h2 : b ≠ 30) : mEn h3 = mEn h := by
  unfold mEn
  rw [mI_o k (fun z => h1 z.symm), mI_o k (fun z => h2 z.symm), k.2.2.2.1]
theorem mSk_o (k : mSet b X h h3) (h1 : b ≠ 34) : mSk h3 = mSk h := by
  unfold mSk
  rw [mI_o k (fun z => h1 z.symm), k.2.2.2.1]
theorem mSk_len : (mSk h).length = (tvI (tF h 111 34)).toNatClampNeg := by unfold mSk; rw [List.length_reverse, List.length_map, List.length_range]
/-- the fault stays over other fields -/
theorem mFt_s (k : mFt h e) (s : mSet b X h h3) (hb : b ≠ 29) : mFt h3 e := ⟨(mI_o s (fun z => hb z.symm)).trans k.1, k.2⟩
theorem mFt_n (k : mFt h e) : ¬ tvI (tF h 111 29) = 0 := by
  rw [k.1]
  intro z
  have z : Int32.ofNat e = 0 := z
  have y := zofI (e := e) (by have := k.2; omega)
  rw [z] at y
  have : ((0 : Int32)).toInt = 0 := rfl
  have := k.2
  omega
theorem mP_0 (p : mP h) : tvI (tF h 111 29) = 0 := by rw [p.1]; rfl
theorem mPl (p : mP h) : (tvI (tF h 111 28)).toInt = ((ms h).1 : Int) := by
  show _ = ((tvI (tF h 111 28)).toNatClampNeg : Int)
  rw [zclE]
  have := p.2.1
  omega
theorem mNl {n : Nat} (p : mP h) (hn : mn h = n) : (tvI (tF h 111 27)).toInt = (n : Int) := by
  rw [← hn]
  show _ = ((tvI (tF h 111 27)).toNatClampNeg : Int)
  rw [zclE]
  have := p.2.1
  omega
theorem mCl (p : mP h) : (tvI (tF h 111 33)).toInt = ((ms h).2.1 : Int) := by
  show _ = ((tvI (tF h 111 33)).toNatClampNeg : Int)
  rw [zclE]
  have := p.2.2.1
  omega
theorem mPle {n : Nat} (p : mP h) (hn : mn h = n) : (ms h).1 ≤ n := by
  have := mPl p
  have := mNl p hn
  have := p.2.1
  omega
/-- the place was set -/
theorem mTo {n v : Nat} (p : mP h) (hn : mn h = n) (s : mSet 28 X h h3) (hx : X.toInt = v) (hv : v ≤ n) : mP h3 ∧ ms h3 = rA v (ms h) ∧ mSk h3 = mSk h := by
  have e1 := mNl p hn
  obtain ⟨a, b, c, d, e, g, i, j, t1, t2⟩ := p
  have NN : tN h3 = tN h := s.2.2.2.2
  refine ⟨⟨(mI_o s (by decide)).trans a, ?_, ?_, ?_, ?_, ?_, ?_, ?_, by rw [NN]; exact t1, by rw [NN]; exact t2⟩, ?_, mSk_o s (by decide)⟩
  · rw [mI_x s, mI_o s (by decide)]; omega
  · rw [mI_o s (by decide)]; exact c
  · rw [mI_o s (by decide)]; exact d
  · rw [mI_o s (by decide)]; exact e
  · rw [mI_o s (by decide)]; exact g
  · rw [s.2.2.2.1, s.2.2.2.2]; exact i
  · exact j
  · unfold ms
    rw [mI_x s, mI_o s (by decide), mEn_o s (by decide) (by decide), zof_cl hx]
    rfl
/-- one more is counted -/
theorem mCnt (p : mP h) (h8 : (ms h).2.1 ≠ 80) (s : mSet 33 (tvI (tF h 111 33) + 1) h h3) : mP h3 ∧ ms h3 = ((ms h).1, (ms h).2.1 + 1, (ms h).2.2) ∧ mSk h3 = mSk h := by
  have e1 := mCl p
  have e2 : (tvI (tF h 111 33) + 1).toInt = (((ms h).2.1 + 1 : Nat) : Int) := zincN e1 (by have := p.2.2.1; omega)
  obtain ⟨a, b, c, d, e, g, i, j, t1, t2⟩ := p
  have NN : tN h3 = tN h := s.2.2.2.2
  refine ⟨⟨(mI_o s (by decide)).trans a, ?_, ?_, ?_, ?_, ?_, ?_, ?_, by rw [NN]; exact t1, by rw [NN]; exact t2⟩, ?_, mSk_o s (by decide)⟩
  · rw [mI_o s (by decide), mI_o s (by decide)]; exact b
  · rw [mI_x s]; omega
  · rw [mI_o s (by decide)]; exact d
  · rw [mI_o s (by decide)]; exact e
  · rw [mI_o s (by decide)]; exact g
  · rw [s.2.2.2.1, s.2.2.2.2]; exact i
  · exact j
  · unfold ms
    rw [mI_x s, mI_o s (by decide), mEn_o s (by decide) (by decide), zof_cl e2]
    rfl
theorem mSte (p : mP h) (s : mSet 46 X h h3) : mP h3 ∧ ms h3 = ms h ∧ mSk h3 = mSk h := by
  obtain ⟨a, b, c, d, e, g, i, j, t1, t2⟩ := p
  have e1 := mEn_o s (by decide) (by decide)
  have e2 := mSk_o s (by decide)
  have NN : tN h3 = tN h := s.2.2.2.2
  refine ⟨⟨(mI_o s (by decide)).trans a, ?_, ?_, ?_, ?_, ?_, ?_, ?_, by rw [NN]; exact t1, by rw [NN]; exact t2⟩, ?_, e2⟩
  · rw [mI_o s (by decide), mI_o s (by decide)]; exact b
  · rw [mI_o s (by decide)]; exact c
  · rw [mI_o s (by decide)]; exact d
  · rw [mI_o s (by decide)]; exact e
  · rw [mI_o s (by decide)]; exact g
  · rw [s.2.2.2.1, s.2.2.2.2]; exact i
  · exact j
  · unfold ms
    rw [mI_o s (by decide), mI_o s (by decide), e1]
/-- a fault is set -/
theorem mFt_of {a y : Int32} {k w : Nat} (s : mSet 29 (1 + 8 * a + y) h h3) (ha : a.toInt = k) (hk : k ≤ 400) (hy : y.toInt = w) (hw : w ≤ 7) : mFt h3 (1 + 8 * k + w) := ⟨by rw [s.2.1, zfa ha hk hy hw], by omega, by omega⟩
/-- the top, and off with it: the depth follows by the caller -/
theorem mSk_top (hk : 0 < (tvI (tF h 111 34)).toNatClampNeg) : mSk h = (tA h 142 ((tvI (tF h 111 34)).toNatClampNeg - 1)).toNatClampNeg :: ((List.range ((tvI (tF h 111 34)).toNatClampNeg - 1)).map (fun i => (tA h 142 i).toNatClampNeg)).reverse := by
  unfold mSk
  obtain ⟨k, e⟩ : ∃ k, (tvI (tF h 111 34)).toNatClampNeg = k + 1 := ⟨_, (Nat.sub_add_cancel hk).symm⟩
  rw [e, List.range_succ, List.map_append, List.reverse_append]
  rfl
theorem mSk_nil (hk : (tvI (tF h 111 34)).toNatClampNeg = 0) : mSk h = [] := by
  unfold mSk
  rw [hk]
  rfl
theorem mD_o (k : mSet b X h h3) (h1 : b ≠ 32) (h2 : b ≠ 34) (d : mD h) : mD h3 := by
  unfold mD
  rw [mI_o k (fun z => h1 z.symm), mSk_o k h2]
  exact d
theorem mSk_pop (p : mP h) (hne : mSk h ≠ []) (s : mSet 34 (tvI (tF h 111 34) - 1) h h3) : mP h3 ∧ mSk h3 = (mSk h).tail ∧ ms h3 = ms h ∧ tF h3 111 32 = tF h 111 32 := by
  have hk : 0 < (tvI (tF h 111 34)).toNatClampNeg := by
    rcases Nat.eq_zero_or_pos (tvI (tF h 111 34)).toNatClampNeg with z | z
    · exact absurd (mSk_nil z) hne
    · exact z
  have e0 : (tvI (tF h 111 34)).toInt = ((tvI (tF h 111 34)).toNatClampNeg : Int) := by rw [zclE]; have := p.2.2.2.2.1; omega
  have e1 : (tvI (tF h 111 34) - 1).toInt = (tvI (tF h 111 34)).toInt - 1 := zsub1 p.2.2.2.2.1
  have e2 : (tvI (tF h 111 34) - 1).toNatClampNeg = (tvI (tF h 111 34)).toNatClampNeg - 1 := by rw [zclE, e1]; omega
  obtain ⟨a, b, c, d, e, g, i, j, t1, t2⟩ := p
  have NN : tN h3 = tN h := s.2.2.2.2
  refine ⟨⟨(mI_o s (by decide)).trans a, ?_, ?_, ?_, ?_, ?_, ?_, ?_, by rw [NN]; exact t1, by rw [NN]; exact t2⟩, ?_, ?_, mI_o s (by decide)⟩
  · rw [mI_o s (by decide), mI_o s (by decide)]; exact b
  · rw [mI_o s (by decide)]; exact c
  · rw [mI_o s (by decide)]; exact d
  · rw [mI_x s, e1]; omega
  · rw [mI_o s (by decide)]; exact g
  · rw [s.2.2.2.1, s.2.2.2.2]; exact i
  · exact j
  · rw [mSk_top hk]
    unfold mSk
    rw [mI_x s, e2, s.2.2.2.1]
    rfl
  · unfold ms
    rw [mI_o s (by decide), mI_o s (by decide), mEn_o s (by decide) (by decide)]
/-- the depth goes down by one -/
theorem mDn (p : mP h) (s : mSet 32 (tvI (tF h 111 32) - 1) h h3) {k : Nat} (hd : (tvI (tF h 111 32)).toInt = ((k + 1 : Nat) : Int)) (hk : k = mDp (mSk h)) : mP h3 ∧ mSk h3 = mSk h ∧ ms h3 = ms h ∧ mD h3 := by
  have e1 : (tvI (tF h 111 32) - 1).toInt = (tvI (tF h 111 32)).toInt - 1 := zsub1 (by omega)
  have e2 := mSk_o s (by decide)
  obtain ⟨a, b, c, d, e, g, i, j, t1, t2⟩ := p
  have NN : tN h3 = tN h := s.2.2.2.2
  refine ⟨⟨(mI_o s (by decide)).trans a, ?_, ?_, ?_, ?_, ?_, ?_, ?_, by rw [NN]; exact t1, by rw [NN]; exact t2⟩, e2, ?_, ?_⟩
  · rw [mI_o s (by decide), mI_o s (by decide)]; exact b
  · rw [mI_o s (by decide)]; exact c
  · rw [mI_o s (by decide)]; exact d
  · rw [mI_o s (by decide)]; exact e
  · rw [mI_o s (by decide)]; exact g
  · rw [s.2.2.2.1, s.2.2.2.2]; exact i
  · exact j
  · unfold ms
    rw [mI_o s (by decide), mI_o s (by decide), mEn_o s (by decide) (by decide)]
  · unfold mD
    rw [mI_x s, e1, e2, hd, hk]
    omega
theorem mUp (p : mP h) (s : mSet 32 (tvI (tF h 111 32) + 1) h h3) {k : Nat} (hd : (tvI (tF h 111 32)).toInt = (k : Int)) (hk : k ≤ 1000) : mP h3 ∧ mSk h3 = mSk h ∧ ms h3 = ms h ∧ (tvI (tF h3 111 32)).toInt = ((k + 1 : Nat) : Int) := by
  have e1 := zincN hd (by omega)
  have e2 := mSk_o s (by decide)
  obtain ⟨a, b, c, d, e, g, i, j, t1, t2⟩ := p
  have NN : tN h3 = tN h := s.2.2.2.2
  refine ⟨⟨(mI_o s (by decide)).trans a, ?_, ?_, ?_, ?_, ?_, ?_, ?_, by rw [NN]; exact t1, by rw [NN]; exact t2⟩, e2, ?_, ?_⟩
  · rw [mI_o s (by decide), mI_o s (by decide)]; exact b
  · rw [mI_o s (by decide)]; exact c
  · rw [mI_o s (by decide)]; exact d
  · rw [mI_o s (by decide)]; exact e
  · rw [mI_o s (by decide)]; exact g
  · rw [s.2.2.2.1, s.2.2.2.2]; exact i
  · exact j
  · unfold ms
    rw [mI_o s (by decide), mI_o s (by decide), mEn_o s (by decide) (by decide)]
  · rw [mI_x s, e1]
/-- laid on the pile -/
theorem mPush {x : Int32} {kd : Nat} (hs : tSh h) (p : mP h) (hx : 0 ≤ x.toInt) (hf : tIn h 142 kd (tvI (tF h 111 34))) (hf2 : tFd (tSA h 142 (tvI (tF h 111 34)).toNatClampNeg x) 111 34) : mFr h (tSF (tSA h 142 (tvI (tF h 111 34)).toNatClampNeg x) 111 34 (.int (tvI (tF h 111 34) + 1))) ∧ mP (tSF (tSA h 142 (tvI (tF h 111 34)).toNatClampNeg x) 111 34 (.int (tvI (tF h 111 34) + 1))) ∧ mSk (tSF (tSA h 142 (tvI (tF h 111 34)).toNatClampNeg x) 111 34 (.int (tvI (tF h 111 34) + 1))) = x.toNatClampNeg :: mSk h ∧ ms (tSF (tSA h 142 (tvI (tF h 111 34)).toNatClampNeg x) 111 34 (.int (tvI (tF h 111 34) + 1))) = ms h ∧ tF (tSF (tSA h 142 (tvI (tF h 111 34)).toNatClampNeg x) 111 34 (.int (tvI (tF h 111 34) + 1))) 111 32 = tF h 111 32 := by
  have hw := hw_111_34 (x := tvI (tF h 111 34) + 1) hf2 (tSh_SA hs)
  have e := mSet_of hf2 hw
  generalize tSF (tSA h 142 (tvI (tF h 111 34)).toNatClampNeg x) 111 34 (.int (tvI (tF h 111 34) + 1)) = h3 at e
  have hF : ∀ b, b ≠ 34 → tF h3 111 b = tF h 111 b := fun b hb => (mI_o e hb).trans (by rw [tF_tSA])
  have h34 : tvI (tF h3 111 34) = tvI (tF h 111 34) + 1 := mI_x e
  have hA : tA h3 = fun p q => if p = 142 ∧ q = (tvI (tF h 111 34)).toNatClampNeg then x else tA h p q := e.2.2.2.1.trans (tA_tSA hf.cell _ _)
  have hr := hf.rg
  have e0 : (tvI (tF h 111 34)).toInt = ((tvI (tF h 111 34)).toNatClampNeg : Int) := by rw [zclE]; omega
  have hl := p.2.2.2.2.2.2.2.2.2
  have e1 := zincN e0 (by omega)
  have e2 : (tvI (tF h 111 34) + 1).toNatClampNeg = (tvI (tF h 111 34)).toNatClampNeg + 1 := zof_cl e1
  have hE : ∀ p, p ≠ 142 → tA h3 p = tA h p := fun p hp => by rw [hA]; funext q; exact if_neg (fun w => hp w.1)
  obtain ⟨a, b, c, d, e9, g, i, j, t1, t2⟩ := p
  have NN : tN h3 = tN h := e.2.2.2.2.trans (tN_tSA _ _ _ _)
  refine ⟨⟨e.1, fun p q z => (e.2.2.1 p q (fun w => z ⟨w.1, by unfold mFs; omega⟩)).trans (by rw [tF_tSA]), fun p _ _ z => hE p z, NN, mLo_p (hE 133 (by decide)) (hE 134 (by decide))⟩, ⟨(hF 29 (by decide)).trans a, ?_, ?_, ?_, ?_, ?_, ?_, ?_, by rw [NN]; exact t1, by rw [NN]; exact t2⟩, ?_, ?_, hF 32 (by decide)⟩
  · rw [hF 28 (by decide), hF 27 (by decide)]; exact b
  · rw [hF 33 (by decide)]; exact c
  · rw [hF 31 (by decide)]; exact d
  · rw [h34, e1]; omega
  · rw [hF 30 (by decide)]; exact g
  · intro q hq
    rw [NN] at hq
    rw [hA]
    show 0 ≤ (if 142 = 142 ∧ q = _ then x else tA h 142 q : Int32).toInt
    by_cases z : q = (tvI (tF h 111 34)).toNatClampNeg
    · rw [if_pos ⟨rfl, z⟩]; exact hx
    · rw [if_neg (fun w => z w.2)]; exact i q hq
  · exact j
  · unfold mSk
    rw [h34, e2, List.range_succ, List.map_append, List.reverse_append, hA]
    show [(if 142 = 142 ∧ (tvI (tF h 111 34)).toNatClampNeg = (tvI (tF h 111 34)).toNatClampNeg then x else _ : Int32).toNatClampNeg] ++ _ = _
    rw [if_pos ⟨rfl, rfl⟩]
    refine congrArg (fun z => x.toNatClampNeg :: z) (congrArg List.reverse (List.map_congr_left (fun i hi => ?_)))
    have hi := List.mem_range.mp hi
    show (if 142 = 142 ∧ i = _ then x else tA h 142 i : Int32).toNatClampNeg = _
    rw [if_neg (fun z => by omega)]
  · unfold ms mEn
    rw [hF 28 (by decide), hF 33 (by decide), hF 31 (by decide), hF 30 (by decide), hE 133 (by decide), hE 134 (by decide)]
/-- told on -/
theorem mEnt {s v : Int32} {k1 k2 : Nat} {i1 i2 : Int32} (hs : tSh h) (p : mP h) (h0 : 0 ≤ s.toInt ∧ 0 ≤ v.toInt) (hi1 : i1 = 500 * tvI (tF h 111 30) + tvI (tF h 111 31)) (hi2 : i2 = 500 * tvI (tF h 111 30) + tvI (tF h 111 31)) (f1 : tIn h 133 k1 i1) (f2 : tIn (tSA h 133 i1.toNatClampNeg s) 134 k2 i2) (f3 : tFd (tSA (tSA h 133 i1.toNatClampNeg s) 134 i2.toNatClampNeg v) 111 31) : mFr h (tSF (tSA (tSA h 133 i1.toNatClampNeg s) 134 i2.toNatClampNeg v) 111 31 (.int (tvI (tF h 111 31) + 1))) ∧ mP (tSF (tSA (tSA h 133 i1.toNatClampNeg s) 134 i2.toNatClampNeg v) 111 31 (.int (tvI (tF h 111 31) + 1))) ∧ mSk (tSF (tSA (tSA h 133 i1.toNatClampNeg s) 134 i2.toNatClampNeg v) 111 31 (.int (tvI (tF h 111 31) + 1))) = mSk h ∧ ms (tSF (tSA (tSA h 133 i1.toNatClampNeg s) 134 i2.toNatClampNeg v) 111 31 (.int (tvI (tF h 111 31) + 1))) = rU (mCode s.toNatClampNeg v.toNatClampNeg) (ms h) ∧ tF (tSF (tSA (tSA h 133 i1.toNatClampNeg s) 134 i2.toNatClampNeg v) 111 31 (.int (tvI (tF h 111 31) + 1))) 111 32 = tF h 111 32 := by
  have hw := hw_111_31 (x := tvI (tF h 111 31) + 1) f3 (tSh_SA (tSh_SA hs))
  have e := mSet_of f3 hw
  have hr := f1.rg
  generalize tSF (tSA (tSA h 133 i1.toNatClampNeg s) 134 i2.toNatClampNeg v) 111 31 (.int (tvI (tF h 111 31) + 1)) = h3 at e
  have hF : ∀ b, b ≠ 31 → tF h3 111 b = tF h 111 b := fun b hb => (mI_o e hb).trans (by rw [tF_tSA, tF_tSA])
  have h31 : tvI (tF h3 111 31) = tvI (tF h 111 31) + 1 := mI_x e
  have hA : tA h3 = fun p q => if p = 134 ∧ q = i2.toNatClampNeg then v else if p = 133 ∧ q = i1.toNatClampNeg then s else tA h p q := e.2.2.2.1.trans ((tA_tSA f2.cell _ _).trans (by rw [tA_tSA f1.cell]))
  obtain ⟨a, b, c, d, e9, g, i, j, t1, t2⟩ := p
  have n1 : (500 * tvI (tF h 111 30)).toInt = 500 * (tvI (tF h 111 30)).toInt := by
    rw [Int32.toInt_mul, show (500 : Int32).toInt = 500 from rfl]
    exact Int.bmod_eq_of_le (by show (-2147483648 : Int) ≤ 500 * (tvI (tF h 111 30)).toInt; omega) (by show 500 * (tvI (tF h 111 30)).toInt < (2147483648 : Int); omega)
  have n2 : i1.toInt = 500 * (tvI (tF h 111 30)).toInt + (tvI (tF h 111 31)).toInt := by
    rw [hi1, Int32.toInt_add, n1]
    exact Int.bmod_eq_of_le (by show (-2147483648 : Int) ≤ 500 * (tvI (tF h 111 30)).toInt + (tvI (tF h 111 31)).toInt; omega) (by show 500 * (tvI (tF h 111 30)).toInt + (tvI (tF h 111 31)).toInt < (2147483648 : Int); omega)
  have n3 : i1.toNatClampNeg = 500 * (tvI (tF h 111 30)).toNatClampNeg + (tvI (tF h 111 31)).toNatClampNeg := by
    rw [zclE, zclE, zclE, n2]
    omega
  have n4 : i2 = i1 := hi2.trans hi1.symm
  have e0 : (tvI (tF h 111 31)).toInt = ((tvI (tF h 111 31)).toNatClampNeg : Int) := by rw [zclE]; omega
  have e1 := zincN e0 (by omega)
  have e2 : (tvI (tF h 111 31) + 1).toNatClampNeg = (tvI (tF h 111 31)).toNatClampNeg + 1 := zof_cl e1
  have hE : ∀ p, p ≠ 133 → p ≠ 134 → tA h3 p = tA h p := fun p hp hq => by
    rw [hA]; funext q
    show (if p = 134 ∧ q = _ then v else if p = 133 ∧ q = _ then s else tA h p q) = _
    rw [if_neg (fun w => hq w.1), if_neg (fun w => hp w.1)]
  have hS : tA h3 133 = fun q => if q = i1.toNatClampNeg then s else tA h 133 q := by
    rw [hA]; funext q
    show (if 133 = 134 ∧ q = _ then v else if 133 = 133 ∧ q = _ then s else tA h 133 q) = _
    rw [if_neg (fun w => absurd w.1 (by decide))]
    by_cases z : q = i1.toNatClampNeg
    · rw [if_pos ⟨rfl, z⟩, if_pos z]
    · rw [if_neg (fun w => z w.2), if_neg z]
  have hV : tA h3 134 = fun q => if q = i1.toNatClampNeg then v else tA h 134 q := by
    rw [hA]; funext q
    show (if 134 = 134 ∧ q = i2.toNatClampNeg then v else if 134 = 133 ∧ q = _ then s else tA h 134 q) = _
    rw [n4]
    by_cases z : q = i1.toNatClampNeg
    · rw [if_pos ⟨rfl, z⟩, if_pos z]
    · rw [if_neg (fun w => z w.2), if_neg z, if_neg (fun w => absurd w.1 (by decide))]
  have NN : tN h3 = tN h := e.2.2.2.2.trans ((tN_tSA _ _ _ _).trans (tN_tSA _ _ _ _))
  refine ⟨⟨e.1, fun p q z => (e.2.2.1 p q (fun w => z ⟨w.1, by unfold mFs; omega⟩)).trans (by rw [tF_tSA, tF_tSA]), fun p z y _ => hE p z y, NN, fun q hq => ⟨by rw [hS]; exact if_neg (by rw [n3]; omega), by rw [hV]; exact if_neg (by rw [n3]; omega)⟩⟩, ⟨(hF 29 (by decide)).trans a, ?_, ?_, ?_, ?_, ?_, ?_, ?_, by rw [NN]; exact t1, by rw [NN]; exact t2⟩, ?_, ?_, hF 32 (by decide)⟩
  · rw [hF 28 (by decide), hF 27 (by decide)]; exact b
  · rw [hF 33 (by decide)]; exact c
  · rw [h31, e1]; constructor <;> omega
  · rw [hF 34 (by decide)]; exact e9
  · rw [hF 30 (by decide)]; exact g
  · rw [hE 142 (by decide) (by decide), NN]; exact i
  · exact j
  · unfold mSk
    rw [hF 34 (by decide), hE 142 (by decide) (by decide)]
  · unfold ms rU mEn
    rw [hF 28 (by decide), hF 33 (by decide), hF 30 (by decide), h31, e2, List.range_succ, List.map_append, hS, hV]
    refine Prod.ext rfl (Prod.ext rfl ?_)
    show List.map _ _ ++ [mCode _ _] = List.map _ _ ++ [_]
    refine congr (congrArg HAppend.hAppend (List.map_congr_left (fun i hi => ?_))) ?_
    · have hi := List.mem_range.mp hi
      dsimp only
      rw [if_neg (by rw [n3]; omega), if_neg (by rw [n3]; omega)]
    · show [mCode (if _ = i1.toNatClampNeg then s else _ : Int32).toNatClampNeg (if _ = i1.toNatClampNeg then v else _ : Int32).toNatClampNeg] = _
      rw [if_pos n3.symm, if_pos n3.symm]
/-- a whole step's frame -/
noncomputable def mFq (h h2 : zH) : Prop := tSh h2 ∧ (∀ p b, ¬ (p = 111 ∧ (mFs b ∨ b = 46)) → tF h2 p b = tF h p b) ∧ (∀ p, p ≠ 133 → p ≠ 134 → p ≠ 142 → tA h2 p = tA h p) ∧ tN h2 = tN h ∧ mLo h h2
theorem mFq_f (k : mFr h h2) : mFq h h2 := ⟨k.1, fun p b z => k.2.1 p b (fun w => z ⟨w.1, Or.inl w.2⟩), k.2.2.1, k.2.2.2⟩
theorem mFq_t (a : mFq h h1) (k : mFq h1 h2) : mFq h h2 := ⟨k.1, fun p q z => (k.2.1 p q z).trans (a.2.1 p q z), fun p z w y => (k.2.2.1 p z w y).trans (a.2.2.1 p z w y), k.2.2.2.1.trans a.2.2.2.1, mLo_t (a.2.1 111 30 (fun z => by have z := z.2; unfold mFs at z; omega)) a.2.2.2.2 k.2.2.2.2⟩
theorem mFq_s (a : mFq h h1) (k : mSet b X h1 h2) (hb : mFs b ∨ b = 46) : mFq h h2 := ⟨k.1, fun p q z => (k.2.2.1 p q (fun w => z ⟨w.1, w.2.symm ▸ hb⟩)).trans (a.2.1 p q z), fun p z w y => (congrFun k.2.2.2.1 p).trans (a.2.2.1 p z w y), k.2.2.2.2.trans a.2.2.2.1, mLo_A k.2.2.2.1 a.2.2.2.2⟩
theorem mFq_T (a : mFq h h1) : tA h1 132 = tA h 132 := a.2.2.1 132 (by decide) (by decide) (by decide)
theorem mFq_n (a : mFq h h1) : mn h1 = mn h := by
  unfold mn
  rw [a.2.1 111 27 (fun z => by have z := z.2; unfold mFs at z; omega)]
noncomputable def mFw (h h2 : zH) : Prop := tSh h2 ∧ (∀ p b, ¬ (p = 111 ∧ (mFs b ∨ b = 46 ∨ b = 47)) → tF h2 p b = tF h p b) ∧ (∀ p, p ≠ 133 → p ≠ 134 → p ≠ 142 → tA h2 p = tA h p) ∧ tN h2 = tN h ∧ mLo h h2
theorem mFw_q (k : mFq h h2) : mFw h h2 := ⟨k.1, fun p b z => k.2.1 p b (fun w => z ⟨w.1, w.2.elim Or.inl (fun y => Or.inr (Or.inl y))⟩), k.2.2.1, k.2.2.2⟩
theorem mFw_t (a : mFw h h1) (k : mFw h1 h2) : mFw h h2 := ⟨k.1, fun p q z => (k.2.1 p q z).trans (a.2.1 p q z), fun p z w y => (k.2.2.1 p z w y).trans (a.2.2.1 p z w y), k.2.2.2.1.trans a.2.2.2.1, mLo_t (a.2.1 111 30 (fun z => by have z := z.2; unfold mFs at z; omega)) a.2.2.2.2 k.2.2.2.2⟩
theorem mFw_s (a : mFw h h1) (k : mSet b X h1 h2) (hb : mFs b ∨ b = 46 ∨ b = 47) : mFw h h2 := ⟨k.1, fun p q z => (k.2.2.1 p q (fun w => z ⟨w.1, w.2.symm ▸ hb⟩)).trans (a.2.1 p q z), fun p z w y => (congrFun k.2.2.2.1 p).trans (a.2.2.1 p z w y), k.2.2.2.2.trans a.2.2.2.1, mLo_A k.2.2.2.1 a.2.2.2.2⟩
theorem mFw_T (a : mFw h h1) : tA h1 132 = tA h 132 := a.2.2.1 132 (by decide) (by decide) (by decide)
theorem mFw_i {q : Nat} (a : mFw h h1) (hq : ¬ (mFs q ∨ q = 46 ∨ q = 47)) : tF h1 111 q = tF h 111 q := a.2.1 111 q (fun z => hq z.2)
theorem mFq_47 (a : mFq h h1) : tF h1 111 47 = tF h 111 47 := a.2.1 111 47 (fun z => by have z := z.2; unfold mFs at z; omega)
theorem mFw_27 (a : mFw h h1) : tF h1 111 27 = tF h 111 27 := mFw_i a (fun z => by unfold mFs at z; omega)
theorem mFw_n (a : mFw h h1) : mn h1 = mn h := by
  unfold mn
  rw [mFw_27 a]
noncomputable def stN (x : Int32) : Nat := if x.toInt < 0 then 99 else x.toInt.toNat
noncomputable def mst (h : zH) : rMs := (stN (tvI (tF h 111 46)), mSk h, ms h)
end MF
/-- a byte, or -1 behind the end -/
noncomputable def sgm (T : Nat → Int32) (n p : Nat) (c : Int32) : Prop := (p < n ∧ c = T p) ∨ (¬ p < n ∧ c = -1)
theorem sgm_k {T : Nat → Int32} {n p : Nat} {c : Int32} (s : sgm T n p c) (k : Int32) (hk : 0 ≤ k.toInt) : c = k ↔ p < n ∧ T p = k := by
  rcases s with ⟨a, rfl⟩ | ⟨a, rfl⟩
  · exact ⟨fun z => ⟨a, z⟩, fun z => z.2⟩
  · exact ⟨fun z => by rw [← z] at hk; exact absurd hk (by decide), fun z => absurd z.1 a⟩
theorem sgm_d {T : Nat → Int32} {n p : Nat} {c : Int32} (s : sgm T n p c) : (48 ≤ c.toInt ∧ c.toInt ≤ 57) ↔ (p < n ∧ 48 ≤ (T p).toInt ∧ (T p).toInt ≤ 57) := by
  rcases s with ⟨a, rfl⟩ | ⟨a, rfl⟩
  · exact ⟨fun z => ⟨a, z⟩, fun z => z.2⟩
  · have : ((-1 : Int32)).toInt = -1 := by decide
    exact ⟨fun z => by omega, fun z => absurd z.1 a⟩
theorem mpos {h : zH} (hf : 0 ≤ (tvI (tF h 111 28)).toInt ∧ 0 ≤ (tvI (tF h 111 27)).toInt) : ((tvI (tF h 111 28)).toInt < (tvI (tF h 111 27)).toInt) ↔ (ms h).1 < mn h := by
  show _ ↔ (tvI (tF h 111 28)).toNatClampNeg < (tvI (tF h 111 27)).toNatClampNeg
  rw [zclE, zclE]
  omega
theorem g_sign {G : zG} (hG : G.1 = zProg) (hX : G.2.1 = ztx) {h : zH} {T : Nat → Int32} {n : Nat} (hs : tSh h) (hT : tA h 132 = T) (hN : mn h = n) (h0 : 0 ≤ (tvI (tF h 111 28)).toInt ∧ 0 ≤ (tvI (tF h 111 27)).toInt) : tC zTt G 202 [.ref 111] h (fun w h2 => (∃ c, w = some (.int c) ∧ sgm T n (ms h).1 c) ∧ h = h2) := by
  refine tC_in (by rw [hG]; rfl) (fun dp => ?_)
  have g0 := mFr_r hs
  refine tw_aload rfl rfl ?_
  refine tw_getS rfl (hi_111_28 hs) ?_
  refine tw_aload rfl rfl ?_
  refine tw_getS rfl (hi_111_27 hs) ?_
  refine tw_ic_ge rfl (fun q412 => ?_) (fun q412 => ?_)
  · try dsimp only [tvI_i, tvJ_j, tvR_r] at q412
    refine tw_push rfl ?_
    exact tw_iret rfl ⟨⟨_, rfl, Or.inr ⟨fun z => absurd ((mpos h0).mpr (by rw [hN]; exact z)) (Int.not_lt.mpr q412), rfl⟩⟩, rfl⟩
  · try dsimp only [tvI_i, tvJ_j, tvR_r] at q412
    refine tw_aload rfl rfl ?_
    refine tw_getS rfl (hs_111_35 hs) ?_
    refine tw_aload rfl rfl ?_
    refine tw_getS rfl (hi_111_28 hs) ?_
    refine tw_bald rfl (fun f413 => ?_)
    refine tw_goto rfl ?_
    exact tw_iret rfl ⟨⟨_, rfl, Or.inl ⟨by rw [← hN]; exact (mpos h0).mp q412, congrFun hT _⟩⟩, rfl⟩
theorem g_isDigit {G : zG} (hG : G.1 = zProg) {h : zH} {c : Int32} : tC zTt G 204 [.int c] h (fun w h2 => tBo (48 ≤ c.toInt ∧ c.toInt ≤ 57) w ∧ h = h2) := by
  refine tC_in (by rw [hG]; rfl) (fun dp => ?_)
  refine tw_iload rfl rfl ?_
  refine tw_push rfl ?_
  refine tw_ic_lt rfl (fun q414 => ?_) (fun q414 => ?_)
  · try dsimp only [tvI_i, tvJ_j, tvR_r] at q414
    refine tw_push rfl ?_
    have c489 : (48 : Int32).toInt = 48 := rfl
    have c579 : (57 : Int32).toInt = 57 := rfl
    exact tw_iret rfl ⟨Or.inr ⟨by omega, rfl⟩, rfl⟩
  · try dsimp only [tvI_i, tvJ_j, tvR_r] at q414
    refine tw_iload rfl rfl ?_
    refine tw_push rfl ?_
    refine tw_ic_gt rfl (fun q415 => ?_) (fun q415 => ?_)
    · try dsimp only [tvI_i, tvJ_j, tvR_r] at q415
      refine tw_push rfl ?_
      have c489 : (48 : Int32).toInt = 48 := rfl
      have c579 : (57 : Int32).toInt = 57 := rfl
      exact tw_iret rfl ⟨Or.inr ⟨by omega, rfl⟩, rfl⟩
    · try dsimp only [tvI_i, tvJ_j, tvR_r] at q415
      refine tw_push rfl ?_
      refine tw_goto rfl ?_
      have c489 : (48 : Int32).toInt = 48 := rfl
      have c579 : (57 : Int32).toInt = 57 := rfl
      exact tw_iret rfl ⟨Or.inl ⟨by omega, rfl⟩, rfl⟩
theorem g_blanks {G : zG} (hG : G.1 = zProg) (hX : G.2.1 = ztx) {h : zH} {T : Nat → Int32} {n : Nat} (hs : tSh h) (hp : mP h) (hT : tA h 132 = T) (hN : mn h = n)  : tC zTt G 203 [.ref 111] h (fun w h2 => w = none ∧ mFr h h2 ∧ mP h2 ∧ ms h2 = rA (rB T n (ms h).1) (ms h) ∧ mSk h2 = mSk h ∧ tF h2 111 32 = tF h 111 32) := by
  refine tC_in (by rw [hG]; rfl) (fun dp => ?_)
  have g0 := mFr_r hs
  have hpn : (ms h).1 ≤ n := mPle hp hN
  refine tG_loop (zW_mono zTt G dp) (zW_conj zTt G dp) (V := fun pc L st h9 _ _ => pc = 0 ∧ st = [] ∧ ∃ h1, h1 = h9 ∧ mFr h h1 ∧ mP h1 ∧ (ms h1).2 = (ms h).2 ∧ mSk h1 = mSk h ∧ tF h1 111 32 = tF h 111 32 ∧ rB T n (ms h1).1 = rB T n (ms h).1 ∧ L = [some (.ref 111)]) ?_ (⟨rfl, rfl, _, rfl, g0, hp, rfl, rfl, rfl, rfl, rfl⟩)
  rintro _ _ _ _ _ _ ⟨rfl, rfl, h1, rfl, g1, p1, e1, e2, e3, e4, rfl⟩
  refine tw_aload rfl rfl ?_
  refine tw_virt0 rfl (g_sign hG hX (g1).1 ((mFr_T g1).trans hT) ((mFr_n g1).trans hN) ⟨p1.2.1.1, by have := p1.2.1; omega⟩) (fun wp416 hp416 p416 => ?_)
  obtain ⟨⟨cp416, rfl, kp416⟩, rfl⟩ := p416
  refine tw_push rfl ?_
  refine tw_ic_ne rfl (fun q417 => ?_) (fun q417 => ?_)
  · try dsimp only [tvI_i, tvJ_j, tvR_r] at q417
    have q417i := zneq (Y := 32) (by decide) q417
    have hb : (ms h1).1 = rB T n (ms h).1 := by rw [← e4, rB_n (fun z => q417 ((sgm_k kp416 32 (by decide)).mpr z))]
    exact tw_vret rfl ⟨rfl, g1, p1, Prod.ext hb e1, e2, e3⟩
  · try dsimp only [tvI_i, tvJ_j, tvR_r] at q417
    have q417i := zeqi (Y := 32) (by decide) q417
    refine tw_aload rfl rfl ?_
    refine tw_dup rfl ?_
    refine tw_getS rfl (hi_111_28 (g1).1) ?_
    refine tw_push rfl ?_
    refine tw_iadd rfl ?_
    refine tw_put rfl (fun f418 => ?_)
    refine tG_setm f418 (hw_111_28 f418 (g1).1) (fun hf418 ef418 => ?_)
    try dsimp only [tvI_i] at ef418
    have gf418 := mFr_s g1 ef418 (by unfold mFs; omega)
    have wf418 := (sgm_k kp416 32 (by decide)).mp q417
    obtain ⟨pf418, sf418, tf418⟩ := mTo p1 ((mFr_n g1).trans hN) ef418 (v := (ms h1).1 + 1) (zincN (mPl p1) (by have := mPle p1 ((mFr_n g1).trans hN); have := p1.2.1; have := mNl p1 ((mFr_n g1).trans hN); omega)) wf418.1
    refine tw_goto rfl ?_
    exact tG_cut (zW_mono zTt G dp) (Or.inr ⟨rfl, rfl, _, rfl, gf418, pf418, (by rw [sf418]; exact e1), tf418.trans e2, (mI_o ef418 (by decide)).trans e3, (by rw [sf418]; exact (rB_y wf418).symm.trans e4), rfl⟩)
theorem z_blanks {G : zG} (hG : G.1 = zProg) (hX : G.2.1 = ztx) {h : zH} {T : Nat → Int32} {n : Nat} (hs : tSh h) {ef : Nat} (hp : mFt h ef) (hT : tA h 132 = T) (hN : mn h = n) (h0 : 0 ≤ (tvI (tF h 111 28)).toInt ∧ 0 ≤ (tvI (tF h 111 27)).toInt) : tC zTt G 203 [.ref 111] h (fun w h2 => w = none ∧ mFr h h2 ∧ mFt h2 ef ∧ (0 ≤ (tvI (tF h2 111 28)).toInt ∧ 0 ≤ (tvI (tF h2 111 27)).toInt)) := by
  refine tC_in (by rw [hG]; rfl) (fun dp => ?_)
  have g0 := mFr_r hs
  refine tG_loop (zW_mono zTt G dp) (zW_conj zTt G dp) (V := fun pc L st h9 _ _ => pc = 0 ∧ st = [] ∧ ∃ h1, h1 = h9 ∧ mFr h h1 ∧ mFt h1 ef ∧ (0 ≤ (tvI (tF h1 111 28)).toInt ∧ 0 ≤ (tvI (tF h1 111 27)).toInt) ∧ L = [some (.ref 111)]) ?_ (⟨rfl, rfl, _, rfl, g0, hp, h0, rfl⟩)
  rintro _ _ _ _ _ _ ⟨rfl, rfl, h1, rfl, g1, z1, h0, rfl⟩
  refine tw_aload rfl rfl ?_
  refine tw_virt0 rfl (g_sign hG hX (g1).1 ((mFr_T g1).trans hT) ((mFr_n g1).trans hN) h0) (fun wp419 hp419 p419 => ?_)
  obtain ⟨⟨cp419, rfl, kp419⟩, rfl⟩ := p419
  refine tw_push rfl ?_
  refine tw_ic_ne rfl (fun q420 => ?_) (fun q420 => ?_)
  · try dsimp only [tvI_i, tvJ_j, tvR_r] at q420
    have q420i := zneq (Y := 32) (by decide) q420
    exact tw_vret rfl ⟨rfl, g1, z1, h0⟩
  · try dsimp only [tvI_i, tvJ_j, tvR_r] at q420
    have q420i := zeqi (Y := 32) (by decide) q420
    refine tw_aload rfl rfl ?_
    refine tw_dup rfl ?_
    refine tw_getS rfl (hi_111_28 (g1).1) ?_
    refine tw_push rfl ?_
    refine tw_iadd rfl ?_
    refine tw_put rfl (fun f421 => ?_)
    refine tG_setm f421 (hw_111_28 f421 (g1).1) (fun hf421 ef421 => ?_)
    try dsimp only [tvI_i] at ef421
    have gf421 := mFr_s g1 ef421 (by unfold mFs; omega)
    have zf421 := mFt_s z1 ef421 (by decide)
    have wf421 := (sgm_k kp419 32 (by decide)).mp q420
    have if421 : 0 ≤ (tvI (tF hf421 111 28)).toInt ∧ 0 ≤ (tvI (tF hf421 111 27)).toInt := by rw [mI_x ef421, mI_o ef421 (by decide)]; have y := (mpos h0).mpr (by rw [((mFr_n g1).trans hN)]; exact wf421.1); exact ⟨by rw [zj1 h0.1 y]; omega, h0.2⟩
    refine tw_goto rfl ?_
    exact tG_cut (zW_mono zTt G dp) (Or.inr ⟨rfl, rfl, _, rfl, gf421, zf421, if421, rfl⟩)
theorem g_fails {G : zG} (hG : G.1 = zProg) (hX : G.2.1 = ztx) {h : zH} {T : Nat → Int32} {n : Nat} (hs : tSh h) (hp : mP h) (hT : tA h 132 = T) (hN : mn h = n) {y a : Int32} {w b : Nat} (hw : y.toInt = w) (hw7 : w ≤ 7) (hb : a.toInt = b) (hb4 : b ≤ 400) : tC zTt G 201 [.ref 111, .int y, .int a] h (fun w9 h2 => w9 = none ∧ mFr h h2 ∧ mFt h2 (1 + 8 * b + w) ∧ tF h2 111 28 = tF h 111 28 ∧ tF h2 111 27 = tF h 111 27) := by
  refine tC_in (by rw [hG]; rfl) (fun dp => ?_)
  have g0 := mFr_r hs
  have hpn : (ms h).1 ≤ n := mPle hp hN
  refine tw_aload rfl rfl ?_
  refine tw_aload rfl rfl ?_
  refine tw_getS rfl (hi_111_29 hs) ?_
  refine tw_if_ne rfl (fun q422 => ?_) (fun q422 => ?_)
  · try dsimp only [tvI_i, tvJ_j, tvR_r] at q422
    have q422i := zneq (Y := 0) (by decide) q422
    refine tw_aload rfl rfl ?_
    refine tw_getS rfl (hi_111_29 hs) ?_
    refine tw_put rfl (fun f423 => ?_)
    refine tG_setm f423 (hw_111_29 f423 (g0).1) (fun hf423 ef423 => ?_)
    try dsimp only [tvI_i] at ef423
    have gf423 := mFr_s g0 ef423 (by unfold mFs; omega)
    exact absurd (mP_0 hp) q422
  · try dsimp only [tvI_i, tvJ_j, tvR_r] at q422
    have q422i := zeqi (Y := 0) (by decide) q422
    refine tw_push rfl ?_
    refine tw_push rfl ?_
    refine tw_iload rfl rfl ?_
    refine tw_imul rfl ?_
    refine tw_iadd rfl ?_
    refine tw_iload rfl rfl ?_
    refine tw_iadd rfl ?_
    refine tw_goto rfl ?_
    refine tw_put rfl (fun f424 => ?_)
    refine tG_setm f424 (hw_111_29 f424 (g0).1) (fun hf424 ef424 => ?_)
    try dsimp only [tvI_i] at ef424
    have gf424 := mFr_s g0 ef424 (by unfold mFs; omega)
    exact tw_vret rfl ⟨rfl, gf424, mFt_of ef424 hb hb4 hw hw7, mI_o ef424 (by decide), mI_o ef424 (by decide)⟩
theorem z_fails {G : zG} (hG : G.1 = zProg) (hX : G.2.1 = ztx) {h : zH} {T : Nat → Int32} {n : Nat} (hs : tSh h) {ef : Nat} (hp : mFt h ef) (hT : tA h 132 = T) (hN : mn h = n) {y a : Int32} : tC zTt G 201 [.ref 111, .int y, .int a] h (fun w9 h2 => w9 = none ∧ mFr h h2 ∧ mFt h2 ef ∧ tF h2 111 28 = tF h 111 28 ∧ tF h2 111 27 = tF h 111 27) := by
  refine tC_in (by rw [hG]; rfl) (fun dp => ?_)
  have g0 := mFr_r hs
  refine tw_aload rfl rfl ?_
  refine tw_aload rfl rfl ?_
  refine tw_getS rfl (hi_111_29 hs) ?_
  refine tw_if_ne rfl (fun q425 => ?_) (fun q425 => ?_)
  · try dsimp only [tvI_i, tvJ_j, tvR_r] at q425
    have q425i := zneq (Y := 0) (by decide) q425
    refine tw_aload rfl rfl ?_
    refine tw_getS rfl (hi_111_29 hs) ?_
    refine tw_put rfl (fun f426 => ?_)
    refine tG_setm f426 (hw_111_29 f426 (g0).1) (fun hf426 ef426 => ?_)
    try dsimp only [tvI_i] at ef426
    have gf426 := mFr_s g0 ef426 (by unfold mFs; omega)
    have hz : mFt hf426 ef := ⟨ef426.2.1.trans ((hi_111_29 hs).symm.trans hp.1), hp.2⟩
    exact tw_vret rfl ⟨rfl, gf426, hz, mI_o ef426 (by decide), mI_o ef426 (by decide)⟩
  · try dsimp only [tvI_i, tvJ_j, tvR_r] at q425
    have q425i := zeqi (Y := 0) (by decide) q425
    refine tw_push rfl ?_
    refine tw_push rfl ?_
    refine tw_iload rfl rfl ?_
    refine tw_imul rfl ?_
    refine tw_iadd rfl ?_
    refine tw_iload rfl rfl ?_
    refine tw_iadd rfl ?_
    refine tw_goto rfl ?_
    refine tw_put rfl (fun f427 => ?_)
    refine tG_setm f427 (hw_111_29 f427 (g0).1) (fun hf427 ef427 => ?_)
    try dsimp only [tvI_i] at ef427
    have gf427 := mFr_s g0 ef427 (by unfold mFs; omega)
    exact absurd q425 (mFt_n hp)
theorem mpos_k {h h2 : zH} (h0 : 0 ≤ (tvI (tF h 111 28)).toInt ∧ 0 ≤ (tvI (tF h 111 27)).toInt) (a : tF h2 111 28 = tF h 111 28) (b : tF h2 111 27 = tF h 111 27) : 0 ≤ (tvI (tF h2 111 28)).toInt ∧ 0 ≤ (tvI (tF h2 111 27)).toInt := by rw [a, b]; exact h0
theorem mpos_p {h : zH} (p : mP h) : 0 ≤ (tvI (tF h 111 28)).toInt ∧ 0 ≤ (tvI (tF h 111 27)).toInt := by have := p.2.1; exact ⟨by omega, by omega⟩
theorem m80 {h : zH} (p : mP h) (q : tvI (tF h 111 33) = 80) : (ms h).2.1 = 80 := by
  have e := mCl p
  rw [q] at e
  have : (80 : Int32).toInt = 80 := rfl
  omega
theorem mn80 {h : zH} (p : mP h) (q : ¬ tvI (tF h 111 33) = 80) : (ms h).2.1 ≠ 80 := by
  intro z
  have e := mCl p
  refine q (Int32.toInt_inj.mp ?_)
  have : (80 : Int32).toInt = 80 := rfl
  omega
theorem g_entry {G : zG} (hG : G.1 = zProg) (hX : G.2.1 = ztx) {h : zH} {T : Nat → Int32} {n : Nat} (hs : tSh h) (hp : mP h) (hT : tA h 132 = T) (hN : mn h = n) {s v : Int32} (hv : 0 ≤ s.toInt ∧ 0 ≤ v.toInt) : tC zTt G 206 [.ref 111, .int s, .int v] h (fun w h2 => w = none ∧ mFr h h2 ∧ mP h2 ∧ ms h2 = rU (mCode s.toNatClampNeg v.toNatClampNeg) (ms h) ∧ mSk h2 = mSk h ∧ tF h2 111 32 = tF h 111 32) := by
  refine tC_in (by rw [hG]; rfl) (fun dp => ?_)
  have g0 := mFr_r hs
  have hpn : (ms h).1 ≤ n := mPle hp hN
  refine tw_aload rfl rfl ?_
  refine tw_getS rfl (hi_111_29 hs) ?_
  refine tw_if_ne rfl (fun q428 => ?_) (fun q428 => ?_)
  · try dsimp only [tvI_i, tvJ_j, tvR_r] at q428
    have q428i := zneq (Y := 0) (by decide) q428
    exact absurd (mP_0 hp) q428
  · try dsimp only [tvI_i, tvJ_j, tvR_r] at q428
    have q428i := zeqi (Y := 0) (by decide) q428
    refine tw_aload rfl rfl ?_
    refine tw_getS rfl (hs_111_36 hs) ?_
    refine tw_push rfl ?_
    refine tw_aload rfl rfl ?_
    refine tw_getS rfl (hi_111_30 hs) ?_
    refine tw_imul rfl ?_
    refine tw_aload rfl rfl ?_
    refine tw_getS rfl (hi_111_31 hs) ?_
    refine tw_iadd rfl ?_
    refine tw_iload rfl rfl ?_
    refine tw_iast rfl (fun f429 => ?_)
    refine tw_aload rfl rfl ?_
    refine tw_getS rfl (hs_111_37 (tSh_SA hs)) ?_
    refine tw_push rfl ?_
    refine tw_aload rfl rfl ?_
    refine tw_getS rfl (tF_a (hi_111_30 hs)) ?_
    refine tw_imul rfl ?_
    refine tw_aload rfl rfl ?_
    refine tw_getS rfl (tF_a (hi_111_31 hs)) ?_
    refine tw_iadd rfl ?_
    refine tw_iload rfl rfl ?_
    refine tw_iast rfl (fun f430 => ?_)
    refine tw_aload rfl rfl ?_
    refine tw_dup rfl ?_
    refine tw_getS rfl (tF_a (tF_a (hi_111_31 hs))) ?_
    refine tw_push rfl ?_
    refine tw_iadd rfl ?_
    refine tw_put rfl (fun f431 => ?_)
    have K := mEnt (s := s) (v := v) hs hp hv rfl rfl f429 f430 f431
    exact tw_vret rfl ⟨rfl, K.1, K.2.1, K.2.2.2.1, K.2.2.1, K.2.2.2.2⟩
theorem z_entry {G : zG} (hG : G.1 = zProg) (hX : G.2.1 = ztx) {h : zH} {T : Nat → Int32} {n : Nat} (hs : tSh h) {ef : Nat} (hp : mFt h ef) (hT : tA h 132 = T) (hN : mn h = n) {s v : Int32} : tC zTt G 206 [.ref 111, .int s, .int v] h (fun w h2 => w = none ∧ h2 = h) := by
  refine tC_in (by rw [hG]; rfl) (fun dp => ?_)
  have g0 := mFr_r hs
  refine tw_aload rfl rfl ?_
  refine tw_getS rfl (hi_111_29 hs) ?_
  refine tw_if_ne rfl (fun q432 => ?_) (fun q432 => ?_)
  · try dsimp only [tvI_i, tvJ_j, tvR_r] at q432
    have q432i := zneq (Y := 0) (by decide) q432
    exact tw_vret rfl ⟨rfl, rfl⟩
  · try dsimp only [tvI_i, tvJ_j, tvR_r] at q432
    have q432i := zeqi (Y := 0) (by decide) q432
    refine tw_aload rfl rfl ?_
    refine tw_getS rfl (hs_111_36 hs) ?_
    refine tw_push rfl ?_
    refine tw_aload rfl rfl ?_
    refine tw_getS rfl (hi_111_30 hs) ?_
    refine tw_imul rfl ?_
    refine tw_aload rfl rfl ?_
    refine tw_getS rfl (hi_111_31 hs) ?_
    refine tw_iadd rfl ?_
    refine tw_iload rfl rfl ?_
    refine tw_iast rfl (fun f433 => ?_)
    refine tw_aload rfl rfl ?_
    refine tw_getS rfl (hs_111_37 (tSh_SA hs)) ?_
    refine tw_push rfl ?_
    refine tw_aload rfl rfl ?_
    refine tw_getS rfl (tF_a (hi_111_30 hs)) ?_
    refine tw_imul rfl ?_
    refine tw_aload rfl rfl ?_
    refine tw_getS rfl (tF_a (hi_111_31 hs)) ?_
    refine tw_iadd rfl ?_
    refine tw_iload rfl rfl ?_
    refine tw_iast rfl (fun f434 => ?_)
    refine tw_aload rfl rfl ?_
    refine tw_dup rfl ?_
    refine tw_getS rfl (tF_a (tF_a (hi_111_31 hs))) ?_
    refine tw_push rfl ?_
    refine tw_iadd rfl ?_
    refine tw_put rfl (fun f435 => ?_)
    exact absurd q432 (mFt_n hp)
theorem g_counts {G : zG} (hG : G.1 = zProg) (hX : G.2.1 = ztx) {h : zH} {T : Nat → Int32} {n : Nat} (hs : tSh h) (hp : mP h) (hT : tA h 132 = T) (hN : mn h = n) {a : Int32} {b : Nat} (hb : a.toInt = b) (hb4 : b ≤ 400) : tC zTt G 207 [.ref 111, .int a] h (fun w h2 => w = none ∧ mFr h h2 ∧ (((ms h).2.1 ≠ 80 ∧ mP h2 ∧ ms h2 = ((ms h).1, (ms h).2.1 + 1, (ms h).2.2) ∧ mSk h2 = mSk h ∧ tF h2 111 32 = tF h 111 32) ∨ ((ms h).2.1 = 80 ∧ mFt h2 (1 + 8 * b + 3))) ∧ tF h2 111 28 = tF h 111 28 ∧ tF h2 111 27 = tF h 111 27) := by
  refine tC_in (by rw [hG]; rfl) (fun dp => ?_)
  have g0 := mFr_r hs
  have hpn : (ms h).1 ≤ n := mPle hp hN
  refine tw_aload rfl rfl ?_
  refine tw_getS rfl (hi_111_33 hs) ?_
  refine tw_push rfl ?_
  refine tw_ic_ne rfl (fun q436 => ?_) (fun q436 => ?_)
  · try dsimp only [tvI_i, tvJ_j, tvR_r] at q436
    have q436i := zneq (Y := 80) (by decide) q436
    refine tw_aload rfl rfl ?_
    refine tw_dup rfl ?_
    refine tw_getS rfl (hi_111_33 hs) ?_
    refine tw_push rfl ?_
    refine tw_iadd rfl ?_
    refine tw_put rfl (fun f437 => ?_)
    refine tG_setm f437 (hw_111_33 f437 (g0).1) (fun hf437 ef437 => ?_)
    try dsimp only [tvI_i] at ef437
    have gf437 := mFr_s g0 ef437 (by unfold mFs; omega)
    obtain ⟨pf437, sf437, tf437⟩ := mCnt hp (mn80 hp q436) ef437
    exact tw_vret rfl ⟨rfl, gf437, Or.inl ⟨mn80 hp q436, pf437, sf437, tf437, mI_o ef437 (by decide)⟩, mI_o ef437 (by decide), mI_o ef437 (by decide)⟩
  · try dsimp only [tvI_i, tvJ_j, tvR_r] at q436
    have q436i := zeqi (Y := 80) (by decide) q436
    refine tw_aload rfl rfl ?_
    refine tw_push rfl ?_
    refine tw_iload rfl rfl ?_
    refine tw_virt2 rfl (g_fails hG hX (g0).1 hp ((mFr_T g0).trans hT) ((mFr_n g0).trans hN) (w := 3) (b := b) rfl (by decide) hb hb4) (fun wp438 hp438 p438 => ?_)
    obtain ⟨rfl, gp438, Fp438, ip438, jp438⟩ := p438
    have ggp438 := mFr_t g0 gp438
    refine tw_aload rfl rfl ?_
    refine tw_dup rfl ?_
    refine tw_getS rfl (hi_111_33 ggp438.1) ?_
    refine tw_push rfl ?_
    refine tw_iadd rfl ?_
    refine tw_put rfl (fun f439 => ?_)
    refine tG_setm f439 (hw_111_33 f439 (ggp438).1) (fun hf439 ef439 => ?_)
    try dsimp only [tvI_i] at ef439
    have gf439 := mFr_s ggp438 ef439 (by unfold mFs; omega)
    have zf439 := mFt_s Fp438 ef439 (by decide)
    exact tw_vret rfl ⟨rfl, gf439, Or.inr ⟨m80 hp q436, zf439⟩, (mI_o ef439 (by decide)).trans ip438, (mI_o ef439 (by decide)).trans jp438⟩
theorem z_counts {G : zG} (hG : G.1 = zProg) (hX : G.2.1 = ztx) {h : zH} {T : Nat → Int32} {n : Nat} (hs : tSh h) {ef : Nat} (hp : mFt h ef) (hT : tA h 132 = T) (hN : mn h = n) {a : Int32} : tC zTt G 207 [.ref 111, .int a] h (fun w h2 => w = none ∧ mFr h h2 ∧ mFt h2 ef ∧ tF h2 111 28 = tF h 111 28 ∧ tF h2 111 27 = tF h 111 27) := by
  refine tC_in (by rw [hG]; rfl) (fun dp => ?_)
  have g0 := mFr_r hs
  refine tw_aload rfl rfl ?_
  refine tw_getS rfl (hi_111_33 hs) ?_
  refine tw_push rfl ?_
  refine tw_ic_ne rfl (fun q440 => ?_) (fun q440 => ?_)
  · try dsimp only [tvI_i, tvJ_j, tvR_r] at q440
    have q440i := zneq (Y := 80) (by decide) q440
    refine tw_aload rfl rfl ?_
    refine tw_dup rfl ?_
    refine tw_getS rfl (hi_111_33 hs) ?_
    refine tw_push rfl ?_
    refine tw_iadd rfl ?_
    refine tw_put rfl (fun f441 => ?_)
    refine tG_setm f441 (hw_111_33 f441 (g0).1) (fun hf441 ef441 => ?_)
    try dsimp only [tvI_i] at ef441
    have gf441 := mFr_s g0 ef441 (by unfold mFs; omega)
    have zf441 := mFt_s hp ef441 (by decide)
    exact tw_vret rfl ⟨rfl, gf441, zf441, mI_o ef441 (by decide), mI_o ef441 (by decide)⟩
  · try dsimp only [tvI_i, tvJ_j, tvR_r] at q440
    have q440i := zeqi (Y := 80) (by decide) q440
    refine tw_aload rfl rfl ?_
    refine tw_push rfl ?_
    refine tw_iload rfl rfl ?_
    refine tw_virt2 rfl (z_fails hG hX (g0).1 hp ((mFr_T g0).trans hT) ((mFr_n g0).trans hN)) (fun wp442 hp442 p442 => ?_)
    obtain ⟨rfl, gp442, Fp442, ip442, jp442⟩ := p442
    have ggp442 := mFr_t g0 gp442
    refine tw_aload rfl rfl ?_
    refine tw_dup rfl ?_
    refine tw_getS rfl (hi_111_33 ggp442.1) ?_
    refine tw_push rfl ?_
    refine tw_iadd rfl ?_
    refine tw_put rfl (fun f443 => ?_)
    refine tG_setm f443 (hw_111_33 f443 (ggp442).1) (fun hf443 ef443 => ?_)
    try dsimp only [tvI_i] at ef443
    have gf443 := mFr_s ggp442 ef443 (by unfold mFs; omega)
    have zf443 := mFt_s Fp442 ef443 (by decide)
    exact tw_vret rfl ⟨rfl, gf443, zf443, (mI_o ef443 (by decide)).trans ip442, (mI_o ef443 (by decide)).trans jp442⟩
theorem g_opens {G : zG} (hG : G.1 = zProg) (hX : G.2.1 = ztx) {h : zH} {T : Nat → Int32} {n : Nat} (hs : tSh h) (hp : mP h) (hT : tA h 132 = T) (hN : mn h = n) {x : Int32} (hx0 : 0 ≤ x.toInt) : tC zTt G 208 [.ref 111, .int x] h (fun w h2 => w = none ∧ mFr h h2 ∧ mP h2 ∧ mSk h2 = x.toNatClampNeg :: mSk h ∧ ms h2 = ms h ∧ tF h2 111 32 = tF h 111 32) := by
  refine tC_in (by rw [hG]; rfl) (fun dp => ?_)
  have g0 := mFr_r hs
  have hpn : (ms h).1 ≤ n := mPle hp hN
  refine tw_aload rfl rfl ?_
  refine tw_getS rfl (hs_111_45 hs) ?_
  refine tw_aload rfl rfl ?_
  refine tw_getS rfl (hi_111_34 hs) ?_
  refine tw_iload rfl rfl ?_
  refine tw_iast rfl (fun f444 => ?_)
  refine tw_aload rfl rfl ?_
  refine tw_dup rfl ?_
  refine tw_getS rfl (tF_a (hi_111_34 hs)) ?_
  refine tw_push rfl ?_
  refine tw_iadd rfl ?_
  refine tw_put rfl (fun f445 => ?_)
  have K := mPush (x := x) hs hp hx0 f444 f445
  exact tw_vret rfl ⟨rfl, K.1, K.2.1, K.2.2.1, K.2.2.2.1, K.2.2.2.2⟩
theorem mPushz {h : zH} {x : Int32} {kd ef : Nat} (hs : tSh h) (z : mFt h ef) (hf : tIn h 142 kd (tvI (tF h 111 34))) (hf2 : tFd (tSA h 142 (tvI (tF h 111 34)).toNatClampNeg x) 111 34) : mFr h (tSF (tSA h 142 (tvI (tF h 111 34)).toNatClampNeg x) 111 34 (.int (tvI (tF h 111 34) + 1))) ∧ mFt (tSF (tSA h 142 (tvI (tF h 111 34)).toNatClampNeg x) 111 34 (.int (tvI (tF h 111 34) + 1))) ef ∧ tF (tSF (tSA h 142 (tvI (tF h 111 34)).toNatClampNeg x) 111 34 (.int (tvI (tF h 111 34) + 1))) 111 28 = tF h 111 28 ∧ tF (tSF (tSA h 142 (tvI (tF h 111 34)).toNatClampNeg x) 111 34 (.int (tvI (tF h 111 34) + 1))) 111 27 = tF h 111 27 := by
  have hw := hw_111_34 (x := tvI (tF h 111 34) + 1) hf2 (tSh_SA hs)
  have e := mSet_of hf2 hw
  generalize tSF (tSA h 142 (tvI (tF h 111 34)).toNatClampNeg x) 111 34 (.int (tvI (tF h 111 34) + 1)) = h3 at e
  have hF : ∀ b, b ≠ 34 → tF h3 111 b = tF h 111 b := fun b hb => (mI_o e hb).trans (by rw [tF_tSA])
  refine ⟨⟨e.1, fun p q z => (e.2.2.1 p q (fun w => z ⟨w.1, by unfold mFs; omega⟩)).trans (by rw [tF_tSA]), fun p _ _ y => (congrFun e.2.2.2.1 p).trans (tA_nz y), e.2.2.2.2.trans (tN_tSA _ _ _ _), mLo_p ((congrFun e.2.2.2.1 133).trans (tA_nz (by decide))) ((congrFun e.2.2.2.1 134).trans (tA_nz (by decide)))⟩, ⟨(hF 29 (by decide)).trans z.1, z.2⟩, hF 28 (by decide), hF 27 (by decide)⟩
theorem z_opens {G : zG} (hG : G.1 = zProg) (hX : G.2.1 = ztx) {h : zH} {T : Nat → Int32} {n : Nat} (hs : tSh h) {ef : Nat} (hp : mFt h ef) (hT : tA h 132 = T) (hN : mn h = n) {x : Int32} : tC zTt G 208 [.ref 111, .int x] h (fun w h2 => w = none ∧ mFr h h2 ∧ mFt h2 ef ∧ tF h2 111 28 = tF h 111 28 ∧ tF h2 111 27 = tF h 111 27) := by
  refine tC_in (by rw [hG]; rfl) (fun dp => ?_)
  have g0 := mFr_r hs
  refine tw_aload rfl rfl ?_
  refine tw_getS rfl (hs_111_45 hs) ?_
  refine tw_aload rfl rfl ?_
  refine tw_getS rfl (hi_111_34 hs) ?_
  refine tw_iload rfl rfl ?_
  refine tw_iast rfl (fun f446 => ?_)
  refine tw_aload rfl rfl ?_
  refine tw_dup rfl ?_
  refine tw_getS rfl (tF_a (hi_111_34 hs)) ?_
  refine tw_push rfl ?_
  refine tw_iadd rfl ?_
  refine tw_put rfl (fun f447 => ?_)
  have K := mPushz (x := x) hs hp f446 f447
  exact tw_vret rfl ⟨rfl, K.1, K.2.1, K.2.2.1, K.2.2.2⟩
theorem mD10 {h : zH} (d : mD h) : tvI (tF h 111 32) = 10 ↔ mDp (mSk h) = 10 := by
  have d : (tvI (tF h 111 32)).toInt = (mDp (mSk h) : Int) := d
  have e : (10 : Int32).toInt = 10 := rfl
  constructor
  · intro z
    rw [z] at d
    omega
  · intro z
    refine Int32.toInt_inj.mp ?_
    omega
theorem mDp_c {c : Nat} {S : List Nat} (h : c = 50 ∨ c = 10 ∨ c = 13) : mDp (c :: S) = mDp S + 1 := if_pos h
theorem mDp_e {c : Nat} {S : List Nat} (h : ¬ (c = 50 ∨ c = 10 ∨ c = 13)) : mDp (c :: S) = mDp S := if_neg h
theorem g_opensDeep {G : zG} (hG : G.1 = zProg) (hX : G.2.1 = ztx) {h : zH} {T : Nat → Int32} {n : Nat} (hs : tSh h) (hp : mP h) (hT : tA h 132 = T) (hN : mn h = n) {x a : Int32} {b : Nat} (hx0 : 0 ≤ x.toInt) (hx : x.toNatClampNeg = 50 ∨ x.toNatClampNeg = 10 ∨ x.toNatClampNeg = 13) (hb : a.toInt = b) (hb4 : b ≤ 400) (hD : mD h) (hd10 : mDp (mSk h) ≤ 1000) : tC zTt G 209 [.ref 111, .int x, .int a] h (fun w h2 => w = none ∧ mFr h h2 ∧ ((mDp (mSk h) ≠ 10 ∧ mP h2 ∧ mSk h2 = x.toNatClampNeg :: mSk h ∧ ms h2 = ms h ∧ mD h2) ∨ (mDp (mSk h) = 10 ∧ mFt h2 (1 + 8 * b + 2) ∧ tF h2 111 28 = tF h 111 28 ∧ tF h2 111 27 = tF h 111 27))) := by
  refine tC_in (by rw [hG]; rfl) (fun dp => ?_)
  have g0 := mFr_r hs
  have hpn : (ms h).1 ≤ n := mPle hp hN
  refine tw_aload rfl rfl ?_
  refine tw_getS rfl (hi_111_32 hs) ?_
  refine tw_push rfl ?_
  refine tw_ic_ne rfl (fun q448 => ?_) (fun q448 => ?_)
  · try dsimp only [tvI_i, tvJ_j, tvR_r] at q448
    have q448i := zneq (Y := 10) (by decide) q448
    refine tw_aload rfl rfl ?_
    refine tw_dup rfl ?_
    refine tw_getS rfl (hi_111_32 hs) ?_
    refine tw_push rfl ?_
    refine tw_iadd rfl ?_
    refine tw_put rfl (fun f449 => ?_)
    refine tG_setm f449 (hw_111_32 f449 (g0).1) (fun hf449 ef449 => ?_)
    try dsimp only [tvI_i] at ef449
    have gf449 := mFr_s g0 ef449 (by unfold mFs; omega)
    obtain ⟨pf449, tf449, sf449, df449⟩ := mUp hp ef449 hD hd10
    refine tw_aload rfl rfl ?_
    refine tw_iload rfl rfl ?_
    refine tw_virt1 rfl (g_opens hG hX (gf449).1 pf449 ((mFr_T gf449).trans hT) ((mFr_n gf449).trans hN) hx0) (fun wp450 hp450 p450 => ?_)
    obtain ⟨rfl, gp450, pp450e, tp450, sp450, dp450⟩ := p450
    have ggp450 := mFr_t gf449 gp450
    have hne : mDp (mSk h) ≠ 10 := fun z => q448 ((mD10 hD).mpr z)
    exact tw_vret rfl ⟨rfl, ggp450, Or.inl ⟨hne, pp450e, by rw [tp450, tf449], sp450.trans sf449, by unfold mD; rw [dp450, tp450, tf449, mDp_c hx]; exact df449⟩⟩
  · try dsimp only [tvI_i, tvJ_j, tvR_r] at q448
    have q448i := zeqi (Y := 10) (by decide) q448
    refine tw_aload rfl rfl ?_
    refine tw_push rfl ?_
    refine tw_iload rfl rfl ?_
    refine tw_virt2 rfl (g_fails hG hX (g0).1 hp ((mFr_T g0).trans hT) ((mFr_n g0).trans hN) (w := 2) (b := b) rfl (by decide) hb hb4) (fun wp451 hp451 p451 => ?_)
    obtain ⟨rfl, gp451, Fp451, ip451, jp451⟩ := p451
    have ggp451 := mFr_t g0 gp451
    refine tw_aload rfl rfl ?_
    refine tw_dup rfl ?_
    refine tw_getS rfl (hi_111_32 ggp451.1) ?_
    refine tw_push rfl ?_
    refine tw_iadd rfl ?_
    refine tw_put rfl (fun f452 => ?_)
    refine tG_setm f452 (hw_111_32 f452 (ggp451).1) (fun hf452 ef452 => ?_)
    try dsimp only [tvI_i] at ef452
    have gf452 := mFr_s ggp451 ef452 (by unfold mFs; omega)
    have zf452 := mFt_s Fp451 ef452 (by decide)
    refine tw_aload rfl rfl ?_
    refine tw_iload rfl rfl ?_
    refine tw_virt1 rfl (z_opens hG hX (gf452).1 zf452 ((mFr_T gf452).trans hT) ((mFr_n gf452).trans hN)) (fun wp453 hp453 p453 => ?_)
    obtain ⟨rfl, gp453, Fp453, ip453, jp453⟩ := p453
    have ggp453 := mFr_t gf452 gp453
    exact tw_vret rfl ⟨rfl, ggp453, Or.inr ⟨(mD10 hD).mp q448, Fp453, ip453.trans ((mI_o ef452 (by decide)).trans ip451), jp453.trans ((mI_o ef452 (by decide)).trans jp451)⟩⟩
noncomputable def tpm (S : List Nat) (c : Int32) : Prop := (S = [] ∧ c = -1) ∨ (S ≠ [] ∧ c.toInt = ((S.headD 0 : Nat) : Int))
theorem tpm_k {S : List Nat} {c : Int32} (t : tpm S c) {k : Int32} {K : Nat} (hk : k.toInt = K) (h0 : 0 < K) : c = k ↔ S.headD 0 = K := by
  rcases t with ⟨rfl, rfl⟩ | ⟨h, e⟩
  · have : ((-1 : Int32)).toInt = -1 := by decide
    exact ⟨fun z => by rw [← z] at hk; omega, fun z => by have z : 0 = K := z; omega⟩
  · exact ⟨fun z => by rw [z] at e; omega, fun z => Int32.toInt_inj.mp (by omega)⟩
theorem tpm_i {S : List Nat} {c : Int32} (t : tpm S c) (hc : 0 ≤ c.toInt) : S ≠ [] ∧ c.toInt = ((S.headD 0 : Nat) : Int) := by
  rcases t with ⟨rfl, rfl⟩ | t
  · exact absurd hc (by decide)
  · exact t
theorem tpm_e {S : List Nat} {c : Int32} (t : tpm S c) : c.toInt = ((S.headD 0 : Nat) : Int) ∨ (S.headD 0 = 0 ∧ c.toInt = -1) := by
  rcases t with ⟨rfl, rfl⟩ | t
  · exact Or.inr ⟨rfl, by decide⟩
  · exact Or.inl t.2
theorem g_top {G : zG} (hG : G.1 = zProg) (hX : G.2.1 = ztx) {h : zH} {T : Nat → Int32} {n : Nat} (hs : tSh h) (hp : mP h) (hT : tA h 132 = T) (hN : mn h = n)  : tC zTt G 210 [.ref 111] h (fun w h2 => (∃ c, w = some (.int c) ∧ tpm (mSk h) c) ∧ h = h2) := by
  refine tC_in (by rw [hG]; rfl) (fun dp => ?_)
  have g0 := mFr_r hs
  have hpn : (ms h).1 ≤ n := mPle hp hN
  refine tw_aload rfl rfl ?_
  refine tw_getS rfl (hi_111_34 hs) ?_
  refine tw_if_ne rfl (fun q454 => ?_) (fun q454 => ?_)
  · try dsimp only [tvI_i, tvJ_j, tvR_r] at q454
    have q454i := zneq (Y := 0) (by decide) q454
    refine tw_aload rfl rfl ?_
    refine tw_getS rfl (hs_111_45 hs) ?_
    refine tw_aload rfl rfl ?_
    refine tw_getS rfl (hi_111_34 hs) ?_
    refine tw_push rfl ?_
    refine tw_isub rfl ?_
    refine tw_iald rfl (fun f455 => ?_)
    have hk : 0 < (tvI (tF h 111 34)).toNatClampNeg := by rw [zclE]; have := hp.2.2.2.2.1; omega
    have e2 : (tvI (tF h 111 34) - 1).toNatClampNeg = (tvI (tF h 111 34)).toNatClampNeg - 1 := by rw [zclE, zclE, zsub1 hp.2.2.2.2.1]; omega
    refine tw_iret rfl ⟨⟨_, rfl, Or.inr ?_⟩, rfl⟩
    rw [mSk_top hk]
    refine ⟨List.cons_ne_nil _ _, ?_⟩
    show (tA h 142 (tvI (tF h 111 34) - 1).toNatClampNeg).toInt = _
    have hl9 : (tvI (tF h 111 34) - 1).toNatClampNeg < tN h 142 := f455.rg.2
    rw [e2] at hl9
    rw [e2]
    exact (zclx (hp.2.2.2.2.2.2.1 _ hl9)).symm
  · try dsimp only [tvI_i, tvJ_j, tvR_r] at q454
    have q454i := zeqi (Y := 0) (by decide) q454
    refine tw_push rfl ?_
    refine tw_goto rfl ?_
    exact tw_iret rfl ⟨⟨_, rfl, Or.inl ⟨mSk_nil (by rw [q454]; rfl), rfl⟩⟩, rfl⟩
theorem rQ_at {T : Nat → Int32} : ∀ (w : List Int32) (p k : Nat), rQ T p w = true → k < w.length → T (p + k) = w.getD k 0
  | c :: w, p, 0, h, _ => by
    have h : (decide (T p = c) && rQ T (p + 1) w) = true := h
    rw [Bool.and_eq_true] at h
    exact of_decide_eq_true h.1
  | c :: w, p, k + 1, h, hk => by
    have h : (decide (T p = c) && rQ T (p + 1) w) = true := h
    rw [Bool.and_eq_true] at h
    have z := rQ_at w (p + 1) k h.2 (by rw [List.length_cons] at hk; omega)
    rw [show p + 1 + k = p + (k + 1) by omega] at z
    exact z
theorem rQ_of {T : Nat → Int32} : ∀ (w : List Int32) (p : Nat), (∀ k, k < w.length → T (p + k) = w.getD k 0) → rQ T p w = true
  | [], _, _ => rfl
  | c :: w, p, h => by
    show (decide (T p = c) && rQ T (p + 1) w) = true
    rw [Bool.and_eq_true]
    refine ⟨decide_eq_true (h 0 (by rw [List.length_cons]; omega)), rQ_of w (p + 1) (fun k hk => ?_)⟩
    have z := h (k + 1) (by rw [List.length_cons]; omega)
    rw [show p + (k + 1) = p + 1 + k by omega] at z
    exact z
theorem mPz {h : zH} (h0 : 0 ≤ (tvI (tF h 111 28)).toInt) : (tvI (tF h 111 28)).toInt = ((ms h).1 : Int) := by
  show _ = ((tvI (tF h 111 28)).toNatClampNeg : Int)
  rw [zclE]
  omega
theorem mNz {h : zH} {n : Nat} (h0 : 0 ≤ (tvI (tF h 111 27)).toInt) (hN : mn h = n) : (tvI (tF h 111 27)).toInt = (n : Int) := by
  rw [← hN]
  show _ = ((tvI (tF h 111 27)).toNatClampNeg : Int)
  rw [zclE]
  omega
theorem zadN {x y : Int32} {a b : Nat} (hx : x.toInt = a) (hy : y.toInt = b) (ha : a ≤ 100000) (hb : b ≤ 100000) : (x + y).toInt = ((a + b : Nat) : Int) := by
  rw [Int32.toInt_add, hx, hy]
  exact (Int.bmod_eq_of_le (by show (-2147483648 : Int) ≤ (a : Int) + b; omega) (by show (a : Int) + b < (2147483648 : Int); omega)).trans (by omega)
theorem g_stands {G : zG} (hG : G.1 = zProg) (hX : G.2.1 = ztx) {h : zH} {T : Nat → Int32} {n : Nat} (hs : tSh h) (hT : tA h 132 = T) (hN : mn h = n) {q : Nat} (hq1 : (ztx q).length ≤ 200) (h0 : 0 ≤ (tvI (tF h 111 28)).toInt ∧ 0 ≤ (tvI (tF h 111 27)).toInt) (h4 : (tvI (tF h 111 28)).toInt ≤ 1000 ∧ (tvI (tF h 111 27)).toInt ≤ 400) : tC zTt G 205 [.ref 111, .retAddr q] h (fun w h2 => tBo (rW T n (ms h).1 (ztx q) = true) w ∧ h = h2) := by
  refine tC_in (by rw [hG]; rfl) (fun dp => ?_)
  have g0 := mFr_r hs
  have c979 : (97 : Int32).toInt = 97 := rfl
  have c1229 : (122 : Int32).toInt = 122 := rfl
  have hn4 := mNz h0.2 hN
  have hp4 := mPz h0.1
  refine tw_aload rfl rfl ?_
  refine tw_getS rfl (hi_111_28 hs) ?_
  refine tw_istore rfl ?_
  refine tG_loop (zW_mono zTt G dp) (zW_conj zTt G dp) (V := fun pc L st h9 _ _ => pc = 5 ∧ st = [] ∧ h = h9 ∧ ∃ (k : Nat) (x : Int32) (l3 l4 : Option Value), x.toInt = (((ms h).1 + k : Nat) : Int) ∧ rE T n ((ms h).1 + k) = rE T n (ms h).1 ∧ (ms h).1 + k ≤ 1400 ∧ L = [some (.ref 111), some (.retAddr q), some (.int x), l3, l4]) ?_ (⟨rfl, rfl, rfl, 0, _, _, _, mPz h0.1, rfl, by have := mPz h0.1; omega, rfl⟩)
  rintro _ _ _ _ _ _ ⟨rfl, rfl, rfl, k, x, l3, l4, hx, he, hk14, rfl⟩
  refine tw_iload rfl rfl ?_
  refine tw_aload rfl rfl ?_
  refine tw_getS rfl (hi_111_27 hs) ?_
  refine tw_ic_ge rfl (fun q456 => ?_) (fun q456 => ?_)
  · try dsimp only [tvI_i, tvJ_j, tvR_r] at q456
    refine tw_iload rfl rfl ?_
    refine tw_aload rfl rfl ?_
    refine tw_getS rfl (hi_111_28 hs) ?_
    refine tw_isub rfl ?_
    refine tw_aload rfl rfl ?_
    refine tw_tlen rfl ?_
    refine tw_ic_ne rfl (fun q457 => ?_) (fun q457 => ?_)
    · try dsimp only [tvI_i, tvJ_j, tvR_r] at q457
      have q457i := zneq rfl q457
      refine tw_push rfl ?_
      refine tw_istore rfl ?_
      refine tw_push rfl ?_
      refine tw_istore rfl ?_
      have hix : x.toNatClampNeg = (ms h).1 + k := zof_cl hx
      have hTx : tA h 132 x.toNatClampNeg = T ((ms h).1 + k) := by rw [hix, hT]
      have hnd : ¬ ((ms h).1 + k < n ∧ 97 ≤ (T ((ms h).1 + k)).toInt ∧ (T ((ms h).1 + k)).toInt ≤ 122) := by
        have z0 := q456
        try rw [hTx] at z1
        try rw [hTx] at z2
        omega
      have hE9 : rE T n (ms h).1 = (ms h).1 + k := he.symm.trans (rE_n hnd)
      have hsb : (x - tvI (tF h 111 28)).toInt = ((((ms h).1 + k : Nat) : Int)) - (((ms h).1 : Nat) : Int) := zsb hx (mPz h0.1) (by omega) (by omega)
      have hLn : (Int32.ofNat (G.2.1 q).length).toInt = ((ztx q).length : Int) := by rw [hX]; exact zofI (by omega)
      have hEL : x - tvI (tF h 111 28) = Int32.ofNat (G.2.1 q).length ↔ rE T n (ms h).1 = (ms h).1 + (ztx q).length := ⟨fun z => by rw [z, hLn] at hsb; omega, fun z => Int32.toInt_inj.mp (by rw [hsb, hLn]; omega)⟩
      refine tG_loop (zW_mono zTt G dp) (zW_conj zTt G dp) (V := fun pc L st h9 _ _ => pc = 63 ∧ st = [] ∧ h = h9 ∧ ∃ (j : Nat) (y is : Int32), y.toInt = j ∧ j ≤ (ztx q).length ∧ ((is = 1 ∧ rE T n (ms h).1 = (ms h).1 + (ztx q).length ∧ ∀ i, i < j → T ((ms h).1 + i) = (ztx q).getD i 0) ∨ (is = 0 ∧ ¬ rW T n (ms h).1 (ztx q) = true)) ∧ L = [some (.ref 111), some (.retAddr q), some (.int x), some (.int is), some (.int y)]) ?_ (⟨rfl, rfl, rfl, 0, 0, _, rfl, Nat.zero_le _, Or.inr ⟨rfl, fun z => q457 (hEL.mpr (rW_e z))⟩, rfl⟩)
      rintro _ _ _ _ _ _ ⟨rfl, rfl, rfl, j, y, is, hy, hjn, his, rfl⟩
      refine tw_iload rfl rfl ?_
      refine tw_aload rfl rfl ?_
      refine tw_tlen rfl ?_
      refine tw_ic_ge rfl (fun q458 => ?_) (fun q458 => ?_)
      · try dsimp only [tvI_i, tvJ_j, tvR_r] at q458
        refine tw_iload rfl rfl ?_
        have hlen : (Int32.ofNat (G.2.1 q).length).toInt = ((ztx q).length : Int) := by rw [hX]; exact zofI (by omega)
        have hj : j = (ztx q).length := by have z := q458; omega
        rcases his with ⟨e1, e2, e3⟩ | ⟨e1, e2⟩
        · exact tw_iret rfl ⟨Or.inl ⟨rW_i.mpr ⟨e2, rQ_of _ _ (fun k hk => e3 k (by omega))⟩, congrArg (fun z => some (Value.int z)) e1⟩, rfl⟩
        · exact tw_iret rfl ⟨Or.inr ⟨e2, congrArg (fun z => some (Value.int z)) e1⟩, rfl⟩
      · try dsimp only [tvI_i, tvJ_j, tvR_r] at q458
        refine tw_iload rfl rfl ?_
        refine tw_if_eq rfl (fun q459 => ?_) (fun q459 => ?_)
        · try dsimp only [tvI_i, tvJ_j, tvR_r] at q459
          have q459i := zeqi (Y := 0) (by decide) q459
          refine tw_iload rfl rfl ?_
          have hlen : (Int32.ofNat (G.2.1 q).length).toInt = ((ztx q).length : Int) := by rw [hX]; exact zofI (by omega)
          rcases his with ⟨e1, -, -⟩ | ⟨e1, e2⟩
          · exact absurd (e1.symm.trans q459) (by decide)
          · exact tw_iret rfl ⟨Or.inr ⟨e2, congrArg (fun z => some (Value.int z)) e1⟩, rfl⟩
        · try dsimp only [tvI_i, tvJ_j, tvR_r] at q459
          have q459i := zneq (Y := 0) (by decide) q459
          refine tw_aload rfl rfl ?_
          refine tw_getS rfl (hs_111_35 hs) ?_
          refine tw_aload rfl rfl ?_
          refine tw_getS rfl (hi_111_28 hs) ?_
          refine tw_iload rfl rfl ?_
          refine tw_iadd rfl ?_
          refine tw_bald rfl (fun f460 => ?_)
          refine tw_aload rfl rfl ?_
          refine tw_iload rfl rfl ?_
          refine tw_chr rfl (fun _ => ?_)
          refine tw_ic_ne rfl (fun q461 => ?_) (fun q461 => ?_)
          · try dsimp only [tvI_i, tvJ_j, tvR_r] at q461
            have q461i := zneq rfl q461
            refine tw_push rfl ?_
            refine tw_istore rfl ?_
            refine tw_iinc rfl rfl ?_
            refine tw_goto rfl ?_
            have hlen : (Int32.ofNat (G.2.1 q).length).toInt = ((ztx q).length : Int) := by rw [hX]; exact zofI (by omega)
            have hjl : j < (ztx q).length := by have z := q458; omega
            rcases his with ⟨e1, e2, e3⟩ | ⟨e1, -⟩
            rotate_left
            · exact absurd e1 q459
            have hpy : (tvI (tF h 111 28) + y).toNatClampNeg = (ms h).1 + j := zof_cl (zadN (mPz h0.1) hy (by omega) (by omega))
            have hTy : tA h 132 (tvI (tF h 111 28) + y).toNatClampNeg = T ((ms h).1 + j) := by rw [hpy, hT]
            have ec : (G.2.1 q).getD y.toNatClampNeg 0 = (ztx q).getD j 0 := by rw [hX, zof_cl hy]
            have hc : ¬ T ((ms h).1 + j) = (ztx q).getD j 0 := fun z => q461 (hTy.trans (z.trans ec.symm))
            exact tG_cut (zW_mono zTt G dp) (Or.inr ⟨rfl, rfl, rfl, j + 1, y + 1, _, zincN hy (by omega), by omega, Or.inr ⟨rfl, fun z => hc (rQ_at _ _ _ (rW_i.mp z).2 hjl)⟩, rfl⟩)
          · try dsimp only [tvI_i, tvJ_j, tvR_r] at q461
            have q461i := zeqi rfl q461
            refine tw_push rfl ?_
            refine tw_goto rfl ?_
            refine tw_istore rfl ?_
            refine tw_iinc rfl rfl ?_
            refine tw_goto rfl ?_
            have hlen : (Int32.ofNat (G.2.1 q).length).toInt = ((ztx q).length : Int) := by rw [hX]; exact zofI (by omega)
            have hjl : j < (ztx q).length := by have z := q458; omega
            rcases his with ⟨e1, e2, e3⟩ | ⟨e1, -⟩
            rotate_left
            · exact absurd e1 q459
            have hpy : (tvI (tF h 111 28) + y).toNatClampNeg = (ms h).1 + j := zof_cl (zadN (mPz h0.1) hy (by omega) (by omega))
            have hTy : tA h 132 (tvI (tF h 111 28) + y).toNatClampNeg = T ((ms h).1 + j) := by rw [hpy, hT]
            have ec : (G.2.1 q).getD y.toNatClampNeg 0 = (ztx q).getD j 0 := by rw [hX, zof_cl hy]
            have hc : T ((ms h).1 + j) = (ztx q).getD j 0 := hTy.symm.trans (q461.trans ec)
            exact tG_cut (zW_mono zTt G dp) (Or.inr ⟨rfl, rfl, rfl, j + 1, y + 1, _, zincN hy (by omega), by omega, Or.inl ⟨rfl, e2, fun i hi => (Classical.em (i = j)).elim (fun z => by rw [z]; exact hc) (fun z => e3 i (by omega))⟩, rfl⟩)
    · try dsimp only [tvI_i, tvJ_j, tvR_r] at q457
      have q457i := zeqi rfl q457
      refine tw_push rfl ?_
      refine tw_goto rfl ?_
      refine tw_istore rfl ?_
      refine tw_push rfl ?_
      refine tw_istore rfl ?_
      have hix : x.toNatClampNeg = (ms h).1 + k := zof_cl hx
      have hTx : tA h 132 x.toNatClampNeg = T ((ms h).1 + k) := by rw [hix, hT]
      have hnd : ¬ ((ms h).1 + k < n ∧ 97 ≤ (T ((ms h).1 + k)).toInt ∧ (T ((ms h).1 + k)).toInt ≤ 122) := by
        have z0 := q456
        try rw [hTx] at z1
        try rw [hTx] at z2
        omega
      have hE9 : rE T n (ms h).1 = (ms h).1 + k := he.symm.trans (rE_n hnd)
      have hsb : (x - tvI (tF h 111 28)).toInt = ((((ms h).1 + k : Nat) : Int)) - (((ms h).1 : Nat) : Int) := zsb hx (mPz h0.1) (by omega) (by omega)
      have hLn : (Int32.ofNat (G.2.1 q).length).toInt = ((ztx q).length : Int) := by rw [hX]; exact zofI (by omega)
      have hEL : x - tvI (tF h 111 28) = Int32.ofNat (G.2.1 q).length ↔ rE T n (ms h).1 = (ms h).1 + (ztx q).length := ⟨fun z => by rw [z, hLn] at hsb; omega, fun z => Int32.toInt_inj.mp (by rw [hsb, hLn]; omega)⟩
      refine tG_loop (zW_mono zTt G dp) (zW_conj zTt G dp) (V := fun pc L st h9 _ _ => pc = 63 ∧ st = [] ∧ h = h9 ∧ ∃ (j : Nat) (y is : Int32), y.toInt = j ∧ j ≤ (ztx q).length ∧ ((is = 1 ∧ rE T n (ms h).1 = (ms h).1 + (ztx q).length ∧ ∀ i, i < j → T ((ms h).1 + i) = (ztx q).getD i 0) ∨ (is = 0 ∧ ¬ rW T n (ms h).1 (ztx q) = true)) ∧ L = [some (.ref 111), some (.retAddr q), some (.int x), some (.int is), some (.int y)]) ?_ (⟨rfl, rfl, rfl, 0, 0, _, rfl, Nat.zero_le _, Or.inl ⟨rfl, hEL.mp q457, fun i hi => by omega⟩, rfl⟩)
      rintro _ _ _ _ _ _ ⟨rfl, rfl, rfl, j, y, is, hy, hjn, his, rfl⟩
      refine tw_iload rfl rfl ?_
      refine tw_aload rfl rfl ?_
      refine tw_tlen rfl ?_
      refine tw_ic_ge rfl (fun q462 => ?_) (fun q462 => ?_)
      · try dsimp only [tvI_i, tvJ_j, tvR_r] at q462
        refine tw_iload rfl rfl ?_
        have hlen : (Int32.ofNat (G.2.1 q).length).toInt = ((ztx q).length : Int) := by rw [hX]; exact zofI (by omega)
        have hj : j = (ztx q).length := by have z := q462; omega
        rcases his with ⟨e1, e2, e3⟩ | ⟨e1, e2⟩
        · exact tw_iret rfl ⟨Or.inl ⟨rW_i.mpr ⟨e2, rQ_of _ _ (fun k hk => e3 k (by omega))⟩, congrArg (fun z => some (Value.int z)) e1⟩, rfl⟩
        · exact tw_iret rfl ⟨Or.inr ⟨e2, congrArg (fun z => some (Value.int z)) e1⟩, rfl⟩
      · try dsimp only [tvI_i, tvJ_j, tvR_r] at q462
        refine tw_iload rfl rfl ?_
        refine tw_if_eq rfl (fun q463 => ?_) (fun q463 => ?_)
        · try dsimp only [tvI_i, tvJ_j, tvR_r] at q463
          have q463i := zeqi (Y := 0) (by decide) q463
          refine tw_iload rfl rfl ?_
          have hlen : (Int32.ofNat (G.2.1 q).length).toInt = ((ztx q).length : Int) := by rw [hX]; exact zofI (by omega)
          rcases his with ⟨e1, -, -⟩ | ⟨e1, e2⟩
          · exact absurd (e1.symm.trans q463) (by decide)
          · exact tw_iret rfl ⟨Or.inr ⟨e2, congrArg (fun z => some (Value.int z)) e1⟩, rfl⟩
        · try dsimp only [tvI_i, tvJ_j, tvR_r] at q463
          have q463i := zneq (Y := 0) (by decide) q463
          refine tw_aload rfl rfl ?_
          refine tw_getS rfl (hs_111_35 hs) ?_
          refine tw_aload rfl rfl ?_
          refine tw_getS rfl (hi_111_28 hs) ?_
          refine tw_iload rfl rfl ?_
          refine tw_iadd rfl ?_
          refine tw_bald rfl (fun f464 => ?_)
          refine tw_aload rfl rfl ?_
          refine tw_iload rfl rfl ?_
          refine tw_chr rfl (fun _ => ?_)
          refine tw_ic_ne rfl (fun q465 => ?_) (fun q465 => ?_)
          · try dsimp only [tvI_i, tvJ_j, tvR_r] at q465
            have q465i := zneq rfl q465
            refine tw_push rfl ?_
            refine tw_istore rfl ?_
            refine tw_iinc rfl rfl ?_
            refine tw_goto rfl ?_
            have hlen : (Int32.ofNat (G.2.1 q).length).toInt = ((ztx q).length : Int) := by rw [hX]; exact zofI (by omega)
            have hjl : j < (ztx q).length := by have z := q462; omega
            rcases his with ⟨e1, e2, e3⟩ | ⟨e1, -⟩
            rotate_left
            · exact absurd e1 q463
            have hpy : (tvI (tF h 111 28) + y).toNatClampNeg = (ms h).1 + j := zof_cl (zadN (mPz h0.1) hy (by omega) (by omega))
            have hTy : tA h 132 (tvI (tF h 111 28) + y).toNatClampNeg = T ((ms h).1 + j) := by rw [hpy, hT]
            have ec : (G.2.1 q).getD y.toNatClampNeg 0 = (ztx q).getD j 0 := by rw [hX, zof_cl hy]
            have hc : ¬ T ((ms h).1 + j) = (ztx q).getD j 0 := fun z => q465 (hTy.trans (z.trans ec.symm))
            exact tG_cut (zW_mono zTt G dp) (Or.inr ⟨rfl, rfl, rfl, j + 1, y + 1, _, zincN hy (by omega), by omega, Or.inr ⟨rfl, fun z => hc (rQ_at _ _ _ (rW_i.mp z).2 hjl)⟩, rfl⟩)
          · try dsimp only [tvI_i, tvJ_j, tvR_r] at q465
            have q465i := zeqi rfl q465
            refine tw_push rfl ?_
            refine tw_goto rfl ?_
            refine tw_istore rfl ?_
            refine tw_iinc rfl rfl ?_
            refine tw_goto rfl ?_
            have hlen : (Int32.ofNat (G.2.1 q).length).toInt = ((ztx q).length : Int) := by rw [hX]; exact zofI (by omega)
            have hjl : j < (ztx q).length := by have z := q462; omega
            rcases his with ⟨e1, e2, e3⟩ | ⟨e1, -⟩
            rotate_left
            · exact absurd e1 q463
            have hpy : (tvI (tF h 111 28) + y).toNatClampNeg = (ms h).1 + j := zof_cl (zadN (mPz h0.1) hy (by omega) (by omega))
            have hTy : tA h 132 (tvI (tF h 111 28) + y).toNatClampNeg = T ((ms h).1 + j) := by rw [hpy, hT]
            have ec : (G.2.1 q).getD y.toNatClampNeg 0 = (ztx q).getD j 0 := by rw [hX, zof_cl hy]
            have hc : T ((ms h).1 + j) = (ztx q).getD j 0 := hTy.symm.trans (q465.trans ec)
            exact tG_cut (zW_mono zTt G dp) (Or.inr ⟨rfl, rfl, rfl, j + 1, y + 1, _, zincN hy (by omega), by omega, Or.inl ⟨rfl, e2, fun i hi => (Classical.em (i = j)).elim (fun z => by rw [z]; exact hc) (fun z => e3 i (by omega))⟩, rfl⟩)
  · try dsimp only [tvI_i, tvJ_j, tvR_r] at q456
    refine tw_aload rfl rfl ?_
    refine tw_getS rfl (hs_111_35 hs) ?_
    refine tw_iload rfl rfl ?_
    refine tw_bald rfl (fun f466 => ?_)
    refine tw_push rfl ?_
    refine tw_ic_lt rfl (fun q467 => ?_) (fun q467 => ?_)
    · try dsimp only [tvI_i, tvJ_j, tvR_r] at q467
      refine tw_iload rfl rfl ?_
      refine tw_aload rfl rfl ?_
      refine tw_getS rfl (hi_111_28 hs) ?_
      refine tw_isub rfl ?_
      refine tw_aload rfl rfl ?_
      refine tw_tlen rfl ?_
      refine tw_ic_ne rfl (fun q468 => ?_) (fun q468 => ?_)
      · try dsimp only [tvI_i, tvJ_j, tvR_r] at q468
        have q468i := zneq rfl q468
        refine tw_push rfl ?_
        refine tw_istore rfl ?_
        refine tw_push rfl ?_
        refine tw_istore rfl ?_
        have hix : x.toNatClampNeg = (ms h).1 + k := zof_cl hx
        have hTx : tA h 132 x.toNatClampNeg = T ((ms h).1 + k) := by rw [hix, hT]
        have hnd : ¬ ((ms h).1 + k < n ∧ 97 ≤ (T ((ms h).1 + k)).toInt ∧ (T ((ms h).1 + k)).toInt ≤ 122) := by
          have z0 := q456
          have z1 := q467
          try rw [hTx] at z1
          try rw [hTx] at z2
          omega
        have hE9 : rE T n (ms h).1 = (ms h).1 + k := he.symm.trans (rE_n hnd)
        have hsb : (x - tvI (tF h 111 28)).toInt = ((((ms h).1 + k : Nat) : Int)) - (((ms h).1 : Nat) : Int) := zsb hx (mPz h0.1) (by omega) (by omega)
        have hLn : (Int32.ofNat (G.2.1 q).length).toInt = ((ztx q).length : Int) := by rw [hX]; exact zofI (by omega)
        have hEL : x - tvI (tF h 111 28) = Int32.ofNat (G.2.1 q).length ↔ rE T n (ms h).1 = (ms h).1 + (ztx q).length := ⟨fun z => by rw [z, hLn] at hsb; omega, fun z => Int32.toInt_inj.mp (by rw [hsb, hLn]; omega)⟩
        refine tG_loop (zW_mono zTt G dp) (zW_conj zTt G dp) (V := fun pc L st h9 _ _ => pc = 63 ∧ st = [] ∧ h = h9 ∧ ∃ (j : Nat) (y is : Int32), y.toInt = j ∧ j ≤ (ztx q).length ∧ ((is = 1 ∧ rE T n (ms h).1 = (ms h).1 + (ztx q).length ∧ ∀ i, i < j → T ((ms h).1 + i) = (ztx q).getD i 0) ∨ (is = 0 ∧ ¬ rW T n (ms h).1 (ztx q) = true)) ∧ L = [some (.ref 111), some (.retAddr q), some (.int x), some (.int is), some (.int y)]) ?_ (⟨rfl, rfl, rfl, 0, 0, _, rfl, Nat.zero_le _, Or.inr ⟨rfl, fun z => q468 (hEL.mpr (rW_e z))⟩, rfl⟩)
        rintro _ _ _ _ _ _ ⟨rfl, rfl, rfl, j, y, is, hy, hjn, his, rfl⟩
        refine tw_iload rfl rfl ?_
        refine tw_aload rfl rfl ?_
        refine tw_tlen rfl ?_
        refine tw_ic_ge rfl (fun q469 => ?_) (fun q469 => ?_)
        · try dsimp only [tvI_i, tvJ_j, tvR_r] at q469
          refine tw_iload rfl rfl ?_
          have hlen : (Int32.ofNat (G.2.1 q).length).toInt = ((ztx q).length : Int) := by rw [hX]; exact zofI (by omega)
          have hj : j = (ztx q).length := by have z := q469; omega
          rcases his with ⟨e1, e2, e3⟩ | ⟨e1, e2⟩
          · exact tw_iret rfl ⟨Or.inl ⟨rW_i.mpr ⟨e2, rQ_of _ _ (fun k hk => e3 k (by omega))⟩, congrArg (fun z => some (Value.int z)) e1⟩, rfl⟩
          · exact tw_iret rfl ⟨Or.inr ⟨e2, congrArg (fun z => some (Value.int z)) e1⟩, rfl⟩
        · try dsimp only [tvI_i, tvJ_j, tvR_r] at q469
          refine tw_iload rfl rfl ?_
          refine tw_if_eq rfl (fun q470 => ?_) (fun q470 => ?_)
          · try dsimp only [tvI_i, tvJ_j, tvR_r] at q470
            have q470i := zeqi (Y := 0) (by decide) q470
            refine tw_iload rfl rfl ?_
            have hlen : (Int32.ofNat (G.2.1 q).length).toInt = ((ztx q).length : Int) := by rw [hX]; exact zofI (by omega)
            rcases his with ⟨e1, -, -⟩ | ⟨e1, e2⟩
            · exact absurd (e1.symm.trans q470) (by decide)
            · exact tw_iret rfl ⟨Or.inr ⟨e2, congrArg (fun z => some (Value.int z)) e1⟩, rfl⟩
          · try dsimp only [tvI_i, tvJ_j, tvR_r] at q470
            have q470i := zneq (Y := 0) (by decide) q470
            refine tw_aload rfl rfl ?_
            refine tw_getS rfl (hs_111_35 hs) ?_
            refine tw_aload rfl rfl ?_
            refine tw_getS rfl (hi_111_28 hs) ?_
            refine tw_iload rfl rfl ?_
            refine tw_iadd rfl ?_
            refine tw_bald rfl (fun f471 => ?_)
            refine tw_aload rfl rfl ?_
            refine tw_iload rfl rfl ?_
            refine tw_chr rfl (fun _ => ?_)
            refine tw_ic_ne rfl (fun q472 => ?_) (fun q472 => ?_)
            · try dsimp only [tvI_i, tvJ_j, tvR_r] at q472
              have q472i := zneq rfl q472
              refine tw_push rfl ?_
              refine tw_istore rfl ?_
              refine tw_iinc rfl rfl ?_
              refine tw_goto rfl ?_
              have hlen : (Int32.ofNat (G.2.1 q).length).toInt = ((ztx q).length : Int) := by rw [hX]; exact zofI (by omega)
              have hjl : j < (ztx q).length := by have z := q469; omega
              rcases his with ⟨e1, e2, e3⟩ | ⟨e1, -⟩
              rotate_left
              · exact absurd e1 q470
              have hpy : (tvI (tF h 111 28) + y).toNatClampNeg = (ms h).1 + j := zof_cl (zadN (mPz h0.1) hy (by omega) (by omega))
              have hTy : tA h 132 (tvI (tF h 111 28) + y).toNatClampNeg = T ((ms h).1 + j) := by rw [hpy, hT]
              have ec : (G.2.1 q).getD y.toNatClampNeg 0 = (ztx q).getD j 0 := by rw [hX, zof_cl hy]
              have hc : ¬ T ((ms h).1 + j) = (ztx q).getD j 0 := fun z => q472 (hTy.trans (z.trans ec.symm))
              exact tG_cut (zW_mono zTt G dp) (Or.inr ⟨rfl, rfl, rfl, j + 1, y + 1, _, zincN hy (by omega), by omega, Or.inr ⟨rfl, fun z => hc (rQ_at _ _ _ (rW_i.mp z).2 hjl)⟩, rfl⟩)
            · try dsimp only [tvI_i, tvJ_j, tvR_r] at q472
              have q472i := zeqi rfl q472
              refine tw_push rfl ?_
              refine tw_goto rfl ?_
              refine tw_istore rfl ?_
              refine tw_iinc rfl rfl ?_
              refine tw_goto rfl ?_
              have hlen : (Int32.ofNat (G.2.1 q).length).toInt = ((ztx q).length : Int) := by rw [hX]; exact zofI (by omega)
              have hjl : j < (ztx q).length := by have z := q469; omega
              rcases his with ⟨e1, e2, e3⟩ | ⟨e1, -⟩
              rotate_left
              · exact absurd e1 q470
              have hpy : (tvI (tF h 111 28) + y).toNatClampNeg = (ms h).1 + j := zof_cl (zadN (mPz h0.1) hy (by omega) (by omega))
              have hTy : tA h 132 (tvI (tF h 111 28) + y).toNatClampNeg = T ((ms h).1 + j) := by rw [hpy, hT]
              have ec : (G.2.1 q).getD y.toNatClampNeg 0 = (ztx q).getD j 0 := by rw [hX, zof_cl hy]
              have hc : T ((ms h).1 + j) = (ztx q).getD j 0 := hTy.symm.trans (q472.trans ec)
              exact tG_cut (zW_mono zTt G dp) (Or.inr ⟨rfl, rfl, rfl, j + 1, y + 1, _, zincN hy (by omega), by omega, Or.inl ⟨rfl, e2, fun i hi => (Classical.em (i = j)).elim (fun z => by rw [z]; exact hc) (fun z => e3 i (by omega))⟩, rfl⟩)
      · try dsimp only [tvI_i, tvJ_j, tvR_r] at q468
        have q468i := zeqi rfl q468
        refine tw_push rfl ?_
        refine tw_goto rfl ?_
        refine tw_istore rfl ?_
        refine tw_push rfl ?_
        refine tw_istore rfl ?_
        have hix : x.toNatClampNeg = (ms h).1 + k := zof_cl hx
        have hTx : tA h 132 x.toNatClampNeg = T ((ms h).1 + k) := by rw [hix, hT]
        have hnd : ¬ ((ms h).1 + k < n ∧ 97 ≤ (T ((ms h).1 + k)).toInt ∧ (T ((ms h).1 + k)).toInt ≤ 122) := by
          have z0 := q456
          have z1 := q467
          try rw [hTx] at z1
          try rw [hTx] at z2
          omega
        have hE9 : rE T n (ms h).1 = (ms h).1 + k := he.symm.trans (rE_n hnd)
        have hsb : (x - tvI (tF h 111 28)).toInt = ((((ms h).1 + k : Nat) : Int)) - (((ms h).1 : Nat) : Int) := zsb hx (mPz h0.1) (by omega) (by omega)
        have hLn : (Int32.ofNat (G.2.1 q).length).toInt = ((ztx q).length : Int) := by rw [hX]; exact zofI (by omega)
        have hEL : x - tvI (tF h 111 28) = Int32.ofNat (G.2.1 q).length ↔ rE T n (ms h).1 = (ms h).1 + (ztx q).length := ⟨fun z => by rw [z, hLn] at hsb; omega, fun z => Int32.toInt_inj.mp (by rw [hsb, hLn]; omega)⟩
        refine tG_loop (zW_mono zTt G dp) (zW_conj zTt G dp) (V := fun pc L st h9 _ _ => pc = 63 ∧ st = [] ∧ h = h9 ∧ ∃ (j : Nat) (y is : Int32), y.toInt = j ∧ j ≤ (ztx q).length ∧ ((is = 1 ∧ rE T n (ms h).1 = (ms h).1 + (ztx q).length ∧ ∀ i, i < j → T ((ms h).1 + i) = (ztx q).getD i 0) ∨ (is = 0 ∧ ¬ rW T n (ms h).1 (ztx q) = true)) ∧ L = [some (.ref 111), some (.retAddr q), some (.int x), some (.int is), some (.int y)]) ?_ (⟨rfl, rfl, rfl, 0, 0, _, rfl, Nat.zero_le _, Or.inl ⟨rfl, hEL.mp q468, fun i hi => by omega⟩, rfl⟩)
        rintro _ _ _ _ _ _ ⟨rfl, rfl, rfl, j, y, is, hy, hjn, his, rfl⟩
        refine tw_iload rfl rfl ?_
        refine tw_aload rfl rfl ?_
        refine tw_tlen rfl ?_
        refine tw_ic_ge rfl (fun q473 => ?_) (fun q473 => ?_)
        · try dsimp only [tvI_i, tvJ_j, tvR_r] at q473
          refine tw_iload rfl rfl ?_
          have hlen : (Int32.ofNat (G.2.1 q).length).toInt = ((ztx q).length : Int) := by rw [hX]; exact zofI (by omega)
          have hj : j = (ztx q).length := by have z := q473; omega
          rcases his with ⟨e1, e2, e3⟩ | ⟨e1, e2⟩
          · exact tw_iret rfl ⟨Or.inl ⟨rW_i.mpr ⟨e2, rQ_of _ _ (fun k hk => e3 k (by omega))⟩, congrArg (fun z => some (Value.int z)) e1⟩, rfl⟩
          · exact tw_iret rfl ⟨Or.inr ⟨e2, congrArg (fun z => some (Value.int z)) e1⟩, rfl⟩
        · try dsimp only [tvI_i, tvJ_j, tvR_r] at q473
          refine tw_iload rfl rfl ?_
          refine tw_if_eq rfl (fun q474 => ?_) (fun q474 => ?_)
          · try dsimp only [tvI_i, tvJ_j, tvR_r] at q474
            have q474i := zeqi (Y := 0) (by decide) q474
            refine tw_iload rfl rfl ?_
            have hlen : (Int32.ofNat (G.2.1 q).length).toInt = ((ztx q).length : Int) := by rw [hX]; exact zofI (by omega)
            rcases his with ⟨e1, -, -⟩ | ⟨e1, e2⟩
            · exact absurd (e1.symm.trans q474) (by decide)
            · exact tw_iret rfl ⟨Or.inr ⟨e2, congrArg (fun z => some (Value.int z)) e1⟩, rfl⟩
          · try dsimp only [tvI_i, tvJ_j, tvR_r] at q474
            have q474i := zneq (Y := 0) (by decide) q474
            refine tw_aload rfl rfl ?_
            refine tw_getS rfl (hs_111_35 hs) ?_
            refine tw_aload rfl rfl ?_
            refine tw_getS rfl (hi_111_28 hs) ?_
            refine tw_iload rfl rfl ?_
            refine tw_iadd rfl ?_
            refine tw_bald rfl (fun f475 => ?_)
            refine tw_aload rfl rfl ?_
            refine tw_iload rfl rfl ?_
            refine tw_chr rfl (fun _ => ?_)
            refine tw_ic_ne rfl (fun q476 => ?_) (fun q476 => ?_)
            · try dsimp only [tvI_i, tvJ_j, tvR_r] at q476
              have q476i := zneq rfl q476
              refine tw_push rfl ?_
              refine tw_istore rfl ?_
              refine tw_iinc rfl rfl ?_
              refine tw_goto rfl ?_
              have hlen : (Int32.ofNat (G.2.1 q).length).toInt = ((ztx q).length : Int) := by rw [hX]; exact zofI (by omega)
              have hjl : j < (ztx q).length := by have z := q473; omega
              rcases his with ⟨e1, e2, e3⟩ | ⟨e1, -⟩
              rotate_left
              · exact absurd e1 q474
              have hpy : (tvI (tF h 111 28) + y).toNatClampNeg = (ms h).1 + j := zof_cl (zadN (mPz h0.1) hy (by omega) (by omega))
              have hTy : tA h 132 (tvI (tF h 111 28) + y).toNatClampNeg = T ((ms h).1 + j) := by rw [hpy, hT]
              have ec : (G.2.1 q).getD y.toNatClampNeg 0 = (ztx q).getD j 0 := by rw [hX, zof_cl hy]
              have hc : ¬ T ((ms h).1 + j) = (ztx q).getD j 0 := fun z => q476 (hTy.trans (z.trans ec.symm))
              exact tG_cut (zW_mono zTt G dp) (Or.inr ⟨rfl, rfl, rfl, j + 1, y + 1, _, zincN hy (by omega), by omega, Or.inr ⟨rfl, fun z => hc (rQ_at _ _ _ (rW_i.mp z).2 hjl)⟩, rfl⟩)
            · try dsimp only [tvI_i, tvJ_j, tvR_r] at q476
              have q476i := zeqi rfl q476
              refine tw_push rfl ?_
              refine tw_goto rfl ?_
              refine tw_istore rfl ?_
              refine tw_iinc rfl rfl ?_
              refine tw_goto rfl ?_
              have hlen : (Int32.ofNat (G.2.1 q).length).toInt = ((ztx q).length : Int) := by rw [hX]; exact zofI (by omega)
              have hjl : j < (ztx q).length := by have z := q473; omega
              rcases his with ⟨e1, e2, e3⟩ | ⟨e1, -⟩
              rotate_left
              · exact absurd e1 q474
              have hpy : (tvI (tF h 111 28) + y).toNatClampNeg = (ms h).1 + j := zof_cl (zadN (mPz h0.1) hy (by omega) (by omega))
              have hTy : tA h 132 (tvI (tF h 111 28) + y).toNatClampNeg = T ((ms h).1 + j) := by rw [hpy, hT]
              have ec : (G.2.1 q).getD y.toNatClampNeg 0 = (ztx q).getD j 0 := by rw [hX, zof_cl hy]
              have hc : T ((ms h).1 + j) = (ztx q).getD j 0 := hTy.symm.trans (q476.trans ec)
              exact tG_cut (zW_mono zTt G dp) (Or.inr ⟨rfl, rfl, rfl, j + 1, y + 1, _, zincN hy (by omega), by omega, Or.inl ⟨rfl, e2, fun i hi => (Classical.em (i = j)).elim (fun z => by rw [z]; exact hc) (fun z => e3 i (by omega))⟩, rfl⟩)
    · try dsimp only [tvI_i, tvJ_j, tvR_r] at q467
      refine tw_aload rfl rfl ?_
      refine tw_getS rfl (hs_111_35 hs) ?_
      refine tw_iload rfl rfl ?_
      refine tw_bald rfl (fun f477 => ?_)
      refine tw_push rfl ?_
      refine tw_ic_gt rfl (fun q478 => ?_) (fun q478 => ?_)
      · try dsimp only [tvI_i, tvJ_j, tvR_r] at q478
        refine tw_iload rfl rfl ?_
        refine tw_aload rfl rfl ?_
        refine tw_getS rfl (hi_111_28 hs) ?_
        refine tw_isub rfl ?_
        refine tw_aload rfl rfl ?_
        refine tw_tlen rfl ?_
        refine tw_ic_ne rfl (fun q479 => ?_) (fun q479 => ?_)
        · try dsimp only [tvI_i, tvJ_j, tvR_r] at q479
          have q479i := zneq rfl q479
          refine tw_push rfl ?_
          refine tw_istore rfl ?_
          refine tw_push rfl ?_
          refine tw_istore rfl ?_
          have hix : x.toNatClampNeg = (ms h).1 + k := zof_cl hx
          have hTx : tA h 132 x.toNatClampNeg = T ((ms h).1 + k) := by rw [hix, hT]
          have hnd : ¬ ((ms h).1 + k < n ∧ 97 ≤ (T ((ms h).1 + k)).toInt ∧ (T ((ms h).1 + k)).toInt ≤ 122) := by
            have z0 := q456
            have z1 := q467
            have z2 := q478
            try rw [hTx] at z1
            try rw [hTx] at z2
            omega
          have hE9 : rE T n (ms h).1 = (ms h).1 + k := he.symm.trans (rE_n hnd)
          have hsb : (x - tvI (tF h 111 28)).toInt = ((((ms h).1 + k : Nat) : Int)) - (((ms h).1 : Nat) : Int) := zsb hx (mPz h0.1) (by omega) (by omega)
          have hLn : (Int32.ofNat (G.2.1 q).length).toInt = ((ztx q).length : Int) := by rw [hX]; exact zofI (by omega)
          have hEL : x - tvI (tF h 111 28) = Int32.ofNat (G.2.1 q).length ↔ rE T n (ms h).1 = (ms h).1 + (ztx q).length := ⟨fun z => by rw [z, hLn] at hsb; omega, fun z => Int32.toInt_inj.mp (by rw [hsb, hLn]; omega)⟩
          refine tG_loop (zW_mono zTt G dp) (zW_conj zTt G dp) (V := fun pc L st h9 _ _ => pc = 63 ∧ st = [] ∧ h = h9 ∧ ∃ (j : Nat) (y is : Int32), y.toInt = j ∧ j ≤ (ztx q).length ∧ ((is = 1 ∧ rE T n (ms h).1 = (ms h).1 + (ztx q).length ∧ ∀ i, i < j → T ((ms h).1 + i) = (ztx q).getD i 0) ∨ (is = 0 ∧ ¬ rW T n (ms h).1 (ztx q) = true)) ∧ L = [some (.ref 111), some (.retAddr q), some (.int x), some (.int is), some (.int y)]) ?_ (⟨rfl, rfl, rfl, 0, 0, _, rfl, Nat.zero_le _, Or.inr ⟨rfl, fun z => q479 (hEL.mpr (rW_e z))⟩, rfl⟩)
          rintro _ _ _ _ _ _ ⟨rfl, rfl, rfl, j, y, is, hy, hjn, his, rfl⟩
          refine tw_iload rfl rfl ?_
          refine tw_aload rfl rfl ?_
          refine tw_tlen rfl ?_
          refine tw_ic_ge rfl (fun q480 => ?_) (fun q480 => ?_)
          · try dsimp only [tvI_i, tvJ_j, tvR_r] at q480
            refine tw_iload rfl rfl ?_
            have hlen : (Int32.ofNat (G.2.1 q).length).toInt = ((ztx q).length : Int) := by rw [hX]; exact zofI (by omega)
            have hj : j = (ztx q).length := by have z := q480; omega
            rcases his with ⟨e1, e2, e3⟩ | ⟨e1, e2⟩
            · exact tw_iret rfl ⟨Or.inl ⟨rW_i.mpr ⟨e2, rQ_of _ _ (fun k hk => e3 k (by omega))⟩, congrArg (fun z => some (Value.int z)) e1⟩, rfl⟩
            · exact tw_iret rfl ⟨Or.inr ⟨e2, congrArg (fun z => some (Value.int z)) e1⟩, rfl⟩
          · try dsimp only [tvI_i, tvJ_j, tvR_r] at q480
            refine tw_iload rfl rfl ?_
            refine tw_if_eq rfl (fun q481 => ?_) (fun q481 => ?_)
            · try dsimp only [tvI_i, tvJ_j, tvR_r] at q481
              have q481i := zeqi (Y := 0) (by decide) q481
              refine tw_iload rfl rfl ?_
              have hlen : (Int32.ofNat (G.2.1 q).length).toInt = ((ztx q).length : Int) := by rw [hX]; exact zofI (by omega)
              rcases his with ⟨e1, -, -⟩ | ⟨e1, e2⟩
              · exact absurd (e1.symm.trans q481) (by decide)
              · exact tw_iret rfl ⟨Or.inr ⟨e2, congrArg (fun z => some (Value.int z)) e1⟩, rfl⟩
            · try dsimp only [tvI_i, tvJ_j, tvR_r] at q481
              have q481i := zneq (Y := 0) (by decide) q481
              refine tw_aload rfl rfl ?_
              refine tw_getS rfl (hs_111_35 hs) ?_
              refine tw_aload rfl rfl ?_
              refine tw_getS rfl (hi_111_28 hs) ?_
              refine tw_iload rfl rfl ?_
              refine tw_iadd rfl ?_
              refine tw_bald rfl (fun f482 => ?_)
              refine tw_aload rfl rfl ?_
              refine tw_iload rfl rfl ?_
              refine tw_chr rfl (fun _ => ?_)
              refine tw_ic_ne rfl (fun q483 => ?_) (fun q483 => ?_)
              · try dsimp only [tvI_i, tvJ_j, tvR_r] at q483
                have q483i := zneq rfl q483
                refine tw_push rfl ?_
                refine tw_istore rfl ?_
                refine tw_iinc rfl rfl ?_
                refine tw_goto rfl ?_
                have hlen : (Int32.ofNat (G.2.1 q).length).toInt = ((ztx q).length : Int) := by rw [hX]; exact zofI (by omega)
                have hjl : j < (ztx q).length := by have z := q480; omega
                rcases his with ⟨e1, e2, e3⟩ | ⟨e1, -⟩
                rotate_left
                · exact absurd e1 q481
                have hpy : (tvI (tF h 111 28) + y).toNatClampNeg = (ms h).1 + j := zof_cl (zadN (mPz h0.1) hy (by omega) (by omega))
                have hTy : tA h 132 (tvI (tF h 111 28) + y).toNatClampNeg = T ((ms h).1 + j) := by rw [hpy, hT]
                have ec : (G.2.1 q).getD y.toNatClampNeg 0 = (ztx q).getD j 0 := by rw [hX, zof_cl hy]
                have hc : ¬ T ((ms h).1 + j) = (ztx q).getD j 0 := fun z => q483 (hTy.trans (z.trans ec.symm))
                exact tG_cut (zW_mono zTt G dp) (Or.inr ⟨rfl, rfl, rfl, j + 1, y + 1, _, zincN hy (by omega), by omega, Or.inr ⟨rfl, fun z => hc (rQ_at _ _ _ (rW_i.mp z).2 hjl)⟩, rfl⟩)
              · try dsimp only [tvI_i, tvJ_j, tvR_r] at q483
                have q483i := zeqi rfl q483
                refine tw_push rfl ?_
                refine tw_goto rfl ?_
                refine tw_istore rfl ?_
                refine tw_iinc rfl rfl ?_
                refine tw_goto rfl ?_
                have hlen : (Int32.ofNat (G.2.1 q).length).toInt = ((ztx q).length : Int) := by rw [hX]; exact zofI (by omega)
                have hjl : j < (ztx q).length := by have z := q480; omega
                rcases his with ⟨e1, e2, e3⟩ | ⟨e1, -⟩
                rotate_left
                · exact absurd e1 q481
                have hpy : (tvI (tF h 111 28) + y).toNatClampNeg = (ms h).1 + j := zof_cl (zadN (mPz h0.1) hy (by omega) (by omega))
                have hTy : tA h 132 (tvI (tF h 111 28) + y).toNatClampNeg = T ((ms h).1 + j) := by rw [hpy, hT]
                have ec : (G.2.1 q).getD y.toNatClampNeg 0 = (ztx q).getD j 0 := by rw [hX, zof_cl hy]
                have hc : T ((ms h).1 + j) = (ztx q).getD j 0 := hTy.symm.trans (q483.trans ec)
                exact tG_cut (zW_mono zTt G dp) (Or.inr ⟨rfl, rfl, rfl, j + 1, y + 1, _, zincN hy (by omega), by omega, Or.inl ⟨rfl, e2, fun i hi => (Classical.em (i = j)).elim (fun z => by rw [z]; exact hc) (fun z => e3 i (by omega))⟩, rfl⟩)
        · try dsimp only [tvI_i, tvJ_j, tvR_r] at q479
          have q479i := zeqi rfl q479
          refine tw_push rfl ?_
          refine tw_goto rfl ?_
          refine tw_istore rfl ?_
          refine tw_push rfl ?_
          refine tw_istore rfl ?_
          have hix : x.toNatClampNeg = (ms h).1 + k := zof_cl hx
          have hTx : tA h 132 x.toNatClampNeg = T ((ms h).1 + k) := by rw [hix, hT]
          have hnd : ¬ ((ms h).1 + k < n ∧ 97 ≤ (T ((ms h).1 + k)).toInt ∧ (T ((ms h).1 + k)).toInt ≤ 122) := by
            have z0 := q456
            have z1 := q467
            have z2 := q478
            try rw [hTx] at z1
            try rw [hTx] at z2
            omega
          have hE9 : rE T n (ms h).1 = (ms h).1 + k := he.symm.trans (rE_n hnd)
          have hsb : (x - tvI (tF h 111 28)).toInt = ((((ms h).1 + k : Nat) : Int)) - (((ms h).1 : Nat) : Int) := zsb hx (mPz h0.1) (by omega) (by omega)
          have hLn : (Int32.ofNat (G.2.1 q).length).toInt = ((ztx q).length : Int) := by rw [hX]; exact zofI (by omega)
          have hEL : x - tvI (tF h 111 28) = Int32.ofNat (G.2.1 q).length ↔ rE T n (ms h).1 = (ms h).1 + (ztx q).length := ⟨fun z => by rw [z, hLn] at hsb; omega, fun z => Int32.toInt_inj.mp (by rw [hsb, hLn]; omega)⟩
          refine tG_loop (zW_mono zTt G dp) (zW_conj zTt G dp) (V := fun pc L st h9 _ _ => pc = 63 ∧ st = [] ∧ h = h9 ∧ ∃ (j : Nat) (y is : Int32), y.toInt = j ∧ j ≤ (ztx q).length ∧ ((is = 1 ∧ rE T n (ms h).1 = (ms h).1 + (ztx q).length ∧ ∀ i, i < j → T ((ms h).1 + i) = (ztx q).getD i 0) ∨ (is = 0 ∧ ¬ rW T n (ms h).1 (ztx q) = true)) ∧ L = [some (.ref 111), some (.retAddr q), some (.int x), some (.int is), some (.int y)]) ?_ (⟨rfl, rfl, rfl, 0, 0, _, rfl, Nat.zero_le _, Or.inl ⟨rfl, hEL.mp q479, fun i hi => by omega⟩, rfl⟩)
          rintro _ _ _ _ _ _ ⟨rfl, rfl, rfl, j, y, is, hy, hjn, his, rfl⟩
          refine tw_iload rfl rfl ?_
          refine tw_aload rfl rfl ?_
          refine tw_tlen rfl ?_
          refine tw_ic_ge rfl (fun q484 => ?_) (fun q484 => ?_)
          · try dsimp only [tvI_i, tvJ_j, tvR_r] at q484
            refine tw_iload rfl rfl ?_
            have hlen : (Int32.ofNat (G.2.1 q).length).toInt = ((ztx q).length : Int) := by rw [hX]; exact zofI (by omega)
            have hj : j = (ztx q).length := by have z := q484; omega
            rcases his with ⟨e1, e2, e3⟩ | ⟨e1, e2⟩
            · exact tw_iret rfl ⟨Or.inl ⟨rW_i.mpr ⟨e2, rQ_of _ _ (fun k hk => e3 k (by omega))⟩, congrArg (fun z => some (Value.int z)) e1⟩, rfl⟩
            · exact tw_iret rfl ⟨Or.inr ⟨e2, congrArg (fun z => some (Value.int z)) e1⟩, rfl⟩
          · try dsimp only [tvI_i, tvJ_j, tvR_r] at q484
            refine tw_iload rfl rfl ?_
            refine tw_if_eq rfl (fun q485 => ?_) (fun q485 => ?_)
            · try dsimp only [tvI_i, tvJ_j, tvR_r] at q485
              have q485i := zeqi (Y := 0) (by decide) q485
              refine tw_iload rfl rfl ?_
              have hlen : (Int32.ofNat (G.2.1 q).length).toInt = ((ztx q).length : Int) := by rw [hX]; exact zofI (by omega)
              rcases his with ⟨e1, -, -⟩ | ⟨e1, e2⟩
              · exact absurd (e1.symm.trans q485) (by decide)
              · exact tw_iret rfl ⟨Or.inr ⟨e2, congrArg (fun z => some (Value.int z)) e1⟩, rfl⟩
            · try dsimp only [tvI_i, tvJ_j, tvR_r] at q485
              have q485i := zneq (Y := 0) (by decide) q485
              refine tw_aload rfl rfl ?_
              refine tw_getS rfl (hs_111_35 hs) ?_
              refine tw_aload rfl rfl ?_
              refine tw_getS rfl (hi_111_28 hs) ?_
              refine tw_iload rfl rfl ?_
              refine tw_iadd rfl ?_
              refine tw_bald rfl (fun f486 => ?_)
              refine tw_aload rfl rfl ?_
              refine tw_iload rfl rfl ?_
              refine tw_chr rfl (fun _ => ?_)
              refine tw_ic_ne rfl (fun q487 => ?_) (fun q487 => ?_)
              · try dsimp only [tvI_i, tvJ_j, tvR_r] at q487
                have q487i := zneq rfl q487
                refine tw_push rfl ?_
                refine tw_istore rfl ?_
                refine tw_iinc rfl rfl ?_
                refine tw_goto rfl ?_
                have hlen : (Int32.ofNat (G.2.1 q).length).toInt = ((ztx q).length : Int) := by rw [hX]; exact zofI (by omega)
                have hjl : j < (ztx q).length := by have z := q484; omega
                rcases his with ⟨e1, e2, e3⟩ | ⟨e1, -⟩
                rotate_left
                · exact absurd e1 q485
                have hpy : (tvI (tF h 111 28) + y).toNatClampNeg = (ms h).1 + j := zof_cl (zadN (mPz h0.1) hy (by omega) (by omega))
                have hTy : tA h 132 (tvI (tF h 111 28) + y).toNatClampNeg = T ((ms h).1 + j) := by rw [hpy, hT]
                have ec : (G.2.1 q).getD y.toNatClampNeg 0 = (ztx q).getD j 0 := by rw [hX, zof_cl hy]
                have hc : ¬ T ((ms h).1 + j) = (ztx q).getD j 0 := fun z => q487 (hTy.trans (z.trans ec.symm))
                exact tG_cut (zW_mono zTt G dp) (Or.inr ⟨rfl, rfl, rfl, j + 1, y + 1, _, zincN hy (by omega), by omega, Or.inr ⟨rfl, fun z => hc (rQ_at _ _ _ (rW_i.mp z).2 hjl)⟩, rfl⟩)
              · try dsimp only [tvI_i, tvJ_j, tvR_r] at q487
                have q487i := zeqi rfl q487
                refine tw_push rfl ?_
                refine tw_goto rfl ?_
                refine tw_istore rfl ?_
                refine tw_iinc rfl rfl ?_
                refine tw_goto rfl ?_
                have hlen : (Int32.ofNat (G.2.1 q).length).toInt = ((ztx q).length : Int) := by rw [hX]; exact zofI (by omega)
                have hjl : j < (ztx q).length := by have z := q484; omega
                rcases his with ⟨e1, e2, e3⟩ | ⟨e1, -⟩
                rotate_left
                · exact absurd e1 q485
                have hpy : (tvI (tF h 111 28) + y).toNatClampNeg = (ms h).1 + j := zof_cl (zadN (mPz h0.1) hy (by omega) (by omega))
                have hTy : tA h 132 (tvI (tF h 111 28) + y).toNatClampNeg = T ((ms h).1 + j) := by rw [hpy, hT]
                have ec : (G.2.1 q).getD y.toNatClampNeg 0 = (ztx q).getD j 0 := by rw [hX, zof_cl hy]
                have hc : T ((ms h).1 + j) = (ztx q).getD j 0 := hTy.symm.trans (q487.trans ec)
                exact tG_cut (zW_mono zTt G dp) (Or.inr ⟨rfl, rfl, rfl, j + 1, y + 1, _, zincN hy (by omega), by omega, Or.inl ⟨rfl, e2, fun i hi => (Classical.em (i = j)).elim (fun z => by rw [z]; exact hc) (fun z => e3 i (by omega))⟩, rfl⟩)
      · try dsimp only [tvI_i, tvJ_j, tvR_r] at q478
        refine tw_iinc rfl rfl ?_
        refine tw_goto rfl ?_
        have hix : x.toNatClampNeg = (ms h).1 + k := zof_cl hx
        have hTx : tA h 132 x.toNatClampNeg = T ((ms h).1 + k) := by rw [hix, hT]
        have z1 := q467
        have z2 := q478
        rw [hTx] at z1 z2
        have hlt : (ms h).1 + k < n := by omega
        exact tG_cut (zW_mono zTt G dp) (Or.inr ⟨rfl, rfl, rfl, k + 1, x + 1, _, _, zincL hx q456, (rE_y ⟨hlt, by omega, by omega⟩).symm.trans he, by omega, rfl⟩)
/-- places that bear reading, fault or not -/
noncomputable def mZp (h : zH) : Prop := (0 ≤ (tvI (tF h 111 28)).toInt ∧ 0 ≤ (tvI (tF h 111 27)).toInt) ∧ (tvI (tF h 111 28)).toInt ≤ 500 ∧ (tvI (tF h 111 27)).toInt ≤ 400
theorem mZp_k {h h2 : zH} (z : mZp h) (a : tF h2 111 28 = tF h 111 28) (b : tF h2 111 27 = tF h 111 27) : mZp h2 := by unfold mZp; rw [a, b]; exact z
theorem mZp_p {h : zH} (p : mP h) : mZp h := by have := p.2.1; exact ⟨⟨by omega, by omega⟩, by omega, by omega⟩
theorem mZp_s {h h3 : zH} {X : Int32} (z : mZp h) (s : mSet 28 X h h3) (hX : 0 ≤ X.toInt ∧ X.toInt ≤ 500) : mZp h3 := by
  unfold mZp
  rw [mI_x s, mI_o s (by decide)]
  exact ⟨⟨hX.1, z.1.2⟩, hX.2, z.2.2⟩
theorem mZp_o {h h3 : zH} {X : Int32} {b : Nat} (z : mZp h) (s : mSet b X h h3) (hb : b ≠ 28 ∧ b ≠ 27) : mZp h3 := mZp_k z (mI_o s (fun w => hb.1 w.symm)) (mI_o s (fun w => hb.2 w.symm))
theorem cNum2 {y t : Int32} {V Q : Nat} (hy : y.toInt = (V : Int)) (hV : V + 1 ≤ Q) (hQ : Q ≤ 10000) (ht : 48 ≤ t.toInt ∧ t.toInt ≤ 57) : (10 * y + t - 48).toInt = ((10 * V + (t.toInt - 48).toNat : Nat) : Int) ∧ 10 * V + (t.toInt - 48).toNat + 1 ≤ Q * 10 := by
  have h1 : (10 * y).toInt = 10 * V := by
    rw [Int32.toInt_mul, hy, show (10 : Int32).toInt = 10 from rfl]
    exact Int.bmod_eq_of_le (by show (-2147483648 : Int) ≤ 10 * (V : Int); omega) (by show 10 * (V : Int) < (2147483648 : Int); omega)
  have h2 : (10 * y + t).toInt = 10 * V + t.toInt := by
    rw [Int32.toInt_add, h1]
    exact Int.bmod_eq_of_le (by show (-2147483648 : Int) ≤ 10 * (V : Int) + t.toInt; omega) (by show 10 * (V : Int) + t.toInt < (2147483648 : Int); omega)
  refine ⟨?_, by omega⟩
  rw [Int32.toInt_sub, h2, show (48 : Int32).toInt = 48 from rfl]
  exact (Int.bmod_eq_of_le (by show (-2147483648 : Int) ≤ 10 * (V : Int) + t.toInt - 48; omega) (by show 10 * (V : Int) + t.toInt - 48 < (2147483648 : Int); omega)).trans (by omega)
theorem g_digits {G : zG} (hG : G.1 = zProg) (hX : G.2.1 = ztx) {h : zH} {T : Nat → Int32} {n : Nat} (hs : tSh h) (hp : mP h) (hT : tA h 132 = T) (hN : mn h = n) {m : Int32} {M : Nat} (hm : m.toInt = M) (hM : M ≤ 99999) (hB : rB T n (ms h).1 = (ms h).1) : tC zTt G 211 [.ref 111, .int m] h (fun w h2 => mFr h h2 ∧ ((∃ q, rM T n M (ms h).1 = .inr q ∧ w = some (.int (Int32.ofNat q.2)) ∧ mP h2 ∧ ms h2 = rA q.1 (ms h) ∧ mSk h2 = mSk h ∧ tF h2 111 32 = tF h 111 32) ∨ (∃ e x, rM T n M (ms h).1 = .inl e ∧ w = some (.int x) ∧ 0 ≤ x.toInt ∧ mFt h2 e ∧ mZp h2))) := by
  refine tC_in (by rw [hG]; rfl) (fun dp => ?_)
  have g0 := mFr_r hs
  have hpn : (ms h).1 ≤ n := mPle hp hN
  have c59 : (5 : Int32).toInt = 5 := rfl
  have hn4 : n ≤ 400 := by have a := mNl hp hN; have b := hp.2.1; omega
  refine tw_aload rfl rfl ?_
  refine tw_getS rfl (hi_111_28 hs) ?_
  refine tw_istore rfl ?_
  refine tw_aload rfl rfl ?_
  refine tw_virt0 rfl (g_sign hG hX (g0).1 ((mFr_T g0).trans hT) ((mFr_n g0).trans hN) ⟨hp.2.1.1, by have := hp.2.1; omega⟩) (fun wp488 hp488 p488 => ?_)
  obtain ⟨⟨cp488, rfl, kp488⟩, rfl⟩ := p488
  refine tw_stat1 rfl (g_isDigit hG) (fun w9 h9 p489 => ?_)
  obtain ⟨⟨p489, rfl⟩ | ⟨p489, rfl⟩, rfl⟩ := p489
  · try dsimp only [tvI_i, tvJ_j, tvR_r] at p489
    refine tw_if_ne rfl (fun _ => ?_) (fun z => absurd z (by decide))
    refine tw_push rfl ?_
    refine tw_istore rfl ?_
    refine tw_push rfl ?_
    refine tw_istore rfl ?_
    refine tG_loop (zW_mono zTt G dp) (zW_conj zTt G dp) (V := fun pc L st h9 _ _ => pc = 31 ∧ st = [] ∧ ∃ (h1 : zH) (k : Nat) (x y : Int32), h1 = h9 ∧ mFr h h1 ∧ mP h1 ∧ ms h1 = rA ((ms h).1 + k) (ms h) ∧ mSk h1 = mSk h ∧ tF h1 111 32 = tF h 111 32 ∧ (ms h).1 + k ≤ n ∧ rD T n ((ms h).1 + k) = rD T n (ms h).1 ∧ x.toInt = k ∧ y.toInt = ((rV T (ms h).1 (min k 5) : Nat) : Int) ∧ rV T (ms h).1 (min k 5) + 1 ≤ 10 ^ (min k 5) ∧ L = [some (.ref 111), some (.int m), some (.int (tvI (tF h 111 28))), some (.int x), some (.int y)]) ?_ (⟨rfl, rfl, _, 0, 0, 0, rfl, g0, hp, rfl, rfl, rfl, hpn, rfl, rfl, rfl, Nat.le_refl 1, rfl⟩)
    rintro _ _ _ _ _ _ ⟨rfl, rfl, h1, k, x, y, rfl, g1, p1, hms, hsk, h32, hkn, hrd, hx, hy, hyb, rfl⟩
    refine tw_aload rfl rfl ?_
    refine tw_virt0 rfl (g_sign hG hX (g1).1 ((mFr_T g1).trans hT) ((mFr_n g1).trans hN) ⟨p1.2.1.1, by have := p1.2.1; omega⟩) (fun wp490 hp490 p490 => ?_)
    obtain ⟨⟨cp490, rfl, kp490⟩, rfl⟩ := p490
    refine tw_stat1 rfl (g_isDigit hG) (fun w9 h9 p491 => ?_)
    obtain ⟨⟨p491, rfl⟩ | ⟨p491, rfl⟩, rfl⟩ := p491
    · try dsimp only [tvI_i, tvJ_j, tvR_r] at p491
      refine tw_if_eq rfl (fun z => absurd z (by decide)) (fun _ => ?_)
      refine tw_iload rfl rfl ?_
      refine tw_push rfl ?_
      refine tw_ic_ge rfl (fun q492 => ?_) (fun q492 => ?_)
      · try dsimp only [tvI_i, tvJ_j, tvR_r] at q492
        refine tw_iload rfl rfl ?_
        refine tw_istore rfl ?_
        refine tw_iinc rfl rfl ?_
        refine tw_aload rfl rfl ?_
        refine tw_dup rfl ?_
        refine tw_getS rfl (hi_111_28 (g1).1) ?_
        refine tw_push rfl ?_
        refine tw_iadd rfl ?_
        refine tw_put rfl (fun f493 => ?_)
        refine tG_setm f493 (hw_111_28 f493 (g1).1) (fun hf493 ef493 => ?_)
        try dsimp only [tvI_i] at ef493
        have gf493 := mFr_s g1 ef493 (by unfold mFs; omega)
        have wf493 := (sgm_d kp490).mp p491
        rw [hms] at wf493
        have wf493 : (ms h).1 + k < n ∧ 48 ≤ (T ((ms h).1 + k)).toInt ∧ (T ((ms h).1 + k)).toInt ≤ 57 := wf493
        obtain ⟨pf493, sf493, tf493⟩ := mTo p1 ((mFr_n g1).trans hN) ef493 (v := (ms h).1 + (k + 1)) (zincN (n := (ms h).1 + k) (by rw [mPl p1, hms]; rfl) (by omega)) wf493.1
        refine tw_goto rfl ?_
        have hd2 := (rD_y wf493).symm.trans hrd
        have hk5 : 5 ≤ k := by have z := q492; omega
        have hm5 : min k 5 = 5 := by omega
        have hm6 : min (k + 1) 5 = 5 := by omega
        rw [hm5] at hy hyb
        exact tG_cut (zW_mono zTt G dp) (Or.inr ⟨rfl, rfl, _, k + 1, _, _, rfl, gf493, pf493, (by rw [sf493, hms]; rfl), tf493.trans hsk, (mI_o ef493 (by decide)).trans h32, (by omega), hd2, zincN hx (by omega), (by rw [hm6]; exact hy), (by rw [hm6]; exact hyb), rfl⟩)
      · try dsimp only [tvI_i, tvJ_j, tvR_r] at q492
        refine tw_push rfl ?_
        refine tw_iload rfl rfl ?_
        refine tw_imul rfl ?_
        refine tw_aload rfl rfl ?_
        refine tw_virt0 rfl (g_sign hG hX (g1).1 ((mFr_T g1).trans hT) ((mFr_n g1).trans hN) ⟨p1.2.1.1, by have := p1.2.1; omega⟩) (fun wp494 hp494 p494 => ?_)
        obtain ⟨⟨cp494, rfl, kp494⟩, rfl⟩ := p494
        refine tw_iadd rfl ?_
        refine tw_push rfl ?_
        refine tw_isub rfl ?_
        refine tw_goto rfl ?_
        refine tw_istore rfl ?_
        refine tw_iinc rfl rfl ?_
        refine tw_aload rfl rfl ?_
        refine tw_dup rfl ?_
        refine tw_getS rfl (hi_111_28 (g1).1) ?_
        refine tw_push rfl ?_
        refine tw_iadd rfl ?_
        refine tw_put rfl (fun f495 => ?_)
        refine tG_setm f495 (hw_111_28 f495 (g1).1) (fun hf495 ef495 => ?_)
        try dsimp only [tvI_i] at ef495
        have gf495 := mFr_s g1 ef495 (by unfold mFs; omega)
        have wf495 := (sgm_d kp490).mp p491
        rw [hms] at wf495
        have wf495 : (ms h).1 + k < n ∧ 48 ≤ (T ((ms h).1 + k)).toInt ∧ (T ((ms h).1 + k)).toInt ≤ 57 := wf495
        obtain ⟨pf495, sf495, tf495⟩ := mTo p1 ((mFr_n g1).trans hN) ef495 (v := (ms h).1 + (k + 1)) (zincN (n := (ms h).1 + k) (by rw [mPl p1, hms]; rfl) (by omega)) wf495.1
        refine tw_goto rfl ?_
        have hd2 := (rD_y wf495).symm.trans hrd
        have hk5 : k < 5 := by have z := q492; omega
        have hm5 : min k 5 = k := by omega
        have hm6 : min (k + 1) 5 = k + 1 := by omega
        rw [hm5] at hy hyb
        have hc2 : cp494 = T ((ms h).1 + k) := kp494.elim (fun z => by rw [z.2, hms]; rfl) (fun z => absurd (by rw [hms]; exact wf495.1) z.1)
        have hq4 : 10 ^ k ≤ 10000 := Nat.pow_le_pow_right (n := 10) (by omega) (show k ≤ 4 by omega)
        have hnn := cNum2 hy hyb hq4 (t := T ((ms h).1 + k)) ⟨wf495.2.1, wf495.2.2⟩
        exact tG_cut (zW_mono zTt G dp) (Or.inr ⟨rfl, rfl, _, k + 1, _, _, rfl, gf495, pf495, (by rw [sf495, hms]; rfl), tf495.trans hsk, (mI_o ef495 (by decide)).trans h32, (by omega), hd2, zincN hx (by omega), (by rw [hm6]; show (10 * y + cp494 - 48).toInt = _; rw [hc2]; exact hnn.1), (by rw [hm6, Nat.pow_succ]; exact hnn.2), rfl⟩)
    · try dsimp only [tvI_i, tvJ_j, tvR_r] at p491
      refine tw_if_eq rfl (fun _ => ?_) (fun z => absurd z (by decide))
      refine tw_iload rfl rfl ?_
      refine tw_push rfl ?_
      refine tw_ic_gt rfl (fun q496 => ?_) (fun q496 => ?_)
      · try dsimp only [tvI_i, tvJ_j, tvR_r] at q496
        refine tw_aload rfl rfl ?_
        refine tw_push rfl ?_
        refine tw_iload rfl rfl ?_
        refine tw_virt2 rfl (g_fails hG hX (g1).1 p1 ((mFr_T g1).trans hT) ((mFr_n g1).trans hN) (w := 1) (b := (ms h).1) rfl (by decide) (mPl hp) (by omega)) (fun wp497 hp497 p497 => ?_)
        obtain ⟨rfl, gp497, Fp497, ip497, jp497⟩ := p497
        have ggp497 := mFr_t g1 gp497
        refine tw_iload rfl rfl ?_
        have w0 := (sgm_d kp488).mp p489
        have hge := rD_ge (T := T) (n := n) (p := (ms h).1 + 1)
        rw [← rD_y w0] at hge
        have hnd : rD T n ((ms h).1 + k) = (ms h).1 + k := rD_n (fun z => p491 ((sgm_d kp490).mpr (by rw [hms]; exact z)))
        have hrb : rD T n (ms h).1 = (ms h).1 + k := hrd.symm.trans hnd
        have hk0 : k ≠ 0 := by omega
        have z0 := q496
        have hyn : 0 ≤ y.toInt := by omega
        have hbig : 5 < k ∨ M < rV T (ms h).1 k := by
          rcases Nat.lt_or_ge 5 k with a | a
          · exact Or.inl a
          · rw [show min k 5 = k by omega] at hy; exact Or.inr (by omega)
        exact tw_iret rfl ⟨ggp497, Or.inr ⟨_, _, rM_b hB hrb hk0 hbig, rfl, hyn, Fp497, mZp_k (mZp_p p1) ip497 jp497⟩⟩
      · try dsimp only [tvI_i, tvJ_j, tvR_r] at q496
        refine tw_iload rfl rfl ?_
        refine tw_iload rfl rfl ?_
        refine tw_ic_le rfl (fun q498 => ?_) (fun q498 => ?_)
        · try dsimp only [tvI_i, tvJ_j, tvR_r] at q498
          refine tw_iload rfl rfl ?_
          have w0 := (sgm_d kp488).mp p489
          have hge := rD_ge (T := T) (n := n) (p := (ms h).1 + 1)
          rw [← rD_y w0] at hge
          have hnd : rD T n ((ms h).1 + k) = (ms h).1 + k := rD_n (fun z => p491 ((sgm_d kp490).mpr (by rw [hms]; exact z)))
          have hrb : rD T n (ms h).1 = (ms h).1 + k := hrd.symm.trans hnd
          have hk0 : k ≠ 0 := by omega
          have z0 := q496
          have z1 := q498
          have hyn : 0 ≤ y.toInt := by omega
          have hk5 : k ≤ 5 := by omega
          rw [show min k 5 = k by omega] at hy
          exact tw_iret rfl ⟨g1, Or.inl ⟨_, rM_c hB hrb hk0 (by omega), congrArg (fun z => some (Value.int z)) (zof hy), p1, hms, hsk, h32⟩⟩
        · try dsimp only [tvI_i, tvJ_j, tvR_r] at q498
          refine tw_aload rfl rfl ?_
          refine tw_push rfl ?_
          refine tw_iload rfl rfl ?_
          refine tw_virt2 rfl (g_fails hG hX (g1).1 p1 ((mFr_T g1).trans hT) ((mFr_n g1).trans hN) (w := 1) (b := (ms h).1) rfl (by decide) (mPl hp) (by omega)) (fun wp499 hp499 p499 => ?_)
          obtain ⟨rfl, gp499, Fp499, ip499, jp499⟩ := p499
          have ggp499 := mFr_t g1 gp499
          refine tw_iload rfl rfl ?_
          have w0 := (sgm_d kp488).mp p489
          have hge := rD_ge (T := T) (n := n) (p := (ms h).1 + 1)
          rw [← rD_y w0] at hge
          have hnd : rD T n ((ms h).1 + k) = (ms h).1 + k := rD_n (fun z => p491 ((sgm_d kp490).mpr (by rw [hms]; exact z)))
          have hrb : rD T n (ms h).1 = (ms h).1 + k := hrd.symm.trans hnd
          have hk0 : k ≠ 0 := by omega
          have z0 := q496
          have z1 := q498
          have hyn : 0 ≤ y.toInt := by omega
          have hbig : 5 < k ∨ M < rV T (ms h).1 k := by
            rcases Nat.lt_or_ge 5 k with a | a
            · exact Or.inl a
            · rw [show min k 5 = k by omega] at hy; exact Or.inr (by omega)
          exact tw_iret rfl ⟨ggp499, Or.inr ⟨_, _, rM_b hB hrb hk0 hbig, rfl, hyn, Fp499, mZp_k (mZp_p p1) ip499 jp499⟩⟩
  · try dsimp only [tvI_i, tvJ_j, tvR_r] at p489
    refine tw_if_ne rfl (fun z => absurd z (by decide)) (fun _ => ?_)
    refine tw_aload rfl rfl ?_
    refine tw_push rfl ?_
    refine tw_aload rfl rfl ?_
    refine tw_getS rfl (hi_111_28 (g0).1) ?_
    refine tw_virt2 rfl (g_fails hG hX (g0).1 hp ((mFr_T g0).trans hT) ((mFr_n g0).trans hN) (w := 0) (b := (ms h).1) rfl (by decide) (mPl hp) (by omega)) (fun wp500 hp500 p500 => ?_)
    obtain ⟨rfl, gp500, Fp500, ip500, jp500⟩ := p500
    have ggp500 := mFr_t g0 gp500
    refine tw_push rfl ?_
    have hnd : rD T n (ms h).1 = (ms h).1 := rD_n (fun z => p489 ((sgm_d kp488).mpr z))
    exact tw_iret rfl ⟨ggp500, Or.inr ⟨_, _, rM_a hB hnd, rfl, by decide, Fp500, mZp_k (mZp_p hp) ip500 jp500⟩⟩
theorem mhead {S : List Nat} {k : Nat} (h : S.headD 0 = k + 1) : S = (k + 1) :: S.tail := by
  cases S with
  | nil => cases h
  | cons x r => rw [show x = k + 1 from h]; rfl
theorem mT_y (r o : List Nat) : mT (102 :: r) o = mT r (o ++ [100102]) := if_pos rfl
theorem mN_y (r o : List Nat) : mN (10 :: r) o = mN r (o ++ [100110]) := if_pos rfl
theorem mA_y (r o : List Nat) : mA (11 :: r) o = mA r (o ++ [100109]) := if_pos rfl
theorem mO_y (r o : List Nat) : mO1 (12 :: r) o = mO1 r (o ++ [100108]) := if_pos rfl
theorem mP_y (r o : List Nat) : mPm (103 :: r) o = mPm r (o ++ [100100]) := if_pos rfl
theorem mM_y (r o : List Nat) : mPm (104 :: r) o = mPm r (o ++ [100101]) := (if_neg (by decide)).trans (if_pos rfl)
theorem mne {S : List Nat} {k : Nat} (h : S.headD 0 = k + 1) : S ≠ [] := fun z => by rw [z] at h; cases h
theorem g_makesProducts {G : zG} (hG : G.1 = zProg) (hX : G.2.1 = ztx) {h : zH} {T : Nat → Int32} {n : Nat} (hs : tSh h) (hp : mP h) (hT : tA h 132 = T) (hN : mn h = n)  : tC zTt G 214 [.ref 111] h (fun w h2 => w = none ∧ mFr h h2 ∧ mP h2 ∧ (ms h2).1 = (ms h).1 ∧ (ms h2).2.1 = (ms h).2.1 ∧ (mSk h2, (ms h2).2.2) = mT (mSk h) (ms h).2.2 ∧ tF h2 111 32 = tF h 111 32) := by
  refine tC_in (by rw [hG]; rfl) (fun dp => ?_)
  have g0 := mFr_r hs
  have hpn : (ms h).1 ≤ n := mPle hp hN
  refine tG_loop (zW_mono zTt G dp) (zW_conj zTt G dp) (V := fun pc L st h9 _ _ => pc = 0 ∧ st = [] ∧ ∃ h1, h1 = h9 ∧ mFr h h1 ∧ mP h1 ∧ (ms h1).1 = (ms h).1 ∧ (ms h1).2.1 = (ms h).2.1 ∧ mT (mSk h1) (ms h1).2.2 = mT (mSk h) (ms h).2.2 ∧ tF h1 111 32 = tF h 111 32 ∧ L = [some (.ref 111)]) ?_ (⟨rfl, rfl, _, rfl, g0, hp, rfl, rfl, rfl, rfl, rfl⟩)
  rintro _ _ _ _ _ _ ⟨rfl, rfl, h1, rfl, g1, p1, e1, e2, hL, h32, rfl⟩
  refine tw_aload rfl rfl ?_
  refine tw_virt0 rfl (g_top hG hX (g1).1 p1 ((mFr_T g1).trans hT) ((mFr_n g1).trans hN)) (fun wp501 hp501 p501 => ?_)
  obtain ⟨⟨cp501, rfl, Tp501⟩, rfl⟩ := p501
  refine tw_push rfl ?_
  refine tw_ic_ne rfl (fun q502 => ?_) (fun q502 => ?_)
  · try dsimp only [tvI_i, tvJ_j, tvR_r] at q502
    have q502i := zneq (Y := 102) (by decide) q502
    have hfin : (mSk h1, (ms h1).2.2) = mT (mSk h) (ms h).2.2 := by rw [← hL, mT_n (fun z => q502 ((tpm_k Tp501 (k := 102) (K := 102) rfl (by decide)).mpr z))]
    exact tw_vret rfl ⟨rfl, g1, p1, e1, e2, hfin, h32⟩
  · try dsimp only [tvI_i, tvJ_j, tvR_r] at q502
    have q502i := zeqi (Y := 102) (by decide) q502
    refine tw_aload rfl rfl ?_
    refine tw_push rfl ?_
    refine tw_push rfl ?_
    have hhd : (mSk h1).headD 0 = 102 := (tpm_k Tp501 (k := 102) (K := 102) rfl (by decide)).mp q502
    have hne := mne (k := 101) hhd
    have hst : mSk h1 = 102 :: (mSk h1).tail := mhead (k := 101) hhd
    refine tw_virt2 rfl (g_entry hG hX (g1).1 p1 ((mFr_T g1).trans hT) ((mFr_n g1).trans hN) ⟨by decide, by decide⟩) (fun wp503 hp503 p503 => ?_)
    obtain ⟨rfl, gp503, pp503e, sp503, tp503, dp503⟩ := p503
    have ggp503 := mFr_t g1 gp503
    refine tw_aload rfl rfl ?_
    refine tw_dup rfl ?_
    refine tw_getS rfl (hi_111_34 ggp503.1) ?_
    refine tw_push rfl ?_
    refine tw_isub rfl ?_
    refine tw_put rfl (fun f504 => ?_)
    refine tG_setm f504 (hw_111_34 f504 (ggp503).1) (fun hf504 ef504 => ?_)
    try dsimp only [tvI_i] at ef504
    have gf504 := mFr_s ggp503 ef504 (by unfold mFs; omega)
    have hnef504 : mSk hp503 ≠ [] := by rw [tp503]; exact hne
    obtain ⟨pf504, tf504, sf504, df504⟩ := mSk_pop pp503e hnef504 ef504
    refine tw_goto rfl ?_
    have hst : mSk h1 = 102 :: (mSk h1).tail := mhead (k := 101) hhd
    have hsp : mSk hf504 = (mSk h1).tail := by rw [tf504, tp503]
    have hms2 : ms hf504 = rU 100102 (ms h1) := by rw [sf504, sp503]; rfl
    have hlp : mT (mSk hf504) (ms hf504).2.2 = mT (mSk h) (ms h).2.2 := by rw [hsp, hms2, ← hL, hst]; exact (mT_y (mSk h1).tail _).symm
    exact tG_cut (zW_mono zTt G dp) (Or.inr ⟨rfl, rfl, _, rfl, gf504, pf504, by rw [hms2]; exact e1, by rw [hms2]; exact e2, hlp, df504.trans (dp503.trans h32), rfl⟩)
theorem g_makesNots {G : zG} (hG : G.1 = zProg) (hX : G.2.1 = ztx) {h : zH} {T : Nat → Int32} {n : Nat} (hs : tSh h) (hp : mP h) (hT : tA h 132 = T) (hN : mn h = n) (hD : mD h) : tC zTt G 219 [.ref 111] h (fun w h2 => w = none ∧ mFr h h2 ∧ mP h2 ∧ (ms h2).1 = (ms h).1 ∧ (ms h2).2.1 = (ms h).2.1 ∧ (mSk h2, (ms h2).2.2) = mN (mSk h) (ms h).2.2 ∧ mD h2) := by
  refine tC_in (by rw [hG]; rfl) (fun dp => ?_)
  have g0 := mFr_r hs
  have hpn : (ms h).1 ≤ n := mPle hp hN
  refine tG_loop (zW_mono zTt G dp) (zW_conj zTt G dp) (V := fun pc L st h9 _ _ => pc = 0 ∧ st = [] ∧ ∃ h1, h1 = h9 ∧ mFr h h1 ∧ mP h1 ∧ (ms h1).1 = (ms h).1 ∧ (ms h1).2.1 = (ms h).2.1 ∧ mN (mSk h1) (ms h1).2.2 = mN (mSk h) (ms h).2.2 ∧ mD h1 ∧ L = [some (.ref 111)]) ?_ (⟨rfl, rfl, _, rfl, g0, hp, rfl, rfl, rfl, hD, rfl⟩)
  rintro _ _ _ _ _ _ ⟨rfl, rfl, h1, rfl, g1, p1, e1, e2, hL, hDn, rfl⟩
  refine tw_aload rfl rfl ?_
  refine tw_virt0 rfl (g_top hG hX (g1).1 p1 ((mFr_T g1).trans hT) ((mFr_n g1).trans hN)) (fun wp505 hp505 p505 => ?_)
  obtain ⟨⟨cp505, rfl, Tp505⟩, rfl⟩ := p505
  refine tw_push rfl ?_
  refine tw_ic_ne rfl (fun q506 => ?_) (fun q506 => ?_)
  · try dsimp only [tvI_i, tvJ_j, tvR_r] at q506
    have q506i := zneq (Y := 10) (by decide) q506
    have hfin : (mSk h1, (ms h1).2.2) = mN (mSk h) (ms h).2.2 := by rw [← hL, mN_n (fun z => q506 ((tpm_k Tp505 (k := 10) (K := 10) rfl (by decide)).mpr z))]
    exact tw_vret rfl ⟨rfl, g1, p1, e1, e2, hfin, hDn⟩
  · try dsimp only [tvI_i, tvJ_j, tvR_r] at q506
    have q506i := zeqi (Y := 10) (by decide) q506
    refine tw_aload rfl rfl ?_
    refine tw_push rfl ?_
    refine tw_push rfl ?_
    have hhd : (mSk h1).headD 0 = 10 := (tpm_k Tp505 (k := 10) (K := 10) rfl (by decide)).mp q506
    have hne := mne (k := 9) hhd
    have hst : mSk h1 = 10 :: (mSk h1).tail := mhead (k := 9) hhd
    refine tw_virt2 rfl (g_entry hG hX (g1).1 p1 ((mFr_T g1).trans hT) ((mFr_n g1).trans hN) ⟨by decide, by decide⟩) (fun wp507 hp507 p507 => ?_)
    obtain ⟨rfl, gp507, pp507e, sp507, tp507, dp507⟩ := p507
    have ggp507 := mFr_t g1 gp507
    refine tw_aload rfl rfl ?_
    refine tw_dup rfl ?_
    refine tw_getS rfl (hi_111_34 ggp507.1) ?_
    refine tw_push rfl ?_
    refine tw_isub rfl ?_
    refine tw_put rfl (fun f508 => ?_)
    refine tG_setm f508 (hw_111_34 f508 (ggp507).1) (fun hf508 ef508 => ?_)
    try dsimp only [tvI_i] at ef508
    have gf508 := mFr_s ggp507 ef508 (by unfold mFs; omega)
    have hnef508 : mSk hp507 ≠ [] := by rw [tp507]; exact hne
    obtain ⟨pf508, tf508, sf508, df508⟩ := mSk_pop pp507e hnef508 ef508
    refine tw_aload rfl rfl ?_
    refine tw_dup rfl ?_
    refine tw_getS rfl (hi_111_32 (gf508).1) ?_
    refine tw_push rfl ?_
    refine tw_isub rfl ?_
    refine tw_put rfl (fun f509 => ?_)
    refine tG_setm f509 (hw_111_32 f509 (gf508).1) (fun hf509 ef509 => ?_)
    try dsimp only [tvI_i] at ef509
    have gf509 := mFr_s gf508 ef509 (by unfold mFs; omega)
    have hdf509 : (tvI (tF hf508 111 32)).toInt = ((mDp (mSk hf508) + 1 : Nat) : Int) := by
      rw [df508, dp507]
      refine (show (tvI (tF h1 111 32)).toInt = (mDp (mSk h1) : Int) from hDn).trans ?_
      rw [tf508, tp507]
      exact congrArg (fun z : Nat => (z : Int)) ((congrArg mDp hst).trans (mDp_c (by decide)))
    obtain ⟨pf509, tf509, sf509, ddf509⟩ := mDn pf508 ef509 hdf509 rfl
    refine tw_goto rfl ?_
    have hst : mSk h1 = 10 :: (mSk h1).tail := mhead (k := 9) hhd
    have hsp : mSk hf509 = (mSk h1).tail := by rw [tf509, tf508, tp507]
    have hms2 : ms hf509 = rU 100110 (ms h1) := by rw [sf509, sf508, sp507]; rfl
    have hlp : mN (mSk hf509) (ms hf509).2.2 = mN (mSk h) (ms h).2.2 := by rw [hsp, hms2, ← hL, hst]; exact (mN_y (mSk h1).tail _).symm
    exact tG_cut (zW_mono zTt G dp) (Or.inr ⟨rfl, rfl, _, rfl, gf509, pf509, by rw [hms2]; exact e1, by rw [hms2]; exact e2, hlp, ddf509, rfl⟩)
theorem g_makesAnds {G : zG} (hG : G.1 = zProg) (hX : G.2.1 = ztx) {h : zH} {T : Nat → Int32} {n : Nat} (hs : tSh h) (hp : mP h) (hT : tA h 132 = T) (hN : mn h = n)  : tC zTt G 220 [.ref 111] h (fun w h2 => w = none ∧ mFr h h2 ∧ mP h2 ∧ (ms h2).1 = (ms h).1 ∧ (ms h2).2.1 = (ms h).2.1 ∧ (mSk h2, (ms h2).2.2) = mA (mSk h) (ms h).2.2 ∧ tF h2 111 32 = tF h 111 32) := by
  refine tC_in (by rw [hG]; rfl) (fun dp => ?_)
  have g0 := mFr_r hs
  have hpn : (ms h).1 ≤ n := mPle hp hN
  refine tG_loop (zW_mono zTt G dp) (zW_conj zTt G dp) (V := fun pc L st h9 _ _ => pc = 0 ∧ st = [] ∧ ∃ h1, h1 = h9 ∧ mFr h h1 ∧ mP h1 ∧ (ms h1).1 = (ms h).1 ∧ (ms h1).2.1 = (ms h).2.1 ∧ mA (mSk h1) (ms h1).2.2 = mA (mSk h) (ms h).2.2 ∧ tF h1 111 32 = tF h 111 32 ∧ L = [some (.ref 111)]) ?_ (⟨rfl, rfl, _, rfl, g0, hp, rfl, rfl, rfl, rfl, rfl⟩)
  rintro _ _ _ _ _ _ ⟨rfl, rfl, h1, rfl, g1, p1, e1, e2, hL, h32, rfl⟩
  refine tw_aload rfl rfl ?_
  refine tw_virt0 rfl (g_top hG hX (g1).1 p1 ((mFr_T g1).trans hT) ((mFr_n g1).trans hN)) (fun wp510 hp510 p510 => ?_)
  obtain ⟨⟨cp510, rfl, Tp510⟩, rfl⟩ := p510
  refine tw_push rfl ?_
  refine tw_ic_ne rfl (fun q511 => ?_) (fun q511 => ?_)
  · try dsimp only [tvI_i, tvJ_j, tvR_r] at q511
    have q511i := zneq (Y := 11) (by decide) q511
    have hfin : (mSk h1, (ms h1).2.2) = mA (mSk h) (ms h).2.2 := by rw [← hL, mA_n (fun z => q511 ((tpm_k Tp510 (k := 11) (K := 11) rfl (by decide)).mpr z))]
    exact tw_vret rfl ⟨rfl, g1, p1, e1, e2, hfin, h32⟩
  · try dsimp only [tvI_i, tvJ_j, tvR_r] at q511
    have q511i := zeqi (Y := 11) (by decide) q511
    refine tw_aload rfl rfl ?_
    refine tw_push rfl ?_
    refine tw_push rfl ?_
    have hhd : (mSk h1).headD 0 = 11 := (tpm_k Tp510 (k := 11) (K := 11) rfl (by decide)).mp q511
    have hne := mne (k := 10) hhd
    have hst : mSk h1 = 11 :: (mSk h1).tail := mhead (k := 10) hhd
    refine tw_virt2 rfl (g_entry hG hX (g1).1 p1 ((mFr_T g1).trans hT) ((mFr_n g1).trans hN) ⟨by decide, by decide⟩) (fun wp512 hp512 p512 => ?_)
    obtain ⟨rfl, gp512, pp512e, sp512, tp512, dp512⟩ := p512
    have ggp512 := mFr_t g1 gp512
    refine tw_aload rfl rfl ?_
    refine tw_dup rfl ?_
    refine tw_getS rfl (hi_111_34 ggp512.1) ?_
    refine tw_push rfl ?_
    refine tw_isub rfl ?_
    refine tw_put rfl (fun f513 => ?_)
    refine tG_setm f513 (hw_111_34 f513 (ggp512).1) (fun hf513 ef513 => ?_)
    try dsimp only [tvI_i] at ef513
    have gf513 := mFr_s ggp512 ef513 (by unfold mFs; omega)
    have hnef513 : mSk hp512 ≠ [] := by rw [tp512]; exact hne
    obtain ⟨pf513, tf513, sf513, df513⟩ := mSk_pop pp512e hnef513 ef513
    refine tw_goto rfl ?_
    have hst : mSk h1 = 11 :: (mSk h1).tail := mhead (k := 10) hhd
    have hsp : mSk hf513 = (mSk h1).tail := by rw [tf513, tp512]
    have hms2 : ms hf513 = rU 100109 (ms h1) := by rw [sf513, sp512]; rfl
    have hlp : mA (mSk hf513) (ms hf513).2.2 = mA (mSk h) (ms h).2.2 := by rw [hsp, hms2, ← hL, hst]; exact (mA_y (mSk h1).tail _).symm
    exact tG_cut (zW_mono zTt G dp) (Or.inr ⟨rfl, rfl, _, rfl, gf513, pf513, by rw [hms2]; exact e1, by rw [hms2]; exact e2, hlp, df513.trans (dp512.trans h32), rfl⟩)
theorem g_makesSums {G : zG} (hG : G.1 = zProg) (hX : G.2.1 = ztx) {h : zH} {T : Nat → Int32} {n : Nat} (hs : tSh h) (hp : mP h) (hT : tA h 132 = T) (hN : mn h = n)  : tC zTt G 215 [.ref 111] h (fun w h2 => w = none ∧ mFr h h2 ∧ mP h2 ∧ (ms h2).1 = (ms h).1 ∧ (ms h2).2.1 = (ms h).2.1 ∧ (mSk h2, (ms h2).2.2) = mS (mSk h) (ms h).2.2 ∧ tF h2 111 32 = tF h 111 32) := by
  refine tC_in (by rw [hG]; rfl) (fun dp => ?_)
  have g0 := mFr_r hs
  have hpn : (ms h).1 ≤ n := mPle hp hN
  refine tw_aload rfl rfl ?_
  refine tw_virt0 rfl (g_makesProducts hG hX (g0).1 hp ((mFr_T g0).trans hT) ((mFr_n g0).trans hN)) (fun wp514 hp514 p514 => ?_)
  obtain ⟨rfl, gp514, pp514e, ap514, bp514, mp514, dp514⟩ := p514
  have ggp514 := mFr_t g0 gp514
  refine tG_loop (zW_mono zTt G dp) (zW_conj zTt G dp) (V := fun pc L st h9 _ _ => pc = 4 ∧ st = [] ∧ ∃ h1, h1 = h9 ∧ mFr h h1 ∧ mP h1 ∧ (ms h1).1 = (ms h).1 ∧ (ms h1).2.1 = (ms h).2.1 ∧ mPm (mSk h1) (ms h1).2.2 = mS (mSk h) (ms h).2.2 ∧ tF h1 111 32 = tF h 111 32 ∧ L = [some (.ref 111)]) ?_ (⟨rfl, rfl, _, rfl, ggp514, pp514e, ap514, bp514, (by unfold mS; rw [← mp514]), dp514, rfl⟩)
  rintro _ _ _ _ _ _ ⟨rfl, rfl, h1, rfl, g1, p1, e1, e2, hL, h32, rfl⟩
  refine tw_aload rfl rfl ?_
  refine tw_virt0 rfl (g_top hG hX (g1).1 p1 ((mFr_T g1).trans hT) ((mFr_n g1).trans hN)) (fun wp515 hp515 p515 => ?_)
  obtain ⟨⟨cp515, rfl, Tp515⟩, rfl⟩ := p515
  refine tw_push rfl ?_
  refine tw_ic_eq rfl (fun q516 => ?_) (fun q516 => ?_)
  · try dsimp only [tvI_i, tvJ_j, tvR_r] at q516
    have q516i := zeqi (Y := 103) (by decide) q516
    refine tw_aload rfl rfl ?_
    refine tw_aload rfl rfl ?_
    refine tw_virt0 rfl (g_top hG hX (g1).1 p1 ((mFr_T g1).trans hT) ((mFr_n g1).trans hN)) (fun wp517 hp517 p517 => ?_)
    obtain ⟨⟨cp517, rfl, Tp517⟩, rfl⟩ := p517
    refine tw_push rfl ?_
    refine tw_isub rfl ?_
    refine tw_push rfl ?_
    have hhd : (mSk h1).headD 0 = 103 := (tpm_k Tp515 (k := 103) (K := 103) rfl (by decide)).mp q516
    have hne := mne (k := 102) hhd
    have hst : mSk h1 = 103 :: (mSk h1).tail := mhead (k := 102) hhd
    have hc9 := (tpm_k Tp517 (k := 103) (K := 103) rfl (by decide)).mpr hhd
    subst hc9
    refine tw_virt2 rfl (g_entry hG hX (g1).1 p1 ((mFr_T g1).trans hT) ((mFr_n g1).trans hN) ⟨by decide, by decide⟩) (fun wp518 hp518 p518 => ?_)
    obtain ⟨rfl, gp518, pp518e, sp518, tp518, dp518⟩ := p518
    have ggp518 := mFr_t g1 gp518
    refine tw_aload rfl rfl ?_
    refine tw_dup rfl ?_
    refine tw_getS rfl (hi_111_34 ggp518.1) ?_
    refine tw_push rfl ?_
    refine tw_isub rfl ?_
    refine tw_put rfl (fun f519 => ?_)
    refine tG_setm f519 (hw_111_34 f519 (ggp518).1) (fun hf519 ef519 => ?_)
    try dsimp only [tvI_i] at ef519
    have gf519 := mFr_s ggp518 ef519 (by unfold mFs; omega)
    have hnef519 : mSk hp518 ≠ [] := by rw [tp518]; exact hne
    obtain ⟨pf519, tf519, sf519, df519⟩ := mSk_pop pp518e hnef519 ef519
    refine tw_goto rfl ?_
    have hst : mSk h1 = 103 :: (mSk h1).tail := mhead (k := 102) hhd
    have hsp : mSk hf519 = (mSk h1).tail := by rw [tf519, tp518]
    have hms2 : ms hf519 = rU 100100 (ms h1) := by rw [sf519, sp518]; rfl
    have hlp : mPm (mSk hf519) (ms hf519).2.2 = mS (mSk h) (ms h).2.2 := by rw [hsp, hms2, ← hL, hst]; exact (mP_y (mSk h1).tail _).symm
    exact tG_cut (zW_mono zTt G dp) (Or.inr ⟨rfl, rfl, _, rfl, gf519, pf519, by rw [hms2]; exact e1, by rw [hms2]; exact e2, hlp, df519.trans (dp518.trans h32), rfl⟩)
  · try dsimp only [tvI_i, tvJ_j, tvR_r] at q516
    have q516i := zneq (Y := 103) (by decide) q516
    refine tw_aload rfl rfl ?_
    refine tw_virt0 rfl (g_top hG hX (g1).1 p1 ((mFr_T g1).trans hT) ((mFr_n g1).trans hN)) (fun wp520 hp520 p520 => ?_)
    obtain ⟨⟨cp520, rfl, Tp520⟩, rfl⟩ := p520
    refine tw_push rfl ?_
    refine tw_ic_ne rfl (fun q521 => ?_) (fun q521 => ?_)
    · try dsimp only [tvI_i, tvJ_j, tvR_r] at q521
      have q521i := zneq (Y := 104) (by decide) q521
      have hfin : (mSk h1, (ms h1).2.2) = mS (mSk h) (ms h).2.2 := by rw [← hL, mPm_n (fun z => q516 ((tpm_k Tp515 (k := 103) (K := 103) rfl (by decide)).mpr z)) (fun z => q521 ((tpm_k Tp520 (k := 104) (K := 104) rfl (by decide)).mpr z))]
      exact tw_vret rfl ⟨rfl, g1, p1, e1, e2, hfin, h32⟩
    · try dsimp only [tvI_i, tvJ_j, tvR_r] at q521
      have q521i := zeqi (Y := 104) (by decide) q521
      refine tw_aload rfl rfl ?_
      refine tw_aload rfl rfl ?_
      refine tw_virt0 rfl (g_top hG hX (g1).1 p1 ((mFr_T g1).trans hT) ((mFr_n g1).trans hN)) (fun wp522 hp522 p522 => ?_)
      obtain ⟨⟨cp522, rfl, Tp522⟩, rfl⟩ := p522
      refine tw_push rfl ?_
      refine tw_isub rfl ?_
      refine tw_push rfl ?_
      have hhd : (mSk h1).headD 0 = 104 := (tpm_k Tp520 (k := 104) (K := 104) rfl (by decide)).mp q521
      have hne := mne (k := 103) hhd
      have hst : mSk h1 = 104 :: (mSk h1).tail := mhead (k := 103) hhd
      have hc9 := (tpm_k Tp522 (k := 104) (K := 104) rfl (by decide)).mpr hhd
      subst hc9
      refine tw_virt2 rfl (g_entry hG hX (g1).1 p1 ((mFr_T g1).trans hT) ((mFr_n g1).trans hN) ⟨by decide, by decide⟩) (fun wp523 hp523 p523 => ?_)
      obtain ⟨rfl, gp523, pp523e, sp523, tp523, dp523⟩ := p523
      have ggp523 := mFr_t g1 gp523
      refine tw_aload rfl rfl ?_
      refine tw_dup rfl ?_
      refine tw_getS rfl (hi_111_34 ggp523.1) ?_
      refine tw_push rfl ?_
      refine tw_isub rfl ?_
      refine tw_put rfl (fun f524 => ?_)
      refine tG_setm f524 (hw_111_34 f524 (ggp523).1) (fun hf524 ef524 => ?_)
      try dsimp only [tvI_i] at ef524
      have gf524 := mFr_s ggp523 ef524 (by unfold mFs; omega)
      have hnef524 : mSk hp523 ≠ [] := by rw [tp523]; exact hne
      obtain ⟨pf524, tf524, sf524, df524⟩ := mSk_pop pp523e hnef524 ef524
      refine tw_goto rfl ?_
      have hst : mSk h1 = 104 :: (mSk h1).tail := mhead (k := 103) hhd
      have hsp : mSk hf524 = (mSk h1).tail := by rw [tf524, tp523]
      have hms2 : ms hf524 = rU 100101 (ms h1) := by rw [sf524, sp523]; rfl
      have hlp : mPm (mSk hf524) (ms hf524).2.2 = mS (mSk h) (ms h).2.2 := by rw [hsp, hms2, ← hL, hst]; exact (mM_y (mSk h1).tail _).symm
      exact tG_cut (zW_mono zTt G dp) (Or.inr ⟨rfl, rfl, _, rfl, gf524, pf524, by rw [hms2]; exact e1, by rw [hms2]; exact e2, hlp, df524.trans (dp523.trans h32), rfl⟩)
theorem g_makesOrs {G : zG} (hG : G.1 = zProg) (hX : G.2.1 = ztx) {h : zH} {T : Nat → Int32} {n : Nat} (hs : tSh h) (hp : mP h) (hT : tA h 132 = T) (hN : mn h = n)  : tC zTt G 221 [.ref 111] h (fun w h2 => w = none ∧ mFr h h2 ∧ mP h2 ∧ (ms h2).1 = (ms h).1 ∧ (ms h2).2.1 = (ms h).2.1 ∧ (mSk h2, (ms h2).2.2) = mO (mSk h) (ms h).2.2 ∧ tF h2 111 32 = tF h 111 32) := by
  refine tC_in (by rw [hG]; rfl) (fun dp => ?_)
  have g0 := mFr_r hs
  have hpn : (ms h).1 ≤ n := mPle hp hN
  refine tw_aload rfl rfl ?_
  refine tw_virt0 rfl (g_makesAnds hG hX (g0).1 hp ((mFr_T g0).trans hT) ((mFr_n g0).trans hN)) (fun wp525 hp525 p525 => ?_)
  obtain ⟨rfl, gp525, pp525e, ap525, bp525, mp525, dp525⟩ := p525
  have ggp525 := mFr_t g0 gp525
  refine tG_loop (zW_mono zTt G dp) (zW_conj zTt G dp) (V := fun pc L st h9 _ _ => pc = 4 ∧ st = [] ∧ ∃ h1, h1 = h9 ∧ mFr h h1 ∧ mP h1 ∧ (ms h1).1 = (ms h).1 ∧ (ms h1).2.1 = (ms h).2.1 ∧ mO1 (mSk h1) (ms h1).2.2 = mO (mSk h) (ms h).2.2 ∧ tF h1 111 32 = tF h 111 32 ∧ L = [some (.ref 111)]) ?_ (⟨rfl, rfl, _, rfl, ggp525, pp525e, ap525, bp525, (by unfold mO; rw [← mp525]), dp525, rfl⟩)
  rintro _ _ _ _ _ _ ⟨rfl, rfl, h1, rfl, g1, p1, e1, e2, hL, h32, rfl⟩
  refine tw_aload rfl rfl ?_
  refine tw_virt0 rfl (g_top hG hX (g1).1 p1 ((mFr_T g1).trans hT) ((mFr_n g1).trans hN)) (fun wp526 hp526 p526 => ?_)
  obtain ⟨⟨cp526, rfl, Tp526⟩, rfl⟩ := p526
  refine tw_push rfl ?_
  refine tw_ic_ne rfl (fun q527 => ?_) (fun q527 => ?_)
  · try dsimp only [tvI_i, tvJ_j, tvR_r] at q527
    have q527i := zneq (Y := 12) (by decide) q527
    have hfin : (mSk h1, (ms h1).2.2) = mO (mSk h) (ms h).2.2 := by rw [← hL, mO1_n (fun z => q527 ((tpm_k Tp526 (k := 12) (K := 12) rfl (by decide)).mpr z))]
    exact tw_vret rfl ⟨rfl, g1, p1, e1, e2, hfin, h32⟩
  · try dsimp only [tvI_i, tvJ_j, tvR_r] at q527
    have q527i := zeqi (Y := 12) (by decide) q527
    refine tw_aload rfl rfl ?_
    refine tw_push rfl ?_
    refine tw_push rfl ?_
    have hhd : (mSk h1).headD 0 = 12 := (tpm_k Tp526 (k := 12) (K := 12) rfl (by decide)).mp q527
    have hne := mne (k := 11) hhd
    have hst : mSk h1 = 12 :: (mSk h1).tail := mhead (k := 11) hhd
    refine tw_virt2 rfl (g_entry hG hX (g1).1 p1 ((mFr_T g1).trans hT) ((mFr_n g1).trans hN) ⟨by decide, by decide⟩) (fun wp528 hp528 p528 => ?_)
    obtain ⟨rfl, gp528, pp528e, sp528, tp528, dp528⟩ := p528
    have ggp528 := mFr_t g1 gp528
    refine tw_aload rfl rfl ?_
    refine tw_dup rfl ?_
    refine tw_getS rfl (hi_111_34 ggp528.1) ?_
    refine tw_push rfl ?_
    refine tw_isub rfl ?_
    refine tw_put rfl (fun f529 => ?_)
    refine tG_setm f529 (hw_111_34 f529 (ggp528).1) (fun hf529 ef529 => ?_)
    try dsimp only [tvI_i] at ef529
    have gf529 := mFr_s ggp528 ef529 (by unfold mFs; omega)
    have hnef529 : mSk hp528 ≠ [] := by rw [tp528]; exact hne
    obtain ⟨pf529, tf529, sf529, df529⟩ := mSk_pop pp528e hnef529 ef529
    refine tw_goto rfl ?_
    have hst : mSk h1 = 12 :: (mSk h1).tail := mhead (k := 11) hhd
    have hsp : mSk hf529 = (mSk h1).tail := by rw [tf529, tp528]
    have hms2 : ms hf529 = rU 100108 (ms h1) := by rw [sf529, sp528]; rfl
    have hlp : mO1 (mSk hf529) (ms hf529).2.2 = mO (mSk h) (ms h).2.2 := by rw [hsp, hms2, ← hL, hst]; exact (mO_y (mSk h1).tail _).symm
    exact tG_cut (zW_mono zTt G dp) (Or.inr ⟨rfl, rfl, _, rfl, gf529, pf529, by rw [hms2]; exact e1, by rw [hms2]; exact e2, hlp, df529.trans (dp528.trans h32), rfl⟩)
theorem zp0 {x : Int32} {k : Nat} (h : x.toInt = k) : (x + 0).toInt = ((k + 0 : Nat) : Int) := by
  rw [Int32.toInt_add, show (0 : Int32).toInt = 0 from rfl, Int.add_zero, h]
  have := Int32.toInt_lt x
  exact Int.bmod_eq_of_le (by show (-2147483648 : Int) ≤ (k : Int); omega) (by show (k : Int) < (2147483648 : Int); omega)
theorem cmw {K : Int32} {k : Nat} (hk : K.toInt = (k : Int)) {C p : Nat} (h : k + 100098 = C) : K.toInt + 100098 = (((C, p) : Nat × Nat).1 : Int) := by
  show K.toInt + 100098 = (C : Int)
  rw [hk, ← h]
  omega
theorem zp1 {x : Int32} {k : Nat} (h : x.toInt = k) (hk : k ≤ 1000) : (x + 1).toInt = ((k + 1 : Nat) : Int) := zincN h (by omega)
theorem g_compares {G : zG} (hG : G.1 = zProg) (hX : G.2.1 = ztx) {h : zH} {T : Nat → Int32} {n : Nat} (hs : tSh h) (hp : mP h) (hT : tA h 132 = T) (hN : mn h = n)  : tC zTt G 212 [.ref 111] h (fun w h2 => mFr h h2 ∧ ((rCm T n (ms h).1 = none ∧ w = some (.int 0) ∧ h2 = h) ∨ (∃ q, rCm T n (ms h).1 = some q ∧ (((ms h).2.1 ≠ 80 ∧ (∃ x : Int32, w = some (.int x) ∧ x.toInt + 100098 = (q.1 : Int)) ∧ mP h2 ∧ ms h2 = (q.2, (ms h).2.1 + 1, (ms h).2.2) ∧ mSk h2 = mSk h ∧ tF h2 111 32 = tF h 111 32) ∨ ((ms h).2.1 = 80 ∧ ∃ x, w = some (.int x) ∧ 5 ≤ x.toInt ∧ x.toInt ≤ 9 ∧ mFt h2 (1 + 8 * (ms h).1 + 3) ∧ mZp h2))))) := by
  refine tC_in (by rw [hG]; rfl) (fun dp => ?_)
  have g0 := mFr_r hs
  have hpn : (ms h).1 ≤ n := mPle hp hN
  have hn4 : n ≤ 400 := by have a := mNl hp hN; have b := hp.2.1; omega
  refine tw_aload rfl rfl ?_
  refine tw_virt0 rfl (g_sign hG hX (g0).1 ((mFr_T g0).trans hT) ((mFr_n g0).trans hN) ⟨hp.2.1.1, by have := hp.2.1; omega⟩) (fun wp530 hp530 p530 => ?_)
  obtain ⟨⟨cp530, rfl, kp530⟩, rfl⟩ := p530
  refine tw_istore rfl ?_
  refine tw_iload rfl rfl ?_
  refine tw_push rfl ?_
  refine tw_ic_eq rfl (fun q531 => ?_) (fun q531 => ?_)
  · try dsimp only [tvI_i, tvJ_j, tvR_r] at q531
    have q531i := zeqi (Y := 60) (by decide) q531
    refine tw_aload rfl rfl ?_
    refine tw_aload rfl rfl ?_
    refine tw_getS rfl (hi_111_28 (g0).1) ?_
    refine tw_virt1 rfl (g_counts hG hX (g0).1 hp ((mFr_T g0).trans hT) ((mFr_n g0).trans hN) (b := (ms h).1) (mPl hp) (by omega)) (fun w9 hp532 p532 => ?_)
    obtain ⟨rfl, gp532, ⟨np532, pp532e, sp532, tp532, dp532⟩ | ⟨np532, Fp532⟩, ip532, jp532⟩ := p532
    · have ggp532 := mFr_t g0 gp532
      refine tw_aload rfl rfl ?_
      refine tw_dup rfl ?_
      refine tw_getS rfl (hi_111_28 ggp532.1) ?_
      refine tw_push rfl ?_
      refine tw_iadd rfl ?_
      refine tw_put rfl (fun f533 => ?_)
      refine tG_setm f533 (hw_111_28 f533 (ggp532).1) (fun hf533 ef533 => ?_)
      try dsimp only [tvI_i] at ef533
      have gf533 := mFr_s ggp532 ef533 (by unfold mFs; omega)
      have wf533 := (sgm_k kp530 60 (by decide)).mp q531
      obtain ⟨pf533, sf533, tf533⟩ := mTo pp532e ((mFr_n ggp532).trans hN) ef533 (v := (ms h).1 + 1) (zincN (n := (ms h).1) (by rw [mPl pp532e, sp532]) (by omega)) wf533.1
      rw [sp532] at sf533
      refine tw_iload rfl rfl ?_
      refine tw_push rfl ?_
      refine tw_ic_eq rfl (fun q534 => ?_) (fun q534 => ?_)
      · try dsimp only [tvI_i, tvJ_j, tvR_r] at q534
        have q534i := zeqi (Y := 61) (by decide) q534
        exact absurd (q531.symm.trans q534) (by decide)
      · try dsimp only [tvI_i, tvJ_j, tvR_r] at q534
        have q534i := zneq (Y := 61) (by decide) q534
        refine tw_aload rfl rfl ?_
        refine tw_virt0 rfl (g_sign hG hX (gf533).1 ((mFr_T gf533).trans hT) ((mFr_n gf533).trans hN) ⟨pf533.2.1.1, by have := pf533.2.1; omega⟩) (fun wp535 hp535 p535 => ?_)
        obtain ⟨⟨cp535, rfl, kp535⟩, rfl⟩ := p535
        refine tw_push rfl ?_
        refine tw_ic_ne rfl (fun q536 => ?_) (fun q536 => ?_)
        · try dsimp only [tvI_i, tvJ_j, tvR_r] at q536
          have q536i := zneq (Y := 61) (by decide) q536
          refine tw_push rfl ?_
          refine tw_istore rfl ?_
          refine tw_aload rfl rfl ?_
          refine tw_dup rfl ?_
          refine tw_getS rfl (hi_111_28 (gf533).1) ?_
          refine tw_iload rfl rfl ?_
          refine tw_if_eq rfl (fun _ => ?_) (fun z => absurd z (by decide))
          refine tw_push rfl ?_
          refine tw_iadd rfl ?_
          refine tw_put rfl (fun f537 => ?_)
          refine tG_setm f537 (hw_111_28 f537 (gf533).1) (fun hf537 ef537 => ?_)
          try dsimp only [tvI_i] at ef537
          have gf537 := mFr_s gf533 ef537 (by unfold mFs; omega)
          obtain ⟨pf537, sf537, tf537⟩ := mTo pf533 ((mFr_n gf533).trans hN) ef537 (v := (ms h).1 + 1 + 0) (zp0 (by rw [mPl pf533, sf533]; rfl)) (by have z := mPle pf533 ((mFr_n gf533).trans hN); rw [sf533] at z; exact z)
          rw [sf533] at sf537
          refine tw_iload rfl rfl ?_
          refine tw_push rfl ?_
          refine tw_ic_ne rfl (fun q538 => ?_) (fun q538 => ?_)
          · try dsimp only [tvI_i, tvJ_j, tvR_r] at q538
            have q538i := zneq (Y := 61) (by decide) q538
            refine tw_iload rfl rfl ?_
            refine tw_push rfl ?_
            refine tw_ic_ne rfl (fun q539 => ?_) (fun q539 => ?_)
            · try dsimp only [tvI_i, tvJ_j, tvR_r] at q539
              have q539i := zneq (Y := 60) (by decide) q539
              exact absurd q531 q539
            · try dsimp only [tvI_i, tvJ_j, tvR_r] at q539
              have q539i := zeqi (Y := 60) (by decide) q539
              refine tw_iload rfl rfl ?_
              refine tw_if_eq rfl (fun _ => ?_) (fun z => absurd z (by decide))
              refine tw_push rfl ?_
              refine tw_goto rfl ?_
              have w9 := (sgm_k kp530 60 (by decide)).mp q531
              have hk2 := sgm_k kp535 61 (by decide)
              rw [sf533] at hk2
              have hk2 : _ ↔ ((ms h).1 + 1 < n ∧ T ((ms h).1 + 1) = 61) := hk2
              have hq9 := (cm60 w9).trans (if_neg (fun z => q536 (hk2.mpr z)))
              exact tw_iret rfl ⟨gf537, Or.inr ⟨(100103, (ms h).1 + 1), hq9, Or.inl ⟨np532, ⟨5, rfl, cmw (k := 5) (C := 100103) rfl rfl⟩, pf537, sf537, tf537.trans (tf533.trans tp532), (mI_o ef537 (by decide)).trans ((mI_o ef533 (by decide)).trans dp532)⟩⟩⟩
          · try dsimp only [tvI_i, tvJ_j, tvR_r] at q538
            have q538i := zeqi (Y := 61) (by decide) q538
            exact absurd (q531.symm.trans q538) (by decide)
        · try dsimp only [tvI_i, tvJ_j, tvR_r] at q536
          have q536i := zeqi (Y := 61) (by decide) q536
          refine tw_push rfl ?_
          refine tw_goto rfl ?_
          refine tw_istore rfl ?_
          refine tw_aload rfl rfl ?_
          refine tw_dup rfl ?_
          refine tw_getS rfl (hi_111_28 (gf533).1) ?_
          refine tw_iload rfl rfl ?_
          refine tw_if_eq rfl (fun z => absurd z (by decide)) (fun _ => ?_)
          refine tw_push rfl ?_
          refine tw_goto rfl ?_
          refine tw_iadd rfl ?_
          refine tw_put rfl (fun f540 => ?_)
          refine tG_setm f540 (hw_111_28 f540 (gf533).1) (fun hf540 ef540 => ?_)
          try dsimp only [tvI_i] at ef540
          have gf540 := mFr_s gf533 ef540 (by unfold mFs; omega)
          have vf540 := (sgm_k kp535 61 (by decide)).mp q536
          rw [sf533] at vf540
          have vf540 : (ms h).1 + 1 < n ∧ T ((ms h).1 + 1) = 61 := vf540
          obtain ⟨pf540, sf540, tf540⟩ := mTo pf533 ((mFr_n gf533).trans hN) ef540 (v := (ms h).1 + 1 + 1) (zincN (n := (ms h).1 + 1) (by rw [mPl pf533, sf533]; rfl) (by omega)) (by omega)
          rw [sf533] at sf540
          refine tw_iload rfl rfl ?_
          refine tw_push rfl ?_
          refine tw_ic_ne rfl (fun q541 => ?_) (fun q541 => ?_)
          · try dsimp only [tvI_i, tvJ_j, tvR_r] at q541
            have q541i := zneq (Y := 61) (by decide) q541
            refine tw_iload rfl rfl ?_
            refine tw_push rfl ?_
            refine tw_ic_ne rfl (fun q542 => ?_) (fun q542 => ?_)
            · try dsimp only [tvI_i, tvJ_j, tvR_r] at q542
              have q542i := zneq (Y := 60) (by decide) q542
              exact absurd q531 q542
            · try dsimp only [tvI_i, tvJ_j, tvR_r] at q542
              have q542i := zeqi (Y := 60) (by decide) q542
              refine tw_iload rfl rfl ?_
              refine tw_if_eq rfl (fun z => absurd z (by decide)) (fun _ => ?_)
              refine tw_push rfl ?_
              refine tw_goto rfl ?_
              have w9 := (sgm_k kp530 60 (by decide)).mp q531
              have hk2 := sgm_k kp535 61 (by decide)
              rw [sf533] at hk2
              have hk2 : _ ↔ ((ms h).1 + 1 < n ∧ T ((ms h).1 + 1) = 61) := hk2
              have hq9 := (cm60 w9).trans (if_pos (hk2.mp q536))
              exact tw_iret rfl ⟨gf540, Or.inr ⟨(100104, (ms h).1 + 2), hq9, Or.inl ⟨np532, ⟨6, rfl, cmw (k := 6) (C := 100104) rfl rfl⟩, pf540, sf540, tf540.trans (tf533.trans tp532), (mI_o ef540 (by decide)).trans ((mI_o ef533 (by decide)).trans dp532)⟩⟩⟩
          · try dsimp only [tvI_i, tvJ_j, tvR_r] at q541
            have q541i := zeqi (Y := 61) (by decide) q541
            exact absurd (q531.symm.trans q541) (by decide)
    · have ggp532 := mFr_t g0 gp532
      refine tw_aload rfl rfl ?_
      refine tw_dup rfl ?_
      refine tw_getS rfl (hi_111_28 ggp532.1) ?_
      refine tw_push rfl ?_
      refine tw_iadd rfl ?_
      refine tw_put rfl (fun f543 => ?_)
      refine tG_setm f543 (hw_111_28 f543 (ggp532).1) (fun hf543 ef543 => ?_)
      try dsimp only [tvI_i] at ef543
      have gf543 := mFr_s ggp532 ef543 (by unfold mFs; omega)
      have zf543 := mFt_s Fp532 ef543 (by decide)
      have ZBf543 : mZp hp532 := mZp_k (mZp_p hp) ip532 jp532
      have yf543 : (tvI (tF hp532 111 28) + 1).toInt = (((ms h).1 + 1 : Nat) : Int) := zp1 (by rw [ip532]; exact mPl hp) (by omega)
      have Zf543 : mZp hf543 := mZp_s ZBf543 ef543 (by omega)
      refine tw_iload rfl rfl ?_
      refine tw_push rfl ?_
      refine tw_ic_eq rfl (fun q544 => ?_) (fun q544 => ?_)
      · try dsimp only [tvI_i, tvJ_j, tvR_r] at q544
        have q544i := zeqi (Y := 61) (by decide) q544
        exact absurd (q531.symm.trans q544) (by decide)
      · try dsimp only [tvI_i, tvJ_j, tvR_r] at q544
        have q544i := zneq (Y := 61) (by decide) q544
        refine tw_aload rfl rfl ?_
        refine tw_virt0 rfl (g_sign hG hX (gf543).1 ((mFr_T gf543).trans hT) ((mFr_n gf543).trans hN) Zf543.1) (fun wp545 hp545 p545 => ?_)
        obtain ⟨⟨cp545, rfl, kp545⟩, rfl⟩ := p545
        refine tw_push rfl ?_
        refine tw_ic_ne rfl (fun q546 => ?_) (fun q546 => ?_)
        · try dsimp only [tvI_i, tvJ_j, tvR_r] at q546
          have q546i := zneq (Y := 61) (by decide) q546
          refine tw_push rfl ?_
          refine tw_istore rfl ?_
          refine tw_aload rfl rfl ?_
          refine tw_dup rfl ?_
          refine tw_getS rfl (hi_111_28 (gf543).1) ?_
          refine tw_iload rfl rfl ?_
          refine tw_if_eq rfl (fun _ => ?_) (fun z => absurd z (by decide))
          refine tw_push rfl ?_
          refine tw_iadd rfl ?_
          refine tw_put rfl (fun f547 => ?_)
          refine tG_setm f547 (hw_111_28 f547 (gf543).1) (fun hf547 ef547 => ?_)
          try dsimp only [tvI_i] at ef547
          have gf547 := mFr_s gf543 ef547 (by unfold mFs; omega)
          have zf547 := mFt_s zf543 ef547 (by decide)
          have xf547 : (tvI (tF hf543 111 28)).toInt = (((ms h).1 + 1 : Nat) : Int) := by rw [mI_x ef543]; exact yf543
          have Zf547 : mZp hf547 := mZp_s Zf543 ef547 (by have y := zp0 xf547; omega)
          refine tw_iload rfl rfl ?_
          refine tw_push rfl ?_
          refine tw_ic_ne rfl (fun q548 => ?_) (fun q548 => ?_)
          · try dsimp only [tvI_i, tvJ_j, tvR_r] at q548
            have q548i := zneq (Y := 61) (by decide) q548
            refine tw_iload rfl rfl ?_
            refine tw_push rfl ?_
            refine tw_ic_ne rfl (fun q549 => ?_) (fun q549 => ?_)
            · try dsimp only [tvI_i, tvJ_j, tvR_r] at q549
              have q549i := zneq (Y := 60) (by decide) q549
              exact absurd q531 q549
            · try dsimp only [tvI_i, tvJ_j, tvR_r] at q549
              have q549i := zeqi (Y := 60) (by decide) q549
              refine tw_iload rfl rfl ?_
              refine tw_if_eq rfl (fun _ => ?_) (fun z => absurd z (by decide))
              refine tw_push rfl ?_
              refine tw_goto rfl ?_
              have w9 := (sgm_k kp530 60 (by decide)).mp q531
              obtain ⟨q9, hq9⟩ := cm_s (Or.inr (Or.inl w9))
              exact tw_iret rfl ⟨gf547, Or.inr ⟨q9, hq9, Or.inr ⟨np532, _, rfl, by decide, by decide, zf547, Zf547⟩⟩⟩
          · try dsimp only [tvI_i, tvJ_j, tvR_r] at q548
            have q548i := zeqi (Y := 61) (by decide) q548
            exact absurd (q531.symm.trans q548) (by decide)
        · try dsimp only [tvI_i, tvJ_j, tvR_r] at q546
          have q546i := zeqi (Y := 61) (by decide) q546
          refine tw_push rfl ?_
          refine tw_goto rfl ?_
          refine tw_istore rfl ?_
          refine tw_aload rfl rfl ?_
          refine tw_dup rfl ?_
          refine tw_getS rfl (hi_111_28 (gf543).1) ?_
          refine tw_iload rfl rfl ?_
          refine tw_if_eq rfl (fun z => absurd z (by decide)) (fun _ => ?_)
          refine tw_push rfl ?_
          refine tw_goto rfl ?_
          refine tw_iadd rfl ?_
          refine tw_put rfl (fun f550 => ?_)
          refine tG_setm f550 (hw_111_28 f550 (gf543).1) (fun hf550 ef550 => ?_)
          try dsimp only [tvI_i] at ef550
          have gf550 := mFr_s gf543 ef550 (by unfold mFs; omega)
          have zf550 := mFt_s zf543 ef550 (by decide)
          have xf550 : (tvI (tF hf543 111 28)).toInt = (((ms h).1 + 1 : Nat) : Int) := by rw [mI_x ef543]; exact yf543
          have Zf550 : mZp hf550 := mZp_s Zf543 ef550 (by have y := zp1 xf550 (by omega); omega)
          refine tw_iload rfl rfl ?_
          refine tw_push rfl ?_
          refine tw_ic_ne rfl (fun q551 => ?_) (fun q551 => ?_)
          · try dsimp only [tvI_i, tvJ_j, tvR_r] at q551
            have q551i := zneq (Y := 61) (by decide) q551
            refine tw_iload rfl rfl ?_
            refine tw_push rfl ?_
            refine tw_ic_ne rfl (fun q552 => ?_) (fun q552 => ?_)
            · try dsimp only [tvI_i, tvJ_j, tvR_r] at q552
              have q552i := zneq (Y := 60) (by decide) q552
              exact absurd q531 q552
            · try dsimp only [tvI_i, tvJ_j, tvR_r] at q552
              have q552i := zeqi (Y := 60) (by decide) q552
              refine tw_iload rfl rfl ?_
              refine tw_if_eq rfl (fun z => absurd z (by decide)) (fun _ => ?_)
              refine tw_push rfl ?_
              refine tw_goto rfl ?_
              have w9 := (sgm_k kp530 60 (by decide)).mp q531
              obtain ⟨q9, hq9⟩ := cm_s (Or.inr (Or.inl w9))
              exact tw_iret rfl ⟨gf550, Or.inr ⟨q9, hq9, Or.inr ⟨np532, _, rfl, by decide, by decide, zf550, Zf550⟩⟩⟩
          · try dsimp only [tvI_i, tvJ_j, tvR_r] at q551
            have q551i := zeqi (Y := 61) (by decide) q551
            exact absurd (q531.symm.trans q551) (by decide)
  · try dsimp only [tvI_i, tvJ_j, tvR_r] at q531
    have q531i := zneq (Y := 60) (by decide) q531
    refine tw_iload rfl rfl ?_
    refine tw_push rfl ?_
    refine tw_ic_eq rfl (fun q553 => ?_) (fun q553 => ?_)
    · try dsimp only [tvI_i, tvJ_j, tvR_r] at q553
      have q553i := zeqi (Y := 62) (by decide) q553
      refine tw_aload rfl rfl ?_
      refine tw_aload rfl rfl ?_
      refine tw_getS rfl (hi_111_28 (g0).1) ?_
      refine tw_virt1 rfl (g_counts hG hX (g0).1 hp ((mFr_T g0).trans hT) ((mFr_n g0).trans hN) (b := (ms h).1) (mPl hp) (by omega)) (fun w9 hp554 p554 => ?_)
      obtain ⟨rfl, gp554, ⟨np554, pp554e, sp554, tp554, dp554⟩ | ⟨np554, Fp554⟩, ip554, jp554⟩ := p554
      · have ggp554 := mFr_t g0 gp554
        refine tw_aload rfl rfl ?_
        refine tw_dup rfl ?_
        refine tw_getS rfl (hi_111_28 ggp554.1) ?_
        refine tw_push rfl ?_
        refine tw_iadd rfl ?_
        refine tw_put rfl (fun f555 => ?_)
        refine tG_setm f555 (hw_111_28 f555 (ggp554).1) (fun hf555 ef555 => ?_)
        try dsimp only [tvI_i] at ef555
        have gf555 := mFr_s ggp554 ef555 (by unfold mFs; omega)
        have wf555 := (sgm_k kp530 62 (by decide)).mp q553
        obtain ⟨pf555, sf555, tf555⟩ := mTo pp554e ((mFr_n ggp554).trans hN) ef555 (v := (ms h).1 + 1) (zincN (n := (ms h).1) (by rw [mPl pp554e, sp554]) (by omega)) wf555.1
        rw [sp554] at sf555
        refine tw_iload rfl rfl ?_
        refine tw_push rfl ?_
        refine tw_ic_eq rfl (fun q556 => ?_) (fun q556 => ?_)
        · try dsimp only [tvI_i, tvJ_j, tvR_r] at q556
          have q556i := zeqi (Y := 61) (by decide) q556
          exact absurd (q553.symm.trans q556) (by decide)
        · try dsimp only [tvI_i, tvJ_j, tvR_r] at q556
          have q556i := zneq (Y := 61) (by decide) q556
          refine tw_aload rfl rfl ?_
          refine tw_virt0 rfl (g_sign hG hX (gf555).1 ((mFr_T gf555).trans hT) ((mFr_n gf555).trans hN) ⟨pf555.2.1.1, by have := pf555.2.1; omega⟩) (fun wp557 hp557 p557 => ?_)
          obtain ⟨⟨cp557, rfl, kp557⟩, rfl⟩ := p557
          refine tw_push rfl ?_
          refine tw_ic_ne rfl (fun q558 => ?_) (fun q558 => ?_)
          · try dsimp only [tvI_i, tvJ_j, tvR_r] at q558
            have q558i := zneq (Y := 61) (by decide) q558
            refine tw_push rfl ?_
            refine tw_istore rfl ?_
            refine tw_aload rfl rfl ?_
            refine tw_dup rfl ?_
            refine tw_getS rfl (hi_111_28 (gf555).1) ?_
            refine tw_iload rfl rfl ?_
            refine tw_if_eq rfl (fun _ => ?_) (fun z => absurd z (by decide))
            refine tw_push rfl ?_
            refine tw_iadd rfl ?_
            refine tw_put rfl (fun f559 => ?_)
            refine tG_setm f559 (hw_111_28 f559 (gf555).1) (fun hf559 ef559 => ?_)
            try dsimp only [tvI_i] at ef559
            have gf559 := mFr_s gf555 ef559 (by unfold mFs; omega)
            obtain ⟨pf559, sf559, tf559⟩ := mTo pf555 ((mFr_n gf555).trans hN) ef559 (v := (ms h).1 + 1 + 0) (zp0 (by rw [mPl pf555, sf555]; rfl)) (by have z := mPle pf555 ((mFr_n gf555).trans hN); rw [sf555] at z; exact z)
            rw [sf555] at sf559
            refine tw_iload rfl rfl ?_
            refine tw_push rfl ?_
            refine tw_ic_ne rfl (fun q560 => ?_) (fun q560 => ?_)
            · try dsimp only [tvI_i, tvJ_j, tvR_r] at q560
              have q560i := zneq (Y := 61) (by decide) q560
              refine tw_iload rfl rfl ?_
              refine tw_push rfl ?_
              refine tw_ic_ne rfl (fun q561 => ?_) (fun q561 => ?_)
              · try dsimp only [tvI_i, tvJ_j, tvR_r] at q561
                have q561i := zneq (Y := 60) (by decide) q561
                refine tw_iload rfl rfl ?_
                refine tw_if_eq rfl (fun _ => ?_) (fun z => absurd z (by decide))
                refine tw_push rfl ?_
                have w9 := (sgm_k kp530 62 (by decide)).mp q553
                have hk2 := sgm_k kp557 61 (by decide)
                rw [sf555] at hk2
                have hk2 : _ ↔ ((ms h).1 + 1 < n ∧ T ((ms h).1 + 1) = 61) := hk2
                have hq9 := (cm62 w9).trans (if_neg (fun z => q558 (hk2.mpr z)))
                exact tw_iret rfl ⟨gf559, Or.inr ⟨(100107, (ms h).1 + 1), hq9, Or.inl ⟨np554, ⟨9, rfl, cmw (k := 9) (C := 100107) rfl rfl⟩, pf559, sf559, tf559.trans (tf555.trans tp554), (mI_o ef559 (by decide)).trans ((mI_o ef555 (by decide)).trans dp554)⟩⟩⟩
              · try dsimp only [tvI_i, tvJ_j, tvR_r] at q561
                have q561i := zeqi (Y := 60) (by decide) q561
                exact absurd (q553.symm.trans q561) (by decide)
            · try dsimp only [tvI_i, tvJ_j, tvR_r] at q560
              have q560i := zeqi (Y := 61) (by decide) q560
              exact absurd (q553.symm.trans q560) (by decide)
          · try dsimp only [tvI_i, tvJ_j, tvR_r] at q558
            have q558i := zeqi (Y := 61) (by decide) q558
            refine tw_push rfl ?_
            refine tw_goto rfl ?_
            refine tw_istore rfl ?_
            refine tw_aload rfl rfl ?_
            refine tw_dup rfl ?_
            refine tw_getS rfl (hi_111_28 (gf555).1) ?_
            refine tw_iload rfl rfl ?_
            refine tw_if_eq rfl (fun z => absurd z (by decide)) (fun _ => ?_)
            refine tw_push rfl ?_
            refine tw_goto rfl ?_
            refine tw_iadd rfl ?_
            refine tw_put rfl (fun f562 => ?_)
            refine tG_setm f562 (hw_111_28 f562 (gf555).1) (fun hf562 ef562 => ?_)
            try dsimp only [tvI_i] at ef562
            have gf562 := mFr_s gf555 ef562 (by unfold mFs; omega)
            have vf562 := (sgm_k kp557 61 (by decide)).mp q558
            rw [sf555] at vf562
            have vf562 : (ms h).1 + 1 < n ∧ T ((ms h).1 + 1) = 61 := vf562
            obtain ⟨pf562, sf562, tf562⟩ := mTo pf555 ((mFr_n gf555).trans hN) ef562 (v := (ms h).1 + 1 + 1) (zincN (n := (ms h).1 + 1) (by rw [mPl pf555, sf555]; rfl) (by omega)) (by omega)
            rw [sf555] at sf562
            refine tw_iload rfl rfl ?_
            refine tw_push rfl ?_
            refine tw_ic_ne rfl (fun q563 => ?_) (fun q563 => ?_)
            · try dsimp only [tvI_i, tvJ_j, tvR_r] at q563
              have q563i := zneq (Y := 61) (by decide) q563
              refine tw_iload rfl rfl ?_
              refine tw_push rfl ?_
              refine tw_ic_ne rfl (fun q564 => ?_) (fun q564 => ?_)
              · try dsimp only [tvI_i, tvJ_j, tvR_r] at q564
                have q564i := zneq (Y := 60) (by decide) q564
                refine tw_iload rfl rfl ?_
                refine tw_if_eq rfl (fun z => absurd z (by decide)) (fun _ => ?_)
                refine tw_push rfl ?_
                refine tw_goto rfl ?_
                have w9 := (sgm_k kp530 62 (by decide)).mp q553
                have hk2 := sgm_k kp557 61 (by decide)
                rw [sf555] at hk2
                have hk2 : _ ↔ ((ms h).1 + 1 < n ∧ T ((ms h).1 + 1) = 61) := hk2
                have hq9 := (cm62 w9).trans (if_pos (hk2.mp q558))
                exact tw_iret rfl ⟨gf562, Or.inr ⟨(100106, (ms h).1 + 2), hq9, Or.inl ⟨np554, ⟨8, rfl, cmw (k := 8) (C := 100106) rfl rfl⟩, pf562, sf562, tf562.trans (tf555.trans tp554), (mI_o ef562 (by decide)).trans ((mI_o ef555 (by decide)).trans dp554)⟩⟩⟩
              · try dsimp only [tvI_i, tvJ_j, tvR_r] at q564
                have q564i := zeqi (Y := 60) (by decide) q564
                exact absurd (q553.symm.trans q564) (by decide)
            · try dsimp only [tvI_i, tvJ_j, tvR_r] at q563
              have q563i := zeqi (Y := 61) (by decide) q563
              exact absurd (q553.symm.trans q563) (by decide)
      · have ggp554 := mFr_t g0 gp554
        refine tw_aload rfl rfl ?_
        refine tw_dup rfl ?_
        refine tw_getS rfl (hi_111_28 ggp554.1) ?_
        refine tw_push rfl ?_
        refine tw_iadd rfl ?_
        refine tw_put rfl (fun f565 => ?_)
        refine tG_setm f565 (hw_111_28 f565 (ggp554).1) (fun hf565 ef565 => ?_)
        try dsimp only [tvI_i] at ef565
        have gf565 := mFr_s ggp554 ef565 (by unfold mFs; omega)
        have zf565 := mFt_s Fp554 ef565 (by decide)
        have ZBf565 : mZp hp554 := mZp_k (mZp_p hp) ip554 jp554
        have yf565 : (tvI (tF hp554 111 28) + 1).toInt = (((ms h).1 + 1 : Nat) : Int) := zp1 (by rw [ip554]; exact mPl hp) (by omega)
        have Zf565 : mZp hf565 := mZp_s ZBf565 ef565 (by omega)
        refine tw_iload rfl rfl ?_
        refine tw_push rfl ?_
        refine tw_ic_eq rfl (fun q566 => ?_) (fun q566 => ?_)
        · try dsimp only [tvI_i, tvJ_j, tvR_r] at q566
          have q566i := zeqi (Y := 61) (by decide) q566
          exact absurd (q553.symm.trans q566) (by decide)
        · try dsimp only [tvI_i, tvJ_j, tvR_r] at q566
          have q566i := zneq (Y := 61) (by decide) q566
          refine tw_aload rfl rfl ?_
          refine tw_virt0 rfl (g_sign hG hX (gf565).1 ((mFr_T gf565).trans hT) ((mFr_n gf565).trans hN) Zf565.1) (fun wp567 hp567 p567 => ?_)
          obtain ⟨⟨cp567, rfl, kp567⟩, rfl⟩ := p567
          refine tw_push rfl ?_
          refine tw_ic_ne rfl (fun q568 => ?_) (fun q568 => ?_)
          · try dsimp only [tvI_i, tvJ_j, tvR_r] at q568
            have q568i := zneq (Y := 61) (by decide) q568
            refine tw_push rfl ?_
            refine tw_istore rfl ?_
            refine tw_aload rfl rfl ?_
            refine tw_dup rfl ?_
            refine tw_getS rfl (hi_111_28 (gf565).1) ?_
            refine tw_iload rfl rfl ?_
            refine tw_if_eq rfl (fun _ => ?_) (fun z => absurd z (by decide))
            refine tw_push rfl ?_
            refine tw_iadd rfl ?_
            refine tw_put rfl (fun f569 => ?_)
            refine tG_setm f569 (hw_111_28 f569 (gf565).1) (fun hf569 ef569 => ?_)
            try dsimp only [tvI_i] at ef569
            have gf569 := mFr_s gf565 ef569 (by unfold mFs; omega)
            have zf569 := mFt_s zf565 ef569 (by decide)
            have xf569 : (tvI (tF hf565 111 28)).toInt = (((ms h).1 + 1 : Nat) : Int) := by rw [mI_x ef565]; exact yf565
            have Zf569 : mZp hf569 := mZp_s Zf565 ef569 (by have y := zp0 xf569; omega)
            refine tw_iload rfl rfl ?_
            refine tw_push rfl ?_
            refine tw_ic_ne rfl (fun q570 => ?_) (fun q570 => ?_)
            · try dsimp only [tvI_i, tvJ_j, tvR_r] at q570
              have q570i := zneq (Y := 61) (by decide) q570
              refine tw_iload rfl rfl ?_
              refine tw_push rfl ?_
              refine tw_ic_ne rfl (fun q571 => ?_) (fun q571 => ?_)
              · try dsimp only [tvI_i, tvJ_j, tvR_r] at q571
                have q571i := zneq (Y := 60) (by decide) q571
                refine tw_iload rfl rfl ?_
                refine tw_if_eq rfl (fun _ => ?_) (fun z => absurd z (by decide))
                refine tw_push rfl ?_
                have w9 := (sgm_k kp530 62 (by decide)).mp q553
                obtain ⟨q9, hq9⟩ := cm_s (Or.inr (Or.inr w9))
                exact tw_iret rfl ⟨gf569, Or.inr ⟨q9, hq9, Or.inr ⟨np554, _, rfl, by decide, by decide, zf569, Zf569⟩⟩⟩
              · try dsimp only [tvI_i, tvJ_j, tvR_r] at q571
                have q571i := zeqi (Y := 60) (by decide) q571
                exact absurd (q553.symm.trans q571) (by decide)
            · try dsimp only [tvI_i, tvJ_j, tvR_r] at q570
              have q570i := zeqi (Y := 61) (by decide) q570
              exact absurd (q553.symm.trans q570) (by decide)
          · try dsimp only [tvI_i, tvJ_j, tvR_r] at q568
            have q568i := zeqi (Y := 61) (by decide) q568
            refine tw_push rfl ?_
            refine tw_goto rfl ?_
            refine tw_istore rfl ?_
            refine tw_aload rfl rfl ?_
            refine tw_dup rfl ?_
            refine tw_getS rfl (hi_111_28 (gf565).1) ?_
            refine tw_iload rfl rfl ?_
            refine tw_if_eq rfl (fun z => absurd z (by decide)) (fun _ => ?_)
            refine tw_push rfl ?_
            refine tw_goto rfl ?_
            refine tw_iadd rfl ?_
            refine tw_put rfl (fun f572 => ?_)
            refine tG_setm f572 (hw_111_28 f572 (gf565).1) (fun hf572 ef572 => ?_)
            try dsimp only [tvI_i] at ef572
            have gf572 := mFr_s gf565 ef572 (by unfold mFs; omega)
            have zf572 := mFt_s zf565 ef572 (by decide)
            have xf572 : (tvI (tF hf565 111 28)).toInt = (((ms h).1 + 1 : Nat) : Int) := by rw [mI_x ef565]; exact yf565
            have Zf572 : mZp hf572 := mZp_s Zf565 ef572 (by have y := zp1 xf572 (by omega); omega)
            refine tw_iload rfl rfl ?_
            refine tw_push rfl ?_
            refine tw_ic_ne rfl (fun q573 => ?_) (fun q573 => ?_)
            · try dsimp only [tvI_i, tvJ_j, tvR_r] at q573
              have q573i := zneq (Y := 61) (by decide) q573
              refine tw_iload rfl rfl ?_
              refine tw_push rfl ?_
              refine tw_ic_ne rfl (fun q574 => ?_) (fun q574 => ?_)
              · try dsimp only [tvI_i, tvJ_j, tvR_r] at q574
                have q574i := zneq (Y := 60) (by decide) q574
                refine tw_iload rfl rfl ?_
                refine tw_if_eq rfl (fun z => absurd z (by decide)) (fun _ => ?_)
                refine tw_push rfl ?_
                refine tw_goto rfl ?_
                have w9 := (sgm_k kp530 62 (by decide)).mp q553
                obtain ⟨q9, hq9⟩ := cm_s (Or.inr (Or.inr w9))
                exact tw_iret rfl ⟨gf572, Or.inr ⟨q9, hq9, Or.inr ⟨np554, _, rfl, by decide, by decide, zf572, Zf572⟩⟩⟩
              · try dsimp only [tvI_i, tvJ_j, tvR_r] at q574
                have q574i := zeqi (Y := 60) (by decide) q574
                exact absurd (q553.symm.trans q574) (by decide)
            · try dsimp only [tvI_i, tvJ_j, tvR_r] at q573
              have q573i := zeqi (Y := 61) (by decide) q573
              exact absurd (q553.symm.trans q573) (by decide)
    · try dsimp only [tvI_i, tvJ_j, tvR_r] at q553
      have q553i := zneq (Y := 62) (by decide) q553
      refine tw_iload rfl rfl ?_
      refine tw_push rfl ?_
      refine tw_ic_eq rfl (fun q575 => ?_) (fun q575 => ?_)
      · try dsimp only [tvI_i, tvJ_j, tvR_r] at q575
        have q575i := zeqi (Y := 61) (by decide) q575
        refine tw_aload rfl rfl ?_
        refine tw_aload rfl rfl ?_
        refine tw_getS rfl (hi_111_28 (g0).1) ?_
        refine tw_virt1 rfl (g_counts hG hX (g0).1 hp ((mFr_T g0).trans hT) ((mFr_n g0).trans hN) (b := (ms h).1) (mPl hp) (by omega)) (fun w9 hp576 p576 => ?_)
        obtain ⟨rfl, gp576, ⟨np576, pp576e, sp576, tp576, dp576⟩ | ⟨np576, Fp576⟩, ip576, jp576⟩ := p576
        · have ggp576 := mFr_t g0 gp576
          refine tw_aload rfl rfl ?_
          refine tw_dup rfl ?_
          refine tw_getS rfl (hi_111_28 ggp576.1) ?_
          refine tw_push rfl ?_
          refine tw_iadd rfl ?_
          refine tw_put rfl (fun f577 => ?_)
          refine tG_setm f577 (hw_111_28 f577 (ggp576).1) (fun hf577 ef577 => ?_)
          try dsimp only [tvI_i] at ef577
          have gf577 := mFr_s ggp576 ef577 (by unfold mFs; omega)
          have wf577 := (sgm_k kp530 61 (by decide)).mp q575
          obtain ⟨pf577, sf577, tf577⟩ := mTo pp576e ((mFr_n ggp576).trans hN) ef577 (v := (ms h).1 + 1) (zincN (n := (ms h).1) (by rw [mPl pp576e, sp576]) (by omega)) wf577.1
          rw [sp576] at sf577
          refine tw_iload rfl rfl ?_
          refine tw_push rfl ?_
          refine tw_ic_eq rfl (fun q578 => ?_) (fun q578 => ?_)
          · try dsimp only [tvI_i, tvJ_j, tvR_r] at q578
            have q578i := zeqi (Y := 61) (by decide) q578
            refine tw_push rfl ?_
            refine tw_istore rfl ?_
            refine tw_aload rfl rfl ?_
            refine tw_dup rfl ?_
            refine tw_getS rfl (hi_111_28 (gf577).1) ?_
            refine tw_iload rfl rfl ?_
            refine tw_if_eq rfl (fun _ => ?_) (fun z => absurd z (by decide))
            refine tw_push rfl ?_
            refine tw_iadd rfl ?_
            refine tw_put rfl (fun f579 => ?_)
            refine tG_setm f579 (hw_111_28 f579 (gf577).1) (fun hf579 ef579 => ?_)
            try dsimp only [tvI_i] at ef579
            have gf579 := mFr_s gf577 ef579 (by unfold mFs; omega)
            obtain ⟨pf579, sf579, tf579⟩ := mTo pf577 ((mFr_n gf577).trans hN) ef579 (v := (ms h).1 + 1 + 0) (zp0 (by rw [mPl pf577, sf577]; rfl)) (by have z := mPle pf577 ((mFr_n gf577).trans hN); rw [sf577] at z; exact z)
            rw [sf577] at sf579
            refine tw_iload rfl rfl ?_
            refine tw_push rfl ?_
            refine tw_ic_ne rfl (fun q580 => ?_) (fun q580 => ?_)
            · try dsimp only [tvI_i, tvJ_j, tvR_r] at q580
              have q580i := zneq (Y := 61) (by decide) q580
              exact absurd q575 q580
            · try dsimp only [tvI_i, tvJ_j, tvR_r] at q580
              have q580i := zeqi (Y := 61) (by decide) q580
              refine tw_push rfl ?_
              refine tw_goto rfl ?_
              have w9 := (sgm_k kp530 61 (by decide)).mp q575
              have hq9 := cm61 w9
              exact tw_iret rfl ⟨gf579, Or.inr ⟨(100105, (ms h).1 + 1), hq9, Or.inl ⟨np576, ⟨7, rfl, cmw (k := 7) (C := 100105) rfl rfl⟩, pf579, sf579, tf579.trans (tf577.trans tp576), (mI_o ef579 (by decide)).trans ((mI_o ef577 (by decide)).trans dp576)⟩⟩⟩
          · try dsimp only [tvI_i, tvJ_j, tvR_r] at q578
            have q578i := zneq (Y := 61) (by decide) q578
            exact absurd q575 q578
        · have ggp576 := mFr_t g0 gp576
          refine tw_aload rfl rfl ?_
          refine tw_dup rfl ?_
          refine tw_getS rfl (hi_111_28 ggp576.1) ?_
          refine tw_push rfl ?_
          refine tw_iadd rfl ?_
          refine tw_put rfl (fun f581 => ?_)
          refine tG_setm f581 (hw_111_28 f581 (ggp576).1) (fun hf581 ef581 => ?_)
          try dsimp only [tvI_i] at ef581
          have gf581 := mFr_s ggp576 ef581 (by unfold mFs; omega)
          have zf581 := mFt_s Fp576 ef581 (by decide)
          have ZBf581 : mZp hp576 := mZp_k (mZp_p hp) ip576 jp576
          have yf581 : (tvI (tF hp576 111 28) + 1).toInt = (((ms h).1 + 1 : Nat) : Int) := zp1 (by rw [ip576]; exact mPl hp) (by omega)
          have Zf581 : mZp hf581 := mZp_s ZBf581 ef581 (by omega)
          refine tw_iload rfl rfl ?_
          refine tw_push rfl ?_
          refine tw_ic_eq rfl (fun q582 => ?_) (fun q582 => ?_)
          · try dsimp only [tvI_i, tvJ_j, tvR_r] at q582
            have q582i := zeqi (Y := 61) (by decide) q582
            refine tw_push rfl ?_
            refine tw_istore rfl ?_
            refine tw_aload rfl rfl ?_
            refine tw_dup rfl ?_
            refine tw_getS rfl (hi_111_28 (gf581).1) ?_
            refine tw_iload rfl rfl ?_
            refine tw_if_eq rfl (fun _ => ?_) (fun z => absurd z (by decide))
            refine tw_push rfl ?_
            refine tw_iadd rfl ?_
            refine tw_put rfl (fun f583 => ?_)
            refine tG_setm f583 (hw_111_28 f583 (gf581).1) (fun hf583 ef583 => ?_)
            try dsimp only [tvI_i] at ef583
            have gf583 := mFr_s gf581 ef583 (by unfold mFs; omega)
            have zf583 := mFt_s zf581 ef583 (by decide)
            have xf583 : (tvI (tF hf581 111 28)).toInt = (((ms h).1 + 1 : Nat) : Int) := by rw [mI_x ef581]; exact yf581
            have Zf583 : mZp hf583 := mZp_s Zf581 ef583 (by have y := zp0 xf583; omega)
            refine tw_iload rfl rfl ?_
            refine tw_push rfl ?_
            refine tw_ic_ne rfl (fun q584 => ?_) (fun q584 => ?_)
            · try dsimp only [tvI_i, tvJ_j, tvR_r] at q584
              have q584i := zneq (Y := 61) (by decide) q584
              exact absurd q575 q584
            · try dsimp only [tvI_i, tvJ_j, tvR_r] at q584
              have q584i := zeqi (Y := 61) (by decide) q584
              refine tw_push rfl ?_
              refine tw_goto rfl ?_
              have w9 := (sgm_k kp530 61 (by decide)).mp q575
              obtain ⟨q9, hq9⟩ := cm_s (Or.inl w9)
              exact tw_iret rfl ⟨gf583, Or.inr ⟨q9, hq9, Or.inr ⟨np576, _, rfl, by decide, by decide, zf583, Zf583⟩⟩⟩
          · try dsimp only [tvI_i, tvJ_j, tvR_r] at q582
            have q582i := zneq (Y := 61) (by decide) q582
            exact absurd q575 q582
      · try dsimp only [tvI_i, tvJ_j, tvR_r] at q575
        have q575i := zneq (Y := 61) (by decide) q575
        refine tw_push rfl ?_
        exact tw_iret rfl ⟨g0, Or.inl ⟨cm_n (fun z => q575 ((sgm_k kp530 61 (by decide)).mpr z)) (fun z => q531 ((sgm_k kp530 60 (by decide)).mpr z)) (fun z => q553 ((sgm_k kp530 62 (by decide)).mpr z)), rfl, rfl⟩⟩
theorem rWd_lo : ∀ k, k < 16 → rWd k = ztx (k + 2) := by
  have a : (List.range 16).all (fun k => Nat.beq (rWn k) (k + 2)) = true := by decide +kernel
  intro k hk
  have e := Nat.eq_of_beq_eq_true (List.all_eq_true.mp a k (List.mem_range.mpr hk))
  unfold rWd
  rw [e]
theorem zl_lo : ∀ k, k < 16 → (ztx (k + 2)).length ≤ 200 ∧ 0 < (ztx (k + 2)).length := by
  have a : (List.range 16).all (fun k => decide ((ztx (k + 2)).length ≤ 200 ∧ 0 < (ztx (k + 2)).length)) = true := by decide +kernel
  intro k hk
  exact of_decide_eq_true (List.all_eq_true.mp a k (List.mem_range.mpr hk))
noncomputable def mOut (y : rMo) (h2 : zH) : Prop := match y with
  | .inl e => mFt h2 e ∧ mZp h2
  | .inr x => mP h2 ∧ mD h2 ∧ mst h2 = x
theorem mOut_l {y : rMo} {h2 : zH} {e : Nat} (hy : y = .inl e) (k : mFt h2 e) (z : mZp h2) : mOut y h2 := by rw [hy]; exact ⟨k, z⟩
theorem mOut_r {y : rMo} {h2 : zH} {x : rMs} (hy : y = .inr x) (k : mP h2) (d : mD h2) (z : mst h2 = x) : mOut y h2 := by rw [hy]; exact ⟨k, d, z⟩
theorem mD_k {h h2 : zH} (d : mD h) (a : mSk h2 = mSk h) (b : tF h2 111 32 = tF h 111 32) : mD h2 := by
  unfold mD
  rw [a, b]
  exact d
theorem g_wordOf {G : zG} (hG : G.1 = zProg) {h : zH} {x : Int32} {k : Nat} (hx : x.toInt = k) (hk : k < 12) : tC zTt G 199 [.int x] h (fun w h2 => w = some (.retAddr (k + 2)) ∧ h = h2) := by
  refine tC_in (by rw [hG]; rfl) (fun dp => ?_)
  refine tw_iload rfl rfl ?_
  refine tw_table rfl (fun q585 => ?_) (fun t9 q585a q585b q585c => ?_)
  · try dsimp only [tvI_i, tvJ_j, tvR_r] at q585
    refine tw_push rfl ?_
    try dsimp only [tvI_i] at q585
    have hk9 : k = 11 := by omega
    subst hk9
    exact tw_aret rfl ⟨rfl, rfl⟩
  · have q585d : (tvI (.int x)).toInt = 0 ∨ (tvI (.int x)).toInt = 1 ∨ (tvI (.int x)).toInt = 2 ∨ (tvI (.int x)).toInt = 3 ∨ (tvI (.int x)).toInt = 4 ∨ (tvI (.int x)).toInt = 5 ∨ (tvI (.int x)).toInt = 6 ∨ (tvI (.int x)).toInt = 7 ∨ (tvI (.int x)).toInt = 8 ∨ (tvI (.int x)).toInt = 9 ∨ (tvI (.int x)).toInt = 10 := by omega
    rcases q585d with q585 | q585 | q585 | q585 | q585 | q585 | q585 | q585 | q585 | q585 | q585
    · obtain rfl : t9 = 60 := by rw [q585] at q585c; exact Option.some.inj (q585c.symm.trans rfl)
      try dsimp only [tvI_i, tvJ_j, tvR_r] at q585
      refine tw_push rfl ?_
      try dsimp only [tvI_i] at q585
      have hk9 : k = 0 := by omega
      subst hk9
      exact tw_aret rfl ⟨rfl, rfl⟩
    · obtain rfl : t9 = 64 := by rw [q585] at q585c; exact Option.some.inj (q585c.symm.trans rfl)
      try dsimp only [tvI_i, tvJ_j, tvR_r] at q585
      refine tw_push rfl ?_
      try dsimp only [tvI_i] at q585
      have hk9 : k = 1 := by omega
      subst hk9
      exact tw_aret rfl ⟨rfl, rfl⟩
    · obtain rfl : t9 = 68 := by rw [q585] at q585c; exact Option.some.inj (q585c.symm.trans rfl)
      try dsimp only [tvI_i, tvJ_j, tvR_r] at q585
      refine tw_push rfl ?_
      try dsimp only [tvI_i] at q585
      have hk9 : k = 2 := by omega
      subst hk9
      exact tw_aret rfl ⟨rfl, rfl⟩
    · obtain rfl : t9 = 72 := by rw [q585] at q585c; exact Option.some.inj (q585c.symm.trans rfl)
      try dsimp only [tvI_i, tvJ_j, tvR_r] at q585
      refine tw_push rfl ?_
      try dsimp only [tvI_i] at q585
      have hk9 : k = 3 := by omega
      subst hk9
      exact tw_aret rfl ⟨rfl, rfl⟩
    · obtain rfl : t9 = 76 := by rw [q585] at q585c; exact Option.some.inj (q585c.symm.trans rfl)
      try dsimp only [tvI_i, tvJ_j, tvR_r] at q585
      refine tw_push rfl ?_
      try dsimp only [tvI_i] at q585
      have hk9 : k = 4 := by omega
      subst hk9
      exact tw_aret rfl ⟨rfl, rfl⟩
    · obtain rfl : t9 = 80 := by rw [q585] at q585c; exact Option.some.inj (q585c.symm.trans rfl)
      try dsimp only [tvI_i, tvJ_j, tvR_r] at q585
      refine tw_push rfl ?_
      try dsimp only [tvI_i] at q585
      have hk9 : k = 5 := by omega
      subst hk9
      exact tw_aret rfl ⟨rfl, rfl⟩
    · obtain rfl : t9 = 84 := by rw [q585] at q585c; exact Option.some.inj (q585c.symm.trans rfl)
      try dsimp only [tvI_i, tvJ_j, tvR_r] at q585
      refine tw_push rfl ?_
      try dsimp only [tvI_i] at q585
      have hk9 : k = 6 := by omega
      subst hk9
      exact tw_aret rfl ⟨rfl, rfl⟩
    · obtain rfl : t9 = 88 := by rw [q585] at q585c; exact Option.some.inj (q585c.symm.trans rfl)
      try dsimp only [tvI_i, tvJ_j, tvR_r] at q585
      refine tw_push rfl ?_
      try dsimp only [tvI_i] at q585
      have hk9 : k = 7 := by omega
      subst hk9
      exact tw_aret rfl ⟨rfl, rfl⟩
    · obtain rfl : t9 = 92 := by rw [q585] at q585c; exact Option.some.inj (q585c.symm.trans rfl)
      try dsimp only [tvI_i, tvJ_j, tvR_r] at q585
      refine tw_push rfl ?_
      try dsimp only [tvI_i] at q585
      have hk9 : k = 8 := by omega
      subst hk9
      exact tw_aret rfl ⟨rfl, rfl⟩
    · obtain rfl : t9 = 96 := by rw [q585] at q585c; exact Option.some.inj (q585c.symm.trans rfl)
      try dsimp only [tvI_i, tvJ_j, tvR_r] at q585
      refine tw_push rfl ?_
      try dsimp only [tvI_i] at q585
      have hk9 : k = 9 := by omega
      subst hk9
      exact tw_aret rfl ⟨rfl, rfl⟩
    · obtain rfl : t9 = 100 := by rw [q585] at q585c; exact Option.some.inj (q585c.symm.trans rfl)
      try dsimp only [tvI_i, tvJ_j, tvR_r] at q585
      refine tw_push rfl ?_
      try dsimp only [tvI_i] at q585
      have hk9 : k = 10 := by omega
      subst hk9
      exact tw_aret rfl ⟨rfl, rfl⟩
theorem g_thingName {G : zG} (hG : G.1 = zProg) {h : zH} {x : Int32} {k : Nat} (hx : x.toInt = k) (hk : k < 4) : tC zTt G 200 [.int x] h (fun w h2 => w = some (.retAddr (k + 14)) ∧ h = h2) := by
  refine tC_in (by rw [hG]; rfl) (fun dp => ?_)
  refine tw_iload rfl rfl ?_
  refine tw_table rfl (fun q586 => ?_) (fun t9 q586a q586b q586c => ?_)
  · try dsimp only [tvI_i, tvJ_j, tvR_r] at q586
    refine tw_push rfl ?_
    try dsimp only [tvI_i] at q586
    have hk9 : k = 3 := by omega
    subst hk9
    exact tw_aret rfl ⟨rfl, rfl⟩
  · have q586d : (tvI (.int x)).toInt = 0 ∨ (tvI (.int x)).toInt = 1 ∨ (tvI (.int x)).toInt = 2 := by omega
    rcases q586d with q586 | q586 | q586
    · obtain rfl : t9 = 28 := by rw [q586] at q586c; exact Option.some.inj (q586c.symm.trans rfl)
      try dsimp only [tvI_i, tvJ_j, tvR_r] at q586
      refine tw_push rfl ?_
      try dsimp only [tvI_i] at q586
      have hk9 : k = 0 := by omega
      subst hk9
      exact tw_aret rfl ⟨rfl, rfl⟩
    · obtain rfl : t9 = 32 := by rw [q586] at q586c; exact Option.some.inj (q586c.symm.trans rfl)
      try dsimp only [tvI_i, tvJ_j, tvR_r] at q586
      refine tw_push rfl ?_
      try dsimp only [tvI_i] at q586
      have hk9 : k = 1 := by omega
      subst hk9
      exact tw_aret rfl ⟨rfl, rfl⟩
    · obtain rfl : t9 = 36 := by rw [q586] at q586c; exact Option.some.inj (q586c.symm.trans rfl)
      try dsimp only [tvI_i, tvJ_j, tvR_r] at q586
      refine tw_push rfl ?_
      try dsimp only [tvI_i] at q586
      have hk9 : k = 2 := by omega
      subst hk9
      exact tw_aret rfl ⟨rfl, rfl⟩
theorem g_value {G : zG} (hG : G.1 = zProg) (hX : G.2.1 = ztx) {h : zH} {T : Nat → Int32} {n : Nat} (hs : tSh h) (hp : mP h) (hT : tA h 132 = T) (hN : mn h = n) (hD : mD h) (hd : mDp (mSk h) ≤ 1000) (h46s : tvI (tF h 111 46) = 1) : tC zTt G 213 [.ref 111] h (fun w h2 => w = none ∧ mFq h h2 ∧ mOut (mS1 T n (mSk h) (ms h)) h2) := by
  refine tC_in (by rw [hG]; rfl) (fun dp => ?_)
  have g0 := mFr_r hs
  have hpn : (ms h).1 ≤ n := mPle hp hN
  have c129 : (12 : Int32).toInt = 12 := rfl
  have hn4 : n ≤ 400 := by have a := mNl hp hN; have b := hp.2.1; omega
  refine tw_aload rfl rfl ?_
  refine tw_virt0 rfl (g_blanks hG hX (g0).1 hp ((mFr_T g0).trans hT) ((mFr_n g0).trans hN)) (fun wp587 hp587 p587 => ?_)
  obtain ⟨rfl, gp587, pp587e, sp587, tp587, dp587⟩ := p587
  have ggp587 := mFr_t g0 gp587
  refine tw_aload rfl rfl ?_
  refine tw_getS rfl (hi_111_28 ggp587.1) ?_
  refine tw_istore rfl ?_
  refine tw_aload rfl rfl ?_
  refine tw_virt0 rfl (g_sign hG hX (ggp587).1 ((mFr_T ggp587).trans hT) ((mFr_n ggp587).trans hN) ⟨pp587e.2.1.1, by have := pp587e.2.1; omega⟩) (fun wp588 hp588 p588 => ?_)
  obtain ⟨⟨cp588, rfl, kp588⟩, rfl⟩ := p588
  refine tw_push rfl ?_
  refine tw_ic_ne rfl (fun q589 => ?_) (fun q589 => ?_)
  · try dsimp only [tvI_i, tvJ_j, tvR_r] at q589
    have q589i := zneq (Y := 40) (by decide) q589
    refine tw_aload rfl rfl ?_
    refine tw_virt0 rfl (g_sign hG hX (ggp587).1 ((mFr_T ggp587).trans hT) ((mFr_n ggp587).trans hN) ⟨pp587e.2.1.1, by have := pp587e.2.1; omega⟩) (fun wp590 hp590 p590 => ?_)
    obtain ⟨⟨cp590, rfl, kp590⟩, rfl⟩ := p590
    refine tw_stat1 rfl (g_isDigit hG) (fun w9 h9 p591 => ?_)
    obtain ⟨⟨p591, rfl⟩ | ⟨p591, rfl⟩, rfl⟩ := p591
    · try dsimp only [tvI_i, tvJ_j, tvR_r] at p591
      refine tw_if_eq rfl (fun z => absurd z (by decide)) (fun _ => ?_)
      refine tw_aload rfl rfl ?_
      refine tw_push rfl ?_
      refine tw_virt1 rfl (g_digits hG hX (ggp587).1 pp587e ((mFr_T ggp587).trans hT) ((mFr_n ggp587).trans hN) (m := 99999) (M := 99999) rfl (by decide) (by rw [sp587]; exact rB_2)) (fun w9 hp592 p592 => ?_)
      obtain ⟨gp592, ⟨vp592, Np592, rfl, pp592e, sp592, tp592, dp592⟩ | ⟨ep592, xp592, Np592, rfl, x0p592, Fp592, Zp592⟩⟩ := p592
      · have ggp592 := mFr_t ggp587 gp592
        refine tw_istore rfl ?_
        refine tw_aload rfl rfl ?_
        refine tw_iload rfl rfl ?_
        refine tw_virt1 rfl (g_counts hG hX (ggp592).1 pp592e ((mFr_T ggp592).trans hT) ((mFr_n ggp592).trans hN) (b := (rB T n (ms h).1)) ((mPl pp587e).trans (by rw [sp587]; rfl)) (by have := rB_le (T := T) hpn; omega)) (fun w9 hp593 p593 => ?_)
        obtain ⟨rfl, gp593, ⟨np593, pp593e, sp593, tp593, dp593⟩ | ⟨np593, Fp593⟩, ip593, jp593⟩ := p593
        · have ggp593 := mFr_t ggp592 gp593
          refine tw_aload rfl rfl ?_
          refine tw_push rfl ?_
          refine tw_iload rfl rfl ?_
          refine tw_virt2 rfl (g_entry hG hX (ggp593).1 pp593e ((mFr_T ggp593).trans hT) ((mFr_n ggp593).trans hN) ⟨by decide, by show 0 ≤ (Int32.ofNat vp592.2).toInt; have z := Np592; rw [sp587] at z; have := (rM_r (rB_le hpn) z).2.2; rw [zofI (by omega)]; omega⟩) (fun wp594 hp594 p594 => ?_)
          obtain ⟨rfl, gp594, pp594e, sp594, tp594, dp594⟩ := p594
          have ggp594 := mFr_t ggp593 gp594
          refine tw_aload rfl rfl ?_
          refine tw_push rfl ?_
          refine tw_put rfl (fun f595 => ?_)
          refine tG_setm f595 (hw_111_46 f595 (ggp594).1) (fun hf595 ef595 => ?_)
          try dsimp only [tvI_i] at ef595
          have gf595 := mFq_s (mFq_f ggp594) ef595 (Or.inr rfl)
          obtain ⟨pf595, sf595, tf595⟩ := mSte pp594e ef595
          refine tw_goto rfl ?_
          have hdg := (sgm_d kp590).mp p591
          rw [sp587] at hdg
          have hk12 : rK12 T n (rB T n (ms h).1) = none := rK12_n (fun k hk z => by have y := rW_l (by omega) z; have y2 : _ ∧ _ := hdg.2; have y3 : T (rB T n (ms h).1) = T (rA (rB T n (ms h).1) (ms h)).1 := rfl; rw [← y3] at y2; omega)
          have hrm : rM T n 99999 (rB T n (ms h).1) = .inr vp592 := by have z := Np592; rw [sp587] at z; exact z
          have h80 : (ms h).2.1 ≠ 80 := by have z := np593; rw [sp592, sp587] at z; exact z
          have hsk : mSk hf595 = mSk h := by rw [tf595, tp594, tp593, tp592, tp587]
          have h32 : tF hf595 111 32 = tF h 111 32 := (mI_o ef595 (by decide)).trans (dp594.trans (dp593.trans (dp592.trans dp587)))
          have hms : ms hf595 = (vp592.1, (ms h).2.1 + 1, (ms h).2.2 ++ [vp592.2]) := by rw [sf595, sp594, sp593, sp592, sp587]; show (_, _, _ ++ [mCode 0 (Int32.ofNat vp592.2).toNatClampNeg]) = _; rw [zoN (by have := (rM_r (rB_le hpn) hrm).2.2; omega)]; rfl
          exact tw_vret rfl ⟨rfl, gf595, mOut_r (by unfold mS1; rw [if_neg (fun z => q589 ((by have y := sgm_k kp588 40 (by decide); rw [sp587] at y; exact y.mpr z))), hk12]; (try dsimp only); rw [hrm]; (try dsimp only); rw [if_neg h80]) pf595 (mD_k hD hsk h32) (by unfold mst; rw [mI_x ef595, hsk, hms]; rfl)⟩
        · have ggp593 := mFr_t ggp592 gp593
          refine tw_aload rfl rfl ?_
          refine tw_push rfl ?_
          refine tw_iload rfl rfl ?_
          refine tw_virt2 rfl (z_entry hG hX (ggp593).1 Fp593 ((mFr_T ggp593).trans hT) ((mFr_n ggp593).trans hN)) (fun wp596 hp596 p596 => ?_)
          obtain ⟨rfl, e9⟩ := p596
          obtain rfl := e9.symm
          refine tw_aload rfl rfl ?_
          refine tw_push rfl ?_
          refine tw_put rfl (fun f597 => ?_)
          refine tG_setm f597 (hw_111_46 f597 (ggp593).1) (fun hf597 ef597 => ?_)
          try dsimp only [tvI_i] at ef597
          have gf597 := mFq_s (mFq_f ggp593) ef597 (Or.inr rfl)
          have zf597 := mFt_s Fp593 ef597 (by decide)
          refine tw_goto rfl ?_
          have hdg := (sgm_d kp590).mp p591
          rw [sp587] at hdg
          have hk12 : rK12 T n (rB T n (ms h).1) = none := rK12_n (fun k hk z => by have y := rW_l (by omega) z; have y2 : _ ∧ _ := hdg.2; have y3 : T (rB T n (ms h).1) = T (rA (rB T n (ms h).1) (ms h)).1 := rfl; rw [← y3] at y2; omega)
          have hrm : rM T n 99999 (rB T n (ms h).1) = .inr vp592 := by have z := Np592; rw [sp587] at z; exact z
          have h80 : (ms h).2.1 = 80 := by have z := np593; rw [sp592, sp587] at z; exact z
          have Zfin : mZp hf597 := mZp_o (mZp_k (mZp_p pp592e) ip593 jp593) ef597 (by decide)
          exact tw_vret rfl ⟨rfl, gf597, mOut_l (by unfold mS1; rw [if_neg (fun z => q589 ((by have y := sgm_k kp588 40 (by decide); rw [sp587] at y; exact y.mpr z))), hk12]; (try dsimp only); rw [hrm]; (try dsimp only); rw [if_pos h80]) zf597 Zfin⟩
      · have ggp592 := mFr_t ggp587 gp592
        refine tw_istore rfl ?_
        refine tw_aload rfl rfl ?_
        refine tw_iload rfl rfl ?_
        refine tw_virt1 rfl (z_counts hG hX (ggp592).1 Fp592 ((mFr_T ggp592).trans hT) ((mFr_n ggp592).trans hN)) (fun w9 hp598 p598 => ?_)
        obtain ⟨rfl, gp598, Fp598, ip598, jp598⟩ := p598
        · have ggp598 := mFr_t ggp592 gp598
          refine tw_aload rfl rfl ?_
          refine tw_push rfl ?_
          refine tw_iload rfl rfl ?_
          refine tw_virt2 rfl (z_entry hG hX (ggp598).1 Fp598 ((mFr_T ggp598).trans hT) ((mFr_n ggp598).trans hN)) (fun wp599 hp599 p599 => ?_)
          obtain ⟨rfl, e9⟩ := p599
          obtain rfl := e9.symm
          refine tw_aload rfl rfl ?_
          refine tw_push rfl ?_
          refine tw_put rfl (fun f600 => ?_)
          refine tG_setm f600 (hw_111_46 f600 (ggp598).1) (fun hf600 ef600 => ?_)
          try dsimp only [tvI_i] at ef600
          have gf600 := mFq_s (mFq_f ggp598) ef600 (Or.inr rfl)
          have zf600 := mFt_s Fp598 ef600 (by decide)
          refine tw_goto rfl ?_
          have hdg := (sgm_d kp590).mp p591
          rw [sp587] at hdg
          have hk12 : rK12 T n (rB T n (ms h).1) = none := rK12_n (fun k hk z => by have y := rW_l (by omega) z; have y2 : _ ∧ _ := hdg.2; have y3 : T (rB T n (ms h).1) = T (rA (rB T n (ms h).1) (ms h)).1 := rfl; rw [← y3] at y2; omega)
          have hrm : rM T n 99999 (rB T n (ms h).1) = .inl ep592 := by have z := Np592; rw [sp587] at z; exact z
          have Zfin : mZp hf600 := mZp_o (mZp_k Zp592 ip598 jp598) ef600 (by decide)
          exact tw_vret rfl ⟨rfl, gf600, mOut_l (by unfold mS1; rw [if_neg (fun z => q589 ((by have y := sgm_k kp588 40 (by decide); rw [sp587] at y; exact y.mpr z))), hk12]; (try dsimp only); rw [hrm]) zf600 Zfin⟩
    · try dsimp only [tvI_i, tvJ_j, tvR_r] at p591
      refine tw_if_eq rfl (fun _ => ?_) (fun z => absurd z (by decide))
      refine tw_push rfl ?_
      refine tw_istore rfl ?_
      refine tG_loop (zW_mono zTt G dp) (zW_conj zTt G dp) (V := fun pc L st h9 _ _ => pc = 82 ∧ st = [] ∧ hp587 = h9 ∧ ∃ (k : Nat) (x : Int32), x.toInt = k ∧ k ≤ 12 ∧ (∀ i, i < k → ¬ rW T n (rB T n (ms h).1) (rWd i) = true) ∧ L = [some (.ref 111), some (.int (tvI (tF hp587 111 28))), some (.int x)]) ?_ (⟨rfl, rfl, rfl, 0, 0, rfl, by omega, fun i hi => by omega, rfl⟩)
      rintro _ _ _ _ _ _ ⟨rfl, rfl, rfl, k, x, hx, hk, hall, rfl⟩
      refine tw_iload rfl rfl ?_
      refine tw_push rfl ?_
      refine tw_ic_ge rfl (fun q601 => ?_) (fun q601 => ?_)
      · try dsimp only [tvI_i, tvJ_j, tvR_r] at q601
        refine tw_iload rfl rfl ?_
        refine tw_push rfl ?_
        refine tw_ic_ne rfl (fun q602 => ?_) (fun q602 => ?_)
        · try dsimp only [tvI_i, tvJ_j, tvR_r] at q602
          have q602i := zneq (Y := 12) (by decide) q602
          exact absurd (show x.toInt = 12 by have z := q601; omega) (fun z => q602i z)
        · try dsimp only [tvI_i, tvJ_j, tvR_r] at q602
          have q602i := zeqi (Y := 12) (by decide) q602
          refine tw_aload rfl rfl ?_
          refine tw_push rfl ?_
          refine tw_iload rfl rfl ?_
          refine tw_virt2 rfl (g_fails hG hX (ggp587).1 pp587e ((mFr_T ggp587).trans hT) ((mFr_n ggp587).trans hN) (w := 0) (b := (rB T n (ms h).1)) rfl (by decide) ((mPl pp587e).trans (by rw [sp587]; rfl)) (by have := rB_le (T := T) hpn; omega)) (fun wp603 hp603 p603 => ?_)
          obtain ⟨rfl, gp603, Fp603, ip603, jp603⟩ := p603
          have ggp603 := mFr_t ggp587 gp603
          refine tw_goto rfl ?_
          have hk12 : rK12 T n (rB T n (ms h).1) = none := rK12_n (fun i hi => hall i (by have z := q602; have z2 : x.toInt = 12 := q602i; omega))
          have hnd : rD T n (rB T n (ms h).1) = (rB T n (ms h).1) := rD_n (fun z => p591 (by have y := sgm_d kp590; rw [sp587] at y; exact y.mpr z))
          have hrm := rM_a (M := 99999) (T := T) (n := n) (p := (rB T n (ms h).1)) (b := (rB T n (ms h).1)) rB_2 hnd
          have Zfin : mZp hp603 := mZp_k (mZp_p pp587e) ip603 jp603
          exact tw_vret rfl ⟨rfl, mFq_f ggp603, mOut_l (by unfold mS1; rw [if_neg (fun z => q589 ((by have y := sgm_k kp588 40 (by decide); rw [sp587] at y; exact y.mpr z))), hk12]; (try dsimp only); rw [hrm]) Fp603 Zfin⟩
      · try dsimp only [tvI_i, tvJ_j, tvR_r] at q601
        refine tw_aload rfl rfl ?_
        refine tw_iload rfl rfl ?_
        refine tw_stat1 rfl (g_wordOf hG (k := k) hx (by omega)) (fun wp604 hp604 p604 => ?_)
        obtain ⟨rfl, rfl⟩ := p604
        refine tw_virt1 rfl (g_stands hG hX (ggp587).1 ((mFr_T ggp587).trans hT) ((mFr_n ggp587).trans hN) (q := (k + 2)) (zl_lo k (by omega)).1 ⟨pp587e.2.1.1, by have := pp587e.2.1; omega⟩ ⟨by have := pp587e.2.1; omega, pp587e.2.1.2.2⟩) (fun w9 h9 p605 => ?_)
        obtain ⟨⟨p605, rfl⟩ | ⟨p605, rfl⟩, rfl⟩ := p605
        · try dsimp only [tvI_i, tvJ_j, tvR_r] at p605
          refine tw_if_ne rfl (fun _ => ?_) (fun z => absurd z (by decide))
          refine tw_iload rfl rfl ?_
          refine tw_push rfl ?_
          refine tw_ic_ne rfl (fun q606 => ?_) (fun q606 => ?_)
          · try dsimp only [tvI_i, tvJ_j, tvR_r] at q606
            have q606i := zneq (Y := 12) (by decide) q606
            refine tw_aload rfl rfl ?_
            refine tw_iload rfl rfl ?_
            have hk11 : k < 12 := by have z := q601; omega
            have hwk : rW T n (rB T n (ms h).1) (rWd k) = true := by have z := p605; rw [sp587] at z; rw [rWd_lo k (by omega)]; exact z
            refine tw_virt1 rfl (g_counts hG hX (ggp587).1 pp587e ((mFr_T ggp587).trans hT) ((mFr_n ggp587).trans hN) (b := (rB T n (ms h).1)) ((mPl pp587e).trans (by rw [sp587]; rfl)) (by have := rB_le (T := T) hpn; omega)) (fun w9 hp607 p607 => ?_)
            obtain ⟨rfl, gp607, ⟨np607, pp607e, sp607, tp607, dp607⟩ | ⟨np607, Fp607⟩, ip607, jp607⟩ := p607
            · have ggp607 := mFr_t ggp587 gp607
              refine tw_aload rfl rfl ?_
              refine tw_push rfl ?_
              refine tw_iload rfl rfl ?_
              refine tw_virt2 rfl (g_entry hG hX (ggp607).1 pp607e ((mFr_T ggp607).trans hT) ((mFr_n ggp607).trans hN) ⟨by decide, by omega⟩) (fun wp608 hp608 p608 => ?_)
              obtain ⟨rfl, gp608, pp608e, sp608, tp608, dp608⟩ := p608
              have ggp608 := mFr_t ggp607 gp608
              refine tw_aload rfl rfl ?_
              refine tw_dup rfl ?_
              refine tw_getS rfl (hi_111_28 ggp608.1) ?_
              refine tw_iload rfl rfl ?_
              refine tw_stat1 rfl (g_wordOf hG (k := k) hx (by omega)) (fun wp609 hp609 p609 => ?_)
              obtain ⟨rfl, rfl⟩ := p609
              refine tw_tlen rfl ?_
              refine tw_iadd rfl ?_
              refine tw_put rfl (fun f610 => ?_)
              refine tG_setm f610 (hw_111_28 f610 (ggp608).1) (fun hf610 ef610 => ?_)
              try dsimp only [tvI_i] at ef610
              have gf610 := mFr_s ggp608 ef610 (by unfold mFs; omega)
              have hln : (Int32.ofNat (G.2.1 (k + 2)).length).toInt = ((ztx (k + 2)).length : Int) := by rw [hX]; exact zofI (by have := (zl_lo k (by omega)).1; omega)
              have hre : rE T n (rB T n (ms h).1) = (rB T n (ms h).1) + (ztx (k + 2)).length := by rw [rW_e hwk, rWd_lo k (by omega)]
              have hre2 := rE_le (T := T) (rB_le (T := T) hpn)
              obtain ⟨pf610, sf610, tf610⟩ := mTo pp608e ((mFr_n ggp608).trans hN) ef610 (v := (rB T n (ms h).1) + (ztx (k + 2)).length) (zadN (a := (rB T n (ms h).1)) (by rw [mPl pp608e, sp608, sp607, sp587]; rfl) hln (by omega) (by have := (zl_lo k (by omega)).1; omega)) (by omega)
              rw [sp608, sp607, sp587, ← hre] at sf610
              refine tw_aload rfl rfl ?_
              refine tw_push rfl ?_
              refine tw_put rfl (fun f611 => ?_)
              refine tG_setm f611 (hw_111_46 f611 (gf610).1) (fun hf611 ef611 => ?_)
              try dsimp only [tvI_i] at ef611
              have gf611 := mFq_s (mFq_f gf610) ef611 (Or.inr rfl)
              obtain ⟨pf611, sf611, tf611⟩ := mSte pf610 ef611
              have hk12 : rK12 T n (rB T n (ms h).1) = some k := rK12_i (by omega) hwk
              have h80 : (ms h).2.1 ≠ 80 := by have z := np607; rw [sp587] at z; exact z
              have hsk : mSk hf611 = mSk h := by rw [tf611, tf610, tp608, tp607, tp587]
              have h32 : tF hf611 111 32 = tF h 111 32 := (mI_o ef611 (by decide)).trans ((mI_o ef610 (by decide)).trans (dp608.trans (dp607.trans dp587)))
              have hms : ms hf611 = (rE T n (rB T n (ms h).1), (ms h).2.1 + 1, (ms h).2.2 ++ [100000 + k]) := by rw [sf611, sf610]; show (_, _, _ ++ [mCode 1 x.toNatClampNeg]) = _; rw [zof_cl hx, mCode_1 (by omega)]; rfl
              exact tw_vret rfl ⟨rfl, gf611, mOut_r (by unfold mS1; rw [if_neg (fun z => q589 ((by have y := sgm_k kp588 40 (by decide); rw [sp587] at y; exact y.mpr z))), hk12]; (try dsimp only); rw [if_neg h80]) pf611 (mD_k hD hsk h32) (by unfold mst; rw [mI_x ef611, hsk, hms]; rfl)⟩
            · have ggp607 := mFr_t ggp587 gp607
              refine tw_aload rfl rfl ?_
              refine tw_push rfl ?_
              refine tw_iload rfl rfl ?_
              refine tw_virt2 rfl (z_entry hG hX (ggp607).1 Fp607 ((mFr_T ggp607).trans hT) ((mFr_n ggp607).trans hN)) (fun wp612 hp612 p612 => ?_)
              obtain ⟨rfl, e9⟩ := p612
              obtain rfl := e9.symm
              refine tw_aload rfl rfl ?_
              refine tw_dup rfl ?_
              refine tw_getS rfl (hi_111_28 (ggp607).1) ?_
              refine tw_iload rfl rfl ?_
              refine tw_stat1 rfl (g_wordOf hG (k := k) hx (by omega)) (fun wp613 hp613 p613 => ?_)
              obtain ⟨rfl, rfl⟩ := p613
              refine tw_tlen rfl ?_
              refine tw_iadd rfl ?_
              refine tw_put rfl (fun f614 => ?_)
              refine tG_setm f614 (hw_111_28 f614 (ggp607).1) (fun hf614 ef614 => ?_)
              try dsimp only [tvI_i] at ef614
              have gf614 := mFr_s ggp607 ef614 (by unfold mFs; omega)
              have zf614 := mFt_s Fp607 ef614 (by decide)
              have Zbf614 : 0 ≤ (tvI (tF hp607 111 27)).toInt ∧ (tvI (tF hp607 111 27)).toInt ≤ 400 := by rw [show tF hp607 111 27 = tF h 111 27 from mFr_27 ggp607]; have := hp.2.1; omega
              have yf614 : (tvI (tF hp607 111 28)).toInt = (((rB T n (ms h).1) : Nat) : Int) := by rw [ip607, mPl pp587e, sp587]; rfl
              have hln : (Int32.ofNat (G.2.1 (k + 2)).length).toInt = ((ztx (k + 2)).length : Int) := by rw [hX]; exact zofI (by have := (zl_lo k (by omega)).1; omega)
              have Zf614 : mZp hf614 := by have y := zadN yf614 hln (by have := rB_le (T := T) hpn; omega) (by have := (zl_lo k (by omega)).1; omega); have y2 := rE_le (T := T) (rB_le (T := T) hpn); rw [rW_e hwk, rWd_lo k (by omega)] at y2; unfold mZp; rw [mI_x ef614, mI_o ef614 (by decide)]; exact ⟨⟨by omega, Zbf614.1⟩, by omega, Zbf614.2⟩
              refine tw_aload rfl rfl ?_
              refine tw_push rfl ?_
              refine tw_put rfl (fun f615 => ?_)
              refine tG_setm f615 (hw_111_46 f615 (gf614).1) (fun hf615 ef615 => ?_)
              try dsimp only [tvI_i] at ef615
              have gf615 := mFq_s (mFq_f gf614) ef615 (Or.inr rfl)
              have zf615 := mFt_s zf614 ef615 (by decide)
              have hk12 : rK12 T n (rB T n (ms h).1) = some k := rK12_i (by omega) hwk
              have h80 : (ms h).2.1 = 80 := by have z := np607; rw [sp587] at z; exact z
              have Zfin : mZp hf615 := mZp_o Zf614 ef615 (by decide)
              exact tw_vret rfl ⟨rfl, gf615, mOut_l (by unfold mS1; rw [if_neg (fun z => q589 ((by have y := sgm_k kp588 40 (by decide); rw [sp587] at y; exact y.mpr z))), hk12]; (try dsimp only); rw [if_pos h80]) zf615 Zfin⟩
          · try dsimp only [tvI_i, tvJ_j, tvR_r] at q606
            have q606i := zeqi (Y := 12) (by decide) q606
            exact absurd (show x.toInt = 12 from q606i) (by have z := q601; omega)
        · try dsimp only [tvI_i, tvJ_j, tvR_r] at p605
          refine tw_if_ne rfl (fun z => absurd z (by decide)) (fun _ => ?_)
          refine tw_iinc rfl rfl ?_
          refine tw_goto rfl ?_
          have hno : ¬ rW T n (rB T n (ms h).1) (rWd k) = true := by have z := p605; rw [sp587] at z; rw [rWd_lo k (by omega)]; exact z
          exact tG_cut (zW_mono zTt G dp) (Or.inr ⟨rfl, rfl, rfl, k + 1, x + 1, zincN hx (by omega), by omega, fun i hi => (Classical.em (i = k)).elim (fun z => by rw [z]; exact hno) (fun z => hall i (by omega)), rfl⟩)
  · try dsimp only [tvI_i, tvJ_j, tvR_r] at q589
    have q589i := zeqi (Y := 40) (by decide) q589
    refine tw_aload rfl rfl ?_
    refine tw_push rfl ?_
    refine tw_iload rfl rfl ?_
    have hw40 : (rB T n (ms h).1) < n ∧ T (rB T n (ms h).1) = 40 := by have y := sgm_k kp588 40 (by decide); rw [sp587] at y; exact y.mp q589
    refine tw_virt2 rfl (g_opensDeep hG hX (ggp587).1 pp587e ((mFr_T ggp587).trans hT) ((mFr_n ggp587).trans hN) (by decide) (by decide) (b := (rB T n (ms h).1)) ((mPl pp587e).trans (by rw [sp587]; rfl)) (by have := rB_le (T := T) hpn; omega) (mD_k hD tp587 dp587) (by rw [tp587]; exact hd)) (fun w9 hp616 p616 => ?_)
    obtain ⟨rfl, gp616, ⟨np616, pp616e, tp616, sp616, ddp616⟩ | ⟨np616, Fp616, ip616, jp616⟩⟩ := p616
    · have ggp616 := mFr_t ggp587 gp616
      refine tw_aload rfl rfl ?_
      refine tw_iload rfl rfl ?_
      refine tw_virt1 rfl (g_counts hG hX (ggp616).1 pp616e ((mFr_T ggp616).trans hT) ((mFr_n ggp616).trans hN) (b := (rB T n (ms h).1)) ((mPl pp587e).trans (by rw [sp587]; rfl)) (by have := rB_le (T := T) hpn; omega)) (fun w9 hp617 p617 => ?_)
      obtain ⟨rfl, gp617, ⟨np617, pp617e, sp617, tp617, dp617⟩ | ⟨np617, Fp617⟩, ip617, jp617⟩ := p617
      · have ggp617 := mFr_t ggp616 gp617
        refine tw_aload rfl rfl ?_
        refine tw_dup rfl ?_
        refine tw_getS rfl (hi_111_28 ggp617.1) ?_
        refine tw_push rfl ?_
        refine tw_iadd rfl ?_
        refine tw_put rfl (fun f618 => ?_)
        refine tG_setm f618 (hw_111_28 f618 (ggp617).1) (fun hf618 ef618 => ?_)
        try dsimp only [tvI_i] at ef618
        have gf618 := mFr_s ggp617 ef618 (by unfold mFs; omega)
        have wf618 := hw40
        obtain ⟨pf618, sf618, tf618⟩ := mTo pp617e ((mFr_n ggp617).trans hN) ef618 (v := (rB T n (ms h).1) + 1) (zincN (n := (rB T n (ms h).1)) (by rw [mPl pp617e, sp617, sp616, sp587]; rfl) (by omega)) wf618.1
        rw [sp617, sp616, sp587] at sf618
        refine tw_goto rfl ?_
        have hnd : mDp (mSk h) ≠ 10 := by rw [← tp587]; exact np616
        have h80 : (ms h).2.1 ≠ 80 := by have z := np617; rw [sp616, sp587] at z; exact z
        have hsk : mSk hf618 = 50 :: mSk h := by rw [tf618, tp617, tp616, tp587]; rfl
        have hdd : mD hf618 := mD_o ef618 (by decide) (by decide) (mD_k ddp616 tp617 dp617)
        have h46 : stN (tvI (tF hf618 111 46)) = 1 := by rw [mFr_46 gf618, h46s]; rfl
        exact tw_vret rfl ⟨rfl, mFq_f gf618, mOut_r (by unfold mS1; rw [if_pos hw40, if_neg hnd, if_neg h80]) pf618 hdd (by unfold mst; rw [h46, hsk, sf618]; rfl)⟩
      · have ggp617 := mFr_t ggp616 gp617
        refine tw_aload rfl rfl ?_
        refine tw_dup rfl ?_
        refine tw_getS rfl (hi_111_28 ggp617.1) ?_
        refine tw_push rfl ?_
        refine tw_iadd rfl ?_
        refine tw_put rfl (fun f619 => ?_)
        refine tG_setm f619 (hw_111_28 f619 (ggp617).1) (fun hf619 ef619 => ?_)
        try dsimp only [tvI_i] at ef619
        have gf619 := mFr_s ggp617 ef619 (by unfold mFs; omega)
        have zf619 := mFt_s Fp617 ef619 (by decide)
        have yf619 : (tvI (tF hp617 111 28)).toInt = (((rB T n (ms h).1) : Nat) : Int) := by rw [ip617, mPl pp616e, sp616, sp587]; rfl
        have Zbf619 : 0 ≤ (tvI (tF hp617 111 27)).toInt ∧ (tvI (tF hp617 111 27)).toInt ≤ 400 := by rw [show tF hp617 111 27 = tF h 111 27 from mFr_27 ggp617]; have := hp.2.1; omega
        have Zf619 : mZp hf619 := by have y := zp1 yf619 (by have := rB_le (T := T) hpn; omega); have y2 := rB_le (T := T) hpn; unfold mZp; rw [mI_x ef619, mI_o ef619 (by decide)]; exact ⟨⟨by omega, Zbf619.1⟩, by omega, Zbf619.2⟩
        refine tw_goto rfl ?_
        have hnd : mDp (mSk h) ≠ 10 := by rw [← tp587]; exact np616
        have h80 : (ms h).2.1 = 80 := by have z := np617; rw [sp616, sp587] at z; exact z
        exact tw_vret rfl ⟨rfl, mFq_f gf619, mOut_l (by unfold mS1; rw [if_pos hw40, if_neg hnd, if_pos h80]) zf619 Zf619⟩
    · have ggp616 := mFr_t ggp587 gp616
      refine tw_aload rfl rfl ?_
      refine tw_iload rfl rfl ?_
      refine tw_virt1 rfl (z_counts hG hX (ggp616).1 Fp616 ((mFr_T ggp616).trans hT) ((mFr_n ggp616).trans hN)) (fun w9 hp620 p620 => ?_)
      obtain ⟨rfl, gp620, Fp620, ip620, jp620⟩ := p620
      · have ggp620 := mFr_t ggp616 gp620
        refine tw_aload rfl rfl ?_
        refine tw_dup rfl ?_
        refine tw_getS rfl (hi_111_28 ggp620.1) ?_
        refine tw_push rfl ?_
        refine tw_iadd rfl ?_
        refine tw_put rfl (fun f621 => ?_)
        refine tG_setm f621 (hw_111_28 f621 (ggp620).1) (fun hf621 ef621 => ?_)
        try dsimp only [tvI_i] at ef621
        have gf621 := mFr_s ggp620 ef621 (by unfold mFs; omega)
        have zf621 := mFt_s Fp620 ef621 (by decide)
        have yf621 : (tvI (tF hp620 111 28)).toInt = (((rB T n (ms h).1) : Nat) : Int) := by rw [ip620, ip616, mPl pp587e, sp587]; rfl
        have Zbf621 : 0 ≤ (tvI (tF hp620 111 27)).toInt ∧ (tvI (tF hp620 111 27)).toInt ≤ 400 := by rw [show tF hp620 111 27 = tF h 111 27 from mFr_27 ggp620]; have := hp.2.1; omega
        have Zf621 : mZp hf621 := by have y := zp1 yf621 (by have := rB_le (T := T) hpn; omega); have y2 := rB_le (T := T) hpn; unfold mZp; rw [mI_x ef621, mI_o ef621 (by decide)]; exact ⟨⟨by omega, Zbf621.1⟩, by omega, Zbf621.2⟩
        refine tw_goto rfl ?_
        exact tw_vret rfl ⟨rfl, mFq_f gf621, mOut_l (by unfold mS1; rw [if_pos hw40, if_pos (by rw [← tp587]; exact np616)]) zf621 Zf621⟩
theorem txt_k : rWd 19 = ztx 18 ∧ rWd 18 = ztx 19 ∧ rWd 17 = ztx 20 ∧ rWd 16 = ztx 21 := by decide +kernel
theorem zp3 {x y : Int32} {k j : Nat} (h : x.toInt = k) (hy : y.toInt = j) (hk : k ≤ 1000) (hj : j ≤ 10) : (x + y).toInt = ((k + j : Nat) : Int) := zadN h hy (by omega) (by omega)
theorem mZ_of {h h0 h3 : zH} {X : Int32} {v : Nat} (g : mFr h0 h) (p : mP h0) (s : mSet 28 X h h3) (hx : X.toInt = v) (hv : v ≤ 500) : mZp h3 := by
  have e := mFr_27 g
  have := p.2.1
  unfold mZp
  rw [mI_x s, mI_o s (by decide), e]
  exact ⟨⟨by omega, by omega⟩, by omega, by omega⟩
theorem g_beginsFact {G : zG} (hG : G.1 = zProg) (hX : G.2.1 = ztx) {h : zH} {T : Nat → Int32} {n : Nat} (hs : tSh h) (hp : mP h) (hT : tA h 132 = T) (hN : mn h = n) (hD : mD h) (hd : mDp (mSk h) ≤ 1000) (h46s : tvI (tF h 111 46) = 0) : tC zTt G 216 [.ref 111] h (fun w h2 => w = none ∧ mFq h h2 ∧ mOut (mS0 T n (mSk h) (ms h)) h2) := by
  refine tC_in (by rw [hG]; rfl) (fun dp => ?_)
  have g0 := mFr_r hs
  have hpn : (ms h).1 ≤ n := mPle hp hN
  have hn4 : n ≤ 400 := by have a := mNl hp hN; have b := hp.2.1; omega
  refine tw_aload rfl rfl ?_
  refine tw_virt0 rfl (g_blanks hG hX (g0).1 hp ((mFr_T g0).trans hT) ((mFr_n g0).trans hN)) (fun wp622 hp622 p622 => ?_)
  obtain ⟨rfl, gp622, pp622e, sp622, tp622, dp622⟩ := p622
  have ggp622 := mFr_t g0 gp622
  refine tw_aload rfl rfl ?_
  refine tw_push rfl ?_
  refine tw_virt1 rfl (g_stands hG hX (ggp622).1 ((mFr_T ggp622).trans hT) ((mFr_n ggp622).trans hN) (q := 18) (by decide +kernel) ⟨pp622e.2.1.1, by have := pp622e.2.1; omega⟩ ⟨by have := pp622e.2.1; omega, pp622e.2.1.2.2⟩) (fun w9 h9 p623 => ?_)
  obtain ⟨⟨p623, rfl⟩ | ⟨p623, rfl⟩, rfl⟩ := p623
  · try dsimp only [tvI_i, tvJ_j, tvR_r] at p623
    refine tw_if_eq rfl (fun z => absurd z (by decide)) (fun _ => ?_)
    refine tw_aload rfl rfl ?_
    refine tw_push rfl ?_
    refine tw_aload rfl rfl ?_
    refine tw_getS rfl (hi_111_28 ggp622.1) ?_
    have hwn : rW T n (rB T n (ms h).1) (rWd 19) = true := by have z := p623; rw [sp622] at z; rw [txt_k.1]; exact z
    refine tw_virt2 rfl (g_opensDeep hG hX (ggp622).1 pp622e ((mFr_T ggp622).trans hT) ((mFr_n ggp622).trans hN) (by decide) (by decide) (b := (rB T n (ms h).1)) ((mPl pp622e).trans (by rw [sp622]; rfl)) (by have := rB_le (T := T) hpn; omega) (mD_k hD tp622 dp622) (by rw [tp622]; exact hd)) (fun w9 hp624 p624 => ?_)
    obtain ⟨rfl, gp624, ⟨np624, pp624e, tp624, sp624, ddp624⟩ | ⟨np624, Fp624, ip624, jp624⟩⟩ := p624
    · have ggp624 := mFr_t ggp622 gp624
      refine tw_aload rfl rfl ?_
      refine tw_dup rfl ?_
      refine tw_getS rfl (hi_111_28 ggp624.1) ?_
      refine tw_push rfl ?_
      refine tw_iadd rfl ?_
      refine tw_put rfl (fun f625 => ?_)
      refine tG_setm f625 (hw_111_28 f625 (ggp624).1) (fun hf625 ef625 => ?_)
      try dsimp only [tvI_i] at ef625
      have gf625 := mFr_s ggp624 ef625 (by unfold mFs; omega)
      have h9w : rE T n (rB T n (ms h).1) = (rB T n (ms h).1) + 3 := by rw [rW_e hwn, wlen_k.2.2.1]
      have hr9 := rE_le (T := T) (rB_le (T := T) hpn)
      rw [h9w] at hr9
      obtain ⟨pf625, sf625, tf625⟩ := mTo pp624e ((mFr_n ggp624).trans hN) ef625 (v := (rB T n (ms h).1) + 3) (zp3 (k := (rB T n (ms h).1)) (j := 3) (by rw [mPl pp624e, sp624, sp622]; rfl) rfl (by have := rB_le (T := T) hpn; omega) (by decide)) hr9
      rw [sp624, sp622] at sf625
      refine tw_goto rfl ?_
      have hsk : mSk hf625 = 10 :: mSk h := by rw [tf625, tp624, tp622]; rfl
      have h46 : stN (tvI (tF hf625 111 46)) = 0 := by rw [mFr_46 gf625, h46s]; rfl
      exact tw_vret rfl ⟨rfl, mFq_f gf625, mOut_r (by unfold mS0; rw [if_pos hwn, if_neg (by rw [← tp622]; exact np624)]) pf625 (mD_o ef625 (by decide) (by decide) ddp624) (by unfold mst; rw [h46, hsk, sf625]; rfl)⟩
    · have ggp624 := mFr_t ggp622 gp624
      refine tw_aload rfl rfl ?_
      refine tw_dup rfl ?_
      refine tw_getS rfl (hi_111_28 ggp624.1) ?_
      refine tw_push rfl ?_
      refine tw_iadd rfl ?_
      refine tw_put rfl (fun f626 => ?_)
      refine tG_setm f626 (hw_111_28 f626 (ggp624).1) (fun hf626 ef626 => ?_)
      try dsimp only [tvI_i] at ef626
      have gf626 := mFr_s ggp624 ef626 (by unfold mFs; omega)
      have zf626 := mFt_s Fp624 ef626 (by decide)
      have yf626 : (tvI (tF hp624 111 28)).toInt = (((rB T n (ms h).1) : Nat) : Int) := by rw [ip624, mPl pp622e, sp622]; rfl
      have Zf626 : mZp hf626 := mZ_of ggp624 hp ef626 (zp3 yf626 (j := 3) rfl (by have := rB_le (T := T) hpn; omega) (by decide)) (by have := rB_le (T := T) hpn; omega)
      refine tw_goto rfl ?_
      exact tw_vret rfl ⟨rfl, mFq_f gf626, mOut_l (by unfold mS0; rw [if_pos hwn, if_pos (by rw [← tp622]; exact np624)]) zf626 Zf626⟩
  · try dsimp only [tvI_i, tvJ_j, tvR_r] at p623
    refine tw_if_eq rfl (fun _ => ?_) (fun z => absurd z (by decide))
    refine tw_aload rfl rfl ?_
    refine tw_virt0 rfl (g_sign hG hX (ggp622).1 ((mFr_T ggp622).trans hT) ((mFr_n ggp622).trans hN) ⟨pp622e.2.1.1, by have := pp622e.2.1; omega⟩) (fun wp627 hp627 p627 => ?_)
    obtain ⟨⟨cp627, rfl, kp627⟩, rfl⟩ := p627
    refine tw_push rfl ?_
    refine tw_ic_ne rfl (fun q628 => ?_) (fun q628 => ?_)
    · try dsimp only [tvI_i, tvJ_j, tvR_r] at q628
      have q628i := zneq (Y := 91) (by decide) q628
      refine tw_aload rfl rfl ?_
      refine tw_push rfl ?_
      refine tw_put rfl (fun f629 => ?_)
      refine tG_setm f629 (hw_111_46 f629 (ggp622).1) (fun hf629 ef629 => ?_)
      try dsimp only [tvI_i] at ef629
      have gf629 := mFq_s (mFq_f ggp622) ef629 (Or.inr rfl)
      obtain ⟨pf629, sf629, tf629⟩ := mSte pp622e ef629
      exact tw_vret rfl ⟨rfl, gf629, mOut_r (by unfold mS0; rw [if_neg (fun z => p623 (by have y := z; rw [txt_k.1] at y; rw [sp622]; exact y)), if_neg (fun z => q628 (by have y := sgm_k kp627 91 (by decide); rw [sp622] at y; exact y.mpr z))]) pf629 (mD_k hD (tf629.trans tp622) ((mI_o ef629 (by decide)).trans dp622)) (by unfold mst; rw [mI_x ef629, tf629, tp622, sf629, sp622]; rfl)⟩
    · try dsimp only [tvI_i, tvJ_j, tvR_r] at q628
      have q628i := zeqi (Y := 91) (by decide) q628
      refine tw_aload rfl rfl ?_
      refine tw_push rfl ?_
      refine tw_aload rfl rfl ?_
      refine tw_getS rfl (hi_111_28 (ggp622).1) ?_
      have hw91 : (rB T n (ms h).1) < n ∧ T (rB T n (ms h).1) = 91 := by have y := sgm_k kp627 91 (by decide); rw [sp622] at y; exact y.mp q628
      refine tw_virt2 rfl (g_opensDeep hG hX (ggp622).1 pp622e ((mFr_T ggp622).trans hT) ((mFr_n ggp622).trans hN) (by decide) (by decide) (b := (rB T n (ms h).1)) ((mPl pp622e).trans (by rw [sp622]; rfl)) (by have := rB_le (T := T) hpn; omega) (mD_k hD tp622 dp622) (by rw [tp622]; exact hd)) (fun w9 hp630 p630 => ?_)
      obtain ⟨rfl, gp630, ⟨np630, pp630e, tp630, sp630, ddp630⟩ | ⟨np630, Fp630, ip630, jp630⟩⟩ := p630
      · have ggp630 := mFr_t ggp622 gp630
        refine tw_aload rfl rfl ?_
        refine tw_dup rfl ?_
        refine tw_getS rfl (hi_111_28 ggp630.1) ?_
        refine tw_push rfl ?_
        refine tw_iadd rfl ?_
        refine tw_put rfl (fun f631 => ?_)
        refine tG_setm f631 (hw_111_28 f631 (ggp630).1) (fun hf631 ef631 => ?_)
        try dsimp only [tvI_i] at ef631
        have gf631 := mFr_s ggp630 ef631 (by unfold mFs; omega)
        have hr9 : (rB T n (ms h).1) + 1 ≤ n := hw91.1
        obtain ⟨pf631, sf631, tf631⟩ := mTo pp630e ((mFr_n ggp630).trans hN) ef631 (v := (rB T n (ms h).1) + 1) (zp3 (k := (rB T n (ms h).1)) (j := 1) (by rw [mPl pp630e, sp630, sp622]; rfl) rfl (by have := rB_le (T := T) hpn; omega) (by decide)) hr9
        rw [sp630, sp622] at sf631
        refine tw_goto rfl ?_
        have hsk : mSk hf631 = 13 :: mSk h := by rw [tf631, tp630, tp622]; rfl
        have h46 : stN (tvI (tF hf631 111 46)) = 0 := by rw [mFr_46 gf631, h46s]; rfl
        exact tw_vret rfl ⟨rfl, mFq_f gf631, mOut_r (by unfold mS0; rw [if_neg (fun z => p623 (by have y := z; rw [txt_k.1] at y; rw [sp622]; exact y)), if_pos hw91, if_neg (by rw [← tp622]; exact np630)]) pf631 (mD_o ef631 (by decide) (by decide) ddp630) (by unfold mst; rw [h46, hsk, sf631]; rfl)⟩
      · have ggp630 := mFr_t ggp622 gp630
        refine tw_aload rfl rfl ?_
        refine tw_dup rfl ?_
        refine tw_getS rfl (hi_111_28 ggp630.1) ?_
        refine tw_push rfl ?_
        refine tw_iadd rfl ?_
        refine tw_put rfl (fun f632 => ?_)
        refine tG_setm f632 (hw_111_28 f632 (ggp630).1) (fun hf632 ef632 => ?_)
        try dsimp only [tvI_i] at ef632
        have gf632 := mFr_s ggp630 ef632 (by unfold mFs; omega)
        have zf632 := mFt_s Fp630 ef632 (by decide)
        have yf632 : (tvI (tF hp630 111 28)).toInt = (((rB T n (ms h).1) : Nat) : Int) := by rw [ip630, mPl pp622e, sp622]; rfl
        have Zf632 : mZp hf632 := mZ_of ggp630 hp ef632 (zp3 yf632 (j := 1) rfl (by have := rB_le (T := T) hpn; omega) (by decide)) (by have := rB_le (T := T) hpn; omega)
        refine tw_goto rfl ?_
        exact tw_vret rfl ⟨rfl, mFq_f gf632, mOut_l (by unfold mS0; rw [if_neg (fun z => p623 (by have y := z; rw [txt_k.1] at y; rw [sp622]; exact y)), if_pos hw91, if_pos (by rw [← tp622]; exact np630)]) zf632 Zf632⟩
