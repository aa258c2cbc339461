theorem vOf_n {W : Nat → Int64} {y : Int32} {c : Nat} (h : c < 100000) (hy : y.toInt = c) : vOf W c = y.toInt64 := by
  unfold vOf
  rw [if_neg (by omega)]
  have e : Int32.ofNat c = y := Int32.toInt_inj.mp ((yofN (by omega)).trans hy.symm)
  rw [e]
theorem vOf_w {W : Nat → Int64} {c : Nat} (h : 100000 ≤ c) : vOf W c = W (c - 100000) := if_pos h
theorem f_valueOf {G : zG} (hG : G.1 = zProg) {h : zH} {y : Int32} {c : Nat} (hs : tSh h) (h52 : tN h 52 = 12) (hy : y.toInt = c) (hc : c < 100012) : tC zTt G 69 [.ref 48, .int y] h (fun w h2 => w = some (.long (vOf (tJ h 52) c)) ∧ h2 = h) := by
  refine tC_in (by rw [hG]; rfl) (fun dp => ?_)
  have hd : (y - 100000).toInt = (c : Int) - 100000 := zsbM hy rfl (by omega) (by decide)
  have h12 : (Int32.ofNat (tN h 52)).toInt = 12 := by rw [h52]; rfl
  refine tw_iload rfl rfl ?_
  refine tw_push rfl ?_
  refine tw_isub rfl ?_
  refine tw_istore rfl ?_
  refine tw_iload rfl rfl ?_
  refine tw_if_lt rfl (fun q879 => ?_) (fun q879 => ?_)
  · try dsimp only [tvI_i, tvJ_j, tvR_r] at q879
    refine tw_iload rfl rfl ?_
    refine tw_i2l rfl ?_
    exact tw_lret rfl ⟨by rw [vOf_n (by omega) hy]; rfl, rfl⟩
  · try dsimp only [tvI_i, tvJ_j, tvR_r] at q879
    refine tw_iload rfl rfl ?_
    refine tw_aload rfl rfl ?_
    refine tw_getS rfl (hs_48_4 hs) ?_
    refine tw_alen rfl ?_
    refine tw_ic_ge rfl (fun q880 => ?_) (fun q880 => ?_)
    · try dsimp only [tvI_i, tvJ_j, tvR_r] at q880
      exfalso
      omega
    · try dsimp only [tvI_i, tvJ_j, tvR_r] at q880
      refine tw_aload rfl rfl ?_
      refine tw_getS rfl (hs_48_4 hs) ?_
      refine tw_iload rfl rfl ?_
      refine tw_lald rfl (fun f881 => ?_)
      refine tw_goto rfl ?_
      have e9 : (y - 100000).toNatClampNeg = c - 100000 := zof_cl (by omega)
      exact tw_lret rfl ⟨congrArg (fun z => some (Value.long z)) (show tJ h 52 (y - 100000).toNatClampNeg = _ from by rw [e9, vOf_w (by omega)]), rfl⟩
theorem f_join {G : zG} (hG : G.1 = zProg) {h : zH} {y : Int32} {c : Nat} {a b : Int64} (hy : y.toInt = c) (h1 : 100100 ≤ c) (h2 : c < 100110) : tC zTt G 70 [.int y, .long a, .long b] h (fun w h2 => w = some (.long (jo c a b)) ∧ h2 = h) := by
  refine tC_in (by rw [hG]; rfl) (fun dp => ?_)
  refine tw_iload rfl rfl ?_
  refine tw_table rfl (fun q882 => ?_) (fun t9 q882a q882b q882c => ?_)
  · try dsimp only [tvI_i, tvJ_j, tvR_r] at q882
    exfalso
    omega
  · have q882d : (tvI (.int y)).toInt = 100100 ∨ (tvI (.int y)).toInt = 100101 ∨ (tvI (.int y)).toInt = 100102 ∨ (tvI (.int y)).toInt = 100103 ∨ (tvI (.int y)).toInt = 100104 ∨ (tvI (.int y)).toInt = 100105 ∨ (tvI (.int y)).toInt = 100106 ∨ (tvI (.int y)).toInt = 100107 ∨ (tvI (.int y)).toInt = 100108 ∨ (tvI (.int y)).toInt = 100109 := by omega
    rcases q882d with q882 | q882 | q882 | q882 | q882 | q882 | q882 | q882 | q882 | q882
    · obtain rfl : t9 = 56 := by rw [q882] at q882c; exact Option.some.inj (q882c.symm.trans rfl)
      try dsimp only [tvI_i, tvJ_j, tvR_r] at q882
      refine tw_lload rfl rfl ?_
      refine tw_lload rfl rfl ?_
      refine tw_ladd rfl ?_
      obtain rfl : c = 100100 := by omega
      exact tw_lret rfl ⟨rfl, rfl⟩
    · obtain rfl : t9 = 60 := by rw [q882] at q882c; exact Option.some.inj (q882c.symm.trans rfl)
      try dsimp only [tvI_i, tvJ_j, tvR_r] at q882
      refine tw_lload rfl rfl ?_
      refine tw_lload rfl rfl ?_
      refine tw_lsub rfl ?_
      obtain rfl : c = 100101 := by omega
      exact tw_lret rfl ⟨rfl, rfl⟩
    · obtain rfl : t9 = 64 := by rw [q882] at q882c; exact Option.some.inj (q882c.symm.trans rfl)
      try dsimp only [tvI_i, tvJ_j, tvR_r] at q882
      refine tw_lload rfl rfl ?_
      refine tw_lload rfl rfl ?_
      refine tw_lmul rfl ?_
      obtain rfl : c = 100102 := by omega
      exact tw_lret rfl ⟨rfl, rfl⟩
    · obtain rfl : t9 = 76 := by rw [q882] at q882c; exact Option.some.inj (q882c.symm.trans rfl)
      try dsimp only [tvI_i, tvJ_j, tvR_r] at q882
      refine tw_lload rfl rfl ?_
      refine tw_lload rfl rfl ?_
      refine tw_lc_ge rfl rfl (fun q883 => ?_) (fun q883 => ?_)
      · try dsimp only [tvI_i, tvJ_j, tvR_r] at q883
        refine tw_push rfl ?_
        obtain rfl : c = 100103 := by omega
        exact tw_lret rfl ⟨congrArg (fun z => some (Value.long z)) (b64_0 (p := a.toInt < b.toInt) (by omega)).symm, rfl⟩
      · try dsimp only [tvI_i, tvJ_j, tvR_r] at q883
        refine tw_push rfl ?_
        refine tw_goto rfl ?_
        obtain rfl : c = 100103 := by omega
        exact tw_lret rfl ⟨congrArg (fun z => some (Value.long z)) (b64_1 (p := a.toInt < b.toInt) (by omega)).symm, rfl⟩
    · obtain rfl : t9 = 88 := by rw [q882] at q882c; exact Option.some.inj (q882c.symm.trans rfl)
      try dsimp only [tvI_i, tvJ_j, tvR_r] at q882
      refine tw_lload rfl rfl ?_
      refine tw_lload rfl rfl ?_
      refine tw_lc_gt rfl rfl (fun q884 => ?_) (fun q884 => ?_)
      · try dsimp only [tvI_i, tvJ_j, tvR_r] at q884
        refine tw_push rfl ?_
        obtain rfl : c = 100104 := by omega
        exact tw_lret rfl ⟨congrArg (fun z => some (Value.long z)) (b64_0 (p := a.toInt ≤ b.toInt) (by omega)).symm, rfl⟩
      · try dsimp only [tvI_i, tvJ_j, tvR_r] at q884
        refine tw_push rfl ?_
        refine tw_goto rfl ?_
        obtain rfl : c = 100104 := by omega
        exact tw_lret rfl ⟨congrArg (fun z => some (Value.long z)) (b64_1 (p := a.toInt ≤ b.toInt) (by omega)).symm, rfl⟩
    · obtain rfl : t9 = 100 := by rw [q882] at q882c; exact Option.some.inj (q882c.symm.trans rfl)
      try dsimp only [tvI_i, tvJ_j, tvR_r] at q882
      refine tw_lload rfl rfl ?_
      refine tw_lload rfl rfl ?_
      refine tw_lc_ne rfl rfl (fun q885 => ?_) (fun q885 => ?_)
      · try dsimp only [tvI_i, tvJ_j, tvR_r] at q885
        refine tw_push rfl ?_
        obtain rfl : c = 100105 := by omega
        exact tw_lret rfl ⟨congrArg (fun z => some (Value.long z)) (b64_0 (p := a = b) q885).symm, rfl⟩
      · try dsimp only [tvI_i, tvJ_j, tvR_r] at q885
        refine tw_push rfl ?_
        refine tw_goto rfl ?_
        obtain rfl : c = 100105 := by omega
        exact tw_lret rfl ⟨congrArg (fun z => some (Value.long z)) (b64_1 (p := a = b) q885).symm, rfl⟩
    · obtain rfl : t9 = 112 := by rw [q882] at q882c; exact Option.some.inj (q882c.symm.trans rfl)
      try dsimp only [tvI_i, tvJ_j, tvR_r] at q882
      refine tw_lload rfl rfl ?_
      refine tw_lload rfl rfl ?_
      refine tw_lc_lt rfl rfl (fun q886 => ?_) (fun q886 => ?_)
      · try dsimp only [tvI_i, tvJ_j, tvR_r] at q886
        refine tw_push rfl ?_
        obtain rfl : c = 100106 := by omega
        exact tw_lret rfl ⟨congrArg (fun z => some (Value.long z)) (b64_0 (p := b.toInt ≤ a.toInt) (by omega)).symm, rfl⟩
      · try dsimp only [tvI_i, tvJ_j, tvR_r] at q886
        refine tw_push rfl ?_
        refine tw_goto rfl ?_
        obtain rfl : c = 100106 := by omega
        exact tw_lret rfl ⟨congrArg (fun z => some (Value.long z)) (b64_1 (p := b.toInt ≤ a.toInt) (by omega)).symm, rfl⟩
    · obtain rfl : t9 = 124 := by rw [q882] at q882c; exact Option.some.inj (q882c.symm.trans rfl)
      try dsimp only [tvI_i, tvJ_j, tvR_r] at q882
      refine tw_lload rfl rfl ?_
      refine tw_lload rfl rfl ?_
      refine tw_lc_le rfl rfl (fun q887 => ?_) (fun q887 => ?_)
      · try dsimp only [tvI_i, tvJ_j, tvR_r] at q887
        refine tw_push rfl ?_
        obtain rfl : c = 100107 := by omega
        exact tw_lret rfl ⟨congrArg (fun z => some (Value.long z)) (b64_0 (p := b.toInt < a.toInt) (by omega)).symm, rfl⟩
      · try dsimp only [tvI_i, tvJ_j, tvR_r] at q887
        refine tw_push rfl ?_
        refine tw_goto rfl ?_
        obtain rfl : c = 100107 := by omega
        exact tw_lret rfl ⟨congrArg (fun z => some (Value.long z)) (b64_1 (p := b.toInt < a.toInt) (by omega)).symm, rfl⟩
    · obtain rfl : t9 = 68 := by rw [q882] at q882c; exact Option.some.inj (q882c.symm.trans rfl)
      try dsimp only [tvI_i, tvJ_j, tvR_r] at q882
      refine tw_lload rfl rfl ?_
      refine tw_lload rfl rfl ?_
      refine tw_lor rfl ?_
      obtain rfl : c = 100108 := by omega
      exact tw_lret rfl ⟨rfl, rfl⟩
    · obtain rfl : t9 = 72 := by rw [q882] at q882c; exact Option.some.inj (q882c.symm.trans rfl)
      try dsimp only [tvI_i, tvJ_j, tvR_r] at q882
      refine tw_lload rfl rfl ?_
      refine tw_lload rfl rfl ?_
      refine tw_land rfl ?_
      obtain rfl : c = 100109 := by omega
      exact tw_lret rfl ⟨rfl, rfl⟩
theorem zdecM {x : Int32} {a : Nat} (hx : x.toInt = a) (h : 1 ≤ a) (ha : a ≤ 1000000) : (x + (-1)).toInt = (a : Int) - 1 := by
  rw [Int32.toInt_add, hx, show (-1 : Int32).toInt = -1 from rfl]
  exact Int.bmod_eq_of_le (by show (-2147483648 : Int) ≤ (a : Int) + -1; omega) (by show (a : Int) + -1 < (2147483648 : Int); omega)
theorem f_work {G : zG} (hG : G.1 = zProg) {h : zH} {a b : Nat} {x y : Int32} {e : List Nat} {t : Bool} (hs : tSh h) (h52 : tN h 52 = 12) (h53 : tN h 53 = 80) (hx : x.toInt = b) (hy : y.toInt = ((b + e.length : Nat) : Int)) (hN : b + e.length ≤ tN h a ∧ tN h a ≤ 400) (hv : ∀ i, i < tN h a → 0 ≤ (tA h a i).toInt) (hc : cdAt (fun i => (tA h a i).toNatClampNeg) b e) (ht : tyL [] e = some [t]) (hn : nVl e ≤ 80) : tC zTt G 68 [.ref 48, .ref a, .int x, .int y] h (fun w h2 => w = some (.long (wv (tJ h 52) e)) ∧ wFr 53 h h2) := by
  refine tC_in (by rw [hG]; rfl) (fun dp => ?_)
  refine tw_push rfl ?_
  refine tw_istore rfl ?_
  refine tw_iload rfl rfl ?_
  refine tw_istore rfl ?_
  refine tG_loop (zW_mono zTt G dp) (zW_conj zTt G dp) (V := fun pc L st h9 _ _ => pc = 6 ∧ st = [] ∧ ∃ (h1 : zH) (k top : Nat) (z u : Int32) (e2 : List Nat) (X : List Int64) (S : List Bool) (l6 : Option Value), h1 = h9 ∧ wFr 53 h h1 ∧ z.toInt = k ∧ u.toInt = top ∧ k + e2.length = b + e.length ∧ evA (tJ h 52) (fun i => (tA h a i).toNatClampNeg) (tJ h1 53) [wv (tJ h 52) e] k top e2 X S ∧ L = [some (.ref 48), some (.ref a), some (.int x), some (.int y), some (.int u), some (.int z), l6]) ?_ (⟨rfl, rfl, h, b, 0, x, 0, e, [], [], _, rfl, wFr_r hs, hx, rfl, rfl, evA_0 hc ht hn, rfl⟩)
  rintro _ _ _ _ _ _ ⟨rfl, rfl, h1, k, top, z, u, e2, X, S, l6, rfl, hF, hz, hu, hke, hE, rfl⟩
  have k19 : (1 : Int32).toInt = 1 := rfl
  have k29 : (100100 : Int32).toInt = 100100 := rfl
  have h80 : (Int32.ofNat (tN h1 53)).toInt = 80 := by rw [hF.2.2.2.2.1, h53]; rfl
  have hla : (Int32.ofNat (tN h1 a)).toInt = tN h a := by rw [hF.2.2.2.2.1]; exact yofN (by omega)
  refine tw_iload rfl rfl ?_
  refine tw_iload rfl rfl ?_
  refine tw_ic_ge rfl (fun q888 => ?_) (fun q888 => ?_)
  · try dsimp only [tvI_i, tvJ_j, tvR_r] at q888
    refine tw_iload rfl rfl ?_
    refine tw_if_le rfl (fun q889 => ?_) (fun q889 => ?_)
    · try dsimp only [tvI_i, tvJ_j, tvR_r] at q889
      exfalso
      have e2n : e2 = [] := List.length_eq_zero_iff.mp (by omega)
      subst e2n
      have y1 := evA_e hE
      omega
    · try dsimp only [tvI_i, tvJ_j, tvR_r] at q889
      refine tw_aload rfl rfl ?_
      refine tw_getS rfl (hs_48_5 hF.1) ?_
      refine tw_push rfl ?_
      refine tw_lald rfl (fun f890 => ?_)
      refine tw_goto rfl ?_
      have e2n : e2 = [] := List.length_eq_zero_iff.mp (by omega)
      subst e2n
      have y1 := evA_e hE
      exact tw_lret rfl ⟨congrArg (fun z => some (Value.long z)) (show tJ h1 53 0 = _ from y1.2), hF⟩
  · try dsimp only [tvI_i, tvJ_j, tvR_r] at q888
    refine tw_iload rfl rfl ?_
    refine tw_aload rfl rfl ?_
    refine tw_alen rfl ?_
    refine tw_ic_ge rfl (fun q891 => ?_) (fun q891 => ?_)
    · try dsimp only [tvI_i, tvJ_j, tvR_r] at q891
      exfalso
      omega
    · try dsimp only [tvI_i, tvJ_j, tvR_r] at q891
      rcases e2 with _ | ⟨c, e3⟩
      · exfalso; have hke : k + 0 = b + e.length := hke; omega
      have hke : k + (e3.length + 1) = b + e.length := hke
      have hcl : (tA h a k).toNatClampNeg = c := hE.at_.1
      have hcv : (tA h1 a z.toNatClampNeg).toInt = (c : Int) := by rw [hF.2.2.1, zof_cl hz]; have y1 := hv k (by omega); rw [zclE] at hcl; omega
      have hc0 : (tA h1 a z.toNatClampNeg).toInt = (c : Int) := hcv
      have h79 : top ≤ 80 := by have y1 := hE.few; have y2 := hE.len; omega
      refine tw_aload rfl rfl ?_
      refine tw_iload rfl rfl ?_
      refine tw_iald rfl (fun f892 => ?_)
      refine tw_istore rfl ?_
      refine tw_iload rfl rfl ?_
      refine tw_push rfl ?_
      refine tw_ic_ge rfl (fun q893 => ?_) (fun q893 => ?_)
      · try dsimp only [tvI_i, tvJ_j, tvR_r] at q893
        refine tw_iload rfl rfl ?_
        refine tw_push rfl ?_
        refine tw_ic_ne rfl (fun q894 => ?_) (fun q894 => ?_)
        · try dsimp only [tvI_i, tvJ_j, tvR_r] at q894
          have q894i := zneq (Y := 100110) (by decide) q894
          refine tw_iload rfl rfl ?_
          refine tw_push rfl ?_
          refine tw_ic_le rfl (fun q895 => ?_) (fun q895 => ?_)
          · try dsimp only [tvI_i, tvJ_j, tvR_r] at q895
            exfalso
            have y1 := (evA_j hE (by omega) (by omega)).1
            omega
          · try dsimp only [tvI_i, tvJ_j, tvR_r] at q895
            obtain ⟨y0, y1, y2, -, X2, S2, E2⟩ := evA_j hE (by omega) (by omega)
            have hd1 : (u + (-1)).toInt = ((top - 1 : Nat) : Int) := (zdecM hu (by omega) (by omega)).trans (by omega)
            have hd2 : (u + (-1) - 1).toNatClampNeg = top - 2 := zof_cl ((zsbM (b := 1) hd1 rfl (by omega) (by decide)).trans (by omega))
            have hd3 : (u + (-1)).toNatClampNeg = top - 1 := zof_cl hd1
            refine tw_iinc rfl rfl ?_
            refine tw_aload rfl rfl ?_
            refine tw_getS rfl (hs_48_5 hF.1) ?_
            refine tw_iload rfl rfl ?_
            refine tw_push rfl ?_
            refine tw_isub rfl ?_
            refine tw_iload rfl rfl ?_
            refine tw_aload rfl rfl ?_
            refine tw_getS rfl (hs_48_5 hF.1) ?_
            refine tw_iload rfl rfl ?_
            refine tw_push rfl ?_
            refine tw_isub rfl ?_
            refine tw_lald rfl (fun f896 => ?_)
            refine tw_aload rfl rfl ?_
            refine tw_getS rfl (hs_48_5 hF.1) ?_
            refine tw_iload rfl rfl ?_
            refine tw_lald rfl (fun f897 => ?_)
            refine tw_stat3 rfl (f_join hG hcv (by omega) (by omega)) (fun w9 h9 p898 => ?_)
            obtain ⟨rfl, e9⟩ := p898
            obtain rfl := e9.symm
            refine tw_last rfl (fun f899 => ?_)
            refine tG_lst f899 hF.1 (fun h3 a3 => ?_)
            try dsimp only [tvI_i, tvJ_j, tvR_r] at a3
            have hF3 := wFr_s hF a3
            refine tw_iinc rfl rfl ?_
            refine tw_goto rfl ?_
            have hk1 : (z + 1).toInt = ((k + 1 : Nat) : Int) := zincN hz (by omega)
            have hkl : k + 1 + e3.length = b + e.length := by omega
            rw [hd2, hd3] at a3
            have E3 : evA (tJ h 52) (fun i => (tA h a i).toNatClampNeg) (tJ h3 53) [wv (tJ h 52) e] (k + 1) (top - 1) e3 X2 S2 := by rw [mJs_g a3 rfl]; exact E2
            exact tG_cut (zW_mono zTt G dp) (Or.inr ⟨rfl, rfl, h3, k + 1, top - 1, z + 1, u + (-1), e3, X2, S2, _, rfl, hF3, hk1, hd1, hkl, E3, rfl⟩)
        · try dsimp only [tvI_i, tvJ_j, tvR_r] at q894
          have q894i := zeqi (Y := 100110) (by decide) q894
          refine tw_iload rfl rfl ?_
          refine tw_if_le rfl (fun q900 => ?_) (fun q900 => ?_)
          · try dsimp only [tvI_i, tvJ_j, tvR_r] at q900
            exfalso
            have y1 := (evA_n hE (by omega)).1
            omega
          · try dsimp only [tvI_i, tvJ_j, tvR_r] at q900
            obtain ⟨y0, -, X2, S2, E2⟩ := evA_n hE (by omega)
            have hu1 : (u - 1).toNatClampNeg = top - 1 := zof_cl ((zsbM (b := 1) hu rfl (by omega) (by decide)).trans (by omega))
            refine tw_aload rfl rfl ?_
            refine tw_getS rfl (hs_48_5 hF.1) ?_
            refine tw_iload rfl rfl ?_
            refine tw_push rfl ?_
            refine tw_isub rfl ?_
            refine tw_push rfl ?_
            refine tw_aload rfl rfl ?_
            refine tw_getS rfl (hs_48_5 hF.1) ?_
            refine tw_iload rfl rfl ?_
            refine tw_push rfl ?_
            refine tw_isub rfl ?_
            refine tw_lald rfl (fun f901 => ?_)
            refine tw_lsub rfl ?_
            refine tw_last rfl (fun f902 => ?_)
            refine tG_lst f902 hF.1 (fun h3 a3 => ?_)
            try dsimp only [tvI_i, tvJ_j, tvR_r] at a3
            have hF3 := wFr_s hF a3
            refine tw_goto rfl ?_
            refine tw_iinc rfl rfl ?_
            refine tw_goto rfl ?_
            have hk1 : (z + 1).toInt = ((k + 1 : Nat) : Int) := zincN hz (by omega)
            have hkl : k + 1 + e3.length = b + e.length := by omega
            rw [hu1] at a3
            have E3 : evA (tJ h 52) (fun i => (tA h a i).toNatClampNeg) (tJ h3 53) [wv (tJ h 52) e] (k + 1) top e3 X2 S2 := by rw [mJs_g a3 rfl]; exact E2
            exact tG_cut (zW_mono zTt G dp) (Or.inr ⟨rfl, rfl, h3, k + 1, top, z + 1, u, e3, X2, S2, _, rfl, hF3, hk1, hu, hkl, E3, rfl⟩)
      · try dsimp only [tvI_i, tvJ_j, tvR_r] at q893
        refine tw_iload rfl rfl ?_
        refine tw_aload rfl rfl ?_
        refine tw_getS rfl (hs_48_5 hF.1) ?_
        refine tw_alen rfl ?_
        refine tw_ic_ge rfl (fun q903 => ?_) (fun q903 => ?_)
        · try dsimp only [tvI_i, tvJ_j, tvR_r] at q903
          exfalso
          have y1 := (evA_v hE (by omega)).1
          omega
        · try dsimp only [tvI_i, tvJ_j, tvR_r] at q903
          obtain ⟨y80, y12, X2, S2, E2⟩ := evA_v hE (by omega)
          refine tw_aload rfl rfl ?_
          refine tw_getS rfl (hs_48_5 hF.1) ?_
          refine tw_iload rfl rfl ?_
          refine tw_aload rfl rfl ?_
          refine tw_iload rfl rfl ?_
          refine tw_virt1 rfl (f_valueOf hG hF.1 (by rw [hF.2.2.2.2.1]; exact h52) hcv y12) (fun w9 h9 p904 => ?_)
          obtain ⟨rfl, e9⟩ := p904
          obtain rfl := e9.symm
          refine tw_last rfl (fun f905 => ?_)
          refine tG_lst f905 hF.1 (fun h3 a3 => ?_)
          try dsimp only [tvI_i, tvJ_j, tvR_r] at a3
          have hF3 := wFr_s hF a3
          refine tw_iinc rfl rfl ?_
          refine tw_goto rfl ?_
          refine tw_iinc rfl rfl ?_
          refine tw_goto rfl ?_
          have hk1 : (z + 1).toInt = ((k + 1 : Nat) : Int) := zincN hz (by omega)
          have hkl : k + 1 + e3.length = b + e.length := by omega
          rw [zof_cl hu, hF.2.2.2.2.2 52 (by decide)] at a3
          have E3 : evA (tJ h 52) (fun i => (tA h a i).toNatClampNeg) (tJ h3 53) [wv (tJ h 52) e] (k + 1) (top + 1) e3 X2 S2 := by rw [mJs_g a3 rfl]; exact E2
          exact tG_cut (zW_mono zTt G dp) (Or.inr ⟨rfl, rfl, h3, k + 1, top + 1, z + 1, u + 1, e3, X2, S2, _, rfl, hF3, hk1, zincN hu (by omega), hkl, E3, rfl⟩)
theorem f_firstTrue {G : zG} (hG : G.1 = zProg) {h : zH} {a b q K th : Nat} {y t : Int32} {cs : List Nat} {cl : Nat → rCt} (hs : tSh h) (h52 : tN h 52 = 12) (h53 : tN h 53 = 80) (D : rDt h a b K cs cl) (hy : y.toInt = q) (hq : (q : Int) < (tvI (tF h 48 3)).toInt) (h50 : tO h 50 q = some a) (h51 : tO h 51 q = some b) (ht : t.toInt = th) : tC zTt G 66 [.ref 48, .int y, .int t] h (fun w h2 => wFr 53 h h2 ∧ fTr (tJ h 52) cs cl K th (fun i => 4 * i) w) := by
  refine tC_in (by rw [hG]; rfl) (fun dp => ?_)
  have hyq : y.toNatClampNeg = q := zof_cl hy
  have o50 : ∀ h1, wFr 53 h h1 → zrf (tO h1 50 y.toNatClampNeg) = .ref a := fun h1 k => by rw [k.2.2.2.1, hyq, h50]; rfl
  have o51 : zrf (tO h 51 y.toNatClampNeg) = .ref b := by rw [hyq, h51]; rfl
  refine tw_iload rfl rfl ?_
  refine tw_if_lt rfl (fun q906 => ?_) (fun q906 => ?_)
  · try dsimp only [tvI_i, tvJ_j, tvR_r] at q906
    exfalso
    omega
  · try dsimp only [tvI_i, tvJ_j, tvR_r] at q906
    refine tw_iload rfl rfl ?_
    refine tw_aload rfl rfl ?_
    refine tw_getS rfl (hi_48_3 hs) ?_
    refine tw_ic_lt rfl (fun q907 => ?_) (fun q907 => ?_)
    · try dsimp only [tvI_i, tvJ_j, tvR_r] at q907
      refine tw_aload rfl rfl ?_
      refine tw_getS rfl (hs_48_2 hs) ?_
      refine tw_iload rfl rfl ?_
      refine tw_aaldS rfl (fun _ => o51) ?_
      refine tw_astore rfl ?_
      refine tw_push rfl ?_
      refine tw_istore rfl ?_
      refine tG_loop (zW_mono zTt G dp) (zW_conj zTt G dp) (V := fun pc L st h9 _ _ => pc = 24 ∧ st = [] ∧ ∃ (h1 : zH) (i : Nat) (x : Int32) (l5 : Option Value), h1 = h9 ∧ wFr 53 h h1 ∧ i ≤ K ∧ x.toInt = ((4 * i : Nat) : Int) ∧ (∀ j, j < i → ¬ hit (tJ h 52) cs (cl j) th) ∧ L = [some (.ref 48), some (.int y), some (.int t), some (.ref b), some (.int x), l5]) ?_ (⟨rfl, rfl, h, 0, 0, _, rfl, wFr_r hs, Nat.zero_le _, rfl, fun j hj => absurd hj (Nat.not_lt_zero _), rfl⟩)
      rintro _ _ _ _ _ _ ⟨rfl, rfl, h1, i, x, l5, rfl, hF, hiK, hx, hall, rfl⟩
      have hlb : (Int32.ofNat (tN h1 b)).toInt = ((4 * K : Nat) : Int) := by rw [hF.2.2.2.2.1, D.len]; exact yofN (by have := D.few; omega)
      have hx4 : (x + 4).toInt = ((4 * i + 4 : Nat) : Int) := zadN (b := 4) hx rfl (by have := D.few; omega) (by decide)
      refine tw_iload rfl rfl ?_
      refine tw_push rfl ?_
      refine tw_iadd rfl ?_
      refine tw_aload rfl rfl ?_
      refine tw_alen rfl ?_
      refine tw_ic_gt rfl (fun q909 => ?_) (fun q909 => ?_)
      · try dsimp only [tvI_i, tvJ_j, tvR_r] at q909
        refine tw_push rfl ?_
        exact tw_iret rfl ⟨hF, Or.inl ⟨rfl, fun i9 h9 => hall i9 (by have y2 := hlb; omega)⟩⟩
      · try dsimp only [tvI_i, tvJ_j, tvR_r] at q909
        have hi : i < K := by have y1 := hx4; have y2 := hlb; omega
        obtain ⟨d0, d1, d2, d3⟩ := D.row i hi
        have x0 : x.toNatClampNeg = 4 * i := zof_cl hx
        have x2 : (x + 2).toNatClampNeg = 4 * i + 2 := zof_cl (zadN (b := 2) hx rfl (by have := D.few; omega) (by decide))
        have x3 : (x + 3).toNatClampNeg = 4 * i + 3 := zof_cl (zadN (b := 3) hx rfl (by have := D.few; omega) (by decide))
        have eA := hF.2.2.1
        have v0 : (tA h1 b x.toNatClampNeg).toInt = ((cl i).1 : Int) := by rw [eA, x0]; exact d0
        have v2 : (tA h1 b (x + 2).toNatClampNeg).toInt = ((cl i).2.2.1 : Int) := by rw [eA, x2]; exact d2
        have v3 : (tA h1 b (x + 3).toNatClampNeg).toInt = ((cl i).2.2.2 : Int) := by rw [eA, x3]; exact d3
        refine tw_aload rfl rfl ?_
        refine tw_iload rfl rfl ?_
        refine tw_push rfl ?_
        refine tw_iadd rfl ?_
        refine tw_iald rfl (fun f910 => ?_)
        refine tw_aload rfl rfl ?_
        refine tw_iload rfl rfl ?_
        refine tw_push rfl ?_
        refine tw_iadd rfl ?_
        refine tw_iald rfl (fun f911 => ?_)
        refine tw_ic_ne rfl (fun q912 => ?_) (fun q912 => ?_)
        · try dsimp only [tvI_i, tvJ_j, tvR_r] at q912
          have q912i := zneq rfl q912
          refine tw_push rfl ?_
          refine tw_istore rfl ?_
          refine tw_aload rfl rfl ?_
          refine tw_iload rfl rfl ?_
          refine tw_iald rfl (fun f913 => ?_)
          refine tw_iload rfl rfl ?_
          refine tw_ic_ne rfl (fun q914 => ?_) (fun q914 => ?_)
          · try dsimp only [tvI_i, tvJ_j, tvR_r] at q914
            have q914i := zneq rfl q914
            refine tw_iinc rfl rfl ?_
            refine tw_goto rfl ?_
            have hx9 : (x + 4).toInt = ((4 * (i + 1) : Nat) : Int) := (zadN (b := 4) hx rfl (by have := D.few; omega) (by decide)).trans (by omega)
            have hno : ¬ hit (tJ h 52) cs (cl i) th := (fun z => q914i (by have y1 := z.1; omega))
            exact tG_cut (zW_mono zTt G dp) (Or.inr ⟨rfl, rfl, _, i + 1, x + 4, _, rfl, hF, by omega, hx9, fun j hj => (Classical.em (j = i)).elim (fun z => by rw [z]; exact hno) (fun z => hall j (by omega)), rfl⟩)
          · try dsimp only [tvI_i, tvJ_j, tvR_r] at q914
            have q914i := zeqi rfl q914
            refine tw_iload rfl rfl ?_
            refine tw_if_ne rfl (fun z => absurd z (by decide)) (fun _ => ?_)
            refine tw_aload rfl rfl ?_
            refine tw_aload rfl rfl ?_
            refine tw_getS rfl (hs_48_1 hF.1) ?_
            refine tw_iload rfl rfl ?_
            refine tw_aaldS rfl (fun _ => o50 _ hF) ?_
            refine tw_aload rfl rfl ?_
            refine tw_iload rfl rfl ?_
            refine tw_push rfl ?_
            refine tw_iadd rfl ?_
            refine tw_iald rfl (fun f916 => ?_)
            refine tw_aload rfl rfl ?_
            refine tw_iload rfl rfl ?_
            refine tw_push rfl ?_
            refine tw_iadd rfl ?_
            refine tw_iald rfl (fun f917 => ?_)
            obtain ⟨s1, s2, s3, s4, p, qq, s5, s6⟩ := rOk_t (D.ok i hi) D.nv (fun z => q912 (Int32.toInt_inj.mp (by omega)))
            refine tw_virt3 rfl (f_work hG hF.1 (by rw [hF.2.2.2.2.1]; exact h52) (by rw [hF.2.2.2.2.1]; exact h53) v2 (e := slc cs (cl i).2.2.1 (cl i).2.2.2) (t := true) (v3.trans (congrArg Nat.cast s1)) ⟨by rw [← s1, hF.2.2.2.2.1, ← cs_len D.arr]; exact s2, by rw [hF.2.2.2.2.1]; exact D.big⟩ (by rw [hF.2.2.2.2.1, hF.2.2.1]; exact D.pos) (by rw [hF.2.2.1]; exact cdAt_c D.arr s6 s5) s3 s4) (fun wp918 hp918 p918 => ?_)
            obtain ⟨rfl, Fp918⟩ := p918
            have hF2 := wFr_t hF Fp918
            rw [hF.2.2.2.2.2 52 (by decide)]
            refine tw_push rfl ?_
            refine tw_lc_eq rfl rfl (fun q919 => ?_) (fun q919 => ?_)
            · try dsimp only [tvI_i, tvJ_j, tvR_r] at q919
              refine tw_iinc rfl rfl ?_
              refine tw_goto rfl ?_
              have hx9 : (x + 4).toInt = ((4 * (i + 1) : Nat) : Int) := (zadN (b := 4) hx rfl (by have := D.few; omega) (by decide)).trans (by omega)
              have s0 : ¬ (cl i).2.2.1 = (cl i).2.2.2 := fun z => q912 (Int32.toInt_inj.mp (by omega))
              have hno : ¬ hit (tJ h 52) cs (cl i) th := (fun z => z.2.elim (fun y => s0 y) (fun y => y q919))
              exact tG_cut (zW_mono zTt G dp) (Or.inr ⟨rfl, rfl, _, i + 1, x + 4, _, rfl, hF2, by omega, hx9, fun j hj => (Classical.em (j = i)).elim (fun z => by rw [z]; exact hno) (fun z => hall j (by omega)), rfl⟩)
            · try dsimp only [tvI_i, tvJ_j, tvR_r] at q919
              refine tw_iload rfl rfl ?_
              exact tw_iret rfl ⟨hF2, Or.inr ⟨i, hi, ⟨by have y1 := q914i; omega, Or.inr q919⟩, hall, _, rfl, hx⟩⟩
        · try dsimp only [tvI_i, tvJ_j, tvR_r] at q912
          have q912i := zeqi rfl q912
          refine tw_push rfl ?_
          refine tw_goto rfl ?_
          refine tw_istore rfl ?_
          refine tw_aload rfl rfl ?_
          refine tw_iload rfl rfl ?_
          refine tw_iald rfl (fun f920 => ?_)
          refine tw_iload rfl rfl ?_
          refine tw_ic_ne rfl (fun q921 => ?_) (fun q921 => ?_)
          · try dsimp only [tvI_i, tvJ_j, tvR_r] at q921
            have q921i := zneq rfl q921
            refine tw_iinc rfl rfl ?_
            refine tw_goto rfl ?_
            have hx9 : (x + 4).toInt = ((4 * (i + 1) : Nat) : Int) := (zadN (b := 4) hx rfl (by have := D.few; omega) (by decide)).trans (by omega)
            have hno : ¬ hit (tJ h 52) cs (cl i) th := (fun z => q921i (by have y1 := z.1; omega))
            exact tG_cut (zW_mono zTt G dp) (Or.inr ⟨rfl, rfl, _, i + 1, x + 4, _, rfl, hF, by omega, hx9, fun j hj => (Classical.em (j = i)).elim (fun z => by rw [z]; exact hno) (fun z => hall j (by omega)), rfl⟩)
          · try dsimp only [tvI_i, tvJ_j, tvR_r] at q921
            have q921i := zeqi rfl q921
            refine tw_iload rfl rfl ?_
            refine tw_if_ne rfl (fun _ => ?_) (fun z => absurd z (by decide))
            refine tw_iload rfl rfl ?_
            exact tw_iret rfl ⟨hF, Or.inr ⟨i, hi, ⟨by have y1 := q921i; omega, Or.inl (by have y1 := q912i; omega)⟩, hall, _, rfl, hx⟩⟩
    · try dsimp only [tvI_i, tvJ_j, tvR_r] at q907
      exfalso
      omega
theorem f_sumOf {G : zG} (hG : G.1 = zProg) {h : zH} {a b q K i : Nat} {y x : Int32} {cs : List Nat} {cl : Nat → rCt} (hs : tSh h) (h52 : tN h 52 = 12) (h53 : tN h 53 = 80) (D : rDt h a b K cs cl) (hy : y.toInt = q) (h50 : tO h 50 q = some a) (h51 : tO h 51 q = some b) (hx : x.toInt = ((4 * i : Nat) : Int)) (hi : i < K) (h15 : (cl i).1 ≠ 15) : tC zTt G 67 [.ref 48, .int y, .int x] h (fun w h2 => w = some (.long (wv (tJ h 52) (slc cs (cl i).2.1 (cl i).2.2.1))) ∧ wFr 53 h h2) := by
  refine tC_in (by rw [hG]; rfl) (fun dp => ?_)
  have hyq : y.toNatClampNeg = q := zof_cl hy
  have o50 : zrf (tO h 50 y.toNatClampNeg) = .ref a := by rw [hyq, h50]; rfl
  have o51 : zrf (tO h 51 y.toNatClampNeg) = .ref b := by rw [hyq, h51]; rfl
  have hK := D.few
  obtain ⟨d0, d1, d2, d3⟩ := D.row i hi
  have x1 : (x + 1).toNatClampNeg = 4 * i + 1 := zof_cl (zadN (b := 1) hx rfl (by omega) (by decide))
  have x2 : (x + 2).toNatClampNeg = 4 * i + 2 := zof_cl (zadN (b := 2) hx rfl (by omega) (by decide))
  have v1 : (tA h b (x + 1).toNatClampNeg).toInt = ((cl i).2.1 : Int) := by rw [x1]; exact d1
  have v2 : (tA h b (x + 2).toNatClampNeg).toInt = ((cl i).2.2.1 : Int) := by rw [x2]; exact d2
  obtain ⟨s1, s2, s3, s4, p, qq, s5, s6⟩ := rOk_s (D.ok i hi) D.nv h15
  refine tw_aload rfl rfl ?_
  refine tw_aload rfl rfl ?_
  refine tw_getS rfl (hs_48_1 hs) ?_
  refine tw_iload rfl rfl ?_
  refine tw_aaldS rfl (fun _ => o50) ?_
  refine tw_aload rfl rfl ?_
  refine tw_getS rfl (hs_48_2 hs) ?_
  refine tw_iload rfl rfl ?_
  refine tw_aaldS rfl (fun _ => o51) ?_
  refine tw_iload rfl rfl ?_
  refine tw_push rfl ?_
  refine tw_iadd rfl ?_
  refine tw_iald rfl (fun f924 => ?_)
  refine tw_aload rfl rfl ?_
  refine tw_getS rfl (hs_48_2 hs) ?_
  refine tw_iload rfl rfl ?_
  refine tw_aaldS rfl (fun _ => o51) ?_
  refine tw_iload rfl rfl ?_
  refine tw_push rfl ?_
  refine tw_iadd rfl ?_
  refine tw_iald rfl (fun f926 => ?_)
  refine tw_virt3 rfl (f_work hG hs h52 h53 v1 (e := slc cs (cl i).2.1 (cl i).2.2.1) (t := false) (v2.trans (congrArg Nat.cast s1)) ⟨by rw [← s1, ← cs_len D.arr]; exact s2, D.big⟩ D.pos (cdAt_c D.arr s6 s5) s3 s4) (fun wp927 hp927 p927 => ?_)
  obtain ⟨rfl, Fp927⟩ := p927
  exact tw_lret rfl ⟨rfl, Fp927⟩
theorem g_truth1 {G : zG} (hG : G.1 = zProg) {h : zH} : tC zTt G 229 [.int 1] h (fun w h2 => w = some (.long 1) ∧ h2 = h) := by
  refine tC_in (by rw [hG]; rfl) (fun dp => ?_)
  refine tw_iload rfl rfl ?_
  refine tw_if_eq rfl (fun z => absurd z (by decide)) (fun _ => ?_)
  refine tw_push rfl ?_
  refine tw_goto rfl ?_
  exact tw_lret rfl ⟨rfl, rfl⟩
theorem g_truth0 {G : zG} (hG : G.1 = zProg) {h : zH} : tC zTt G 229 [.int 0] h (fun w h2 => w = some (.long 0) ∧ h2 = h) := by
  refine tC_in (by rw [hG]; rfl) (fun dp => ?_)
  refine tw_iload rfl rfl ?_
  refine tw_if_eq rfl (fun _ => ?_) (fun z => absurd z (by decide))
  refine tw_push rfl ?_
  exact tw_lret rfl ⟨rfl, rfl⟩
theorem g_two {G : zG} (hG : G.1 = zProg) {h : zH} {y : Int32} {s : Nat} {a b : Int64} (hy : y.toInt = s) (h1 : 2 ≤ s) (h2 : s ≤ 12) (h3 : s ≠ 10) : tC zTt G 230 [.int y, .long a, .long b] h (fun w h2 => w = some (.long (jp (mCode s 0) a b)) ∧ h2 = h) := by
  refine tC_in (by rw [hG]; rfl) (fun dp => ?_)
  refine tw_iload rfl rfl ?_
  refine tw_table rfl (fun q928 => ?_) (fun t9 q928a q928b q928c => ?_)
  · try dsimp only [tvI_i, tvJ_j, tvR_r] at q928
    refine tw_lload rfl rfl ?_
    refine tw_push rfl ?_
    refine tw_lc_ne rfl rfl (fun q929 => ?_) (fun q929 => ?_)
    · try dsimp only [tvI_i, tvJ_j, tvR_r] at q929
      refine tw_push rfl ?_
      refine tw_goto rfl ?_
      refine tw_stat1 rfl (g_truth1 hG) (fun w9 h9 p930 => ?_)
      obtain ⟨rfl, e9⟩ := p930
      obtain rfl := e9.symm
      obtain rfl : s = 12 := by omega
      exact tw_lret rfl ⟨congrArg (fun z => some (Value.long z)) (b64_1 (p := a ≠ 0 ∨ b ≠ 0) (Or.inl q929)).symm, rfl⟩
    · try dsimp only [tvI_i, tvJ_j, tvR_r] at q929
      refine tw_lload rfl rfl ?_
      refine tw_push rfl ?_
      refine tw_lc_eq rfl rfl (fun q931 => ?_) (fun q931 => ?_)
      · try dsimp only [tvI_i, tvJ_j, tvR_r] at q931
        refine tw_push rfl ?_
        refine tw_stat1 rfl (g_truth0 hG) (fun w9 h9 p932 => ?_)
        obtain ⟨rfl, e9⟩ := p932
        obtain rfl := e9.symm
        obtain rfl : s = 12 := by omega
        exact tw_lret rfl ⟨congrArg (fun z => some (Value.long z)) (b64_0 (p := a ≠ 0 ∨ b ≠ 0) (fun z => z.elim (fun y => y q929) (fun y => y q931))).symm, rfl⟩
      · try dsimp only [tvI_i, tvJ_j, tvR_r] at q931
        refine tw_push rfl ?_
        refine tw_goto rfl ?_
        refine tw_stat1 rfl (g_truth1 hG) (fun w9 h9 p933 => ?_)
        obtain ⟨rfl, e9⟩ := p933
        obtain rfl := e9.symm
        obtain rfl : s = 12 := by omega
        exact tw_lret rfl ⟨congrArg (fun z => some (Value.long z)) (b64_1 (p := a ≠ 0 ∨ b ≠ 0) (Or.inr q931)).symm, rfl⟩
  · have q928d : (tvI (.int y)).toInt = 2 ∨ (tvI (.int y)).toInt = 3 ∨ (tvI (.int y)).toInt = 4 ∨ (tvI (.int y)).toInt = 5 ∨ (tvI (.int y)).toInt = 6 ∨ (tvI (.int y)).toInt = 7 ∨ (tvI (.int y)).toInt = 8 ∨ (tvI (.int y)).toInt = 9 ∨ (tvI (.int y)).toInt = 10 ∨ (tvI (.int y)).toInt = 11 := by omega
    rcases q928d with q928 | q928 | q928 | q928 | q928 | q928 | q928 | q928 | q928 | q928
    · obtain rfl : t9 = 56 := by rw [q928] at q928c; exact Option.some.inj (q928c.symm.trans rfl)
      try dsimp only [tvI_i, tvJ_j, tvR_r] at q928
      refine tw_lload rfl rfl ?_
      refine tw_lload rfl rfl ?_
      refine tw_lmul rfl ?_
      obtain rfl : s = 2 := by omega
      exact tw_lret rfl ⟨rfl, rfl⟩
    · obtain rfl : t9 = 60 := by rw [q928] at q928c; exact Option.some.inj (q928c.symm.trans rfl)
      try dsimp only [tvI_i, tvJ_j, tvR_r] at q928
      refine tw_lload rfl rfl ?_
      refine tw_lload rfl rfl ?_
      refine tw_ladd rfl ?_
      obtain rfl : s = 3 := by omega
      exact tw_lret rfl ⟨rfl, rfl⟩
    · obtain rfl : t9 = 64 := by rw [q928] at q928c; exact Option.some.inj (q928c.symm.trans rfl)
      try dsimp only [tvI_i, tvJ_j, tvR_r] at q928
      refine tw_lload rfl rfl ?_
      refine tw_lload rfl rfl ?_
      refine tw_lsub rfl ?_
      obtain rfl : s = 4 := by omega
      exact tw_lret rfl ⟨rfl, rfl⟩
    · obtain rfl : t9 = 68 := by rw [q928] at q928c; exact Option.some.inj (q928c.symm.trans rfl)
      try dsimp only [tvI_i, tvJ_j, tvR_r] at q928
      refine tw_lload rfl rfl ?_
      refine tw_lload rfl rfl ?_
      refine tw_lc_ge rfl rfl (fun q934 => ?_) (fun q934 => ?_)
      · try dsimp only [tvI_i, tvJ_j, tvR_r] at q934
        refine tw_push rfl ?_
        refine tw_stat1 rfl (g_truth0 hG) (fun w9 h9 p935 => ?_)
        obtain ⟨rfl, e9⟩ := p935
        obtain rfl := e9.symm
        obtain rfl : s = 5 := by omega
        exact tw_lret rfl ⟨congrArg (fun z => some (Value.long z)) (b64_0 (p := a.toInt < b.toInt) (by omega)).symm, rfl⟩
      · try dsimp only [tvI_i, tvJ_j, tvR_r] at q934
        refine tw_push rfl ?_
        refine tw_goto rfl ?_
        refine tw_stat1 rfl (g_truth1 hG) (fun w9 h9 p936 => ?_)
        obtain ⟨rfl, e9⟩ := p936
        obtain rfl := e9.symm
        obtain rfl : s = 5 := by omega
        exact tw_lret rfl ⟨congrArg (fun z => some (Value.long z)) (b64_1 (p := a.toInt < b.toInt) (by omega)).symm, rfl⟩
    · obtain rfl : t9 = 83 := by rw [q928] at q928c; exact Option.some.inj (q928c.symm.trans rfl)
      try dsimp only [tvI_i, tvJ_j, tvR_r] at q928
      refine tw_lload rfl rfl ?_
      refine tw_lload rfl rfl ?_
      refine tw_lc_gt rfl rfl (fun q937 => ?_) (fun q937 => ?_)
      · try dsimp only [tvI_i, tvJ_j, tvR_r] at q937
        refine tw_push rfl ?_
        refine tw_stat1 rfl (g_truth0 hG) (fun w9 h9 p938 => ?_)
        obtain ⟨rfl, e9⟩ := p938
        obtain rfl := e9.symm
        obtain rfl : s = 6 := by omega
        exact tw_lret rfl ⟨congrArg (fun z => some (Value.long z)) (b64_0 (p := a.toInt ≤ b.toInt) (by omega)).symm, rfl⟩
      · try dsimp only [tvI_i, tvJ_j, tvR_r] at q937
        refine tw_push rfl ?_
        refine tw_goto rfl ?_
        refine tw_stat1 rfl (g_truth1 hG) (fun w9 h9 p939 => ?_)
        obtain ⟨rfl, e9⟩ := p939
        obtain rfl := e9.symm
        obtain rfl : s = 6 := by omega
        exact tw_lret rfl ⟨congrArg (fun z => some (Value.long z)) (b64_1 (p := a.toInt ≤ b.toInt) (by omega)).symm, rfl⟩
    · obtain rfl : t9 = 98 := by rw [q928] at q928c; exact Option.some.inj (q928c.symm.trans rfl)
      try dsimp only [tvI_i, tvJ_j, tvR_r] at q928
      refine tw_lload rfl rfl ?_
      refine tw_lload rfl rfl ?_
      refine tw_lc_ne rfl rfl (fun q940 => ?_) (fun q940 => ?_)
      · try dsimp only [tvI_i, tvJ_j, tvR_r] at q940
        refine tw_push rfl ?_
        refine tw_stat1 rfl (g_truth0 hG) (fun w9 h9 p941 => ?_)
        obtain ⟨rfl, e9⟩ := p941
        obtain rfl := e9.symm
        obtain rfl : s = 7 := by omega
        exact tw_lret rfl ⟨congrArg (fun z => some (Value.long z)) (b64_0 (p := a = b) q940).symm, rfl⟩
      · try dsimp only [tvI_i, tvJ_j, tvR_r] at q940
        refine tw_push rfl ?_
        refine tw_goto rfl ?_
        refine tw_stat1 rfl (g_truth1 hG) (fun w9 h9 p942 => ?_)
        obtain ⟨rfl, e9⟩ := p942
        obtain rfl := e9.symm
        obtain rfl : s = 7 := by omega
        exact tw_lret rfl ⟨congrArg (fun z => some (Value.long z)) (b64_1 (p := a = b) q940).symm, rfl⟩
    · obtain rfl : t9 = 113 := by rw [q928] at q928c; exact Option.some.inj (q928c.symm.trans rfl)
      try dsimp only [tvI_i, tvJ_j, tvR_r] at q928
      refine tw_lload rfl rfl ?_
      refine tw_lload rfl rfl ?_
      refine tw_lc_lt rfl rfl (fun q943 => ?_) (fun q943 => ?_)
      · try dsimp only [tvI_i, tvJ_j, tvR_r] at q943
        refine tw_push rfl ?_
        refine tw_stat1 rfl (g_truth0 hG) (fun w9 h9 p944 => ?_)
        obtain ⟨rfl, e9⟩ := p944
        obtain rfl := e9.symm
        obtain rfl : s = 8 := by omega
        exact tw_lret rfl ⟨congrArg (fun z => some (Value.long z)) (b64_0 (p := b.toInt ≤ a.toInt) (by omega)).symm, rfl⟩
      · try dsimp only [tvI_i, tvJ_j, tvR_r] at q943
        refine tw_push rfl ?_
        refine tw_goto rfl ?_
        refine tw_stat1 rfl (g_truth1 hG) (fun w9 h9 p945 => ?_)
        obtain ⟨rfl, e9⟩ := p945
        obtain rfl := e9.symm
        obtain rfl : s = 8 := by omega
        exact tw_lret rfl ⟨congrArg (fun z => some (Value.long z)) (b64_1 (p := b.toInt ≤ a.toInt) (by omega)).symm, rfl⟩
    · obtain rfl : t9 = 128 := by rw [q928] at q928c; exact Option.some.inj (q928c.symm.trans rfl)
      try dsimp only [tvI_i, tvJ_j, tvR_r] at q928
      refine tw_lload rfl rfl ?_
      refine tw_lload rfl rfl ?_
      refine tw_lc_le rfl rfl (fun q946 => ?_) (fun q946 => ?_)
      · try dsimp only [tvI_i, tvJ_j, tvR_r] at q946
        refine tw_push rfl ?_
        refine tw_stat1 rfl (g_truth0 hG) (fun w9 h9 p947 => ?_)
        obtain ⟨rfl, e9⟩ := p947
        obtain rfl := e9.symm
        obtain rfl : s = 9 := by omega
        exact tw_lret rfl ⟨congrArg (fun z => some (Value.long z)) (b64_0 (p := b.toInt < a.toInt) (by omega)).symm, rfl⟩
      · try dsimp only [tvI_i, tvJ_j, tvR_r] at q946
        refine tw_push rfl ?_
        refine tw_goto rfl ?_
        refine tw_stat1 rfl (g_truth1 hG) (fun w9 h9 p948 => ?_)
        obtain ⟨rfl, e9⟩ := p948
        obtain rfl := e9.symm
        obtain rfl : s = 9 := by omega
        exact tw_lret rfl ⟨congrArg (fun z => some (Value.long z)) (b64_1 (p := b.toInt < a.toInt) (by omega)).symm, rfl⟩
    · obtain rfl : t9 = 164 := by rw [q928] at q928c; exact Option.some.inj (q928c.symm.trans rfl)
      try dsimp only [tvI_i, tvJ_j, tvR_r] at q928
      exfalso
      omega
    · obtain rfl : t9 = 143 := by rw [q928] at q928c; exact Option.some.inj (q928c.symm.trans rfl)
      try dsimp only [tvI_i, tvJ_j, tvR_r] at q928
      refine tw_lload rfl rfl ?_
      refine tw_push rfl ?_
      refine tw_lc_eq rfl rfl (fun q949 => ?_) (fun q949 => ?_)
      · try dsimp only [tvI_i, tvJ_j, tvR_r] at q949
        refine tw_push rfl ?_
        refine tw_stat1 rfl (g_truth0 hG) (fun w9 h9 p950 => ?_)
        obtain ⟨rfl, e9⟩ := p950
        obtain rfl := e9.symm
        obtain rfl : s = 11 := by omega
        exact tw_lret rfl ⟨congrArg (fun z => some (Value.long z)) (b64_0 (p := a ≠ 0 ∧ b ≠ 0) (fun z => z.1 q949)).symm, rfl⟩
      · try dsimp only [tvI_i, tvJ_j, tvR_r] at q949
        refine tw_lload rfl rfl ?_
        refine tw_push rfl ?_
        refine tw_lc_eq rfl rfl (fun q951 => ?_) (fun q951 => ?_)
        · try dsimp only [tvI_i, tvJ_j, tvR_r] at q951
          refine tw_push rfl ?_
          refine tw_stat1 rfl (g_truth0 hG) (fun w9 h9 p952 => ?_)
          obtain ⟨rfl, e9⟩ := p952
          obtain rfl := e9.symm
          obtain rfl : s = 11 := by omega
          exact tw_lret rfl ⟨congrArg (fun z => some (Value.long z)) (b64_0 (p := a ≠ 0 ∧ b ≠ 0) (fun z => z.2 q951)).symm, rfl⟩
        · try dsimp only [tvI_i, tvJ_j, tvR_r] at q951
          refine tw_push rfl ?_
          refine tw_goto rfl ?_
          refine tw_stat1 rfl (g_truth1 hG) (fun w9 h9 p953 => ?_)
          obtain ⟨rfl, e9⟩ := p953
          obtain rfl := e9.symm
          obtain rfl : s = 11 := by omega
          exact tw_lret rfl ⟨congrArg (fun z => some (Value.long z)) (b64_1 (p := a ≠ 0 ∧ b ≠ 0) ⟨q949, q951⟩).symm, rfl⟩
theorem mC_o {s v c : Nat} (e : mCode s v = c) (h : s ≠ 0 ∧ s ≠ 1 ∧ s ≠ 10) : 100100 ≤ c ∧ c ≠ 100110 := by
  unfold mCode at e
  repeat' (split at e)
  all_goals omega
theorem g_answer {G : zG} (hG : G.1 = zProg) {h : zH} {q b : Nat} {y x1 x2 : Int32} {e : List Nat} {t : Bool} (hs : tSh h) (hy : y.toInt = q) (hq : q < 10) (hx1 : x1.toInt = b) (hx2 : x2.toInt = ((b + e.length : Nat) : Int)) (hN : b + e.length ≤ 400) (h133 : ∀ i, i < 5000 → 0 ≤ (tA h 133 i).toInt ∧ (tA h 133 i).toInt ≤ 14) (h134 : ∀ i, i < 5000 → 0 ≤ (tA h 134 i).toInt ∧ (tA h 134 i).toInt ≤ 99999) (hc : cdAt (fun i => mCode (tA h 133 (500 * q + i)).toNatClampNeg (tA h 134 (500 * q + i)).toNatClampNeg) b e) (ht : tyL [] e = some [t]) (hn : nVl e ≤ 80) : tC zTt G 231 [.ref 111, .int y, .int x1, .int x2] h (fun w h2 => w = some (.long (wv (tJ h 143) e)) ∧ wFr 144 h h2) := by
  refine tC_in (by rw [hG]; rfl) (fun dp => ?_)
  have m5 : (500 * y).toInt = ((500 * q : Nat) : Int) := zmul5 hy hq
  refine tw_push rfl ?_
  refine tw_istore rfl ?_
  refine tw_push rfl ?_
  refine tw_iload rfl rfl ?_
  refine tw_imul rfl ?_
  refine tw_iload rfl rfl ?_
  refine tw_iadd rfl ?_
  refine tw_istore rfl ?_
  refine tG_loop (zW_mono zTt G dp) (zW_conj zTt G dp) (V := fun pc L st h9 _ _ => pc = 12 ∧ st = [] ∧ ∃ (h1 : zH) (k top : Nat) (z u : Int32) (e2 : List Nat) (X : List Int64) (S : List Bool), h1 = h9 ∧ wFr 144 h h1 ∧ z.toInt = ((500 * q + k : Nat) : Int) ∧ u.toInt = top ∧ k + e2.length = b + e.length ∧ evA (tJ h 143) (fun i => mCode (tA h 133 (500 * q + i)).toNatClampNeg (tA h 134 (500 * q + i)).toNatClampNeg) (tJ h1 144) [wv (tJ h 143) e] k top e2 X S ∧ L = [some (.ref 111), some (.int y), some (.int x1), some (.int x2), some (.int u), some (.int z)]) ?_ (⟨rfl, rfl, h, b, 0, _, 0, e, [], [], rfl, wFr_r hs, zadN m5 hx1 (by omega) (by omega), rfl, rfl, evA_0 hc ht hn, rfl⟩)
  rintro _ _ _ _ _ _ ⟨rfl, rfl, h1, k, top, z, u, e2, X, S, rfl, hF, hz, hu, hke, hE, rfl⟩
  have hto : (500 * y + x2).toInt = ((500 * q + (b + e.length) : Nat) : Int) := zadN m5 hx2 (by omega) (by omega)
  refine tw_iload rfl rfl ?_
  refine tw_push rfl ?_
  refine tw_iload rfl rfl ?_
  refine tw_imul rfl ?_
  refine tw_iload rfl rfl ?_
  refine tw_iadd rfl ?_
  refine tw_ic_ge rfl (fun q954 => ?_) (fun q954 => ?_)
  · try dsimp only [tvI_i, tvJ_j, tvR_r] at q954
    refine tw_aload rfl rfl ?_
    refine tw_getS rfl (hs_111_49 hF.1) ?_
    refine tw_push rfl ?_
    refine tw_lald rfl (fun f955 => ?_)
    have e2n : e2 = [] := List.length_eq_zero_iff.mp (by omega)
    subst e2n
    have y1 := evA_e hE
    exact tw_lret rfl ⟨congrArg (fun z => some (Value.long z)) (show tJ h1 144 0 = _ from y1.2), hF⟩
  · try dsimp only [tvI_i, tvJ_j, tvR_r] at q954
    rcases e2 with _ | ⟨c, e3⟩
    · exfalso; have hke : k + 0 = b + e.length := hke; omega
    have hke : k + (e3.length + 1) = b + e.length := hke
    have hcl : mCode (tA h 133 (500 * q + k)).toNatClampNeg (tA h 134 (500 * q + k)).toNatClampNeg = c := hE.at_.1
    have b1 := h133 (500 * q + k) (by omega)
    have b2 := h134 (500 * q + k) (by omega)
    have zz : z.toNatClampNeg = 500 * q + k := zof_cl hz
    have e1 : tA h1 133 z.toNatClampNeg = tA h 133 (500 * q + k) := by rw [hF.2.2.1, zz]
    have e4 : tA h1 134 z.toNatClampNeg = tA h 134 (500 * q + k) := by rw [hF.2.2.1, zz]
    have hs0 : (tA h1 133 z.toNatClampNeg).toInt = (((tA h 133 (500 * q + k)).toNatClampNeg : Nat) : Int) := by rw [e1]; exact (zclx b1.1).symm
    have hv9 : (tA h 134 (500 * q + k)).toNatClampNeg ≤ 99999 := by rw [zclE]; omega
    have h79 : top ≤ 80 := by have y1 := hE.few; have y2 := hE.len; omega
    have hval : (tA h1 134 z.toNatClampNeg).toInt = (((tA h 134 (500 * q + k)).toNatClampNeg : Nat) : Int) := by rw [e4]; exact (zclx b2.1).symm
    refine tw_aload rfl rfl ?_
    refine tw_getS rfl (hs_111_36 hF.1) ?_
    refine tw_iload rfl rfl ?_
    refine tw_iald rfl (fun f956 => ?_)
    refine tw_if_ne rfl (fun q957 => ?_) (fun q957 => ?_)
    · try dsimp only [tvI_i, tvJ_j, tvR_r] at q957
      have q957i := zneq (Y := 0) (by decide) q957
      refine tw_aload rfl rfl ?_
      refine tw_getS rfl (hs_111_36 hF.1) ?_
      refine tw_iload rfl rfl ?_
      refine tw_iald rfl (fun f958 => ?_)
      refine tw_push rfl ?_
      refine tw_ic_ne rfl (fun q959 => ?_) (fun q959 => ?_)
      · try dsimp only [tvI_i, tvJ_j, tvR_r] at q959
        have q959i := zneq (Y := 1) (by decide) q959
        refine tw_aload rfl rfl ?_
        refine tw_getS rfl (hs_111_36 hF.1) ?_
        refine tw_iload rfl rfl ?_
        refine tw_iald rfl (fun f960 => ?_)
        refine tw_push rfl ?_
        refine tw_ic_ne rfl (fun q961 => ?_) (fun q961 => ?_)
        · try dsimp only [tvI_i, tvJ_j, tvR_r] at q961
          have q961i := zneq (Y := 10) (by decide) q961
          have hsn : (tA h 133 (500 * q + k)).toNatClampNeg ≠ 0 ∧ (tA h 133 (500 * q + k)).toNatClampNeg ≠ 1 ∧ (tA h 133 (500 * q + k)).toNatClampNeg ≠ 10 := by have z1 := q957i; have z2 := q959i; have z3 := q961i; omega
          have hcj := mC_o hcl hsn
          obtain ⟨y0, y1, y2, ye, X2, S2, E2⟩ := evA_j hE (by omega) (by omega)
          obtain ⟨y3, y4, y5, y6⟩ := mC_j hcl y1 y2 hv9
          have hu1 : (u - 1).toNatClampNeg = top - 1 := zof_cl ((zsbM (b := 1) hu rfl (by omega) (by decide)).trans (by omega))
          have hu2 : (u - 2).toNatClampNeg = top - 2 := zof_cl ((zsbM (b := 2) hu rfl (by omega) (by decide)).trans (by omega))
          refine tw_aload rfl rfl ?_
          refine tw_getS rfl (hs_111_49 hF.1) ?_
          refine tw_iload rfl rfl ?_
          refine tw_push rfl ?_
          refine tw_isub rfl ?_
          refine tw_aload rfl rfl ?_
          refine tw_getS rfl (hs_111_36 hF.1) ?_
          refine tw_iload rfl rfl ?_
          refine tw_iald rfl (fun f962 => ?_)
          refine tw_aload rfl rfl ?_
          refine tw_getS rfl (hs_111_49 hF.1) ?_
          refine tw_iload rfl rfl ?_
          refine tw_push rfl ?_
          refine tw_isub rfl ?_
          refine tw_lald rfl (fun f963 => ?_)
          refine tw_aload rfl rfl ?_
          refine tw_getS rfl (hs_111_49 hF.1) ?_
          refine tw_iload rfl rfl ?_
          refine tw_push rfl ?_
          refine tw_isub rfl ?_
          refine tw_lald rfl (fun f964 => ?_)
          refine tw_stat3 rfl (g_two hG hs0 y3 y4 y5) (fun w9 h9 p965 => ?_)
          obtain ⟨rfl, e9⟩ := p965
          obtain rfl := e9.symm
          refine tw_last rfl (fun f966 => ?_)
          refine tG_lst f966 hF.1 (fun h3 a3 => ?_)
          try dsimp only [tvI_i, tvJ_j, tvR_r] at a3
          have hF3 := wFr_s hF a3
          refine tw_iinc rfl rfl ?_
          refine tw_iinc rfl rfl ?_
          refine tw_goto rfl ?_
          have hk1 : (z + 1).toInt = ((500 * q + (k + 1) : Nat) : Int) := (zincN hz (by omega)).trans (by omega)
          have hkl : k + 1 + e3.length = b + e.length := by omega
          rw [hu1, hu2] at a3
          rw [← y6, ← ye] at a3
          have E3 : evA (tJ h 143) (fun i => mCode (tA h 133 (500 * q + i)).toNatClampNeg (tA h 134 (500 * q + i)).toNatClampNeg) (tJ h3 144) [wv (tJ h 143) e] (k + 1) (top - 1) e3 X2 S2 := by rw [mJs_g a3 rfl]; exact E2
          have hd1 : (u + (-1)).toInt = ((top - 1 : Nat) : Int) := (zdecM hu (by omega) (by omega)).trans (by omega)
          exact tG_cut (zW_mono zTt G dp) (Or.inr ⟨rfl, rfl, h3, k + 1, top - 1, z + 1, u + (-1), e3, X2, S2, rfl, hF3, hk1, hd1, hkl, E3, rfl⟩)
        · try dsimp only [tvI_i, tvJ_j, tvR_r] at q961
          have q961i := zeqi (Y := 10) (by decide) q961
          have hs9 : (tA h 133 (500 * q + k)).toNatClampNeg = 10 := by have y0 := q961i; omega
          have hc9 : c = 100110 := by rw [hs9] at hcl; exact hcl.symm
          obtain ⟨y0, ye, X2, S2, E2⟩ := evA_n hE hc9
          have hu1 : (u - 1).toNatClampNeg = top - 1 := zof_cl ((zsbM (b := 1) hu rfl (by omega) (by decide)).trans (by omega))
          refine tw_aload rfl rfl ?_
          refine tw_getS rfl (hs_111_49 hF.1) ?_
          refine tw_iload rfl rfl ?_
          refine tw_push rfl ?_
          refine tw_isub rfl ?_
          refine tw_aload rfl rfl ?_
          refine tw_getS rfl (hs_111_49 hF.1) ?_
          refine tw_iload rfl rfl ?_
          refine tw_push rfl ?_
          refine tw_isub rfl ?_
          refine tw_lald rfl (fun f967 => ?_)
          refine tw_push rfl ?_
          refine tw_lc_ne rfl rfl (fun q968 => ?_) (fun q968 => ?_)
          · try dsimp only [tvI_i, tvJ_j, tvR_r] at q968
            refine tw_push rfl ?_
            refine tw_stat1 rfl (g_truth0 hG) (fun w9 h9 p969 => ?_)
            obtain ⟨rfl, e9⟩ := p969
            obtain rfl := e9.symm
            refine tw_last rfl (fun f970 => ?_)
            refine tG_lst f970 hF.1 (fun h3 a3 => ?_)
            try dsimp only [tvI_i, tvJ_j, tvR_r] at a3
            have hF3 := wFr_s hF a3
            refine tw_goto rfl ?_
            refine tw_iinc rfl rfl ?_
            refine tw_goto rfl ?_
            have hk1 : (z + 1).toInt = ((500 * q + (k + 1) : Nat) : Int) := (zincN hz (by omega)).trans (by omega)
            have hkl : k + 1 + e3.length = b + e.length := by omega
            rw [hu1] at a3 q968
            have a3 : mJs 144 (top - 1) (1 - tJ h1 144 (top - 1)) h1 h3 := by rw [ye, b64_0 q968]; exact a3
            have E3 : evA (tJ h 143) (fun i => mCode (tA h 133 (500 * q + i)).toNatClampNeg (tA h 134 (500 * q + i)).toNatClampNeg) (tJ h3 144) [wv (tJ h 143) e] (k + 1) top e3 X2 S2 := by rw [mJs_g a3 rfl]; exact E2
            exact tG_cut (zW_mono zTt G dp) (Or.inr ⟨rfl, rfl, h3, k + 1, top, z + 1, u, e3, X2, S2, rfl, hF3, hk1, hu, hkl, E3, rfl⟩)
          · try dsimp only [tvI_i, tvJ_j, tvR_r] at q968
            refine tw_push rfl ?_
            refine tw_goto rfl ?_
            refine tw_stat1 rfl (g_truth1 hG) (fun w9 h9 p971 => ?_)
            obtain ⟨rfl, e9⟩ := p971
            obtain rfl := e9.symm
            refine tw_last rfl (fun f972 => ?_)
            refine tG_lst f972 hF.1 (fun h3 a3 => ?_)
            try dsimp only [tvI_i, tvJ_j, tvR_r] at a3
            have hF3 := wFr_s hF a3
            refine tw_goto rfl ?_
            refine tw_iinc rfl rfl ?_
            refine tw_goto rfl ?_
            have hk1 : (z + 1).toInt = ((500 * q + (k + 1) : Nat) : Int) := (zincN hz (by omega)).trans (by omega)
            have hkl : k + 1 + e3.length = b + e.length := by omega
            rw [hu1] at a3 q968
            have a3 : mJs 144 (top - 1) (1 - tJ h1 144 (top - 1)) h1 h3 := by rw [ye, b64_1 q968]; exact a3
            have E3 : evA (tJ h 143) (fun i => mCode (tA h 133 (500 * q + i)).toNatClampNeg (tA h 134 (500 * q + i)).toNatClampNeg) (tJ h3 144) [wv (tJ h 143) e] (k + 1) top e3 X2 S2 := by rw [mJs_g a3 rfl]; exact E2
            exact tG_cut (zW_mono zTt G dp) (Or.inr ⟨rfl, rfl, h3, k + 1, top, z + 1, u, e3, X2, S2, rfl, hF3, hk1, hu, hkl, E3, rfl⟩)
      · try dsimp only [tvI_i, tvJ_j, tvR_r] at q959
        have q959i := zeqi (Y := 1) (by decide) q959
        have hs9 : (tA h 133 (500 * q + k)).toNatClampNeg = 1 := by have y0 := q959i; omega
        have hc8 : (if (tA h 134 (500 * q + k)).toNatClampNeg < 12 then 100000 + (tA h 134 (500 * q + k)).toNatClampNeg else 200000 + (tA h 134 (500 * q + k)).toNatClampNeg) = c := by rw [hs9] at hcl; exact hcl
        have hc7 : (tA h 134 (500 * q + k)).toNatClampNeg < 12 := by
          refine Classical.byContradiction (fun y => ?_)
          rw [if_neg y] at hc8
          have y2 := (evA_j hE (by omega) (by omega)).2.2.1
          omega
        rw [if_pos hc7] at hc8
        obtain ⟨y80, y12, X2, S2, E2⟩ := evA_v hE (by omega)
        refine tw_aload rfl rfl ?_
        refine tw_getS rfl (hs_111_49 hF.1) ?_
        refine tw_iload rfl rfl ?_
        refine tw_aload rfl rfl ?_
        refine tw_getS rfl (hs_111_48 hF.1) ?_
        refine tw_aload rfl rfl ?_
        refine tw_getS rfl (hs_111_37 hF.1) ?_
        refine tw_iload rfl rfl ?_
        refine tw_iald rfl (fun f973 => ?_)
        refine tw_lald rfl (fun f974 => ?_)
        refine tw_last rfl (fun f975 => ?_)
        refine tG_lst f975 hF.1 (fun h3 a3 => ?_)
        try dsimp only [tvI_i, tvJ_j, tvR_r] at a3
        have hF3 := wFr_s hF a3
        refine tw_iinc rfl rfl ?_
        refine tw_goto rfl ?_
        refine tw_iinc rfl rfl ?_
        refine tw_goto rfl ?_
        have hk1 : (z + 1).toInt = ((500 * q + (k + 1) : Nat) : Int) := (zincN hz (by omega)).trans (by omega)
        have hkl : k + 1 + e3.length = b + e.length := by omega
        rw [zof_cl hu, hF.2.2.2.2.2 143 (by decide), e4, show (tA h 134 (500 * q + k)).toNatClampNeg = c - 100000 by omega, ← vOf_w (W := (tJ h 143)) (by omega)] at a3
        have E3 : evA (tJ h 143) (fun i => mCode (tA h 133 (500 * q + i)).toNatClampNeg (tA h 134 (500 * q + i)).toNatClampNeg) (tJ h3 144) [wv (tJ h 143) e] (k + 1) (top + 1) e3 X2 S2 := by rw [mJs_g a3 rfl]; exact E2
        exact tG_cut (zW_mono zTt G dp) (Or.inr ⟨rfl, rfl, h3, k + 1, top + 1, z + 1, u + 1, e3, X2, S2, rfl, hF3, hk1, zincN hu (by omega), hkl, E3, rfl⟩)
    · try dsimp only [tvI_i, tvJ_j, tvR_r] at q957
      have q957i := zeqi (Y := 0) (by decide) q957
      have hs9 : (tA h 133 (500 * q + k)).toNatClampNeg = 0 := by have y0 := q957i; omega
      have hc9 : c = (tA h 134 (500 * q + k)).toNatClampNeg := by rw [hs9] at hcl; exact hcl.symm
      obtain ⟨y80, y12, X2, S2, E2⟩ := evA_v hE (by omega)
      refine tw_aload rfl rfl ?_
      refine tw_getS rfl (hs_111_49 hF.1) ?_
      refine tw_iload rfl rfl ?_
      refine tw_aload rfl rfl ?_
      refine tw_getS rfl (hs_111_37 hF.1) ?_
      refine tw_iload rfl rfl ?_
      refine tw_iald rfl (fun f976 => ?_)
      refine tw_i2l rfl ?_
      refine tw_last rfl (fun f977 => ?_)
      refine tG_lst f977 hF.1 (fun h3 a3 => ?_)
      try dsimp only [tvI_i, tvJ_j, tvR_r] at a3
      have hF3 := wFr_s hF a3
      refine tw_iinc rfl rfl ?_
      refine tw_goto rfl ?_
      refine tw_iinc rfl rfl ?_
      refine tw_goto rfl ?_
      have hk1 : (z + 1).toInt = ((500 * q + (k + 1) : Nat) : Int) := (zincN hz (by omega)).trans (by omega)
      have hkl : k + 1 + e3.length = b + e.length := by omega
      rw [zof_cl hu, ← vOf_n (W := (tJ h 143)) (c := c) (by omega) (by rw [hval, hc9])] at a3
      have E3 : evA (tJ h 143) (fun i => mCode (tA h 133 (500 * q + i)).toNatClampNeg (tA h 134 (500 * q + i)).toNatClampNeg) (tJ h3 144) [wv (tJ h 143) e] (k + 1) (top + 1) e3 X2 S2 := by rw [mJs_g a3 rfl]; exact E2
      exact tG_cut (zW_mono zTt G dp) (Or.inr ⟨rfl, rfl, h3, k + 1, top + 1, z + 1, u + 1, e3, X2, S2, rfl, hF3, hk1, zincN hu (by omega), hkl, E3, rfl⟩)
theorem g_tells {G : zG} (hG : G.1 = zProg) {h : zH} {q K kd t0 : Nat} {y k9 t9 : Int32} {cs : List Nat} {cl : Nat → rCt} (hs : tSh h) (D : rDm h q K cs cl) (hy : y.toInt = q) (hq : q < 10) (hk9 : k9.toInt = kd) (hkd : kd ≤ 3) (ht9 : t9.toInt = t0) (h133 : ∀ i, i < 5000 → 0 ≤ (tA h 133 i).toInt ∧ (tA h 133 i).toInt ≤ 14) (h134 : ∀ i, i < 5000 → 0 ≤ (tA h 134 i).toInt ∧ (tA h 134 i).toInt ≤ 99999) (h135 : ∀ i, i < 120 → 0 ≤ (tA h 135 i).toInt ∧ (tA h 135 i).toInt ≤ 3) (h136 : ∀ i, i < 120 → 0 ≤ (tA h 136 i).toInt ∧ (tA h 136 i).toInt ≤ 99999) (h138 : ∀ i, i < 120 → 0 ≤ (tA h 138 i).toInt ∧ (tA h 138 i).toInt ≤ 410) (h139 : ∀ i, i < 120 → 0 ≤ (tA h 139 i).toInt ∧ (tA h 139 i).toInt ≤ 410) : tC zTt G 232 [.ref 111, .int y, .int k9, .int t9] h (fun w h2 => wFr 144 h h2 ∧ fTr (tJ h 143) cs cl K (thc kd t0) (fun i => 12 * q + i) w) := by
  refine tC_in (by rw [hG]; rfl) (fun dp => ?_)
  have m12 : (12 * y).toInt = ((12 * q : Nat) : Int) := zmul12 hy hq
  have hyq : y.toNatClampNeg = q := zof_cl hy
  have hK12 := D.few
  refine tw_push rfl ?_
  refine tw_istore rfl ?_
  refine tG_loop (zW_mono zTt G dp) (zW_conj zTt G dp) (V := fun pc L st h9 _ _ => pc = 3 ∧ st = [] ∧ ∃ (h1 : zH) (i : Nat) (x : Int32) (l5 l6 : Option Value), h1 = h9 ∧ wFr 144 h h1 ∧ i ≤ K ∧ x.toInt = (i : Int) ∧ (∀ j, j < i → ¬ hit (tJ h 143) cs (cl j) (thc kd t0)) ∧ L = [some (.ref 111), some (.int y), some (.int k9), some (.int t9), some (.int x), l5, l6]) ?_ (⟨rfl, rfl, h, 0, 0, _, _, rfl, wFr_r hs, Nat.zero_le _, rfl, fun j hj => absurd hj (Nat.not_lt_zero _), rfl⟩)
  rintro _ _ _ _ _ _ ⟨rfl, rfl, h1, i, x, l5, l6, rfl, hF, hiK, hx, hall, rfl⟩
  have hcK : (tA h1 140 y.toNatClampNeg).toInt = (K : Int) := by rw [hF.2.2.1, hyq]; exact D.cnt
  refine tw_iload rfl rfl ?_
  refine tw_aload rfl rfl ?_
  refine tw_getS rfl (hs_111_43 hF.1) ?_
  refine tw_iload rfl rfl ?_
  refine tw_iald rfl (fun f978 => ?_)
  refine tw_ic_ge rfl (fun q979 => ?_) (fun q979 => ?_)
  · try dsimp only [tvI_i, tvJ_j, tvR_r] at q979
    refine tw_push rfl ?_
    exact tw_iret rfl ⟨hF, Or.inl ⟨rfl, fun i9 h9 => hall i9 (by have y2 := hcK; omega)⟩⟩
  · try dsimp only [tvI_i, tvJ_j, tvR_r] at q979
    have eA := hF.2.2.1
    have hi : i < K := by have y1 := hcK; omega
    have hrow : (12 * y + x).toInt = ((12 * q + i : Nat) : Int) := zadN m12 hx (by omega) (by omega)
    have zz : (12 * y + x).toNatClampNeg = 12 * q + i := zof_cl hrow
    have hr := D.row i hi
    have c1 := h135 (12 * q + i) (by omega)
    have c2 := h136 (12 * q + i) (by omega)
    have c3 : ((cl i).1, (cl i).2.1, (cl i).2.2.1, (cl i).2.2.2) = (thc (tA h 135 (12 * q + i)).toNatClampNeg (tA h 136 (12 * q + i)).toNatClampNeg, (tA h 137 (12 * q + i)).toNatClampNeg, (tA h 138 (12 * q + i)).toNatClampNeg, (tA h 139 (12 * q + i)).toNatClampNeg) := by rw [← hr]; rfl
    have c4 := congrArg (fun z : rCt => z.1) c3
    have c6 := congrArg (fun z : rCt => z.2.2.1) c3
    have c7 := congrArg (fun z : rCt => z.2.2.2) c3
    dsimp only at c4 c6 c7
    have w1 : tA h1 135 (12 * y + x).toNatClampNeg = tA h 135 (12 * q + i) := by rw [eA, zz]
    have w2 : tA h1 136 (12 * y + x).toNatClampNeg = tA h 136 (12 * q + i) := by rw [eA, zz]
    have w3 : (tA h1 138 (12 * y + x).toNatClampNeg).toInt = ((cl i).2.2.1 : Int) := by rw [eA, zz, c6]; exact (zclx (h138 (12 * q + i) (by omega)).1).symm
    have w4 : (tA h1 139 (12 * y + x).toNatClampNeg).toInt = ((cl i).2.2.2 : Int) := by rw [eA, zz, c7]; exact (zclx (h139 (12 * q + i) (by omega)).1).symm
    have hth : (cl i).1 = thc kd t0 ↔ tA h1 135 (12 * y + x).toNatClampNeg = k9 ∧ tA h1 136 (12 * y + x).toNatClampNeg = t9 := by
      rw [c4, thc_i (by rw [zclE]; omega) hkd, w1, w2]
      constructor
      · rintro ⟨u1, u2⟩
        exact ⟨Int32.toInt_inj.mp (by rw [hk9, ← u1]; exact (zclx c1.1).symm), Int32.toInt_inj.mp (by rw [ht9, ← u2]; exact (zclx c2.1).symm)⟩
      · rintro ⟨u1, u2⟩
        exact ⟨by rw [u1]; exact zof_cl hk9, by rw [u2]; exact zof_cl ht9⟩
    refine tw_push rfl ?_
    refine tw_iload rfl rfl ?_
    refine tw_imul rfl ?_
    refine tw_iload rfl rfl ?_
    refine tw_iadd rfl ?_
    refine tw_istore rfl ?_
    refine tw_aload rfl rfl ?_
    refine tw_getS rfl (hs_111_38 hF.1) ?_
    refine tw_iload rfl rfl ?_
    refine tw_iald rfl (fun f980 => ?_)
    refine tw_iload rfl rfl ?_
    refine tw_ic_ne rfl (fun q981 => ?_) (fun q981 => ?_)
    · try dsimp only [tvI_i, tvJ_j, tvR_r] at q981
      have q981i := zneq rfl q981
      refine tw_push rfl ?_
      refine tw_istore rfl ?_
      refine tw_iload rfl rfl ?_
      refine tw_if_eq rfl (fun _ => ?_) (fun z => absurd z (by decide))
      refine tw_iinc rfl rfl ?_
      refine tw_goto rfl ?_
      have hx9 : (x + 1).toInt = ((i + 1 : Nat) : Int) := zincN hx (by omega)
      have hno : ¬ hit (tJ h 143) cs (cl i) (thc kd t0) := (fun z => q981 (hth.mp z.1).1)
      exact tG_cut (zW_mono zTt G dp) (Or.inr ⟨rfl, rfl, _, i + 1, x + 1, _, _, rfl, hF, by omega, hx9, fun j hj => (Classical.em (j = i)).elim (fun z => by rw [z]; exact hno) (fun z => hall j (by omega)), rfl⟩)
    · try dsimp only [tvI_i, tvJ_j, tvR_r] at q981
      have q981i := zeqi rfl q981
      refine tw_aload rfl rfl ?_
      refine tw_getS rfl (hs_111_39 hF.1) ?_
      refine tw_iload rfl rfl ?_
      refine tw_iald rfl (fun f982 => ?_)
      refine tw_iload rfl rfl ?_
      refine tw_ic_ne rfl (fun q983 => ?_) (fun q983 => ?_)
      · try dsimp only [tvI_i, tvJ_j, tvR_r] at q983
        have q983i := zneq rfl q983
        refine tw_push rfl ?_
        refine tw_istore rfl ?_
        refine tw_iload rfl rfl ?_
        refine tw_if_eq rfl (fun _ => ?_) (fun z => absurd z (by decide))
        refine tw_iinc rfl rfl ?_
        refine tw_goto rfl ?_
        have hx9 : (x + 1).toInt = ((i + 1 : Nat) : Int) := zincN hx (by omega)
        have hno : ¬ hit (tJ h 143) cs (cl i) (thc kd t0) := (fun z => q983 (hth.mp z.1).2)
        exact tG_cut (zW_mono zTt G dp) (Or.inr ⟨rfl, rfl, _, i + 1, x + 1, _, _, rfl, hF, by omega, hx9, fun j hj => (Classical.em (j = i)).elim (fun z => by rw [z]; exact hno) (fun z => hall j (by omega)), rfl⟩)
      · try dsimp only [tvI_i, tvJ_j, tvR_r] at q983
        have q983i := zeqi rfl q983
        refine tw_push rfl ?_
        refine tw_goto rfl ?_
        refine tw_istore rfl ?_
        refine tw_iload rfl rfl ?_
        refine tw_if_eq rfl (fun z => absurd z (by decide)) (fun _ => ?_)
        refine tw_aload rfl rfl ?_
        refine tw_getS rfl (hs_111_41 hF.1) ?_
        refine tw_iload rfl rfl ?_
        refine tw_iald rfl (fun f984 => ?_)
        refine tw_aload rfl rfl ?_
        refine tw_getS rfl (hs_111_42 hF.1) ?_
        refine tw_iload rfl rfl ?_
        refine tw_iald rfl (fun f985 => ?_)
        refine tw_ic_eq rfl (fun q986 => ?_) (fun q986 => ?_)
        · try dsimp only [tvI_i, tvJ_j, tvR_r] at q986
          have q986i := zeqi rfl q986
          refine tw_iload rfl rfl ?_
          exact tw_iret rfl ⟨hF, Or.inr ⟨i, hi, ⟨(hth.mpr ⟨q981, q983⟩), Or.inl (by have y1 := q986i; omega)⟩, hall, _, rfl, hrow⟩⟩
        · try dsimp only [tvI_i, tvJ_j, tvR_r] at q986
          have q986i := zneq rfl q986
          refine tw_aload rfl rfl ?_
          refine tw_iload rfl rfl ?_
          refine tw_aload rfl rfl ?_
          refine tw_getS rfl (hs_111_41 hF.1) ?_
          refine tw_iload rfl rfl ?_
          refine tw_iald rfl (fun f987 => ?_)
          refine tw_aload rfl rfl ?_
          refine tw_getS rfl (hs_111_42 hF.1) ?_
          refine tw_iload rfl rfl ?_
          refine tw_iald rfl (fun f988 => ?_)
          obtain ⟨s1, s2, s3, s4, p, qq, s5, s6⟩ := rOk_t (D.ok i hi) D.nv (fun z => q986 (Int32.toInt_inj.mp (by omega)))
          refine tw_virt3 rfl (g_answer hG hF.1 hy hq w3 (e := slc cs (cl i).2.2.1 (cl i).2.2.2) (t := true) (w4.trans (congrArg Nat.cast s1)) (by rw [← s1]; have := D.big; omega) (by rw [hF.2.2.1]; exact h133) (by rw [hF.2.2.1]; exact h134) (by rw [hF.2.2.1]; exact cdAt_h s5 s6 D.cod) s3 s4) (fun wp989 hp989 p989 => ?_)
          obtain ⟨rfl, Fp989⟩ := p989
          have hF2 := wFr_t hF Fp989
          rw [hF.2.2.2.2.2 143 (by decide)]
          refine tw_push rfl ?_
          refine tw_lc_eq rfl rfl (fun q990 => ?_) (fun q990 => ?_)
          · try dsimp only [tvI_i, tvJ_j, tvR_r] at q990
            refine tw_iinc rfl rfl ?_
            refine tw_goto rfl ?_
            have hx9 : (x + 1).toInt = ((i + 1 : Nat) : Int) := zincN hx (by omega)
            have s0 : ¬ (cl i).2.2.1 = (cl i).2.2.2 := fun z => q986 (Int32.toInt_inj.mp (by omega))
            have hno : ¬ hit (tJ h 143) cs (cl i) (thc kd t0) := (fun z => z.2.elim (fun y => s0 y) (fun y => y q990))
            exact tG_cut (zW_mono zTt G dp) (Or.inr ⟨rfl, rfl, _, i + 1, x + 1, _, _, rfl, hF2, by omega, hx9, fun j hj => (Classical.em (j = i)).elim (fun z => by rw [z]; exact hno) (fun z => hall j (by omega)), rfl⟩)
          · try dsimp only [tvI_i, tvJ_j, tvR_r] at q990
            refine tw_iload rfl rfl ?_
            exact tw_iret rfl ⟨hF2, Or.inr ⟨i, hi, ⟨(hth.mpr ⟨q981, q983⟩), Or.inr q990⟩, hall, _, rfl, hrow⟩⟩
/-! a rule as it is kept, in the class and in the reference -/
noncomputable def cQd (h : zH) (b i : Nat) : rCt := ((tA h b (4 * i)).toNatClampNeg, (tA h b (4 * i + 1)).toNatClampNeg, (tA h b (4 * i + 2)).toNatClampNeg, (tA h b (4 * i + 3)).toNatClampNeg)
noncomputable def rCd (h : zH) (q a : Nat) : Prop := cArr h a = mEk h q (tN h a) ∧ tN h (a + 1) = 4 * (tA h 140 q).toNatClampNeg ∧ (∀ i, i < (tA h 140 q).toNatClampNeg → cQd h (a + 1) i = mRow h (12 * q + i) ∧ rOk (cArr h a) (mRow h (12 * q + i))) ∧ nVl (cArr h a) ≤ 80
theorem cArr_e {h h2 : zH} {a : Nat} (e1 : 0 < tN h a → tA h2 a = tA h a) (e2 : tN h2 a = tN h a) : cArr h2 a = cArr h a := by
  unfold cArr
  rw [e2]
  refine List.map_congr_left (fun i hi => ?_)
  have hi := List.mem_range.mp hi
  rw [e1 (by omega)]
theorem mEk_e {h h2 : zH} {q k : Nat} (e : ∀ i, i < 500 → tA h2 133 (500 * q + i) = tA h 133 (500 * q + i) ∧ tA h2 134 (500 * q + i) = tA h 134 (500 * q + i)) (hk : k ≤ 500) : mEk h2 q k = mEk h q k := by
  unfold mEk
  refine List.map_congr_left (fun i hi => ?_)
  have hi := List.mem_range.mp hi
  rw [(e i (by omega)).1, (e i (by omega)).2]
theorem cArr_len {h : zH} {a : Nat} : (cArr h a).length = tN h a := by unfold cArr; rw [List.length_map, List.length_range]
theorem rCd_fr {h h2 : zH} {q a : Nat} (k : rCd h q a) (hN : tN h a ≤ 400) (e1 : 0 < tN h a → tA h2 a = tA h a) (e2 : tN h2 a = tN h a) (e3 : 0 < tN h (a + 1) → tA h2 (a + 1) = tA h (a + 1)) (e4 : tN h2 (a + 1) = tN h (a + 1)) (o : ∀ i, i < 500 → tA h2 133 (500 * q + i) = tA h 133 (500 * q + i) ∧ tA h2 134 (500 * q + i) = tA h 134 (500 * q + i)) (o2 : tA h2 140 q = tA h 140 q) (o3 : ∀ i, i < (tA h 140 q).toNatClampNeg → mRow h2 (12 * q + i) = mRow h (12 * q + i)) : rCd h2 q a := by
  obtain ⟨k1, k2, k3, k4⟩ := k
  have eC := cArr_e e1 e2
  refine ⟨?_, ?_, fun i hi => ?_, ?_⟩
  · rw [eC, e2, k1]
    exact (mEk_e o (by omega)).symm
  · rw [e4, o2]
    exact k2
  · rw [o2] at hi
    rw [o3 i hi, eC]
    have y := k3 i hi
    refine ⟨?_, y.2⟩
    rw [← y.1]
    unfold cQd
    rw [e3 (by omega)]
  · rw [eC]
    exact k4
theorem mRow_e {h h2 : zH} {i : Nat} (o : ∀ p, 135 ≤ p → p ≤ 139 → tA h2 p i = tA h p i) : mRow h2 i = mRow h i := by
  unfold mRow
  rw [o 135 (by decide) (by decide), o 136 (by decide) (by decide), o 137 (by decide) (by decide), o 138 (by decide) (by decide), o 139 (by decide) (by decide)]
/-- what the two evaluators stand on -/
theorem rCd_D {xs : Nat → Int32} {τ : List Nat} {h : zH} {q a : Nat} (hB : zBs xs τ h) (hq : q < 10) (h50 : tO h 50 q = some a) (h51 : tO h 51 q = some (a + 1)) (k : rCd h q a) : rDt h a (a + 1) (tA h 140 q).toNatClampNeg (cArr h a) (fun i => mRow h (12 * q + i)) ∧ rDm h q (tA h 140 q).toNatClampNeg (cArr h a) (fun i => mRow h (12 * q + i)) := by
  obtain ⟨k1, k2, k3, k4⟩ := k
  have t1 := arr_tag hB (p := 50) (q := q) rfl rfl hq (by decide) h50
  have t2 := arr_tag hB (p := 51) (q := q) rfl rfl hq (by decide) h51
  obtain ⟨-, b2, b3⟩ := tkd_v hB t1 rfl
  obtain ⟨-, -, c3⟩ := tkd_v hB t2 rfl
  have d := (ka_140 hB).2 q hq
  have hK : (tA h 140 q).toNatClampNeg ≤ 12 := by rw [zclE]; omega
  refine ⟨⟨rfl, b2, fun i hi => (b3 i hi).1, k2, hK, fun i hi => ?_, fun i hi => (k3 i hi).2, k4⟩, ⟨fun i hi => ?_, by rw [cArr_len]; exact b2, (zclx d.1).symm, hK, fun i hi => rfl, fun i hi => (k3 i hi).2, k4⟩⟩
  · have y := (k3 i hi).1
    dsimp only
    rw [← y]
    exact ⟨(zclx (c3 _ (by omega)).1).symm, (zclx (c3 _ (by omega)).1).symm, (zclx (c3 _ (by omega)).1).symm, (zclx (c3 _ (by omega)).1).symm⟩
  · rw [cArr_len] at hi
    rw [k1]
    unfold mEk
    rw [List.getElem?_map, List.getElem?_range hi]
    rfl
theorem tfr_vn {xs : Nat → Int32} {τ : List Nat} {h h2 : zH} {W : Nat → Nat → Bool} {p t : Nat} (hB : zBs xs τ h) (hf : yFr W τ h h2) (ht : τ[p]? = some t) : tN h2 p = tN h p := by
  obtain ⟨ct, c, a1, a2, -⟩ := hB.1.2 _ _ ht
  obtain ⟨c2, b1, b2⟩ := hf _ _ _ ht a2
  unfold tN
  rw [a2, b1]
  match c, c2, b2 with
  | .inr (x, fs), .inr (y, gs), b2 => rfl
  | .inl (k, N, x), .inl (k2, N2, y), b2 => exact b2.2.1.symm
theorem cCls_at {h : zH} {b : Nat} {l : List rCt} (e : cCls h b l.length = l) {i : Nat} (hi : i < l.length) : l[i]? = some (cQd h b i) := by
  rw [← e]
  unfold cCls
  rw [List.getElem?_map, List.getElem?_range hi]
  rfl
noncomputable def R_rcd (h : zH) : Prop := ∀ q : Nat, (q : Int) < (tvI (tF h 48 3)).toInt → q < 10 → ∃ a, 182 ≤ a ∧ tO h 50 q = some a ∧ tO h 51 q = some (a + 1) ∧ rCd h q a
/-- rules stay what they were, and one may come -/
theorem a_rcd {xs : Nat → Int32} {τ τ2 τ3 : List Nat} {y : Int32} {h h2 h3 : zH} {w w2 : Option Value} {W1 W2 : Nat → Nat → Bool} (hB : zBs xs τ h) (hB2 : zBs xs τ2 h2) (hB3 : zBs xs τ3 h3) (r1 : yFr W1 τ h h2) (r2 : yFr W2 τ2 h2 h3) (v1 : W2 152 0 = false) (v2 : W2 153 0 = false) (hN : R_rules h) (hR : R_rcd h) (e2 : tF h2 111 30 = tF h 111 30) (oc : ∀ p, 133 ≤ p → p ≤ 140 → tA h2 p = tA h p) (t2 : tF h3 48 3 = tF h2 48 3) (t3 : tO h3 50 = tO h2 50) (t4 : tO h3 51 = tO h2 51) (k2 : ph_rum y h w h2 w2 h3) : R_rcd h3 := by
  have hN0 := hN
  unfold R_rules at hN0
  have i48 := hi_48_3 (zBs_sh hB)
  rcases k2 with ⟨-, rfl, -, rfl⟩ | ⟨r, ⟨f, hr⟩, k1, k2⟩
  · exact hR
  · obtain ⟨m1, m2, k2⟩ := k2
    have E30 : tvI (tF h2 111 30) = tvI (tF h 48 3) := by rw [e2, ← hN0]
    have b48 := kb_48_3 hB
    have hcl : (((tvI (tF h 48 3)).toNatClampNeg : Nat) : Int) = (tvI (tF h 48 3)).toInt := zclx b48.1
    -- an old rule
    have old : ∀ q a : Nat, (q : Int) < (tvI (tF h 48 3)).toInt → q < 10 → 182 ≤ a → tO h 50 q = some a → tO h 51 q = some (a + 1) → rCd h q a → (∀ p, 182 ≤ p → 0 < tN h p → tA h2 p = tA h p) → tO h2 50 q = some a → tO h2 51 q = some (a + 1) → tA h3 140 q = tA h2 140 q → rCd h3 q a := by
      intro q a hq h10 a1 a2 a3 k hfr b2 b3 m6
      have s1 := arr_tag hB (p := 50) (q := q) rfl rfl h10 (by decide) a2
      have s2 := arr_tag hB (p := 51) (q := q) rfl rfl h10 (by decide) a3
      have s3 := arr_tag hB2 (p := 50) (q := q) rfl rfl h10 (by decide) b2
      have s4 := arr_tag hB2 (p := 51) (q := q) rfl rfl h10 (by decide) b3
      have n1 := tfr_vn hB r1 s1
      have n2 := tfr_vn hB r1 s2
      have n3 := tfr_v hB2 r2 s3 v1
      have n4 := tfr_v hB2 r2 s4 v2
      have d := (ka_140 hB).2 q h10
      refine rCd_fr k (tkd_v hB s1 rfl).2.1 (fun z => n3.1.trans (hfr a a1 z)) (n3.2.trans n1) (fun z => n4.1.trans (hfr (a + 1) (by omega) z)) (n4.2.trans n2) (fun i hi => ?_) ?_ (fun i hi => mRow_e (fun p p1 p2 => ?_))
      · have z := m1.2.2.2.2.1 (500 * q + i) (by rw [E30]; omega)
        rw [z.1, z.2, oc 133 (by decide) (by decide), oc 134 (by decide) (by decide)]
        exact ⟨rfl, rfl⟩
      · rw [m6, oc 140 (by decide) (by decide)]
      · rw [m1.2.2.2.2.2 p (12 * q + i) p1 p2 (by rw [E30]; rw [zclE] at hi; omega), oc p (by omega) (by omega)]
    cases r with
    | inl e =>
      obtain ⟨m3, -, m4, m6, -⟩ := k2
      rcases k1 with k1 | ⟨k1, -, k3, k4, k5, k6, k7⟩
      · exact absurd m3 (Nat.not_lt_of_le k1)
      · intro q hq h10
        rw [t2, k3] at hq
        obtain ⟨a, a1, a2, a3, k⟩ := hR q hq h10
        have b2 : tO h2 50 q = some a := by rw [k6]; exact a2
        have b3 : tO h2 51 q = some (a + 1) := by rw [k7]; exact a3
        exact ⟨a, a1, by rw [t3]; exact b2, by rw [t4]; exact b3, old q a hq h10 a1 a2 a3 k (fun p hp _ => k5 p hp) b2 b3 (congrFun m6 q)⟩
    | inr x =>
      obtain ⟨-, m4, m5, -, m7, m8, m9⟩ := k2
      obtain ⟨k1, -, k3, k4, a0, g1, g2, g3, g4, g5, g6, g7⟩ := k1
      rw [E30] at m5 m7 m8 m9
      obtain ⟨i1, i2⟩ := rRu_ok f _ _ _ hr ⟨Nat.zero_le _, Nat.zero_le _⟩ (fun c hc => by cases hc)
      have n1 : (tvI (tF h 48 3) + 1).toInt = (tvI (tF h 48 3)).toInt + 1 := (zincN (n := (tvI (tF h 48 3)).toNatClampNeg) hcl.symm (by omega)).trans (by omega)
      intro q hq h10
      rw [t2, k3] at hq
      have hq : (q : Int) < (tvI (tF h 48 3) + 1).toInt := hq
      by_cases z : q = (tvI (tF h 48 3)).toNatClampNeg
      · have b2 : tO h2 50 q = some a0 := by rw [g2]; exact if_pos z
        have b3 : tO h2 51 q = some (a0 + 1) := by rw [g3]; exact if_pos z
        have s3 := arr_tag hB2 (p := 50) (q := q) rfl rfl h10 (by decide) b2
        have s4 := arr_tag hB2 (p := 51) (q := q) rfl rfl h10 (by decide) b3
        have n3 := tfr_v hB2 r2 s3 v1
        have n4 := tfr_v hB2 r2 s4 v2
        have eC : cArr h3 a0 = x.1.2.2 := (cArr_e (fun _ => n3.1) n3.2).trans g4
        have eL : tN h3 a0 = x.1.2.2.length := by rw [← eC, cArr_len]
        rw [← z] at m5 m8 m9
        refine ⟨a0, g1, by rw [t3]; exact b2, by rw [t4]; exact b3, ?_, ?_, fun i hi => ?_, ?_⟩
        · rw [eC, eL]
          exact m9
        · rw [n4.2, g5, m5]
        · rw [m5] at hi
          have y1 := m8 i hi
          have y2 := cCls_at g6 hi
          have y3 : cQd h3 (a0 + 1) i = cQd h2 (a0 + 1) i := by
            unfold cQd
            rw [n4.1]
          rw [y1] at y2
          have y4 := Option.some.inj y2
          refine ⟨by rw [y3, ← y4], ?_⟩
          rw [eC]
          exact i2 _ (List.mem_of_getElem? y1)
        · rw [eC]
          have := i1.1
          have := i1.2
          omega
      · have hq2 : (q : Int) < (tvI (tF h 48 3)).toInt := by rw [n1] at hq; omega
        obtain ⟨a, a1, a2, a3, k⟩ := hR q hq2 h10
        have b2 : tO h2 50 q = some a := by rw [g2]; exact (if_neg z).trans a2
        have b3 : tO h2 51 q = some (a + 1) := by rw [g3]; exact (if_neg z).trans a3
        exact ⟨a, a1, by rw [t3]; exact b2, by rw [t4]; exact b3, old q a hq2 h10 a1 a2 a3 k g7 b2 b3 (m7 q z).1⟩
theorem and_5 {A B C D E : Prop} (x : A ∧ B ∧ C ∧ D) (y : E) : A ∧ B ∧ C ∧ D ∧ E := ⟨x.1, x.2.1, x.2.2.1, x.2.2.2, y⟩
/-! counting by months -/
noncomputable def cN (w tl : Nat → Int) : Nat → Nat → Int
  | 0, _ => 0
  | n + 1, t => cN w tl n t + (if tl n = (t : Int) then w n else 0)
noncomputable def bN (w tl : Nat → Int) : Nat → Int → Int
  | 0, _ => 0
  | n + 1, t => bN w tl n t + (if tl n ≤ t then w n else 0)
noncomputable def aU (f : Nat → Int) : Nat → Int
  | 0 => f 0
  | t + 1 => aU f t + f (t + 1)
theorem aU_add (f g : Nat → Int) (m : Nat) : aU (fun t => f t + g t) m = aU f m + aU g m := by
  induction m with
  | zero => rfl
  | succ m ih =>
    show aU (fun t => f t + g t) m + (f (m + 1) + g (m + 1)) = aU f m + f (m + 1) + (aU g m + g (m + 1))
    rw [ih]
    omega
theorem aU_ite {c x : Int} (hc : 0 ≤ c) (m : Nat) : aU (fun t => if c = (t : Int) then x else 0) m = if c ≤ (m : Int) then x else 0 := by
  induction m with
  | zero =>
    show (if c = ((0 : Nat) : Int) then x else 0) = _
    by_cases h : c = ((0 : Nat) : Int)
    · rw [if_pos h, if_pos (by omega)]
    · rw [if_neg h, if_neg (by omega)]
  | succ m ih =>
    show aU (fun t => if c = (t : Int) then x else 0) m + (if c = ((m + 1 : Nat) : Int) then x else 0) = _
    rw [ih]
    by_cases h : c ≤ (m : Int)
    · rw [if_pos h, if_neg (by omega), if_pos (by omega), Int.add_zero]
    · rw [if_neg h]
      by_cases h2 : c = ((m + 1 : Nat) : Int)
      · rw [if_pos h2, if_pos (by omega), Int.zero_add]
      · rw [if_neg h2, if_neg (by omega), Int.zero_add]
theorem aU_0 (m : Nat) : aU (fun _ => 0) m = 0 := by
  induction m with
  | zero => rfl
  | succ m ih =>
    show aU (fun _ => 0) m + 0 = 0
    rw [ih]
    rfl
theorem aU_cN {w tl : Nat → Int} {n : Nat} (h : ∀ i, i < n → 0 ≤ tl i) (m : Nat) : aU (cN w tl n) m = bN w tl n m := by
  induction n with
  | zero => exact aU_0 m
  | succ n ih =>
    show aU (fun t => cN w tl n t + (if tl n = (t : Int) then w n else 0)) m = bN w tl n m + (if tl n ≤ (m : Int) then w n else 0)
    rw [aU_add, ih (fun i hi => h i (by omega)), aU_ite (h n (by omega))]
theorem bN_b {w tl : Nat → Int} {B : Int} {n : Nat} (h : ∀ i, i < n → 0 ≤ w i ∧ w i ≤ B) (hB : 0 ≤ B) (m : Int) : 0 ≤ bN w tl n m ∧ bN w tl n m ≤ B * n := by
  induction n with
  | zero => exact ⟨Int.le_refl _, by rw [Int.mul_comm]; show (0 : Int) ≤ 0 * B; rw [Int.zero_mul]; exact Int.le_refl _⟩
  | succ n ih =>
    have y := ih (fun i hi => h i (by omega))
    have z := h n (by omega)
    have e : B * ((n + 1 : Nat) : Int) = B * n + B := by rw [Int.natCast_add, Int.mul_add]; show _ + B * 1 = _; rw [Int.mul_one]
    show 0 ≤ bN w tl n m + (if tl n ≤ m then w n else 0) ∧ bN w tl n m + (if tl n ≤ m then w n else 0) ≤ _
    rw [e]
    by_cases q : tl n ≤ m
    · rw [if_pos q]; omega
    · rw [if_neg q]; omega
theorem cN_b {w tl : Nat → Int} {B : Int} {n : Nat} (h : ∀ i, i < n → 0 ≤ w i ∧ w i ≤ B) (hB : 0 ≤ B) (m : Nat) : 0 ≤ cN w tl n m ∧ cN w tl n m ≤ B * n := by
  induction n with
  | zero => exact ⟨Int.le_refl _, by rw [Int.mul_comm]; show (0 : Int) ≤ 0 * B; rw [Int.zero_mul]; exact Int.le_refl _⟩
  | succ n ih =>
    have y := ih (fun i hi => h i (by omega))
    have z := h n (by omega)
    have e : B * ((n + 1 : Nat) : Int) = B * n + B := by rw [Int.natCast_add, Int.mul_add]; show _ + B * 1 = _; rw [Int.mul_one]
    show 0 ≤ cN w tl n m + (if tl n = (m : Int) then w n else 0) ∧ cN w tl n m + (if tl n = (m : Int) then w n else 0) ≤ _
    rw [e]
    by_cases q : tl n = (m : Int)
    · rw [if_pos q]; omega
    · rw [if_neg q]; omega
theorem cN_y {w tl : Nat → Int} {n t : Nat} (h : tl n = (t : Int)) : cN w tl (n + 1) t = cN w tl n t + w n := by
  show cN w tl n t + (if tl n = (t : Int) then w n else 0) = _
  rw [if_pos h]
theorem cN_n {w tl : Nat → Int} {n t : Nat} (h : tl n = (t : Int) → w n = 0) : cN w tl (n + 1) t = cN w tl n t := by
  show cN w tl n t + (if tl n = (t : Int) then w n else 0) = _
  by_cases q : tl n = (t : Int)
  · rw [if_pos q, h q, Int.add_zero]
  · rw [if_neg q, Int.add_zero]
theorem bN_e {w w2 tl tl2 : Nat → Int} {n : Nat} {t : Int} (h : ∀ i, i < n → w i = w2 i ∧ tl i = tl2 i) : bN w tl n t = bN w2 tl2 n t := by
  induction n with
  | zero => rfl
  | succ n ih =>
    show bN w tl n t + (if tl n ≤ t then w n else 0) = bN w2 tl2 n t + (if tl2 n ≤ t then w2 n else 0)
    rw [ih (fun i hi => h i (by omega)), (h n (by omega)).1, (h n (by omega)).2]
/-! an int array is written, the rest stays -/
noncomputable def mIs (p i : Nat) (x : Int32) (h h3 : zH) : Prop := tSh h3 ∧ tF h3 = tF h ∧ tJ h3 = tJ h ∧ tO h3 = tO h ∧ tN h3 = tN h ∧ tA h3 = fun q j => if q = p ∧ j = i then x else tA h q j
noncomputable def aFr (P : Nat → Prop) (h h2 : zH) : Prop := tSh h2 ∧ tF h2 = tF h ∧ tJ h2 = tJ h ∧ tO h2 = tO h ∧ tN h2 = tN h ∧ ∀ q, ¬ P q → tA h2 q = tA h q
section AFR
variable {h h1 h2 h3 : zH} {P : Nat → Prop} {p i : Nat} {x : Int32}
theorem aFr_r (hs : tSh h) : aFr P h h := ⟨hs, rfl, rfl, rfl, rfl, fun _ _ => rfl⟩
theorem aFr_t (a : aFr P h h1) (k : aFr P h1 h2) : aFr P h h2 := ⟨k.1, k.2.1.trans a.2.1, k.2.2.1.trans a.2.2.1, k.2.2.2.1.trans a.2.2.2.1, k.2.2.2.2.1.trans a.2.2.2.2.1, fun q hq => (k.2.2.2.2.2 q hq).trans (a.2.2.2.2.2 q hq)⟩
theorem aFr_m {R : Nat → Prop} (a : aFr P h h1) (hR : ∀ q, P q → R q) : aFr R h h1 := ⟨a.1, a.2.1, a.2.2.1, a.2.2.2.1, a.2.2.2.2.1, fun q hq => a.2.2.2.2.2 q (fun z => hq (hR q z))⟩
theorem aFr_s (a : aFr P h h1) (k : mIs p i x h1 h3) (hp : P p) : aFr P h h3 := aFr_t a ⟨k.1, k.2.1, k.2.2.1, k.2.2.2.1, k.2.2.2.2.1, fun q hq => by rw [k.2.2.2.2.2]; funext j; exact if_neg (fun z => hq (by rw [z.1]; exact hp))⟩
theorem mIs_x (k : mIs p i x h1 h3) : tA h3 p i = x := by rw [k.2.2.2.2.2]; exact if_pos ⟨rfl, rfl⟩
theorem mIs_o {q j : Nat} (k : mIs p i x h1 h3) (hn : q ≠ p ∨ j ≠ i) : tA h3 q j = tA h1 q j := by rw [k.2.2.2.2.2]; exact if_neg (fun z => hn.elim (fun y => y z.1) (fun y => y z.2))
theorem tG_lsi {tt : zT} {G : zG} {cd : zK} {bc bs : Nat} {rt : Option FieldType} {M : zM} {Q : zQ} {Z : zX} {f : Bool} {pc : Nat} {L : zL} {st : List Value} {c n kd : Nat} {i : Int32} (hf : tIn h p kd i) (hs : tSh h) (k : ∀ h3, mIs p i.toNatClampNeg x h h3 → tG tt G cd bc bs rt M Q Z f pc L st h3 c n) : tG tt G cd bc bs rt M Q Z f pc L st (tSA h p i.toNatClampNeg x) c n := k _ ⟨tSh_SA hs, tF_tSA _ _ _ _, tJ_tSA _ _ _ _, tO_tSA _ _ _ _, tN_tSA _ _ _ _, tA_tSA hf.cell _ _⟩
end AFR
theorem zadI {x y : Int32} (h : -2147483648 ≤ x.toInt + y.toInt ∧ x.toInt + y.toInt ≤ 2147483647) : (x + y).toInt = x.toInt + y.toInt := by
  rw [Int32.toInt_add]
  exact Int.bmod_eq_of_le (by show (-2147483648 : Int) ≤ x.toInt + y.toInt; omega) (by show x.toInt + y.toInt < (2147483648 : Int); omega)
theorem aU_i (f : Nat → Int) (t : Nat) : f t = if t ≤ 0 then aU f t else f t := by
  by_cases h : t ≤ 0
  · rw [if_pos h]
    obtain rfl : t = 0 := by omega
    rfl
  · rw [if_neg h]
theorem wIte {p : Prop} [Decidable p] {x B : Int} (h : 0 ≤ x ∧ x ≤ B) : 0 ≤ (if p then x else 0) ∧ (if p then x else 0) ≤ B := by
  by_cases q : p
  · rw [if_pos q]; exact h
  · rw [if_neg q]; omega
/-- cars of a kind; fires and deaths of a kind -/
noncomputable def wK (h : zH) (k : Int32) (i : Nat) : Int := if tA h 121 i = k then 1 else 0
noncomputable def tK9 (h : zH) (i : Nat) : Int := (tA h 123 i).toInt
noncomputable def wF (h : zH) (k : Int32) (i : Nat) : Int := if tA h 65 i = k ∧ ¬ tA h 71 i = 0 then 1 else 0
noncomputable def wD (h : zH) (k : Int32) (i : Nat) : Int := if tA h 65 i = k ∧ ¬ tA h 71 i = 0 then (tA h 70 i).toInt else 0
noncomputable def tF9 (h : zH) (i : Nat) : Int := (tA h 67 i).toInt
theorem zadU {x y : Int32} {a b : Int} (hx : x.toInt = a) (hy : y.toInt = b) (h : 0 ≤ a ∧ a ≤ 100000000 ∧ 0 ≤ b ∧ b ≤ 100000000) : (x + y).toInt = a + b := by rw [zadI (by omega), hx, hy]
theorem f_fillI {G : zG} (hG : G.1 = zProg) {h : zH} {p : Nat} {x : Int32} (hs : tSh h) (hN : tN h p ≤ 1000) : tC zTt G 282 [.ref p, .int x] h (fun w h2 => w = none ∧ aFr (fun r => r = p) h h2 ∧ ∀ t, t < tN h p → tA h2 p t = x) := by
  refine tC_in (by rw [hG]; rfl) (fun dp => ?_)
  have hl : (Int32.ofNat (tN h p)).toInt = ((tN h p : Nat) : Int) := yofN (by omega)
  refine tw_push rfl ?_
  refine tw_istore rfl ?_
  refine tw_aload rfl rfl ?_
  refine tw_alen rfl ?_
  refine tw_istore rfl ?_
  refine tG_loop (zW_mono zTt G dp) (zW_conj zTt G dp) (V := fun pc L st h9 _ _ => pc = 5 ∧ st = [] ∧ ∃ (h1 : zH) (k : Nat) (z : Int32), h1 = h9 ∧ aFr (fun r => r = p) h h1 ∧ z.toInt = (k : Int) ∧ (∀ t, t < k → tA h1 p t = x) ∧ L = [some (.ref p), some (.int x), some (.int z), some (.int (Int32.ofNat (tN h p)))]) ?_ (⟨rfl, rfl, h, 0, 0, rfl, aFr_r hs, rfl, fun t ht => absurd ht (Nat.not_lt_zero _), rfl⟩)
  rintro _ _ _ _ _ _ ⟨rfl, rfl, h1, k, z, rfl, hF, hz, hall, rfl⟩
  refine tw_iload rfl rfl ?_
  refine tw_iload rfl rfl ?_
  refine tw_ic_ge rfl (fun q991 => ?_) (fun q991 => ?_)
  · try dsimp only [tvI_i, tvJ_j, tvR_r] at q991
    exact tw_vret rfl ⟨rfl, hF, fun t ht => hall t (by omega)⟩
  · try dsimp only [tvI_i, tvJ_j, tvR_r] at q991
    refine tw_aload rfl rfl ?_
    refine tw_iload rfl rfl ?_
    refine tw_iload rfl rfl ?_
    refine tw_iast rfl (fun f992 => ?_)
    refine tG_lsi f992 hF.1 (fun h3 a3 => ?_)
    try dsimp only [tvI_i, tvJ_j, tvR_r] at a3
    have hF3 := aFr_s hF a3 rfl
    refine tw_iinc rfl rfl ?_
    refine tw_goto rfl ?_
    have hk1 : (z + 1).toInt = ((k + 1 : Nat) : Int) := zincN hz (by omega)
    rw [zof_cl hz] at a3
    exact tG_cut (zW_mono zTt G dp) (Or.inr ⟨rfl, rfl, h3, k + 1, z + 1, rfl, hF3, hk1, fun t ht => (Classical.em (t = k)).elim (fun y => by rw [y]; exact mIs_x a3) (fun y => (mIs_o a3 (Or.inr y)).trans (hall t (by omega))), rfl⟩)
theorem f_addUp {G : zG} (hG : G.1 = zProg) {h : zH} {p : Nat} {f : Nat → Int} (hs : tSh h) (hN : 1 ≤ tN h p ∧ tN h p ≤ 1000) (hf : ∀ t, t < tN h p → (tA h p t).toInt = f t) (hb : ∀ t, t < tN h p → 0 ≤ aU f t ∧ aU f t ≤ 100000000) : tC zTt G 169 [.ref p] h (fun w h2 => w = none ∧ aFr (fun r => r = p) h h2 ∧ ∀ t, t < tN h p → (tA h2 p t).toInt = aU f t) := by
  refine tC_in (by rw [hG]; rfl) (fun dp => ?_)
  refine tw_push rfl ?_
  refine tw_istore rfl ?_
  refine tG_loop (zW_mono zTt G dp) (zW_conj zTt G dp) (V := fun pc L st h9 _ _ => pc = 2 ∧ st = [] ∧ ∃ (h1 : zH) (k : Nat) (z : Int32), h1 = h9 ∧ aFr (fun r => r = p) h h1 ∧ z.toInt = ((k + 1 : Nat) : Int) ∧ (∀ t, t < tN h p → (tA h1 p t).toInt = if t ≤ k then aU f t else f t) ∧ L = [some (.ref p), some (.int z)]) ?_ (⟨rfl, rfl, h, 0, 1, rfl, aFr_r hs, rfl, fun t ht => (hf t ht).trans (aU_i f t), rfl⟩)
  rintro _ _ _ _ _ _ ⟨rfl, rfl, h1, k, z, rfl, hF, hz, hall, rfl⟩
  have hl : (Int32.ofNat (tN h1 p)).toInt = ((tN h p : Nat) : Int) := by rw [hF.2.2.2.2.1]; exact yofN (by omega)
  refine tw_iload rfl rfl ?_
  refine tw_aload rfl rfl ?_
  refine tw_alen rfl ?_
  refine tw_ic_ge rfl (fun q993 => ?_) (fun q993 => ?_)
  · try dsimp only [tvI_i, tvJ_j, tvR_r] at q993
    refine tw_vret rfl ⟨rfl, hF, fun t ht => ?_⟩
    rw [hall t ht, if_pos (by omega)]
  · try dsimp only [tvI_i, tvJ_j, tvR_r] at q993
    have hk9 : k + 1 < tN h p := by omega
    have z0 : z.toNatClampNeg = k + 1 := zof_cl hz
    have z1 : (z - 1).toNatClampNeg = k := zof_cl ((zsbM (b := 1) hz rfl (by omega) (by decide)).trans (by omega))
    have u0 := hall (k + 1) hk9
    rw [if_neg (by omega)] at u0
    have u1 := hall k (by omega)
    rw [if_pos (Nat.le_refl _)] at u1
    have b1 := hb k (by omega)
    have b2 := hb (k + 1) hk9
    have b3 : aU f (k + 1) = aU f k + f (k + 1) := rfl
    refine tw_aload rfl rfl ?_
    refine tw_iload rfl rfl ?_
    refine tw_dup2 rfl ?_
    refine tw_iald rfl (fun f994 => ?_)
    refine tw_aload rfl rfl ?_
    refine tw_iload rfl rfl ?_
    refine tw_push rfl ?_
    refine tw_isub rfl ?_
    refine tw_iald rfl (fun f995 => ?_)
    refine tw_iadd rfl ?_
    refine tw_iast rfl (fun f996 => ?_)
    refine tG_lsi f996 hF.1 (fun h3 a3 => ?_)
    try dsimp only [tvI_i, tvJ_j, tvR_r] at a3
    have hF3 := aFr_s hF a3 rfl
    refine tw_iinc rfl rfl ?_
    refine tw_goto rfl ?_
    rw [z0, z1] at a3
    have hx9 : (tA h3 p (k + 1)).toInt = aU f (k + 1) := by rw [mIs_x a3, zadI (by omega)]; omega
    have hk1 : (z + 1).toInt = ((k + 1 + 1 : Nat) : Int) := zincN hz (by omega)
    refine tG_cut (zW_mono zTt G dp) (Or.inr ⟨rfl, rfl, h3, k + 1, z + 1, rfl, hF3, hk1, fun t ht => ?_, rfl⟩)
    by_cases y : t = k + 1
    · rw [y, hx9, if_pos (Nat.le_refl _)]
    · rw [mIs_o a3 (Or.inr y), hall t ht]
      by_cases y2 : t ≤ k
      · rw [if_pos y2, if_pos (by omega)]
      · rw [if_neg y2, if_neg (by omega)]
theorem f_countCars {G : zG} (hG : G.1 = zProg) {h : zH} {k : Int32} (hs : tSh h) (hL : R_cl h) (hg : ∀ i r : Nat, (i : Int) < (tvI (tF h 36 4)).toInt → tO h 39 i = some r → 182 ≤ r) (hK : R_ckind h) (hT : R_ctl h) (hn : tN h 107 = 600) (h123 : ∀ i, i < 300 → 0 ≤ (tA h 123 i).toInt ∧ (tA h 123 i).toInt ≤ 599) (h36 : 0 ≤ (tvI (tF h 36 4)).toInt ∧ (tvI (tF h 36 4)).toInt ≤ 300) : tC zTt G 23 [.ref 36, .int k, .ref 107] h (fun w h2 => w = none ∧ aFr (fun r => r = 107) h h2 ∧ ∀ t : Nat, t < 600 → (tA h2 107 t).toInt = bN (wK h k) (tK9 h) (tvI (tF h 36 4)).toNatClampNeg t) := by
  refine tC_in (by rw [hG]; rfl) (fun dp => ?_)
  have hNC : (((tvI (tF h 36 4)).toNatClampNeg : Nat) : Int) = (tvI (tF h 36 4)).toInt := zclx h36.1
  have hw1 : ∀ i, i < (tvI (tF h 36 4)).toNatClampNeg → 0 ≤ wK h k i ∧ wK h k i ≤ 1 := fun i _ => wIte ⟨by decide, by decide⟩
  have ht0 : ∀ i, i < (tvI (tF h 36 4)).toNatClampNeg → 0 ≤ tK9 h i := fun i hi => (h123 i (by rw [zclE] at hi; omega)).1
  refine tw_aload rfl rfl ?_
  refine tw_push rfl ?_
  refine tw_stat2 rfl (f_fillI hG hs (by rw [hn]; decide)) (fun wp997 hp997 p997 => ?_)
  obtain ⟨rfl, Fp997, Zp997⟩ := p997
  rw [hn] at Zp997
  refine tw_push rfl ?_
  refine tw_istore rfl ?_
  refine tG_loop (zW_mono zTt G dp) (zW_conj zTt G dp) (V := fun pc L st h9 _ _ => pc = 7 ∧ st = [] ∧ ∃ (h1 : zH) (n : Nat) (z : Int32) (l4 : Option Value), h1 = h9 ∧ aFr (fun r => r = 107) h h1 ∧ z.toInt = (n : Int) ∧ (n : Int) ≤ (tvI (tF h 36 4)).toInt ∧ (∀ t, t < 600 → (tA h1 107 t).toInt = cN (wK h k) (tK9 h) n t) ∧ L = [some (.ref 36), some (.int k), some (.ref 107), some (.int z), l4]) ?_ (⟨rfl, rfl, _, 0, 0, none, rfl, Fp997, rfl, h36.1, fun t ht => by rw [Zp997 t ht]; rfl, rfl⟩)
  rintro _ _ _ _ _ _ ⟨rfl, rfl, h1, n, z, l4, rfl, hF, hz, hnn, hall, rfl⟩
  have hL1 : R_cl h1 := by unfold R_cl; rw [hF.2.1, hF.2.2.2.1]; exact hL
  have hg1 : ∀ i r : Nat, (i : Int) < (tvI (tF h1 36 4)).toInt → tO h1 39 i = some r → 182 ≤ r := by rw [hF.2.1, hF.2.2.2.1]; exact hg
  have hK1 : R_ckind h1 := fun i r hi hr => by rw [hF.2.1, hF.2.2.2.2.2 121 (by decide)]; rw [hF.2.1] at hi; rw [hF.2.2.2.1] at hr; exact hK i r hi hr
  have hT1 : R_ctl h1 := fun i r hi hr => by rw [hF.2.1, hF.2.2.2.2.2 123 (by decide)]; rw [hF.2.1] at hi; rw [hF.2.2.2.1] at hr; exact hT i r hi hr
  have e36 : (tvI (tF h1 36 4)).toInt = (tvI (tF h 36 4)).toInt := by rw [hF.2.1]
  refine tw_iload rfl rfl ?_
  refine tw_aload rfl rfl ?_
  refine tw_getS rfl (hi_36_4 hF.1) ?_
  refine tw_ic_ge rfl (fun q998 => ?_) (fun q998 => ?_)
  · try dsimp only [tvI_i, tvJ_j, tvR_r] at q998
    refine tw_aload rfl rfl ?_
    have hnN : n = (tvI (tF h 36 4)).toNatClampNeg := by rw [zclE]; omega
    refine tw_stat1 rfl (f_addUp hG hF.1 (f := cN (wK h k) (tK9 h) (tvI (tF h 36 4)).toNatClampNeg) (by rw [hF.2.2.2.2.1, hn]; decide) (by rw [hF.2.2.2.2.1, hn]; exact fun t ht => (hall t ht).trans (by rw [hnN])) (by rw [hF.2.2.2.2.1, hn]; exact fun t ht => by rw [aU_cN ht0]; have y := bN_b (B := 1) (tl := tK9 h) (n := (tvI (tF h 36 4)).toNatClampNeg) hw1 (by decide) (t : Int); omega)) (fun wp999 hp999 p999 => ?_)
    obtain ⟨rfl, Fp999, Zp999⟩ := p999
    rw [hF.2.2.2.2.1, hn] at Zp999
    exact tw_vret rfl ⟨rfl, aFr_t hF Fp999, fun t ht => (Zp999 t ht).trans (aU_cN ht0 t)⟩
  · try dsimp only [tvI_i, tvJ_j, tvR_r] at q998
    refine tw_aload rfl rfl ?_
    refine tw_iload rfl rfl ?_
    refine tw_virt1 rfl (f_carAtR hG hF.1 hL1 hg1) (fun w9 h9 p1000 => ?_)
    obtain ⟨⟨rp1000, p1000, p1000r, p1000g, rfl⟩ | ⟨p1000, rfl⟩, e9⟩ := p1000
    · obtain rfl := e9.symm
      refine tw_astore rfl ?_
      refine tw_aload rfl rfl ?_
      refine tw_ifnull rfl (fun z => by cases z) (fun _ _ => ?_)
      refine tw_aload rfl rfl ?_
      refine tw_getS rfl (hK1 _ _ p1000.2 p1000r) ?_
      refine tw_iload rfl rfl ?_
      refine tw_ic_ne rfl (fun q1003 => ?_) (fun q1003 => ?_)
      · try dsimp only [tvI_i, tvJ_j, tvR_r] at q1003
        have q1003i := zneq rfl q1003
        refine tw_iinc rfl rfl ?_
        refine tw_goto rfl ?_
        have hz1 : (z + 1).toInt = ((n + 1 : Nat) : Int) := zincN hz (by omega)
        have zn := zof_cl hz
        have e0 : tA h1 121 n = tA h 121 n := congrFun (hF.2.2.2.2.2 121 (by decide)) n
        rw [zn, e0] at q1003
        refine tG_cut (zW_mono zTt G dp) (Or.inr ⟨rfl, rfl, h1, n + 1, z + 1, _, rfl, hF, hz1, by omega, fun t ht => ?_, rfl⟩)
        rw [hall t ht, cN_n (fun _ => if_neg q1003)]
      · try dsimp only [tvI_i, tvJ_j, tvR_r] at q1003
        have q1003i := zeqi rfl q1003
        refine tw_aload rfl rfl ?_
        refine tw_aload rfl rfl ?_
        refine tw_getS rfl (hT1 _ _ p1000.2 p1000r) ?_
        refine tw_dup2 rfl ?_
        refine tw_iald rfl (fun f1004 => ?_)
        refine tw_push rfl ?_
        refine tw_iadd rfl ?_
        refine tw_iast rfl (fun f1005 => ?_)
        refine tG_lsi f1005 hF.1 (fun h3 a3 => ?_)
        try dsimp only [tvI_i, tvJ_j, tvR_r] at a3
        have hF3 := aFr_s hF a3 rfl
        refine tw_iinc rfl rfl ?_
        refine tw_goto rfl ?_
        have hz1 : (z + 1).toInt = ((n + 1 : Nat) : Int) := zincN hz (by omega)
        have zn := zof_cl hz
        have e0 : tA h1 121 n = tA h 121 n := congrFun (hF.2.2.2.2.2 121 (by decide)) n
        rw [zn, e0] at q1003
        have e1 : tA h1 123 n = tA h 123 n := congrFun (hF.2.2.2.2.2 123 (by decide)) n
        rw [zn, e1] at a3
        have b9 := h123 n (by omega)
        have t9 : (((tA h 123 n).toNatClampNeg : Nat) : Int) = tK9 h n := zclx b9.1
        refine tG_cut (zW_mono zTt G dp) (Or.inr ⟨rfl, rfl, h3, n + 1, z + 1, _, rfl, hF3, hz1, by omega, fun t ht => ?_, rfl⟩)
        by_cases y : t = (tA h 123 n).toNatClampNeg
        · rw [y, mIs_x a3, cN_y t9.symm, show wK h k n = 1 from if_pos q1003]
          have b8 := cN_b (B := 1) (tl := tK9 h) (n := n) (fun i hi => hw1 i (by rw [zclE]; omega)) (by decide) (tA h 123 n).toNatClampNeg
          exact zadU (hall _ (by omega)) rfl (by omega)
        · rw [mIs_o a3 (Or.inr y), hall t ht, cN_n (fun y2 => absurd (by omega) y)]
    · obtain rfl := e9.symm
      exact absurd ⟨by omega, by omega⟩ p1000
theorem f_countFires {G : zG} (hG : G.1 = zProg) {h : zH} {k : Int32} (hs : tSh h) (hn108 : tN h 108 = 600) (hn109 : tN h 109 = 600) (h67 : ∀ i, i < 200 → 0 ≤ (tA h 67 i).toInt ∧ (tA h 67 i).toInt ≤ 599) (h70 : ∀ i, i < 200 → 0 ≤ (tA h 70 i).toInt ∧ (tA h 70 i).toInt ≤ 9) (h63 : 0 ≤ (tvI (tF h 63 8)).toInt ∧ (tvI (tF h 63 8)).toInt ≤ 200) : tC zTt G 10 [.ref 63, .int k, .ref 108, .ref 109] h (fun w h2 => w = none ∧ aFr (fun r => r = 108 ∨ r = 109) h h2 ∧ (∀ t : Nat, t < 600 → (tA h2 108 t).toInt = bN (wF h k) (tF9 h) (tvI (tF h 63 8)).toNatClampNeg t) ∧ (∀ t : Nat, t < 600 → (tA h2 109 t).toInt = bN (wD h k) (tF9 h) (tvI (tF h 63 8)).toNatClampNeg t)) := by
  refine tC_in (by rw [hG]; rfl) (fun dp => ?_)
  have hNC : (((tvI (tF h 63 8)).toNatClampNeg : Nat) : Int) = (tvI (tF h 63 8)).toInt := zclx h63.1
  have hw108 : ∀ i, i < (tvI (tF h 63 8)).toNatClampNeg → 0 ≤ wF h k i ∧ wF h k i ≤ 1 := fun i _ => wIte ⟨by decide, by decide⟩
  have hw109 : ∀ i, i < (tvI (tF h 63 8)).toNatClampNeg → 0 ≤ wD h k i ∧ wD h k i ≤ 9 := fun i hi => wIte (h70 i (by rw [zclE] at hi; omega))
  have ht0 : ∀ i, i < (tvI (tF h 63 8)).toNatClampNeg → 0 ≤ tF9 h i := fun i hi => (h67 i (by rw [zclE] at hi; omega)).1
  refine tw_aload rfl rfl ?_
  refine tw_push rfl ?_
  refine tw_stat2 rfl (f_fillI hG hs (by rw [hn108]; decide)) (fun wp1006 hp1006 p1006 => ?_)
  obtain ⟨rfl, FF, Zp1006⟩ := p1006
  rw [hn108] at Zp1006
  refine tw_aload rfl rfl ?_
  refine tw_push rfl ?_
  refine tw_stat2 rfl (f_fillI hG FF.1 (by rw [FF.2.2.2.2.1]; rw [hn109]; decide)) (fun wp1007 hp1007 p1007 => ?_)
  obtain ⟨rfl, Fp1007, Zp1007⟩ := p1007
  rw [FF.2.2.2.2.1, hn109] at Zp1007
  refine tw_push rfl ?_
  refine tw_istore rfl ?_
  refine tG_loop (zW_mono zTt G dp) (zW_conj zTt G dp) (V := fun pc L st h9 _ _ => pc = 13 ∧ st = [] ∧ ∃ (h1 : zH) (n : Nat) (z : Int32), h1 = h9 ∧ aFr (fun r => r = 108 ∨ r = 109) h h1 ∧ z.toInt = (n : Int) ∧ (n : Int) ≤ (tvI (tF h 63 8)).toInt ∧ (∀ t, t < 600 → (tA h1 108 t).toInt = cN (wF h k) (tF9 h) n t) ∧ (∀ t, t < 600 → (tA h1 109 t).toInt = cN (wD h k) (tF9 h) n t) ∧ L = [some (.ref 63), some (.int k), some (.ref 108), some (.ref 109), some (.int z)]) ?_ (⟨rfl, rfl, _, 0, 0, rfl, aFr_t (aFr_m FF (fun _ y => Or.inl y)) (aFr_m Fp1007 (fun _ y => Or.inr y)), rfl, h63.1, fun t ht => by rw [congrFun (Fp1007.2.2.2.2.2 108 (by decide)) t, Zp1006 t ht]; rfl, fun t ht => by rw [Zp1007 t ht]; rfl, rfl⟩)
  rintro _ _ _ _ _ _ ⟨rfl, rfl, h1, n, z, rfl, hF, hz, hnn, hal8, hal9, rfl⟩
  have e63 : (tvI (tF h1 63 8)).toInt = (tvI (tF h 63 8)).toInt := by rw [hF.2.1]
  refine tw_iload rfl rfl ?_
  refine tw_aload rfl rfl ?_
  refine tw_getS rfl (hi_63_8 hF.1) ?_
  refine tw_ic_ge rfl (fun q1008 => ?_) (fun q1008 => ?_)
  · try dsimp only [tvI_i, tvJ_j, tvR_r] at q1008
    refine tw_aload rfl rfl ?_
    have hnN : n = (tvI (tF h 63 8)).toNatClampNeg := by rw [zclE]; omega
    refine tw_stat1 rfl (f_addUp hG hF.1 (f := cN (wF h k) (tF9 h) (tvI (tF h 63 8)).toNatClampNeg) (by rw [hF.2.2.2.2.1, hn108]; decide) (by rw [hF.2.2.2.2.1, hn108]; exact fun t ht => (hal8 t ht).trans (by rw [hnN])) (by rw [hF.2.2.2.2.1, hn108]; exact fun t ht => by rw [aU_cN ht0]; have y := bN_b (B := 1) (tl := tF9 h) (n := (tvI (tF h 63 8)).toNatClampNeg) hw108 (by decide) (t : Int); omega)) (fun wp1009 hp1009 p1009 => ?_)
    obtain ⟨rfl, FB, Z8⟩ := p1009
    rw [hF.2.2.2.2.1, hn108] at Z8
    have FA := aFr_t hF (aFr_m FB (fun _ y => Or.inl y))
    refine tw_aload rfl rfl ?_
    refine tw_stat1 rfl (f_addUp hG FA.1 (f := cN (wD h k) (tF9 h) (tvI (tF h 63 8)).toNatClampNeg) (by rw [FA.2.2.2.2.1, hn109]; decide) (by rw [FA.2.2.2.2.1, hn109]; exact fun t ht => ((congrArg Int32.toInt (congrFun (FB.2.2.2.2.2 109 (by decide)) t)).trans (hal9 t ht)).trans (by rw [hnN])) (by rw [FA.2.2.2.2.1, hn109]; exact fun t ht => by rw [aU_cN ht0]; have y := bN_b (B := 9) (tl := tF9 h) (n := (tvI (tF h 63 8)).toNatClampNeg) hw109 (by decide) (t : Int); omega)) (fun wp1010 hp1010 p1010 => ?_)
    obtain ⟨rfl, FC, Z9⟩ := p1010
    rw [FA.2.2.2.2.1, hn109] at Z9
    exact tw_vret rfl ⟨rfl, aFr_t FA (aFr_m FC (fun _ y => Or.inr y)), fun t ht => (congrArg Int32.toInt (congrFun (FC.2.2.2.2.2 108 (by decide)) t)).trans ((Z8 t ht).trans (aU_cN ht0 t)), fun t ht => (Z9 t ht).trans (aU_cN ht0 t)⟩
  · try dsimp only [tvI_i, tvJ_j, tvR_r] at q1008
    have zn := zof_cl hz
    have e65 : tA h1 65 n = tA h 65 n := congrFun (hF.2.2.2.2.2 65 (by decide)) n
    have e67 : tA h1 67 n = tA h 67 n := congrFun (hF.2.2.2.2.2 67 (by decide)) n
    have e70 : tA h1 70 n = tA h 70 n := congrFun (hF.2.2.2.2.2 70 (by decide)) n
    have e71 : tA h1 71 n = tA h 71 n := congrFun (hF.2.2.2.2.2 71 (by decide)) n
    have b9 := h67 n (by omega)
    have b7 := h70 n (by omega)
    have t9 : (((tA h 67 n).toNatClampNeg : Nat) : Int) = tF9 h n := zclx b9.1
    have hz1 : (z + 1).toInt = ((n + 1 : Nat) : Int) := zincN hz (by omega)
    refine tw_aload rfl rfl ?_
    refine tw_getS rfl (hs_63_1 hF.1) ?_
    refine tw_iload rfl rfl ?_
    refine tw_iald rfl (fun f1011 => ?_)
    refine tw_iload rfl rfl ?_
    refine tw_ic_ne rfl (fun q1012 => ?_) (fun q1012 => ?_)
    · try dsimp only [tvI_i, tvJ_j, tvR_r] at q1012
      have q1012i := zneq rfl q1012
      refine tw_iinc rfl rfl ?_
      refine tw_goto rfl ?_
      rw [zn, e65] at q1012
      refine tG_cut (zW_mono zTt G dp) (Or.inr ⟨rfl, rfl, h1, n + 1, z + 1, rfl, hF, hz1, by omega, fun t ht => ?_, fun t ht => ?_, rfl⟩)
      · rw [hal8 t ht, cN_n (fun _ => if_neg (fun y => q1012 y.1))]
      · rw [hal9 t ht, cN_n (fun _ => if_neg (fun y => q1012 y.1))]
    · try dsimp only [tvI_i, tvJ_j, tvR_r] at q1012
      have q1012i := zeqi rfl q1012
      refine tw_aload rfl rfl ?_
      refine tw_getS rfl (hs_63_7 hF.1) ?_
      refine tw_iload rfl rfl ?_
      refine tw_bald rfl (fun f1013 => ?_)
      refine tw_if_eq rfl (fun q1014 => ?_) (fun q1014 => ?_)
      · try dsimp only [tvI_i, tvJ_j, tvR_r] at q1014
        have q1014i := zeqi (Y := 0) (by decide) q1014
        refine tw_iinc rfl rfl ?_
        refine tw_goto rfl ?_
        rw [zn, e65] at q1012
        rw [zn, e71] at q1014
        refine tG_cut (zW_mono zTt G dp) (Or.inr ⟨rfl, rfl, h1, n + 1, z + 1, rfl, hF, hz1, by omega, fun t ht => ?_, fun t ht => ?_, rfl⟩)
        · rw [hal8 t ht, cN_n (fun _ => if_neg (fun y => y.2 q1014))]
        · rw [hal9 t ht, cN_n (fun _ => if_neg (fun y => y.2 q1014))]
      · try dsimp only [tvI_i, tvJ_j, tvR_r] at q1014
        have q1014i := zneq (Y := 0) (by decide) q1014
        refine tw_aload rfl rfl ?_
        refine tw_aload rfl rfl ?_
        refine tw_getS rfl (hs_63_3 hF.1) ?_
        refine tw_iload rfl rfl ?_
        refine tw_iald rfl (fun f1015 => ?_)
        refine tw_dup2 rfl ?_
        refine tw_iald rfl (fun f1016 => ?_)
        refine tw_push rfl ?_
        refine tw_iadd rfl ?_
        refine tw_iast rfl (fun f1017 => ?_)
        refine tG_lsi f1017 hF.1 (fun h3 a3 => ?_)
        try dsimp only [tvI_i, tvJ_j, tvR_r] at a3
        have hF3 := aFr_s hF a3 (Or.inl rfl)
        refine tw_aload rfl rfl ?_
        refine tw_aload rfl rfl ?_
        refine tw_getS rfl (hs_63_3 hF3.1) ?_
        refine tw_iload rfl rfl ?_
        refine tw_iald rfl (fun f1018 => ?_)
        refine tw_dup2 rfl ?_
        refine tw_iald rfl (fun f1019 => ?_)
        refine tw_aload rfl rfl ?_
        refine tw_getS rfl (hs_63_6 hF3.1) ?_
        refine tw_iload rfl rfl ?_
        refine tw_iald rfl (fun f1020 => ?_)
        refine tw_iadd rfl ?_
        refine tw_iast rfl (fun f1021 => ?_)
        refine tG_lsi f1021 hF3.1 (fun h4 a4 => ?_)
        try dsimp only [tvI_i, tvJ_j, tvR_r] at a4
        have hF4 := aFr_s hF3 a4 (Or.inr rfl)
        refine tw_iinc rfl rfl ?_
        refine tw_goto rfl ?_
        rw [zn, e65] at q1012
        rw [zn, e71] at q1014
        have hw8 : wF h k n = 1 := if_pos ⟨q1012, q1014⟩
        have hw9 : wD h k n = (tA h 70 n).toInt := if_pos ⟨q1012, q1014⟩
        rw [zn, e67] at a3
        have f67 : tA h3 67 n = tA h 67 n := (congrFun (hF3.2.2.2.2.2 67 (by decide)) n)
        have f70 : tA h3 70 n = tA h 70 n := (congrFun (hF3.2.2.2.2.2 70 (by decide)) n)
        rw [zn, f67, f70] at a4
        have b8 := cN_b (B := 1) (tl := tF9 h) (n := n) (fun i hi => hw108 i (by rw [zclE]; omega)) (by decide) (tA h 67 n).toNatClampNeg
        have b6 := cN_b (B := 9) (tl := tF9 h) (n := n) (fun i hi => hw109 i (by rw [zclE]; omega)) (by decide) (tA h 67 n).toNatClampNeg
        refine tG_cut (zW_mono zTt G dp) (Or.inr ⟨rfl, rfl, h4, n + 1, z + 1, rfl, hF4, hz1, by omega, fun t ht => ?_, fun t ht => ?_, rfl⟩)
        · rw [mIs_o a4 (Or.inl (by decide))]
          by_cases y : t = (tA h 67 n).toNatClampNeg
          · rw [y, mIs_x a3, cN_y t9.symm, hw8]
            exact zadU (hal8 _ (by omega)) rfl (by omega)
          · rw [mIs_o a3 (Or.inr y), hal8 t ht, cN_n (fun y2 => absurd (by omega) y)]
        · by_cases y : t = (tA h 67 n).toNatClampNeg
          · rw [y, mIs_x a4, cN_y t9.symm, hw9]
            exact zadU ((congrArg Int32.toInt (mIs_o a3 (Or.inl (by decide)))).trans (hal9 _ (by omega))) rfl (by omega)
          · rw [mIs_o a4 (Or.inr y), mIs_o a3 (Or.inl (by decide)), hal9 t ht, cN_n (fun y2 => absurd (by omega) y)]
/-! strata -/
noncomputable def sIb (v : Int) : Int := if v < 50 then 0 else if v < 100 then 1 else 2
noncomputable def sIx (so sp : Nat → Int32) (i : Nat) : Int := 3 * (so i).toInt + sIb (sp i).toInt
noncomputable def sOC (to kd : Nat → Int32) (k m : Int32) (i : Nat) : Int := if (to i).toInt ≤ m.toInt ∧ kd i = k then 1 else 0
noncomputable def sOF (to kd bu : Nat → Int32) (k m : Int32) (i : Nat) : Int := if (to i).toInt ≤ m.toInt ∧ kd i = k ∧ ¬ bu i = 0 then 1 else 0
noncomputable def sTC (to kd : Nat → Int32) (k m : Int32) (i : Nat) : Int := if (to i).toInt ≤ m.toInt ∧ ¬ kd i = k then 1 else 0
noncomputable def sTF (to kd bu : Nat → Int32) (k m : Int32) (i : Nat) : Int := if (to i).toInt ≤ m.toInt ∧ ¬ kd i = k ∧ ¬ bu i = 0 then 1 else 0
theorem s01 {p : Prop} [Decidable p] : 0 ≤ (if p then (1 : Int) else 0) ∧ (if p then (1 : Int) else 0) ≤ 1 := wIte ⟨by decide, by decide⟩
theorem cN_le {w w2 tl : Nat → Int} {n t : Nat} (h : ∀ i, i < n → w i ≤ w2 i) : cN w tl n t ≤ cN w2 tl n t := by
  induction n with
  | zero => exact Int.le_refl _
  | succ n ih =>
    have y := ih (fun i hi => h i (by omega))
    have z := h n (by omega)
    show cN w tl n t + (if tl n = (t : Int) then w n else 0) ≤ cN w2 tl n t + (if tl n = (t : Int) then w2 n else 0)
    by_cases q : tl n = (t : Int)
    · rw [if_pos q, if_pos q]; omega
    · rw [if_neg q, if_neg q]; omega
theorem cN_e {w w2 tl tl2 : Nat → Int} {n t : Nat} (h : ∀ i, i < n → w i = w2 i ∧ tl i = tl2 i) : cN w tl n t = cN w2 tl2 n t := by
  induction n with
  | zero => rfl
  | succ n ih =>
    show cN w tl n t + (if tl n = (t : Int) then w n else 0) = cN w2 tl2 n t + (if tl2 n = (t : Int) then w2 n else 0)
    rw [ih (fun i hi => h i (by omega)), (h n (by omega)).1, (h n (by omega)).2]
theorem sOF_le {to kd bu : Nat → Int32} {k m : Int32} {i : Nat} : sOF to kd bu k m i ≤ sOC to kd k m i := by
  unfold sOF sOC
  by_cases q : (to i).toInt ≤ m.toInt ∧ kd i = k
  · rw [if_pos q]; exact s01.2
  · rw [if_neg q, if_neg (fun y => q ⟨y.1, y.2.1⟩)]; exact Int.le_refl _
theorem sTF_le {to kd bu : Nat → Int32} {k m : Int32} {i : Nat} : sTF to kd bu k m i ≤ sTC to kd k m i := by
  unfold sTF sTC
  by_cases q : (to i).toInt ≤ m.toInt ∧ ¬ kd i = k
  · rw [if_pos q]; exact s01.2
  · rw [if_neg q, if_neg (fun y => q ⟨y.1, y.2.1⟩)]; exact Int.le_refl _
/-- the sum of the first ones -/
noncomputable def sm (f : Nat → Nat) : Nat → Nat
  | 0 => 0
  | t + 1 => sm f t + f t
theorem sm_m {f : Nat → Nat} {a b : Nat} (h : a ≤ b) : sm f a ≤ sm f b := by
  induction b with
  | zero => rw [Nat.le_zero.mp h]; exact Nat.le_refl _
  | succ b ih =>
    rcases Nat.lt_or_ge a (b + 1) with z | z
    · exact Nat.le_trans (ih (by omega)) (Nat.le_add_right _ _)
    · rw [show a = b + 1 by omega]; exact Nat.le_refl _
theorem sm_aU {f : Nat → Nat} {g : Nat → Int} {t : Nat} (h : ∀ i, i ≤ t → (f i : Int) = g i) : (sm f (t + 1) : Int) = aU g t := by
  induction t with
  | zero =>
    show ((0 + f 0 : Nat) : Int) = g 0
    rw [Nat.zero_add]
    exact h 0 (Nat.le_refl _)
  | succ t ih =>
    show ((sm f (t + 1) + f (t + 1) : Nat) : Int) = aU g t + g (t + 1)
    rw [← ih (fun i hi => h i (by omega)), ← h (t + 1) (Nat.le_refl _)]
    omega
/-- above the line, below it, seen, own -/
noncomputable def sSt (oC oF tC tF : Nat → Nat) : Nat → Nat × Nat × Nat × Nat
  | 0 => (0, 1, 0, 0)
  | t + 1 => if tC t = 0 then sSt oC oF tC tF t else (((sSt oC oF tC tF t).1 * tC t + oC t * tF t * (sSt oC oF tC tF t).2.1) / Nat.gcd ((sSt oC oF tC tF t).1 * tC t + oC t * tF t * (sSt oC oF tC tF t).2.1) ((sSt oC oF tC tF t).2.1 * tC t), ((sSt oC oF tC tF t).2.1 * tC t) / Nat.gcd ((sSt oC oF tC tF t).1 * tC t + oC t * tF t * (sSt oC oF tC tF t).2.1) ((sSt oC oF tC tF t).2.1 * tC t), (sSt oC oF tC tF t).2.2.1 + oF t, (sSt oC oF tC tF t).2.2.2 + oC t)
section SST
variable {oC oF tC tF : Nat → Nat} {t : Nat}
theorem sSt_0 (h : tC t = 0) : sSt oC oF tC tF (t + 1) = sSt oC oF tC tF t := if_pos h
theorem sSt_1 (h : ¬ tC t = 0) : sSt oC oF tC tF (t + 1) = (((sSt oC oF tC tF t).1 * tC t + oC t * tF t * (sSt oC oF tC tF t).2.1) / Nat.gcd ((sSt oC oF tC tF t).1 * tC t + oC t * tF t * (sSt oC oF tC tF t).2.1) ((sSt oC oF tC tF t).2.1 * tC t), ((sSt oC oF tC tF t).2.1 * tC t) / Nat.gcd ((sSt oC oF tC tF t).1 * tC t + oC t * tF t * (sSt oC oF tC tF t).2.1) ((sSt oC oF tC tF t).2.1 * tC t), (sSt oC oF tC tF t).2.2.1 + oF t, (sSt oC oF tC tF t).2.2.2 + oC t) := if_neg h
noncomputable def sOk (oC oF tC tF : Nat → Nat) (t : Nat) : Prop := 0 < (sSt oC oF tC tF t).2.1 ∧ exB t (sm tC t) (sSt oC oF tC tF t).2.1 ∧ (sSt oC oF tC tF t).1 ≤ sm oC t * (sSt oC oF tC tF t).2.1 ∧ (sSt oC oF tC tF t).2.2.1 ≤ sm oF t ∧ (sSt oC oF tC tF t).2.2.2 ≤ sm oC t
theorem sOk_t (hT : sm tC 9 ≤ 200) (hF : ∀ i, i < 9 → tF i ≤ tC i) : ∀ t, t ≤ 9 → sOk oC oF tC tF t := by
  intro t
  induction t with
  | zero => intro _; exact ⟨Nat.one_pos, exB_0, Nat.zero_le _, Nat.le_refl _, Nat.le_refl _⟩
  | succ t ih =>
    intro ht
    obtain ⟨h1, h2, h3, h4, h5⟩ := ih (by omega)
    have hx : tC t ≤ 200 := by
      have a := sm_m (f := tC) (show t + 1 ≤ 9 by omega)
      have b : sm tC (t + 1) = sm tC t + tC t := rfl
      omega
    by_cases z : tC t = 0
    · unfold sOk
      rw [sSt_0 z]
      refine ⟨h1, exB_m h2 (by omega) (Nat.le_add_right _ _), Nat.le_trans h3 (Nat.mul_le_mul_right _ (Nat.le_add_right _ _)), Nat.le_trans h4 (Nat.le_add_right _ _), Nat.le_trans h5 (Nat.le_add_right _ _)⟩
    · unfold sOk
      rw [sSt_1 z]
      dsimp only
      have hb : 0 < (sSt oC oF tC tF t).2.1 * tC t := Nat.mul_pos h1 (by omega)
      have hg := Nat.gcd_pos_of_pos_right ((sSt oC oF tC tF t).1 * tC t + oC t * tF t * (sSt oC oF tC tF t).2.1) hb
      have d1 := Nat.gcd_dvd_left ((sSt oC oF tC tF t).1 * tC t + oC t * tF t * (sSt oC oF tC tF t).2.1) ((sSt oC oF tC tF t).2.1 * tC t)
      have d2 := Nat.gcd_dvd_right ((sSt oC oF tC tF t).1 * tC t + oC t * tF t * (sSt oC oF tC tF t).2.1) ((sSt oC oF tC tF t).2.1 * tC t)
      refine ⟨Nat.div_pos (Nat.le_of_dvd hb d2) hg, exB_s h2 hx (Nat.div_le_self _ _), abv_d (abv_s h3 (hF t (by omega))) d1 d2 hg, Nat.add_le_add_right h4 _, Nat.add_le_add_right h5 _⟩
/-- a step stays within longs -/
theorem sOk_b (hT : sm tC 9 ≤ 200) (hO : sm oC 9 ≤ 200) (hF : ∀ i, i < 9 → tF i ≤ tC i) (ht : t < 9) : (sSt oC oF tC tF t).2.1 * tC t < 2 ^ 49 ∧ (sSt oC oF tC tF t).1 * tC t + oC t * tF t * (sSt oC oF tC tF t).2.1 ≤ 200 * 2 ^ 49 ∧ (sSt oC oF tC tF t).1 ≤ 200 * 2 ^ 49 ∧ (sSt oC oF tC tF t).2.1 < 2 ^ 49 := by
  obtain ⟨h1, h2, h3, -, -⟩ := sOk_t (oC := oC) (oF := oF) hT hF t (by omega)
  have a := sm_m (f := tC) (show t + 1 ≤ 9 by omega)
  have a2 : sm tC (t + 1) = sm tC t + tC t := rfl
  have c := sm_m (f := oC) (show t + 1 ≤ 9 by omega)
  have c2 : sm oC (t + 1) = sm oC t + oC t := rfl
  have b1 : (sSt oC oF tC tF t).2.1 * tC t < 2 ^ 49 := exB_f (exB_s h2 (by omega) (Nat.le_refl _)) (by omega) (by omega)
  have b2 : (sSt oC oF tC tF t).2.1 < 2 ^ 49 := exB_f h2 (by omega) (by omega)
  refine ⟨b1, ?_, ?_, b2⟩
  · refine Nat.le_trans (abv_s h3 (hF t ht)) ?_
    exact Nat.mul_le_mul (by omega) (Nat.le_of_lt b1)
  · exact Nat.le_trans h3 (Nat.mul_le_mul (by omega) (Nat.le_of_lt b2))
end SST
theorem z50 {x : Int32} (h : 0 ≤ x.toInt ∧ x.toInt ≤ 200) : (if (2 : Int32) < x / 50 then 2 else x / 50).toInt = sIb x.toInt := by
  have a : (List.range 201).all (fun v => decide ((if (2 : Int32) < Int32.ofNat v / 50 then (2 : Int32) else Int32.ofNat v / 50).toInt = sIb (v : Int))) = true := by decide +kernel
  have hn : ((x.toInt.toNat : Nat) : Int) = x.toInt := by omega
  have e : x = Int32.ofNat x.toInt.toNat := zof hn.symm
  have b := of_decide_eq_true (List.all_eq_true.mp a x.toInt.toNat (List.mem_range.mpr (by omega)))
  rw [← e, hn] at b
  exact b
theorem sIb_b (v : Int) : 0 ≤ sIb v ∧ sIb v ≤ 2 := by
  unfold sIb
  split
  · exact ⟨by decide, by decide⟩
  · split
    · exact ⟨by decide, by decide⟩
    · exact ⟨by decide, by decide⟩
theorem zmu3 {x : Int32} (h : 0 ≤ x.toInt ∧ x.toInt ≤ 2) : (x * 3).toInt = 3 * x.toInt ∧ (3 * x).toInt = 3 * x.toInt := by
  constructor
  · rw [Int32.toInt_mul, show (3 : Int32).toInt = 3 from rfl, Int.mul_comm]
    exact Int.bmod_eq_of_le (by show (-2147483648 : Int) ≤ 3 * x.toInt; omega) (by show 3 * x.toInt < (2147483648 : Int); omega)
  · rw [Int32.toInt_mul, show (3 : Int32).toInt = 3 from rfl]
    exact Int.bmod_eq_of_le (by show (-2147483648 : Int) ≤ 3 * x.toInt; omega) (by show 3 * x.toInt < (2147483648 : Int); omega)
theorem zLmN {x y : Int64} {X Y : Nat} (hx : x.toInt = (X : Int)) (hy : y.toInt = (Y : Int)) (h : X * Y ≤ 4000000000000000000) : (x * y).toInt = ((X * Y : Nat) : Int) := by
  have e : (X : Int) * (Y : Int) = ((X * Y : Nat) : Int) := by rw [Int.natCast_mul]
  rw [zLmul (by rw [hx, hy, e]; omega), hx, hy, e]
theorem zLaN {x y : Int64} {X Y : Nat} (hx : x.toInt = (X : Int)) (hy : y.toInt = (Y : Int)) (h : X + Y ≤ 4000000000000000000) : (x + y).toInt = ((X + Y : Nat) : Int) := by
  rw [zLadd (by rw [hx, hy]; omega), hx, hy]
  omega
/-- the counts as numbers -/
noncomputable def cNn (w tl : Nat → Int) (n t : Nat) : Nat := (cN w tl n t).toNat
theorem cNn_i {w tl : Nat → Int} {n t : Nat} (h : ∀ i, i < n → 0 ≤ w i ∧ w i ≤ 1) : ((cNn w tl n t : Nat) : Int) = cN w tl n t := by
  have z := (cN_b (w := w) (tl := tl) (B := 1) (n := n) h (by decide) t).1
  unfold cNn
  omega
theorem cNn_s {w tl : Nat → Int} {n : Nat} (h : ∀ i, i < n → 0 ≤ w i ∧ w i ≤ 1) (ht : ∀ i, i < n → 0 ≤ tl i) (hn : n ≤ 200) : sm (cNn w tl n) 9 ≤ 200 := by
  have a : ((sm (cNn w tl n) 9 : Nat) : Int) = aU (cN w tl n) 8 := sm_aU (f := cNn w tl n) (g := cN w tl n) (t := 8) (fun i _ => cNn_i h)
  rw [aU_cN ht] at a
  have b := (bN_b (w := w) (tl := tl) (B := 1) (n := n) h (by decide) ((8 : Nat) : Int)).2
  omega
theorem cNn_l {w w2 tl : Nat → Int} {n t : Nat} (h : ∀ i, i < n → w i ≤ w2 i) : cNn w tl n t ≤ cNn w2 tl n t := by
  have z := cN_le (w := w) (w2 := w2) (tl := tl) (n := n) (t := t) h
  unfold cNn
  omega
/-- which of the four is asked -/
noncomputable def pick (q : Nat × Nat × Nat × Nat) (p : Int32) : Nat := if p.toInt = 0 then q.1 else if p.toInt = 1 then q.2.1 else if p.toInt = 2 then q.2.2.1 else q.2.2.2
theorem f_strata {G : zG} (hG : G.1 = zProg) {h : zH} {k m : Int32} (hs : tSh h) (hn72 : tN h 72 = 9) (hn73 : tN h 73 = 9) (hn74 : tN h 74 = 9) (hn75 : tN h 75 = 9) (h68 : ∀ i, i < 200 → 0 ≤ (tA h 68 i).toInt ∧ (tA h 68 i).toInt ≤ 2) (h69 : ∀ i, i < 200 → 0 ≤ (tA h 69 i).toInt ∧ (tA h 69 i).toInt ≤ 200) (h63 : 0 ≤ (tvI (tF h 63 8)).toInt ∧ (tvI (tF h 63 8)).toInt ≤ 200) : tC zTt G 12 [.ref 63, .int k, .int m] h (fun w h2 => w = none ∧ aFr (fun r => 72 ≤ r ∧ r ≤ 75) h h2 ∧ (∀ t, t < 9 → (tA h2 72 t).toInt = cN (sOC (tA h 67) (tA h 65) k m) (sIx (tA h 68) (tA h 69)) (tvI (tF h 63 8)).toNatClampNeg t) ∧ (∀ t, t < 9 → (tA h2 73 t).toInt = cN (sOF (tA h 67) (tA h 65) (tA h 71) k m) (sIx (tA h 68) (tA h 69)) (tvI (tF h 63 8)).toNatClampNeg t) ∧ (∀ t, t < 9 → (tA h2 74 t).toInt = cN (sTC (tA h 67) (tA h 65) k m) (sIx (tA h 68) (tA h 69)) (tvI (tF h 63 8)).toNatClampNeg t) ∧ (∀ t, t < 9 → (tA h2 75 t).toInt = cN (sTF (tA h 67) (tA h 65) (tA h 71) k m) (sIx (tA h 68) (tA h 69)) (tvI (tF h 63 8)).toNatClampNeg t)) := by
  refine tC_in (by rw [hG]; rfl) (fun dp => ?_)
  refine tw_aload rfl rfl ?_
  refine tw_getS rfl (hs_63_9 hs) ?_
  refine tw_push rfl ?_
  refine tw_stat2 rfl (f_fillI hG hs (by rw [hn72]; decide)) (fun wp1022 hp1022 p1022 => ?_)
  obtain ⟨rfl, fp1022, Zp1022⟩ := p1022
  rw [hn72] at Zp1022
  have Gp1022 : aFr (fun r => 72 ≤ r ∧ r ≤ 75) h hp1022 := aFr_m fp1022 (fun r y => by show 72 ≤ r ∧ r ≤ 75; omega)
  refine tw_aload rfl rfl ?_
  refine tw_getS rfl (hs_63_10 Gp1022.1) ?_
  refine tw_push rfl ?_
  refine tw_stat2 rfl (f_fillI hG Gp1022.1 (by rw [Gp1022.2.2.2.2.1, hn73]; decide)) (fun wp1023 hp1023 p1023 => ?_)
  obtain ⟨rfl, fp1023, Zp1023⟩ := p1023
  rw [Gp1022.2.2.2.2.1, hn73] at Zp1023
  have Gp1023 : aFr (fun r => 72 ≤ r ∧ r ≤ 75) h hp1023 := aFr_t Gp1022 (aFr_m fp1023 (fun r y => by show 72 ≤ r ∧ r ≤ 75; omega))
  refine tw_aload rfl rfl ?_
  refine tw_getS rfl (hs_63_11 Gp1023.1) ?_
  refine tw_push rfl ?_
  refine tw_stat2 rfl (f_fillI hG Gp1023.1 (by rw [Gp1023.2.2.2.2.1, hn74]; decide)) (fun wp1024 hp1024 p1024 => ?_)
  obtain ⟨rfl, fp1024, Zp1024⟩ := p1024
  rw [Gp1023.2.2.2.2.1, hn74] at Zp1024
  have Gp1024 : aFr (fun r => 72 ≤ r ∧ r ≤ 75) h hp1024 := aFr_t Gp1023 (aFr_m fp1024 (fun r y => by show 72 ≤ r ∧ r ≤ 75; omega))
  refine tw_aload rfl rfl ?_
  refine tw_getS rfl (hs_63_12 Gp1024.1) ?_
  refine tw_push rfl ?_
  refine tw_stat2 rfl (f_fillI hG Gp1024.1 (by rw [Gp1024.2.2.2.2.1, hn75]; decide)) (fun wp1025 hp1025 p1025 => ?_)
  obtain ⟨rfl, fp1025, Zp1025⟩ := p1025
  rw [Gp1024.2.2.2.2.1, hn75] at Zp1025
  have Gp1025 : aFr (fun r => 72 ≤ r ∧ r ≤ 75) h hp1025 := aFr_t Gp1024 (aFr_m fp1025 (fun r y => by show 72 ≤ r ∧ r ≤ 75; omega))
  refine tw_push rfl ?_
  refine tw_istore rfl ?_
  refine tG_loop (zW_mono zTt G dp) (zW_conj zTt G dp) (V := fun pc L st h9 _ _ => pc = 34 ∧ st = [] ∧ ∃ (h1 : zH) (n : Nat) (z : Int32) (l4 l5 l6 l7 : Option Value), h1 = h9 ∧ aFr (fun r => 72 ≤ r ∧ r ≤ 75) h h1 ∧ z.toInt = (n : Int) ∧ (n : Int) ≤ (tvI (tF h 63 8)).toInt ∧ (∀ t, t < 9 → (tA h1 72 t).toInt = cN (sOC (tA h 67) (tA h 65) k m) (sIx (tA h 68) (tA h 69)) n t) ∧ (∀ t, t < 9 → (tA h1 73 t).toInt = cN (sOF (tA h 67) (tA h 65) (tA h 71) k m) (sIx (tA h 68) (tA h 69)) n t) ∧ (∀ t, t < 9 → (tA h1 74 t).toInt = cN (sTC (tA h 67) (tA h 65) k m) (sIx (tA h 68) (tA h 69)) n t) ∧ (∀ t, t < 9 → (tA h1 75 t).toInt = cN (sTF (tA h 67) (tA h 65) (tA h 71) k m) (sIx (tA h 68) (tA h 69)) n t) ∧ L = [some (.ref 63), some (.int k), some (.int m), some (.int z), l4, l5, l6, l7]) ?_ (⟨rfl, rfl, _, 0, 0, none, none, none, none, rfl, Gp1025, rfl, h63.1, fun t ht => by rw [show tA hp1025 72 t = 0 from ((congrFun (fp1025.2.2.2.2.2 72 (by decide)) t).trans ((congrFun (fp1024.2.2.2.2.2 72 (by decide)) t).trans ((congrFun (fp1023.2.2.2.2.2 72 (by decide)) t).trans (Zp1022 t ht))))]; rfl, fun t ht => by rw [show tA hp1025 73 t = 0 from ((congrFun (fp1025.2.2.2.2.2 73 (by decide)) t).trans ((congrFun (fp1024.2.2.2.2.2 73 (by decide)) t).trans (Zp1023 t ht)))]; rfl, fun t ht => by rw [show tA hp1025 74 t = 0 from ((congrFun (fp1025.2.2.2.2.2 74 (by decide)) t).trans (Zp1024 t ht))]; rfl, fun t ht => by rw [show tA hp1025 75 t = 0 from (Zp1025 t ht)]; rfl, rfl⟩)
  rintro _ _ _ _ _ _ ⟨rfl, rfl, h1, n, z, l4, l5, l6, l7, rfl, hF, hz, hnn, hall72, hall73, hall74, hall75, rfl⟩
  have e63 : (tvI (tF h1 63 8)).toInt = (tvI (tF h 63 8)).toInt := by rw [hF.2.1]
  refine tw_iload rfl rfl ?_
  refine tw_aload rfl rfl ?_
  refine tw_getS rfl (hi_63_8 hF.1) ?_
  refine tw_ic_ge rfl (fun q1026 => ?_) (fun q1026 => ?_)
  · try dsimp only [tvI_i, tvJ_j, tvR_r] at q1026
    have nN : n = (tvI (tF h 63 8)).toNatClampNeg := by rw [zclE]; omega
    rw [nN] at hall72 hall73 hall74 hall75
    exact tw_vret rfl ⟨rfl, hF, hall72, hall73, hall74, hall75⟩
  · try dsimp only [tvI_i, tvJ_j, tvR_r] at q1026
    have zn := zof_cl hz
    have hz1 : (z + 1).toInt = ((n + 1 : Nat) : Int) := zincN hz (by omega)
    have e65 : tA h1 65 = tA h 65 := hF.2.2.2.2.2 65 (fun y => by have y : 72 ≤ 65 ∧ 65 ≤ 75 := y; omega)
    have e67 : tA h1 67 = tA h 67 := hF.2.2.2.2.2 67 (fun y => by have y : 72 ≤ 67 ∧ 67 ≤ 75 := y; omega)
    have e68 : tA h1 68 = tA h 68 := hF.2.2.2.2.2 68 (fun y => by have y : 72 ≤ 68 ∧ 68 ≤ 75 := y; omega)
    have e69 : tA h1 69 = tA h 69 := hF.2.2.2.2.2 69 (fun y => by have y : 72 ≤ 69 ∧ 69 ≤ 75 := y; omega)
    have e71 : tA h1 71 = tA h 71 := hF.2.2.2.2.2 71 (fun y => by have y : 72 ≤ 71 ∧ 71 ≤ 75 := y; omega)
    refine tw_aload rfl rfl ?_
    refine tw_getS rfl (hs_63_3 hF.1) ?_
    refine tw_iload rfl rfl ?_
    refine tw_iald rfl (fun f1027 => ?_)
    refine tw_iload rfl rfl ?_
    refine tw_ic_gt rfl (fun q1028 => ?_) (fun q1028 => ?_)
    · try dsimp only [tvI_i, tvJ_j, tvR_r] at q1028
      refine tw_iinc rfl rfl ?_
      refine tw_goto rfl ?_
      rw [zn, e67] at q1028
      refine tG_cut (zW_mono zTt G dp) (Or.inr ⟨rfl, rfl, h1, n + 1, z + 1, _, _, _, _, rfl, hF, hz1, by omega, fun t ht => ?_, fun t ht => ?_, fun t ht => ?_, fun t ht => ?_, rfl⟩)
      · rw [hall72 t ht, cN_n (fun _ => if_neg (fun y => absurd y.1 (by omega)))]
      · rw [hall73 t ht, cN_n (fun _ => if_neg (fun y => absurd y.1 (by omega)))]
      · rw [hall74 t ht, cN_n (fun _ => if_neg (fun y => absurd y.1 (by omega)))]
      · rw [hall75 t ht, cN_n (fun _ => if_neg (fun y => absurd y.1 (by omega)))]
    · try dsimp only [tvI_i, tvJ_j, tvR_r] at q1028
      refine tw_aload rfl rfl ?_
      refine tw_getS rfl (hs_63_1 hF.1) ?_
      refine tw_iload rfl rfl ?_
      refine tw_iald rfl (fun f1029 => ?_)
      refine tw_iload rfl rfl ?_
      refine tw_ic_ne rfl (fun q1030 => ?_) (fun q1030 => ?_)
      · try dsimp only [tvI_i, tvJ_j, tvR_r] at q1030
        have q1030i := zneq rfl q1030
        refine tw_push rfl ?_
        refine tw_istore rfl ?_
        have b68 := h68 n (by omega)
        have b69 := h69 n (by omega)
        have s5 := sIb_b (tA h 69 n).toInt
        have hix : (tA h1 68 z.toNatClampNeg * 3 + (if (2 : Int32) < tA h1 69 z.toNatClampNeg / 50 then 2 else tA h1 69 z.toNatClampNeg / 50)).toInt = (sIx (tA h 68) (tA h 69)) n := by
          rw [zn, e68, e69]
          rw [zadI (by rw [(zmu3 b68).1, z50 b69]; omega), (zmu3 b68).1, z50 b69]
          rfl
        have hi0 : 0 ≤ (sIx (tA h 68) (tA h 69)) n ∧ (sIx (tA h 68) (tA h 69)) n ≤ 8 := by unfold sIx; omega
        refine tw_aload rfl rfl ?_
        refine tw_getS rfl (hs_63_4 hF.1) ?_
        refine tw_iload rfl rfl ?_
        refine tw_iald rfl (fun f1031 => ?_)
        refine tw_push rfl ?_
        refine tw_imul rfl ?_
        refine tw_aload rfl rfl ?_
        refine tw_getS rfl (hs_63_5 hF.1) ?_
        refine tw_iload rfl rfl ?_
        refine tw_iald rfl (fun f1032 => ?_)
        refine tw_push rfl ?_
        refine tw_idiv rfl (fun _ => ?_)
        refine tw_push rfl ?_
        refine tw_imin rfl ?_
        refine tw_iadd rfl ?_
        refine tw_istore rfl ?_
        refine tw_iload rfl rfl ?_
        refine tw_if_eq rfl (fun _ => ?_) (fun z => absurd z (by decide))
        refine tw_aload rfl rfl ?_
        refine tw_getS rfl (hs_63_11 hF.1) ?_
        refine tw_astore rfl ?_
        refine tw_iload rfl rfl ?_
        refine tw_if_eq rfl (fun _ => ?_) (fun z => absurd z (by decide))
        refine tw_aload rfl rfl ?_
        refine tw_getS rfl (hs_63_12 hF.1) ?_
        refine tw_astore rfl ?_
        refine tw_aload rfl rfl ?_
        refine tw_iload rfl rfl ?_
        refine tw_dup2 rfl ?_
        refine tw_iald rfl (fun f1033 => ?_)
        refine tw_push rfl ?_
        refine tw_iadd rfl ?_
        refine tw_iast rfl (fun f1034 => ?_)
        refine tG_lsi f1034 hF.1 (fun h3 a3 => ?_)
        try dsimp only [tvI_i, tvJ_j, tvR_r] at a3
        have hF3 := aFr_s hF a3 (show 72 ≤ 74 ∧ 74 ≤ 75 by decide)
        refine tw_aload rfl rfl ?_
        refine tw_iload rfl rfl ?_
        refine tw_dup2 rfl ?_
        refine tw_iald rfl (fun f1035 => ?_)
        refine tw_aload rfl rfl ?_
        refine tw_getS rfl (hs_63_7 hF3.1) ?_
        refine tw_iload rfl rfl ?_
        refine tw_bald rfl (fun f1036 => ?_)
        refine tw_if_eq rfl (fun q1037 => ?_) (fun q1037 => ?_)
        · try dsimp only [tvI_i, tvJ_j, tvR_r] at q1037
          have q1037i := zeqi (Y := 0) (by decide) q1037
          refine tw_push rfl ?_
          refine tw_iadd rfl ?_
          refine tw_iast rfl (fun f1038 => ?_)
          refine tG_lsi f1038 hF3.1 (fun h4 a4 => ?_)
          try dsimp only [tvI_i, tvJ_j, tvR_r] at a4
          have hF4 := aFr_s hF3 a4 (show 72 ≤ 75 ∧ 75 ≤ 75 by decide)
          refine tw_iinc rfl rfl ?_
          refine tw_goto rfl ?_
          rw [zn, e67] at q1028
          rw [zn, e65] at q1030
          have le9 : (tA h 67 n).toInt ≤ m.toInt := by omega
          have x71 : tA h3 71 = tA h 71 := hF3.2.2.2.2.2 71 (fun y => by have y : 72 ≤ 71 ∧ 71 ≤ 75 := y; omega)
          rw [zn, x71] at q1037
          have hxn := zof_cl (x := tA h1 68 z.toNatClampNeg * 3 + (if (2 : Int32) < tA h1 69 z.toNatClampNeg / 50 then 2 else tA h1 69 z.toNatClampNeg / 50)) (n := ((sIx (tA h 68) (tA h 69)) n).toNat) (by rw [hix]; omega)
          have a3 : mIs 74 ((sIx (tA h 68) (tA h 69)) n).toNat (tA h1 74 ((sIx (tA h 68) (tA h 69)) n).toNat + 1) h1 h3 := by rw [← hxn]; exact a3
          have a4 : mIs 75 ((sIx (tA h 68) (tA h 69)) n).toNat (tA h3 75 ((sIx (tA h 68) (tA h 69)) n).toNat + 0) h3 h4 := by rw [← hxn]; exact a4
          have tix : (sIx (tA h 68) (tA h 69)) n = ((((sIx (tA h 68) (tA h 69)) n).toNat : Nat) : Int) := by omega
          have wA : (sTC (tA h 67) (tA h 65) k m) n = 1 := if_pos ⟨le9, q1030⟩
          have wB : (sTF (tA h 67) (tA h 65) (tA h 71) k m) n = 0 := if_neg (fun y => y.2.2 q1037)
          have bA := cN_b (w := sTC (tA h 67) (tA h 65) k m) (B := 1) (tl := (sIx (tA h 68) (tA h 69))) (n := n) (fun i _ => s01) (by decide) ((sIx (tA h 68) (tA h 69)) n).toNat
          have bB := cN_b (w := sTF (tA h 67) (tA h 65) (tA h 71) k m) (B := 1) (tl := (sIx (tA h 68) (tA h 69))) (n := n) (fun i _ => s01) (by decide) ((sIx (tA h 68) (tA h 69)) n).toNat
          refine tG_cut (zW_mono zTt G dp) (Or.inr ⟨rfl, rfl, h4, n + 1, z + 1, _, _, _, _, rfl, hF4, hz1, by omega, fun t ht => ?_, fun t ht => ?_, fun t ht => ?_, fun t ht => ?_, rfl⟩)
          · rw [mIs_o a4 (Or.inl (by decide)), mIs_o a3 (Or.inl (by decide)), hall72 t ht, cN_n (fun _ => if_neg (fun y => q1030 y.2))]
          · rw [mIs_o a4 (Or.inl (by decide)), mIs_o a3 (Or.inl (by decide)), hall73 t ht, cN_n (fun _ => if_neg (fun y => q1030 y.2.1))]
          · rw [mIs_o a4 (Or.inl (by decide))]
            by_cases y : t = ((sIx (tA h 68) (tA h 69)) n).toNat
            · rw [y, mIs_x a3, cN_y tix, wA]
              exact zadU (hall74 _ (by omega)) rfl (by omega)
            · rw [mIs_o a3 (Or.inr y), hall74 t ht, cN_n (fun y2 => absurd (by omega) y)]
          · by_cases y : t = ((sIx (tA h 68) (tA h 69)) n).toNat
            · rw [y, mIs_x a4, cN_y tix, wB]
              exact zadU ((congrArg Int32.toInt (mIs_o a3 (Or.inl (by decide)))).trans (hall75 _ (by omega))) rfl (by omega)
            · rw [mIs_o a4 (Or.inr y), mIs_o a3 (Or.inl (by decide)), hall75 t ht, cN_n (fun y2 => absurd (by omega) y)]
        · try dsimp only [tvI_i, tvJ_j, tvR_r] at q1037
          have q1037i := zneq (Y := 0) (by decide) q1037
          refine tw_push rfl ?_
          refine tw_goto rfl ?_
          refine tw_iadd rfl ?_
          refine tw_iast rfl (fun f1039 => ?_)
          refine tG_lsi f1039 hF3.1 (fun h4 a4 => ?_)
          try dsimp only [tvI_i, tvJ_j, tvR_r] at a4
          have hF4 := aFr_s hF3 a4 (show 72 ≤ 75 ∧ 75 ≤ 75 by decide)
          refine tw_iinc rfl rfl ?_
          refine tw_goto rfl ?_
          rw [zn, e67] at q1028
          rw [zn, e65] at q1030
          have le9 : (tA h 67 n).toInt ≤ m.toInt := by omega
          have x71 : tA h3 71 = tA h 71 := hF3.2.2.2.2.2 71 (fun y => by have y : 72 ≤ 71 ∧ 71 ≤ 75 := y; omega)
          rw [zn, x71] at q1037
          have hxn := zof_cl (x := tA h1 68 z.toNatClampNeg * 3 + (if (2 : Int32) < tA h1 69 z.toNatClampNeg / 50 then 2 else tA h1 69 z.toNatClampNeg / 50)) (n := ((sIx (tA h 68) (tA h 69)) n).toNat) (by rw [hix]; omega)
          have a3 : mIs 74 ((sIx (tA h 68) (tA h 69)) n).toNat (tA h1 74 ((sIx (tA h 68) (tA h 69)) n).toNat + 1) h1 h3 := by rw [← hxn]; exact a3
          have a4 : mIs 75 ((sIx (tA h 68) (tA h 69)) n).toNat (tA h3 75 ((sIx (tA h 68) (tA h 69)) n).toNat + 1) h3 h4 := by rw [← hxn]; exact a4
          have tix : (sIx (tA h 68) (tA h 69)) n = ((((sIx (tA h 68) (tA h 69)) n).toNat : Nat) : Int) := by omega
          have wA : (sTC (tA h 67) (tA h 65) k m) n = 1 := if_pos ⟨le9, q1030⟩
          have wB : (sTF (tA h 67) (tA h 65) (tA h 71) k m) n = 1 := if_pos ⟨le9, q1030, q1037⟩
          have bA := cN_b (w := sTC (tA h 67) (tA h 65) k m) (B := 1) (tl := (sIx (tA h 68) (tA h 69))) (n := n) (fun i _ => s01) (by decide) ((sIx (tA h 68) (tA h 69)) n).toNat
          have bB := cN_b (w := sTF (tA h 67) (tA h 65) (tA h 71) k m) (B := 1) (tl := (sIx (tA h 68) (tA h 69))) (n := n) (fun i _ => s01) (by decide) ((sIx (tA h 68) (tA h 69)) n).toNat
          refine tG_cut (zW_mono zTt G dp) (Or.inr ⟨rfl, rfl, h4, n + 1, z + 1, _, _, _, _, rfl, hF4, hz1, by omega, fun t ht => ?_, fun t ht => ?_, fun t ht => ?_, fun t ht => ?_, rfl⟩)
          · rw [mIs_o a4 (Or.inl (by decide)), mIs_o a3 (Or.inl (by decide)), hall72 t ht, cN_n (fun _ => if_neg (fun y => q1030 y.2))]
          · rw [mIs_o a4 (Or.inl (by decide)), mIs_o a3 (Or.inl (by decide)), hall73 t ht, cN_n (fun _ => if_neg (fun y => q1030 y.2.1))]
          · rw [mIs_o a4 (Or.inl (by decide))]
            by_cases y : t = ((sIx (tA h 68) (tA h 69)) n).toNat
            · rw [y, mIs_x a3, cN_y tix, wA]
              exact zadU (hall74 _ (by omega)) rfl (by omega)
            · rw [mIs_o a3 (Or.inr y), hall74 t ht, cN_n (fun y2 => absurd (by omega) y)]
          · by_cases y : t = ((sIx (tA h 68) (tA h 69)) n).toNat
            · rw [y, mIs_x a4, cN_y tix, wB]
              exact zadU ((congrArg Int32.toInt (mIs_o a3 (Or.inl (by decide)))).trans (hall75 _ (by omega))) rfl (by omega)
            · rw [mIs_o a4 (Or.inr y), mIs_o a3 (Or.inl (by decide)), hall75 t ht, cN_n (fun y2 => absurd (by omega) y)]
      · try dsimp only [tvI_i, tvJ_j, tvR_r] at q1030
        have q1030i := zeqi rfl q1030
        refine tw_push rfl ?_
        refine tw_goto rfl ?_
        refine tw_istore rfl ?_
        have b68 := h68 n (by omega)
        have b69 := h69 n (by omega)
        have s5 := sIb_b (tA h 69 n).toInt
        have hix : (tA h1 68 z.toNatClampNeg * 3 + (if (2 : Int32) < tA h1 69 z.toNatClampNeg / 50 then 2 else tA h1 69 z.toNatClampNeg / 50)).toInt = (sIx (tA h 68) (tA h 69)) n := by
          rw [zn, e68, e69]
          rw [zadI (by rw [(zmu3 b68).1, z50 b69]; omega), (zmu3 b68).1, z50 b69]
          rfl
        have hi0 : 0 ≤ (sIx (tA h 68) (tA h 69)) n ∧ (sIx (tA h 68) (tA h 69)) n ≤ 8 := by unfold sIx; omega
        refine tw_aload rfl rfl ?_
        refine tw_getS rfl (hs_63_4 hF.1) ?_
        refine tw_iload rfl rfl ?_
        refine tw_iald rfl (fun f1040 => ?_)
        refine tw_push rfl ?_
        refine tw_imul rfl ?_
        refine tw_aload rfl rfl ?_
        refine tw_getS rfl (hs_63_5 hF.1) ?_
        refine tw_iload rfl rfl ?_
        refine tw_iald rfl (fun f1041 => ?_)
        refine tw_push rfl ?_
        refine tw_idiv rfl (fun _ => ?_)
        refine tw_push rfl ?_
        refine tw_imin rfl ?_
        refine tw_iadd rfl ?_
        refine tw_istore rfl ?_
        refine tw_iload rfl rfl ?_
        refine tw_if_eq rfl (fun z => absurd z (by decide)) (fun _ => ?_)
        refine tw_aload rfl rfl ?_
        refine tw_getS rfl (hs_63_9 hF.1) ?_
        refine tw_goto rfl ?_
        refine tw_astore rfl ?_
        refine tw_iload rfl rfl ?_
        refine tw_if_eq rfl (fun z => absurd z (by decide)) (fun _ => ?_)
        refine tw_aload rfl rfl ?_
        refine tw_getS rfl (hs_63_10 hF.1) ?_
        refine tw_goto rfl ?_
        refine tw_astore rfl ?_
        refine tw_aload rfl rfl ?_
        refine tw_iload rfl rfl ?_
        refine tw_dup2 rfl ?_
        refine tw_iald rfl (fun f1042 => ?_)
        refine tw_push rfl ?_
        refine tw_iadd rfl ?_
        refine tw_iast rfl (fun f1043 => ?_)
        refine tG_lsi f1043 hF.1 (fun h3 a3 => ?_)
        try dsimp only [tvI_i, tvJ_j, tvR_r] at a3
        have hF3 := aFr_s hF a3 (show 72 ≤ 72 ∧ 72 ≤ 75 by decide)
        refine tw_aload rfl rfl ?_
        refine tw_iload rfl rfl ?_
        refine tw_dup2 rfl ?_
        refine tw_iald rfl (fun f1044 => ?_)
        refine tw_aload rfl rfl ?_
        refine tw_getS rfl (hs_63_7 hF3.1) ?_
        refine tw_iload rfl rfl ?_
        refine tw_bald rfl (fun f1045 => ?_)
        refine tw_if_eq rfl (fun q1046 => ?_) (fun q1046 => ?_)
        · try dsimp only [tvI_i, tvJ_j, tvR_r] at q1046
          have q1046i := zeqi (Y := 0) (by decide) q1046
          refine tw_push rfl ?_
          refine tw_iadd rfl ?_
          refine tw_iast rfl (fun f1047 => ?_)
          refine tG_lsi f1047 hF3.1 (fun h4 a4 => ?_)
          try dsimp only [tvI_i, tvJ_j, tvR_r] at a4
          have hF4 := aFr_s hF3 a4 (show 72 ≤ 73 ∧ 73 ≤ 75 by decide)
          refine tw_iinc rfl rfl ?_
          refine tw_goto rfl ?_
          rw [zn, e67] at q1028
          rw [zn, e65] at q1030
          have le9 : (tA h 67 n).toInt ≤ m.toInt := by omega
          have x71 : tA h3 71 = tA h 71 := hF3.2.2.2.2.2 71 (fun y => by have y : 72 ≤ 71 ∧ 71 ≤ 75 := y; omega)
          rw [zn, x71] at q1046
          have hxn := zof_cl (x := tA h1 68 z.toNatClampNeg * 3 + (if (2 : Int32) < tA h1 69 z.toNatClampNeg / 50 then 2 else tA h1 69 z.toNatClampNeg / 50)) (n := ((sIx (tA h 68) (tA h 69)) n).toNat) (by rw [hix]; omega)
          have a3 : mIs 72 ((sIx (tA h 68) (tA h 69)) n).toNat (tA h1 72 ((sIx (tA h 68) (tA h 69)) n).toNat + 1) h1 h3 := by rw [← hxn]; exact a3
          have a4 : mIs 73 ((sIx (tA h 68) (tA h 69)) n).toNat (tA h3 73 ((sIx (tA h 68) (tA h 69)) n).toNat + 0) h3 h4 := by rw [← hxn]; exact a4
          have tix : (sIx (tA h 68) (tA h 69)) n = ((((sIx (tA h 68) (tA h 69)) n).toNat : Nat) : Int) := by omega
          have wA : (sOC (tA h 67) (tA h 65) k m) n = 1 := if_pos ⟨le9, q1030⟩
          have wB : (sOF (tA h 67) (tA h 65) (tA h 71) k m) n = 0 := if_neg (fun y => y.2.2 q1046)
          have bA := cN_b (w := sOC (tA h 67) (tA h 65) k m) (B := 1) (tl := (sIx (tA h 68) (tA h 69))) (n := n) (fun i _ => s01) (by decide) ((sIx (tA h 68) (tA h 69)) n).toNat
          have bB := cN_b (w := sOF (tA h 67) (tA h 65) (tA h 71) k m) (B := 1) (tl := (sIx (tA h 68) (tA h 69))) (n := n) (fun i _ => s01) (by decide) ((sIx (tA h 68) (tA h 69)) n).toNat
          refine tG_cut (zW_mono zTt G dp) (Or.inr ⟨rfl, rfl, h4, n + 1, z + 1, _, _, _, _, rfl, hF4, hz1, by omega, fun t ht => ?_, fun t ht => ?_, fun t ht => ?_, fun t ht => ?_, rfl⟩)
          · rw [mIs_o a4 (Or.inl (by decide))]
            by_cases y : t = ((sIx (tA h 68) (tA h 69)) n).toNat
            · rw [y, mIs_x a3, cN_y tix, wA]
              exact zadU (hall72 _ (by omega)) rfl (by omega)
            · rw [mIs_o a3 (Or.inr y), hall72 t ht, cN_n (fun y2 => absurd (by omega) y)]
          · by_cases y : t = ((sIx (tA h 68) (tA h 69)) n).toNat
            · rw [y, mIs_x a4, cN_y tix, wB]
              exact zadU ((congrArg Int32.toInt (mIs_o a3 (Or.inl (by decide)))).trans (hall73 _ (by omega))) rfl (by omega)
            · rw [mIs_o a4 (Or.inr y), mIs_o a3 (Or.inl (by decide)), hall73 t ht, cN_n (fun y2 => absurd (by omega) y)]
          · rw [mIs_o a4 (Or.inl (by decide)), mIs_o a3 (Or.inl (by decide)), hall74 t ht, cN_n (fun _ => if_neg (fun y => y.2 q1030))]
          · rw [mIs_o a4 (Or.inl (by decide)), mIs_o a3 (Or.inl (by decide)), hall75 t ht, cN_n (fun _ => if_neg (fun y => y.2.1 q1030))]
        · try dsimp only [tvI_i, tvJ_j, tvR_r] at q1046
          have q1046i := zneq (Y := 0) (by decide) q1046
          refine tw_push rfl ?_
          refine tw_goto rfl ?_
          refine tw_iadd rfl ?_
          refine tw_iast rfl (fun f1048 => ?_)
          refine tG_lsi f1048 hF3.1 (fun h4 a4 => ?_)
          try dsimp only [tvI_i, tvJ_j, tvR_r] at a4
          have hF4 := aFr_s hF3 a4 (show 72 ≤ 73 ∧ 73 ≤ 75 by decide)
          refine tw_iinc rfl rfl ?_
          refine tw_goto rfl ?_
          rw [zn, e67] at q1028
          rw [zn, e65] at q1030
          have le9 : (tA h 67 n).toInt ≤ m.toInt := by omega
          have x71 : tA h3 71 = tA h 71 := hF3.2.2.2.2.2 71 (fun y => by have y : 72 ≤ 71 ∧ 71 ≤ 75 := y; omega)
          rw [zn, x71] at q1046
          have hxn := zof_cl (x := tA h1 68 z.toNatClampNeg * 3 + (if (2 : Int32) < tA h1 69 z.toNatClampNeg / 50 then 2 else tA h1 69 z.toNatClampNeg / 50)) (n := ((sIx (tA h 68) (tA h 69)) n).toNat) (by rw [hix]; omega)
          have a3 : mIs 72 ((sIx (tA h 68) (tA h 69)) n).toNat (tA h1 72 ((sIx (tA h 68) (tA h 69)) n).toNat + 1) h1 h3 := by rw [← hxn]; exact a3
          have a4 : mIs 73 ((sIx (tA h 68) (tA h 69)) n).toNat (tA h3 73 ((sIx (tA h 68) (tA h 69)) n).toNat + 1) h3 h4 := by rw [← hxn]; exact a4
          have tix : (sIx (tA h 68) (tA h 69)) n = ((((sIx (tA h 68) (tA h 69)) n).toNat : Nat) : Int) := by omega
          have wA : (sOC (tA h 67) (tA h 65) k m) n = 1 := if_pos ⟨le9, q1030⟩
          have wB : (sOF (tA h 67) (tA h 65) (tA h 71) k m) n = 1 := if_pos ⟨le9, q1030, q1046⟩
          have bA := cN_b (w := sOC (tA h 67) (tA h 65) k m) (B := 1) (tl := (sIx (tA h 68) (tA h 69))) (n := n) (fun i _ => s01) (by decide) ((sIx (tA h 68) (tA h 69)) n).toNat
          have bB := cN_b (w := sOF (tA h 67) (tA h 65) (tA h 71) k m) (B := 1) (tl := (sIx (tA h 68) (tA h 69))) (n := n) (fun i _ => s01) (by decide) ((sIx (tA h 68) (tA h 69)) n).toNat
          refine tG_cut (zW_mono zTt G dp) (Or.inr ⟨rfl, rfl, h4, n + 1, z + 1, _, _, _, _, rfl, hF4, hz1, by omega, fun t ht => ?_, fun t ht => ?_, fun t ht => ?_, fun t ht => ?_, rfl⟩)
          · rw [mIs_o a4 (Or.inl (by decide))]
            by_cases y : t = ((sIx (tA h 68) (tA h 69)) n).toNat
            · rw [y, mIs_x a3, cN_y tix, wA]
              exact zadU (hall72 _ (by omega)) rfl (by omega)
            · rw [mIs_o a3 (Or.inr y), hall72 t ht, cN_n (fun y2 => absurd (by omega) y)]
          · by_cases y : t = ((sIx (tA h 68) (tA h 69)) n).toNat
            · rw [y, mIs_x a4, cN_y tix, wB]
              exact zadU ((congrArg Int32.toInt (mIs_o a3 (Or.inl (by decide)))).trans (hall73 _ (by omega))) rfl (by omega)
            · rw [mIs_o a4 (Or.inr y), mIs_o a3 (Or.inl (by decide)), hall73 t ht, cN_n (fun y2 => absurd (by omega) y)]
          · rw [mIs_o a4 (Or.inl (by decide)), mIs_o a3 (Or.inl (by decide)), hall74 t ht, cN_n (fun _ => if_neg (fun y => y.2 q1030))]
          · rw [mIs_o a4 (Or.inl (by decide)), mIs_o a3 (Or.inl (by decide)), hall75 t ht, cN_n (fun _ => if_neg (fun y => y.2.1 q1030))]
theorem sm_l {f g : Nat → Nat} (h : ∀ i, f i ≤ g i) (t : Nat) : sm f t ≤ sm g t := by
  induction t with
  | zero => exact Nat.le_refl _
  | succ t ih =>
    have y := h t
    show sm f t + f t ≤ sm g t + g t
    omega
theorem f_beside {G : zG} (hG : G.1 = zProg) {h : zH} {k m p : Int32} (hs : tSh h) (hn72 : tN h 72 = 9) (hn73 : tN h 73 = 9) (hn74 : tN h 74 = 9) (hn75 : tN h 75 = 9) (h68 : ∀ i, i < 200 → 0 ≤ (tA h 68 i).toInt ∧ (tA h 68 i).toInt ≤ 2) (h69 : ∀ i, i < 200 → 0 ≤ (tA h 69 i).toInt ∧ (tA h 69 i).toInt ≤ 200) (h63 : 0 ≤ (tvI (tF h 63 8)).toInt ∧ (tvI (tF h 63 8)).toInt ≤ 200) (hp0 : 0 ≤ p.toInt ∧ p.toInt ≤ 3) : tC zTt G 11 [.ref 63, .int k, .int m, .int p] h (fun w h2 => aFr (fun r => 72 ≤ r ∧ r ≤ 75) h h2 ∧ ∃ x : Int64, w = some (.long x) ∧ x.toInt = ((pick (sSt (cNn (sOC (tA h 67) (tA h 65) k m) (sIx (tA h 68) (tA h 69)) (tvI (tF h 63 8)).toNatClampNeg) (cNn (sOF (tA h 67) (tA h 65) (tA h 71) k m) (sIx (tA h 68) (tA h 69)) (tvI (tF h 63 8)).toNatClampNeg) (cNn (sTC (tA h 67) (tA h 65) k m) (sIx (tA h 68) (tA h 69)) (tvI (tF h 63 8)).toNatClampNeg) (cNn (sTF (tA h 67) (tA h 65) (tA h 71) k m) (sIx (tA h 68) (tA h 69)) (tvI (tF h 63 8)).toNatClampNeg) 9) p : Nat) : Int)) := by
  refine tC_in (by rw [hG]; rfl) (fun dp => ?_)
  have k9 : (9 : Int32).toInt = 9 := rfl
  have k0 : (0 : Int64).toInt = 0 := by decide
  refine tw_aload rfl rfl ?_
  refine tw_iload rfl rfl ?_
  refine tw_iload rfl rfl ?_
  refine tw_virt2 rfl (f_strata hG hs hn72 hn73 hn74 hn75 h68 h69 h63) (fun wp1049 hp1049 p1049 => ?_)
  obtain ⟨rfl, FS, c72, c73, c74, c75⟩ := p1049
  have n72 : ∀ t, t < 9 → (tA hp1049 72 t).toInt = (((cNn (sOC (tA h 67) (tA h 65) k m) (sIx (tA h 68) (tA h 69)) (tvI (tF h 63 8)).toNatClampNeg) t : Nat) : Int) := fun t ht => (c72 t ht).trans (cNn_i (fun i _ => s01)).symm
  have n73 : ∀ t, t < 9 → (tA hp1049 73 t).toInt = (((cNn (sOF (tA h 67) (tA h 65) (tA h 71) k m) (sIx (tA h 68) (tA h 69)) (tvI (tF h 63 8)).toNatClampNeg) t : Nat) : Int) := fun t ht => (c73 t ht).trans (cNn_i (fun i _ => s01)).symm
  have n74 : ∀ t, t < 9 → (tA hp1049 74 t).toInt = (((cNn (sTC (tA h 67) (tA h 65) k m) (sIx (tA h 68) (tA h 69)) (tvI (tF h 63 8)).toNatClampNeg) t : Nat) : Int) := fun t ht => (c74 t ht).trans (cNn_i (fun i _ => s01)).symm
  have n75 : ∀ t, t < 9 → (tA hp1049 75 t).toInt = (((cNn (sTF (tA h 67) (tA h 65) (tA h 71) k m) (sIx (tA h 68) (tA h 69)) (tvI (tF h 63 8)).toNatClampNeg) t : Nat) : Int) := fun t ht => (c75 t ht).trans (cNn_i (fun i _ => s01)).symm
  have hix : ∀ i, i < (tvI (tF h 63 8)).toNatClampNeg → 0 ≤ (sIx (tA h 68) (tA h 69)) i := fun i hi => by have b68 := h68 i (by rw [zclE] at hi; omega); have s5 := sIb_b (tA h 69 i).toInt; unfold sIx; omega
  have hn200 : (tvI (tF h 63 8)).toNatClampNeg ≤ 200 := by rw [zclE]; omega
  have hT : sm (cNn (sTC (tA h 67) (tA h 65) k m) (sIx (tA h 68) (tA h 69)) (tvI (tF h 63 8)).toNatClampNeg) 9 ≤ 200 := cNn_s (fun i _ => s01) hix hn200
  have hO : sm (cNn (sOC (tA h 67) (tA h 65) k m) (sIx (tA h 68) (tA h 69)) (tvI (tF h 63 8)).toNatClampNeg) 9 ≤ 200 := cNn_s (fun i _ => s01) hix hn200
  have hF : ∀ i, i < 9 → (cNn (sTF (tA h 67) (tA h 65) (tA h 71) k m) (sIx (tA h 68) (tA h 69)) (tvI (tF h 63 8)).toNatClampNeg) i ≤ (cNn (sTC (tA h 67) (tA h 65) k m) (sIx (tA h 68) (tA h 69)) (tvI (tF h 63 8)).toNatClampNeg) i := fun i _ => cNn_l (fun j _ => sTF_le)
  refine tw_push rfl ?_
  refine tw_lstore rfl ?_
  refine tw_push rfl ?_
  refine tw_lstore rfl ?_
  refine tw_push rfl ?_
  refine tw_lstore rfl ?_
  refine tw_push rfl ?_
  refine tw_lstore rfl ?_
  refine tw_push rfl ?_
  refine tw_istore rfl ?_
  refine tG_loop (zW_mono zTt G dp) (zW_conj zTt G dp) (V := fun pc L st h9 _ _ => pc = 21 ∧ st = [] ∧ hp1049 = h9 ∧ ∃ (t : Nat) (z : Int32) (a b s o : Int64) (v13 v14 v15 v16 : Option Value), z.toInt = (t : Int) ∧ t ≤ 9 ∧ a.toInt = ((sSt (cNn (sOC (tA h 67) (tA h 65) k m) (sIx (tA h 68) (tA h 69)) (tvI (tF h 63 8)).toNatClampNeg) (cNn (sOF (tA h 67) (tA h 65) (tA h 71) k m) (sIx (tA h 68) (tA h 69)) (tvI (tF h 63 8)).toNatClampNeg) (cNn (sTC (tA h 67) (tA h 65) k m) (sIx (tA h 68) (tA h 69)) (tvI (tF h 63 8)).toNatClampNeg) (cNn (sTF (tA h 67) (tA h 65) (tA h 71) k m) (sIx (tA h 68) (tA h 69)) (tvI (tF h 63 8)).toNatClampNeg) t).1 : Int) ∧ b.toInt = ((sSt (cNn (sOC (tA h 67) (tA h 65) k m) (sIx (tA h 68) (tA h 69)) (tvI (tF h 63 8)).toNatClampNeg) (cNn (sOF (tA h 67) (tA h 65) (tA h 71) k m) (sIx (tA h 68) (tA h 69)) (tvI (tF h 63 8)).toNatClampNeg) (cNn (sTC (tA h 67) (tA h 65) k m) (sIx (tA h 68) (tA h 69)) (tvI (tF h 63 8)).toNatClampNeg) (cNn (sTF (tA h 67) (tA h 65) (tA h 71) k m) (sIx (tA h 68) (tA h 69)) (tvI (tF h 63 8)).toNatClampNeg) t).2.1 : Int) ∧ s.toInt = ((sSt (cNn (sOC (tA h 67) (tA h 65) k m) (sIx (tA h 68) (tA h 69)) (tvI (tF h 63 8)).toNatClampNeg) (cNn (sOF (tA h 67) (tA h 65) (tA h 71) k m) (sIx (tA h 68) (tA h 69)) (tvI (tF h 63 8)).toNatClampNeg) (cNn (sTC (tA h 67) (tA h 65) k m) (sIx (tA h 68) (tA h 69)) (tvI (tF h 63 8)).toNatClampNeg) (cNn (sTF (tA h 67) (tA h 65) (tA h 71) k m) (sIx (tA h 68) (tA h 69)) (tvI (tF h 63 8)).toNatClampNeg) t).2.2.1 : Int) ∧ o.toInt = ((sSt (cNn (sOC (tA h 67) (tA h 65) k m) (sIx (tA h 68) (tA h 69)) (tvI (tF h 63 8)).toNatClampNeg) (cNn (sOF (tA h 67) (tA h 65) (tA h 71) k m) (sIx (tA h 68) (tA h 69)) (tvI (tF h 63 8)).toNatClampNeg) (cNn (sTC (tA h 67) (tA h 65) k m) (sIx (tA h 68) (tA h 69)) (tvI (tF h 63 8)).toNatClampNeg) (cNn (sTF (tA h 67) (tA h 65) (tA h 71) k m) (sIx (tA h 68) (tA h 69)) (tvI (tF h 63 8)).toNatClampNeg) t).2.2.2 : Int) ∧ L = [some (.ref 63), some (.int k), some (.int m), some (.int p), some (.long a), none, some (.long b), none, some (.long s), none, some (.long o), none, some (.int z), v13, v14, v15, v16]) ?_ (⟨rfl, rfl, rfl, 0, 0, 0, 1, 0, 0, _, _, _, _, rfl, by decide, rfl, rfl, rfl, rfl, rfl⟩)
  rintro _ _ _ _ _ _ ⟨rfl, rfl, rfl, t, z, a, b, s, o, v13, v14, v15, v16, hz, ht, ha, hb, hs9, ho, rfl⟩
  refine tw_iload rfl rfl ?_
  refine tw_push rfl ?_
  refine tw_ic_ge rfl (fun q1050 => ?_) (fun q1050 => ?_)
  · try dsimp only [tvI_i, tvJ_j, tvR_r] at q1050
    refine tw_iload rfl rfl ?_
    refine tw_table rfl (fun q1051 => ?_) (fun t9 q1051a q1051b q1051c => ?_)
    · try dsimp only [tvI_i, tvJ_j, tvR_r] at q1051
      refine tw_lload rfl rfl ?_
      obtain rfl : t = 9 := by omega
      exact tw_lret rfl ⟨FS, o, rfl, ho.trans (congrArg Nat.cast (show pick _ p = _ from (if_neg (by omega)).trans ((if_neg (by omega)).trans (if_neg (by omega)))).symm)⟩
    · have q1051d : (tvI (.int p)).toInt = 0 ∨ (tvI (.int p)).toInt = 1 ∨ (tvI (.int p)).toInt = 2 := by omega
      rcases q1051d with q1051 | q1051 | q1051
      · obtain rfl : t9 = 164 := by rw [q1051] at q1051c; exact Option.some.inj (q1051c.symm.trans rfl)
        try dsimp only [tvI_i, tvJ_j, tvR_r] at q1051
        refine tw_lload rfl rfl ?_
        obtain rfl : t = 9 := by omega
        exact tw_lret rfl ⟨FS, a, rfl, ha.trans (congrArg Nat.cast (show pick _ p = _ from if_pos (by omega)).symm)⟩
      · obtain rfl : t9 = 167 := by rw [q1051] at q1051c; exact Option.some.inj (q1051c.symm.trans rfl)
        try dsimp only [tvI_i, tvJ_j, tvR_r] at q1051
        refine tw_lload rfl rfl ?_
        obtain rfl : t = 9 := by omega
        exact tw_lret rfl ⟨FS, b, rfl, hb.trans (congrArg Nat.cast (show pick _ p = _ from (if_neg (by omega)).trans (if_pos (by omega))).symm)⟩
      · obtain rfl : t9 = 170 := by rw [q1051] at q1051c; exact Option.some.inj (q1051c.symm.trans rfl)
        try dsimp only [tvI_i, tvJ_j, tvR_r] at q1051
        refine tw_lload rfl rfl ?_
        obtain rfl : t = 9 := by omega
        exact tw_lret rfl ⟨FS, s, rfl, hs9.trans (congrArg Nat.cast (show pick _ p = _ from (if_neg (by omega)).trans ((if_neg (by omega)).trans (if_pos (by omega)))).symm)⟩
  · try dsimp only [tvI_i, tvJ_j, tvR_r] at q1050
    have ht9 : t < 9 := by omega
    have zn := zof_cl hz
    have hz1 : (z + 1).toInt = ((t + 1 : Nat) : Int) := zincN hz (by omega)
    have m72 : (tA hp1049 72 z.toNatClampNeg).toInt64.toInt = (((cNn (sOC (tA h 67) (tA h 65) k m) (sIx (tA h 68) (tA h 69)) (tvI (tF h 63 8)).toNatClampNeg) t : Nat) : Int) := (Int32.toInt_toInt64 _).trans (by rw [zn]; exact n72 t ht9)
    have m73 : (tA hp1049 73 z.toNatClampNeg).toInt64.toInt = (((cNn (sOF (tA h 67) (tA h 65) (tA h 71) k m) (sIx (tA h 68) (tA h 69)) (tvI (tF h 63 8)).toNatClampNeg) t : Nat) : Int) := (Int32.toInt_toInt64 _).trans (by rw [zn]; exact n73 t ht9)
    have m74 : (tA hp1049 74 z.toNatClampNeg).toInt64.toInt = (((cNn (sTC (tA h 67) (tA h 65) k m) (sIx (tA h 68) (tA h 69)) (tvI (tF h 63 8)).toNatClampNeg) t : Nat) : Int) := (Int32.toInt_toInt64 _).trans (by rw [zn]; exact n74 t ht9)
    have m75 : (tA hp1049 75 z.toNatClampNeg).toInt64.toInt = (((cNn (sTF (tA h 67) (tA h 65) (tA h 71) k m) (sIx (tA h 68) (tA h 69)) (tvI (tF h 63 8)).toNatClampNeg) t : Nat) : Int) := (Int32.toInt_toInt64 _).trans (by rw [zn]; exact n75 t ht9)
    have hq := sOk_t (oC := (cNn (sOC (tA h 67) (tA h 65) k m) (sIx (tA h 68) (tA h 69)) (tvI (tF h 63 8)).toNatClampNeg)) (oF := (cNn (sOF (tA h 67) (tA h 65) (tA h 71) k m) (sIx (tA h 68) (tA h 69)) (tvI (tF h 63 8)).toNatClampNeg)) hT hF t (by omega)
    obtain ⟨B1, B2, B3, B4⟩ := sOk_b (oC := (cNn (sOC (tA h 67) (tA h 65) k m) (sIx (tA h 68) (tA h 69)) (tvI (tF h 63 8)).toNatClampNeg)) (oF := (cNn (sOF (tA h 67) (tA h 65) (tA h 71) k m) (sIx (tA h 68) (tA h 69)) (tvI (tF h 63 8)).toNatClampNeg)) hT hO hF ht9
    refine tw_aload rfl rfl ?_
    refine tw_getS rfl (hs_63_11 FS.1) ?_
    refine tw_iload rfl rfl ?_
    refine tw_iald rfl (fun f1052 => ?_)
    refine tw_i2l rfl ?_
    refine tw_lstore rfl ?_
    refine tw_lload rfl rfl ?_
    refine tw_push rfl ?_
    refine tw_lc_le rfl rfl (fun q1053 => ?_) (fun q1053 => ?_)
    · try dsimp only [tvI_i, tvJ_j, tvR_r] at q1053
      refine tw_iinc rfl rfl ?_
      refine tw_goto rfl ?_
      have hx0 : (cNn (sTC (tA h 67) (tA h 65) k m) (sIx (tA h 68) (tA h 69)) (tvI (tF h 63 8)).toNatClampNeg) t = 0 := by omega
      have eS := sSt_0 (oC := (cNn (sOC (tA h 67) (tA h 65) k m) (sIx (tA h 68) (tA h 69)) (tvI (tF h 63 8)).toNatClampNeg)) (oF := (cNn (sOF (tA h 67) (tA h 65) (tA h 71) k m) (sIx (tA h 68) (tA h 69)) (tvI (tF h 63 8)).toNatClampNeg)) (tF := (cNn (sTF (tA h 67) (tA h 65) (tA h 71) k m) (sIx (tA h 68) (tA h 69)) (tvI (tF h 63 8)).toNatClampNeg)) hx0
      exact tG_cut (zW_mono zTt G dp) (Or.inr ⟨rfl, rfl, rfl, t + 1, z + 1, a, b, s, o, _, _, _, _, hz1, by omega, by rw [eS]; exact ha, by rw [eS]; exact hb, by rw [eS]; exact hs9, by rw [eS]; exact ho, rfl⟩)
    · try dsimp only [tvI_i, tvJ_j, tvR_r] at q1053
      have hx0 : ¬ (cNn (sTC (tA h 67) (tA h 65) k m) (sIx (tA h 68) (tA h 69)) (tvI (tF h 63 8)).toNatClampNeg) t = 0 := by omega
      have p1 := zLmN ha m74 (by omega)
      have p5 := zLmN hb m74 (by omega)
      have g2 : (cNn (sOC (tA h 67) (tA h 65) k m) (sIx (tA h 68) (tA h 69)) (tvI (tF h 63 8)).toNatClampNeg) t * (cNn (sTF (tA h 67) (tA h 65) (tA h 71) k m) (sIx (tA h 68) (tA h 69)) (tvI (tF h 63 8)).toNatClampNeg) t * (sSt (cNn (sOC (tA h 67) (tA h 65) k m) (sIx (tA h 68) (tA h 69)) (tvI (tF h 63 8)).toNatClampNeg) (cNn (sOF (tA h 67) (tA h 65) (tA h 71) k m) (sIx (tA h 68) (tA h 69)) (tvI (tF h 63 8)).toNatClampNeg) (cNn (sTC (tA h 67) (tA h 65) k m) (sIx (tA h 68) (tA h 69)) (tvI (tF h 63 8)).toNatClampNeg) (cNn (sTF (tA h 67) (tA h 65) (tA h 71) k m) (sIx (tA h 68) (tA h 69)) (tvI (tF h 63 8)).toNatClampNeg) t).2.1 ≤ 200 * 2 ^ 49 := by omega
      have g3 : (cNn (sOC (tA h 67) (tA h 65) k m) (sIx (tA h 68) (tA h 69)) (tvI (tF h 63 8)).toNatClampNeg) t * (cNn (sTF (tA h 67) (tA h 65) (tA h 71) k m) (sIx (tA h 68) (tA h 69)) (tvI (tF h 63 8)).toNatClampNeg) t ≤ (cNn (sOC (tA h 67) (tA h 65) k m) (sIx (tA h 68) (tA h 69)) (tvI (tF h 63 8)).toNatClampNeg) t * (cNn (sTF (tA h 67) (tA h 65) (tA h 71) k m) (sIx (tA h 68) (tA h 69)) (tvI (tF h 63 8)).toNatClampNeg) t * (sSt (cNn (sOC (tA h 67) (tA h 65) k m) (sIx (tA h 68) (tA h 69)) (tvI (tF h 63 8)).toNatClampNeg) (cNn (sOF (tA h 67) (tA h 65) (tA h 71) k m) (sIx (tA h 68) (tA h 69)) (tvI (tF h 63 8)).toNatClampNeg) (cNn (sTC (tA h 67) (tA h 65) k m) (sIx (tA h 68) (tA h 69)) (tvI (tF h 63 8)).toNatClampNeg) (cNn (sTF (tA h 67) (tA h 65) (tA h 71) k m) (sIx (tA h 68) (tA h 69)) (tvI (tF h 63 8)).toNatClampNeg) t).2.1 := Nat.le_mul_of_pos_right _ hq.1
      have p2 := zLmN m72 m75 (by omega)
      have p3 := zLmN p2 hb (by omega)
      have p4 := zLaN p1 p3 (by omega)
      refine tw_lload rfl rfl ?_
      refine tw_lload rfl rfl ?_
      refine tw_lmul rfl ?_
      refine tw_aload rfl rfl ?_
      refine tw_getS rfl (hs_63_9 FS.1) ?_
      refine tw_iload rfl rfl ?_
      refine tw_iald rfl (fun f1054 => ?_)
      refine tw_i2l rfl ?_
      refine tw_aload rfl rfl ?_
      refine tw_getS rfl (hs_63_12 FS.1) ?_
      refine tw_iload rfl rfl ?_
      refine tw_iald rfl (fun f1055 => ?_)
      refine tw_i2l rfl ?_
      refine tw_lmul rfl ?_
      refine tw_lload rfl rfl ?_
      refine tw_lmul rfl ?_
      refine tw_ladd rfl ?_
      refine tw_lstore rfl ?_
      refine tw_lload rfl rfl ?_
      refine tw_lload rfl rfl ?_
      refine tw_lmul rfl ?_
      refine tw_lstore rfl ?_
      refine tw_lload rfl rfl ?_
      refine tw_lload rfl rfl ?_
      refine tw_stat2 rfl (f_gcd hG p4 p5 (by omega) (Nat.mul_pos hq.1 (by omega)) (by omega)) (fun wp1056 hp1056 p1056 => ?_)
      obtain ⟨g, rfl, hg, e9⟩ := p1056
      obtain rfl := e9.symm
      have hg1 := Nat.gcd_pos_of_pos_left ((sSt (cNn (sOC (tA h 67) (tA h 65) k m) (sIx (tA h 68) (tA h 69)) (tvI (tF h 63 8)).toNatClampNeg) (cNn (sOF (tA h 67) (tA h 65) (tA h 71) k m) (sIx (tA h 68) (tA h 69)) (tvI (tF h 63 8)).toNatClampNeg) (cNn (sTC (tA h 67) (tA h 65) k m) (sIx (tA h 68) (tA h 69)) (tvI (tF h 63 8)).toNatClampNeg) (cNn (sTF (tA h 67) (tA h 65) (tA h 71) k m) (sIx (tA h 68) (tA h 69)) (tvI (tF h 63 8)).toNatClampNeg) t).1 * (cNn (sTC (tA h 67) (tA h 65) k m) (sIx (tA h 68) (tA h 69)) (tvI (tF h 63 8)).toNatClampNeg) t + (cNn (sOC (tA h 67) (tA h 65) k m) (sIx (tA h 68) (tA h 69)) (tvI (tF h 63 8)).toNatClampNeg) t * (cNn (sTF (tA h 67) (tA h 65) (tA h 71) k m) (sIx (tA h 68) (tA h 69)) (tvI (tF h 63 8)).toNatClampNeg) t * (sSt (cNn (sOC (tA h 67) (tA h 65) k m) (sIx (tA h 68) (tA h 69)) (tvI (tF h 63 8)).toNatClampNeg) (cNn (sOF (tA h 67) (tA h 65) (tA h 71) k m) (sIx (tA h 68) (tA h 69)) (tvI (tF h 63 8)).toNatClampNeg) (cNn (sTC (tA h 67) (tA h 65) k m) (sIx (tA h 68) (tA h 69)) (tvI (tF h 63 8)).toNatClampNeg) (cNn (sTF (tA h 67) (tA h 65) (tA h 71) k m) (sIx (tA h 68) (tA h 69)) (tvI (tF h 63 8)).toNatClampNeg) t).2.1) (Nat.mul_pos hq.1 (show 0 < (cNn (sTC (tA h 67) (tA h 65) k m) (sIx (tA h 68) (tA h 69)) (tvI (tF h 63 8)).toNatClampNeg) t by omega))
      rw [Nat.gcd_comm] at hg hg1
      refine tw_lstore rfl ?_
      refine tw_lload rfl rfl ?_
      refine tw_lload rfl rfl ?_
      refine tw_ldiv rfl (fun _ => ?_)
      refine tw_lstore rfl ?_
      refine tw_lload rfl rfl ?_
      refine tw_lload rfl rfl ?_
      refine tw_ldiv rfl (fun _ => ?_)
      refine tw_lstore rfl ?_
      refine tw_lload rfl rfl ?_
      refine tw_aload rfl rfl ?_
      refine tw_getS rfl (hs_63_10 FS.1) ?_
      refine tw_iload rfl rfl ?_
      refine tw_iald rfl (fun f1057 => ?_)
      refine tw_i2l rfl ?_
      refine tw_ladd rfl ?_
      refine tw_lstore rfl ?_
      refine tw_lload rfl rfl ?_
      refine tw_aload rfl rfl ?_
      refine tw_getS rfl (hs_63_9 FS.1) ?_
      refine tw_iload rfl rfl ?_
      refine tw_iald rfl (fun f1058 => ?_)
      refine tw_i2l rfl ?_
      refine tw_ladd rfl ?_
      refine tw_lstore rfl ?_
      refine tw_iinc rfl rfl ?_
      refine tw_goto rfl ?_
      have eS := sSt_1 (oC := (cNn (sOC (tA h 67) (tA h 65) k m) (sIx (tA h 68) (tA h 69)) (tvI (tF h 63 8)).toNatClampNeg)) (oF := (cNn (sOF (tA h 67) (tA h 65) (tA h 71) k m) (sIx (tA h 68) (tA h 69)) (tvI (tF h 63 8)).toNatClampNeg)) (tF := (cNn (sTF (tA h 67) (tA h 65) (tA h 71) k m) (sIx (tA h 68) (tA h 69)) (tvI (tF h 63 8)).toNatClampNeg)) hx0
      have d1 := zQuo p4 hg hg1 (by omega)
      have d2 := zQuo p5 hg hg1 (by omega)
      have sF := hq.2.2.2.1
      have sO := hq.2.2.2.2
      have l1 := sm_m (f := (cNn (sOC (tA h 67) (tA h 65) k m) (sIx (tA h 68) (tA h 69)) (tvI (tF h 63 8)).toNatClampNeg)) (show t ≤ 9 by omega)
      have l2 : sm (cNn (sOF (tA h 67) (tA h 65) (tA h 71) k m) (sIx (tA h 68) (tA h 69)) (tvI (tF h 63 8)).toNatClampNeg) t ≤ sm (cNn (sOC (tA h 67) (tA h 65) k m) (sIx (tA h 68) (tA h 69)) (tvI (tF h 63 8)).toNatClampNeg) t := sm_l (fun i => cNn_l (fun j _ => sOF_le)) t
      have l3 : (cNn (sOF (tA h 67) (tA h 65) (tA h 71) k m) (sIx (tA h 68) (tA h 69)) (tvI (tF h 63 8)).toNatClampNeg) t ≤ (cNn (sOC (tA h 67) (tA h 65) k m) (sIx (tA h 68) (tA h 69)) (tvI (tF h 63 8)).toNatClampNeg) t := cNn_l (fun j _ => sOF_le)
      have l4 := sm_m (f := (cNn (sOC (tA h 67) (tA h 65) k m) (sIx (tA h 68) (tA h 69)) (tvI (tF h 63 8)).toNatClampNeg)) (show t + 1 ≤ 9 by omega)
      have l5 : sm (cNn (sOC (tA h 67) (tA h 65) k m) (sIx (tA h 68) (tA h 69)) (tvI (tF h 63 8)).toNatClampNeg) (t + 1) = sm (cNn (sOC (tA h 67) (tA h 65) k m) (sIx (tA h 68) (tA h 69)) (tvI (tF h 63 8)).toNatClampNeg) t + (cNn (sOC (tA h 67) (tA h 65) k m) (sIx (tA h 68) (tA h 69)) (tvI (tF h 63 8)).toNatClampNeg) t := rfl
      have d3 := zLaN hs9 m73 (by omega)
      have d4 := zLaN ho m72 (by omega)
      exact tG_cut (zW_mono zTt G dp) (Or.inr ⟨rfl, rfl, rfl, t + 1, z + 1, _, _, _, _, _, _, _, _, hz1, by omega, by rw [eS]; exact d1, by rw [eS]; exact d2, by rw [eS]; exact d3, by rw [eS]; exact d4, rfl⟩)
theorem g_isMonth {G : zG} (hG : G.1 = zProg) {h : zH} {n : Int32} : tC zTt G 172 [.int n] h (fun w h2 => tBo (0 ≤ n.toInt ∧ n.toInt ≤ 599) w ∧ h2 = h) := by
  refine tC_in (by rw [hG]; rfl) (fun dp => ?_)
  refine tw_iload rfl rfl ?_
  refine tw_i2l rfl ?_
  refine tw_push rfl ?_
  refine tw_push rfl ?_
  refine tw_stat3 rfl (f_in hG  (LO := 0) (HI := 599) (Int32.toInt_toInt64 _) (by decide) (by decide)) (fun w9 h9 p1059 => ?_)
  obtain ⟨⟨p1059, rfl⟩ | ⟨p1059, rfl⟩, rfl⟩ := p1059
  · try dsimp only [tvI_i, tvJ_j, tvR_r] at p1059
    exact tw_iret rfl ⟨Or.inl ⟨p1059, rfl⟩, rfl⟩
  · try dsimp only [tvI_i, tvJ_j, tvR_r] at p1059
    exact tw_iret rfl ⟨Or.inr ⟨p1059, rfl⟩, rfl⟩
theorem g_expected {G : zG} (hG : G.1 = zProg) {h : zH} {k m p : Int32} (hs : tSh h) (hk3 : 0 ≤ (tvI (tF h 111 3)).toInt) (h154 : ∀ i, i < 200 → 0 ≤ (tA h 154 i).toInt ∧ (tA h 154 i).toInt ≤ 2) (h155 : ∀ i, i < 200 → 0 ≤ (tA h 155 i).toInt ∧ (tA h 155 i).toInt ≤ 200) (h59 : 0 ≤ (tvI (tF h 111 59)).toInt ∧ (tvI (tF h 111 59)).toInt ≤ 200) : tC zTt G 247 [.ref 111, .int k, .int m, .int p] h (fun w h2 => aFr (fun r => 159 ≤ r ∧ r ≤ 162) h h2 ∧ ((((0 ≤ k.toInt ∧ k.toInt < (tvI (tF h 111 3)).toInt) ∧ (0 ≤ m.toInt ∧ m.toInt ≤ 599) ∧ (0 ≤ p.toInt ∧ p.toInt ≤ 3)) ∧ ∃ x : Int64, w = some (.long x) ∧ x.toInt = ((pick (sSt (cNn (sOC (tA h 157) (fun i => tA h 121 (tA h 152 i).toNatClampNeg) k m) (sIx (tA h 154) (tA h 155)) (tvI (tF h 111 59)).toNatClampNeg) (cNn (sOF (tA h 157) (fun i => tA h 121 (tA h 152 i).toNatClampNeg) (tA h 158) k m) (sIx (tA h 154) (tA h 155)) (tvI (tF h 111 59)).toNatClampNeg) (cNn (sTC (tA h 157) (fun i => tA h 121 (tA h 152 i).toNatClampNeg) k m) (sIx (tA h 154) (tA h 155)) (tvI (tF h 111 59)).toNatClampNeg) (cNn (sTF (tA h 157) (fun i => tA h 121 (tA h 152 i).toNatClampNeg) (tA h 158) k m) (sIx (tA h 154) (tA h 155)) (tvI (tF h 111 59)).toNatClampNeg) 9) p : Nat) : Int)) ∨ (¬ ((0 ≤ k.toInt ∧ k.toInt < (tvI (tF h 111 3)).toInt) ∧ (0 ≤ m.toInt ∧ m.toInt ≤ 599) ∧ (0 ≤ p.toInt ∧ p.toInt ≤ 3)) ∧ w = some (.long (-1))))) := by
  refine tC_in (by rw [hG]; rfl) (fun dp => ?_)
  have k9 : (9 : Int32).toInt = 9 := rfl
  have k0 : (0 : Int64).toInt = 0 := by decide
  have hix9 : ∀ i, i < (tvI (tF h 111 59)).toNatClampNeg → 0 ≤ (sIx (tA h 154) (tA h 155)) i := fun i hi => by have b68 := h154 i (by rw [zclE] at hi; omega); have s5 := sIb_b (tA h 155 i).toInt; unfold sIx; omega
  have hn200 : (tvI (tF h 111 59)).toNatClampNeg ≤ 200 := by rw [zclE]; omega
  have hT : sm (cNn (sTC (tA h 157) (fun i => tA h 121 (tA h 152 i).toNatClampNeg) k m) (sIx (tA h 154) (tA h 155)) (tvI (tF h 111 59)).toNatClampNeg) 9 ≤ 200 := cNn_s (fun i _ => s01) hix9 hn200
  have hO : sm (cNn (sOC (tA h 157) (fun i => tA h 121 (tA h 152 i).toNatClampNeg) k m) (sIx (tA h 154) (tA h 155)) (tvI (tF h 111 59)).toNatClampNeg) 9 ≤ 200 := cNn_s (fun i _ => s01) hix9 hn200
  have hFl : ∀ i, i < 9 → (cNn (sTF (tA h 157) (fun i => tA h 121 (tA h 152 i).toNatClampNeg) (tA h 158) k m) (sIx (tA h 154) (tA h 155)) (tvI (tF h 111 59)).toNatClampNeg) i ≤ (cNn (sTC (tA h 157) (fun i => tA h 121 (tA h 152 i).toNatClampNeg) k m) (sIx (tA h 154) (tA h 155)) (tvI (tF h 111 59)).toNatClampNeg) i := fun i _ => cNn_l (fun j _ => sTF_le)
  refine tw_aload rfl rfl ?_
  refine tw_iload rfl rfl ?_
  refine tw_virt1 rfl (g_isKind hG hs hk3) (fun w9 h9 p1060 => ?_)
  obtain ⟨⟨p1060, rfl⟩ | ⟨p1060, rfl⟩, e9⟩ := p1060
  · try dsimp only [tvI_i, tvJ_j, tvR_r] at p1060
    obtain rfl := e9.symm
    refine tw_if_eq rfl (fun z => absurd z (by decide)) (fun _ => ?_)
    refine tw_iload rfl rfl ?_
    refine tw_stat1 rfl (g_isMonth hG) (fun w9 h9 p1061 => ?_)
    obtain ⟨⟨p1061, rfl⟩ | ⟨p1061, rfl⟩, e9⟩ := p1061
    · try dsimp only [tvI_i, tvJ_j, tvR_r] at p1061
      obtain rfl := e9.symm
      refine tw_if_eq rfl (fun z => absurd z (by decide)) (fun _ => ?_)
      refine tw_iload rfl rfl ?_
      refine tw_i2l rfl ?_
      refine tw_push rfl ?_
      refine tw_push rfl ?_
      refine tw_stat3 rfl (f_in hG  (LO := 0) (HI := 3) (Int32.toInt_toInt64 _) (by decide) (by decide)) (fun w9 h9 p1062 => ?_)
      obtain ⟨⟨p1062, rfl⟩ | ⟨p1062, rfl⟩, e9⟩ := p1062
      · try dsimp only [tvI_i, tvJ_j, tvR_r] at p1062
        obtain rfl := e9.symm
        refine tw_if_ne rfl (fun _ => ?_) (fun z => absurd z (by decide))
        refine tw_push rfl ?_
        refine tw_istore rfl ?_
        refine tG_loop (zW_mono zTt G dp) (zW_conj zTt G dp) (V := fun pc L st h9 _ _ => pc = 34 ∧ st = [] ∧ ∃ (h1 : zH) (n : Nat) (z : Int32) (l5 l6 l7 l8 l9 l10 l11 l12 l13 l14 : Option Value), h1 = h9 ∧ aFr (fun r => 159 ≤ r ∧ r ≤ 162) h h1 ∧ z.toInt = (n : Int) ∧ n ≤ 9 ∧ (∀ t, t < n → tA h1 159 t = 0) ∧ (∀ t, t < n → tA h1 160 t = 0) ∧ (∀ t, t < n → tA h1 161 t = 0) ∧ (∀ t, t < n → tA h1 162 t = 0) ∧ L = [some (.ref 111), some (.int k), some (.int m), some (.int p), some (.int z), l5, l6, l7, l8, l9, l10, l11, l12, l13, l14]) ?_ (⟨rfl, rfl, h, 0, 0, _, _, _, _, _, _, _, _, _, _, rfl, aFr_r hs, rfl, by decide, fun t ht => absurd ht (Nat.not_lt_zero _), fun t ht => absurd ht (Nat.not_lt_zero _), fun t ht => absurd ht (Nat.not_lt_zero _), fun t ht => absurd ht (Nat.not_lt_zero _), rfl⟩)
        rintro _ _ _ _ _ _ ⟨rfl, rfl, h1, n, z, l5, l6, l7, l8, l9, l10, l11, l12, l13, l14, rfl, hF, hz, hn9, hall159, hall160, hall161, hall162, rfl⟩
        refine tw_iload rfl rfl ?_
        refine tw_push rfl ?_
        refine tw_ic_ge rfl (fun q1063 => ?_) (fun q1063 => ?_)
        · try dsimp only [tvI_i, tvJ_j, tvR_r] at q1063
          refine tw_push rfl ?_
          refine tw_istore rfl ?_
          refine tG_loop (zW_mono zTt G dp) (zW_conj zTt G dp) (V := fun pc L st h9 _ _ => pc = 82 ∧ st = [] ∧ ∃ (h1 : zH) (n : Nat) (z : Int32) (l5 l6 l7 l8 l9 l10 l11 l12 l13 l14 : Option Value), h1 = h9 ∧ aFr (fun r => 159 ≤ r ∧ r ≤ 162) h h1 ∧ z.toInt = (n : Int) ∧ (n : Int) ≤ (tvI (tF h 111 59)).toInt ∧ (∀ t, t < 9 → (tA h1 159 t).toInt = cN (sOC (tA h 157) (fun i => tA h 121 (tA h 152 i).toNatClampNeg) k m) (sIx (tA h 154) (tA h 155)) n t) ∧ (∀ t, t < 9 → (tA h1 160 t).toInt = cN (sOF (tA h 157) (fun i => tA h 121 (tA h 152 i).toNatClampNeg) (tA h 158) k m) (sIx (tA h 154) (tA h 155)) n t) ∧ (∀ t, t < 9 → (tA h1 161 t).toInt = cN (sTC (tA h 157) (fun i => tA h 121 (tA h 152 i).toNatClampNeg) k m) (sIx (tA h 154) (tA h 155)) n t) ∧ (∀ t, t < 9 → (tA h1 162 t).toInt = cN (sTF (tA h 157) (fun i => tA h 121 (tA h 152 i).toNatClampNeg) (tA h 158) k m) (sIx (tA h 154) (tA h 155)) n t) ∧ L = [some (.ref 111), some (.int k), some (.int m), some (.int p), some (.int z), l5, l6, l7, l8, l9, l10, l11, l12, l13, l14]) ?_ (⟨rfl, rfl, _, 0, 0, _, _, _, _, _, _, _, _, _, _, rfl, hF, rfl, h59.1, fun t ht => by rw [hall159 t (by omega)]; rfl, fun t ht => by rw [hall160 t (by omega)]; rfl, fun t ht => by rw [hall161 t (by omega)]; rfl, fun t ht => by rw [hall162 t (by omega)]; rfl, rfl⟩)
          rintro _ _ _ _ _ _ ⟨rfl, rfl, h1, n, z, l5, l6, l7, l8, l9, l10, l11, l12, l13, l14, rfl, hF, hz, hnn, hall159, hall160, hall161, hall162, rfl⟩
          have e59 : (tvI (tF h1 111 59)).toInt = (tvI (tF h 111 59)).toInt := by rw [hF.2.1]
          refine tw_iload rfl rfl ?_
          refine tw_aload rfl rfl ?_
          refine tw_getS rfl (hi_111_59 hF.1) ?_
          refine tw_ic_ge rfl (fun q1064 => ?_) (fun q1064 => ?_)
          · try dsimp only [tvI_i, tvJ_j, tvR_r] at q1064
            have nN : n = (tvI (tF h 111 59)).toNatClampNeg := by rw [zclE]; omega
            rw [nN] at hall159 hall160 hall161 hall162
            have n159 : ∀ t, t < 9 → (tA h1 159 t).toInt = (((cNn (sOC (tA h 157) (fun i => tA h 121 (tA h 152 i).toNatClampNeg) k m) (sIx (tA h 154) (tA h 155)) (tvI (tF h 111 59)).toNatClampNeg) t : Nat) : Int) := fun t ht => (hall159 t ht).trans (cNn_i (fun i _ => s01)).symm
            have n160 : ∀ t, t < 9 → (tA h1 160 t).toInt = (((cNn (sOF (tA h 157) (fun i => tA h 121 (tA h 152 i).toNatClampNeg) (tA h 158) k m) (sIx (tA h 154) (tA h 155)) (tvI (tF h 111 59)).toNatClampNeg) t : Nat) : Int) := fun t ht => (hall160 t ht).trans (cNn_i (fun i _ => s01)).symm
            have n161 : ∀ t, t < 9 → (tA h1 161 t).toInt = (((cNn (sTC (tA h 157) (fun i => tA h 121 (tA h 152 i).toNatClampNeg) k m) (sIx (tA h 154) (tA h 155)) (tvI (tF h 111 59)).toNatClampNeg) t : Nat) : Int) := fun t ht => (hall161 t ht).trans (cNn_i (fun i _ => s01)).symm
            have n162 : ∀ t, t < 9 → (tA h1 162 t).toInt = (((cNn (sTF (tA h 157) (fun i => tA h 121 (tA h 152 i).toNatClampNeg) (tA h 158) k m) (sIx (tA h 154) (tA h 155)) (tvI (tF h 111 59)).toNatClampNeg) t : Nat) : Int) := fun t ht => (hall162 t ht).trans (cNn_i (fun i _ => s01)).symm
            refine tw_push rfl ?_
            refine tw_lstore rfl ?_
            refine tw_push rfl ?_
            refine tw_lstore rfl ?_
            refine tw_push rfl ?_
            refine tw_lstore rfl ?_
            refine tw_push rfl ?_
            refine tw_lstore rfl ?_
            refine tw_push rfl ?_
            refine tw_istore rfl ?_
            refine tG_loop (zW_mono zTt G dp) (zW_conj zTt G dp) (V := fun pc L st h9 _ _ => pc = 290 ∧ st = [] ∧ ∃ (h1 : zH) (t : Nat) (z : Int32) (a b s o : Int64) (l13 l14 : Option Value), h1 = h9 ∧ aFr (fun r => 159 ≤ r ∧ r ≤ 162) h h1 ∧ (∀ t, t < 9 → (tA h1 159 t).toInt = (((cNn (sOC (tA h 157) (fun i => tA h 121 (tA h 152 i).toNatClampNeg) k m) (sIx (tA h 154) (tA h 155)) (tvI (tF h 111 59)).toNatClampNeg) t : Nat) : Int)) ∧ (∀ t, t < 9 → (tA h1 160 t).toInt = (((cNn (sOF (tA h 157) (fun i => tA h 121 (tA h 152 i).toNatClampNeg) (tA h 158) k m) (sIx (tA h 154) (tA h 155)) (tvI (tF h 111 59)).toNatClampNeg) t : Nat) : Int)) ∧ (∀ t, t < 9 → (tA h1 161 t).toInt = (((cNn (sTC (tA h 157) (fun i => tA h 121 (tA h 152 i).toNatClampNeg) k m) (sIx (tA h 154) (tA h 155)) (tvI (tF h 111 59)).toNatClampNeg) t : Nat) : Int)) ∧ (∀ t, t < 9 → (tA h1 162 t).toInt = (((cNn (sTF (tA h 157) (fun i => tA h 121 (tA h 152 i).toNatClampNeg) (tA h 158) k m) (sIx (tA h 154) (tA h 155)) (tvI (tF h 111 59)).toNatClampNeg) t : Nat) : Int)) ∧ z.toInt = (t : Int) ∧ t ≤ 9 ∧ a.toInt = ((sSt (cNn (sOC (tA h 157) (fun i => tA h 121 (tA h 152 i).toNatClampNeg) k m) (sIx (tA h 154) (tA h 155)) (tvI (tF h 111 59)).toNatClampNeg) (cNn (sOF (tA h 157) (fun i => tA h 121 (tA h 152 i).toNatClampNeg) (tA h 158) k m) (sIx (tA h 154) (tA h 155)) (tvI (tF h 111 59)).toNatClampNeg) (cNn (sTC (tA h 157) (fun i => tA h 121 (tA h 152 i).toNatClampNeg) k m) (sIx (tA h 154) (tA h 155)) (tvI (tF h 111 59)).toNatClampNeg) (cNn (sTF (tA h 157) (fun i => tA h 121 (tA h 152 i).toNatClampNeg) (tA h 158) k m) (sIx (tA h 154) (tA h 155)) (tvI (tF h 111 59)).toNatClampNeg) t).1 : Int) ∧ b.toInt = ((sSt (cNn (sOC (tA h 157) (fun i => tA h 121 (tA h 152 i).toNatClampNeg) k m) (sIx (tA h 154) (tA h 155)) (tvI (tF h 111 59)).toNatClampNeg) (cNn (sOF (tA h 157) (fun i => tA h 121 (tA h 152 i).toNatClampNeg) (tA h 158) k m) (sIx (tA h 154) (tA h 155)) (tvI (tF h 111 59)).toNatClampNeg) (cNn (sTC (tA h 157) (fun i => tA h 121 (tA h 152 i).toNatClampNeg) k m) (sIx (tA h 154) (tA h 155)) (tvI (tF h 111 59)).toNatClampNeg) (cNn (sTF (tA h 157) (fun i => tA h 121 (tA h 152 i).toNatClampNeg) (tA h 158) k m) (sIx (tA h 154) (tA h 155)) (tvI (tF h 111 59)).toNatClampNeg) t).2.1 : Int) ∧ s.toInt = ((sSt (cNn (sOC (tA h 157) (fun i => tA h 121 (tA h 152 i).toNatClampNeg) k m) (sIx (tA h 154) (tA h 155)) (tvI (tF h 111 59)).toNatClampNeg) (cNn (sOF (tA h 157) (fun i => tA h 121 (tA h 152 i).toNatClampNeg) (tA h 158) k m) (sIx (tA h 154) (tA h 155)) (tvI (tF h 111 59)).toNatClampNeg) (cNn (sTC (tA h 157) (fun i => tA h 121 (tA h 152 i).toNatClampNeg) k m) (sIx (tA h 154) (tA h 155)) (tvI (tF h 111 59)).toNatClampNeg) (cNn (sTF (tA h 157) (fun i => tA h 121 (tA h 152 i).toNatClampNeg) (tA h 158) k m) (sIx (tA h 154) (tA h 155)) (tvI (tF h 111 59)).toNatClampNeg) t).2.2.1 : Int) ∧ o.toInt = ((sSt (cNn (sOC (tA h 157) (fun i => tA h 121 (tA h 152 i).toNatClampNeg) k m) (sIx (tA h 154) (tA h 155)) (tvI (tF h 111 59)).toNatClampNeg) (cNn (sOF (tA h 157) (fun i => tA h 121 (tA h 152 i).toNatClampNeg) (tA h 158) k m) (sIx (tA h 154) (tA h 155)) (tvI (tF h 111 59)).toNatClampNeg) (cNn (sTC (tA h 157) (fun i => tA h 121 (tA h 152 i).toNatClampNeg) k m) (sIx (tA h 154) (tA h 155)) (tvI (tF h 111 59)).toNatClampNeg) (cNn (sTF (tA h 157) (fun i => tA h 121 (tA h 152 i).toNatClampNeg) (tA h 158) k m) (sIx (tA h 154) (tA h 155)) (tvI (tF h 111 59)).toNatClampNeg) t).2.2.2 : Int) ∧ L = [some (.ref 111), some (.int k), some (.int m), some (.int p), some (.long a), none, some (.long b), none, some (.long s), none, some (.long o), none, some (.int z), l13, l14]) ?_ (⟨rfl, rfl, _, 0, 0, 0, 1, 0, 0, _, _, rfl, hF, n159, n160, n161, n162, rfl, by decide, rfl, rfl, rfl, rfl, rfl⟩)
            rintro _ _ _ _ _ _ ⟨rfl, rfl, h1, t, z, a, b, s, o, l13, l14, rfl, hF, n159, n160, n161, n162, hz, ht, ha, hb, hs9, ho, rfl⟩
            refine tw_iload rfl rfl ?_
            refine tw_push rfl ?_
            refine tw_ic_ge rfl (fun q1065 => ?_) (fun q1065 => ?_)
            · try dsimp only [tvI_i, tvJ_j, tvR_r] at q1065
              refine tw_iload rfl rfl ?_
              refine tw_if_ne rfl (fun q1066 => ?_) (fun q1066 => ?_)
              · try dsimp only [tvI_i, tvJ_j, tvR_r] at q1066
                have q1066i := zneq (Y := 0) (by decide) q1066
                refine tw_iload rfl rfl ?_
                refine tw_push rfl ?_
                refine tw_ic_ne rfl (fun q1067 => ?_) (fun q1067 => ?_)
                · try dsimp only [tvI_i, tvJ_j, tvR_r] at q1067
                  have q1067i := zneq (Y := 1) (by decide) q1067
                  refine tw_iload rfl rfl ?_
                  refine tw_push rfl ?_
                  refine tw_ic_ne rfl (fun q1068 => ?_) (fun q1068 => ?_)
                  · try dsimp only [tvI_i, tvJ_j, tvR_r] at q1068
                    have q1068i := zneq (Y := 2) (by decide) q1068
                    refine tw_lload rfl rfl ?_
                    obtain rfl : t = 9 := by omega
                    exact tw_lret rfl ⟨hF, Or.inl ⟨by omega, o, rfl, ho.trans (congrArg Nat.cast (show pick _ p = _ from (if_neg (by omega)).trans ((if_neg (by omega)).trans (if_neg (by omega)))).symm)⟩⟩
                  · try dsimp only [tvI_i, tvJ_j, tvR_r] at q1068
                    have q1068i := zeqi (Y := 2) (by decide) q1068
                    refine tw_lload rfl rfl ?_
                    refine tw_goto rfl ?_
                    obtain rfl : t = 9 := by omega
                    exact tw_lret rfl ⟨hF, Or.inl ⟨by omega, s, rfl, hs9.trans (congrArg Nat.cast (show pick _ p = _ from (if_neg (by omega)).trans ((if_neg (by omega)).trans (if_pos (by omega)))).symm)⟩⟩
                · try dsimp only [tvI_i, tvJ_j, tvR_r] at q1067
                  have q1067i := zeqi (Y := 1) (by decide) q1067
                  refine tw_lload rfl rfl ?_
                  refine tw_goto rfl ?_
                  obtain rfl : t = 9 := by omega
                  exact tw_lret rfl ⟨hF, Or.inl ⟨by omega, b, rfl, hb.trans (congrArg Nat.cast (show pick _ p = _ from (if_neg (by omega)).trans (if_pos (by omega))).symm)⟩⟩
              · try dsimp only [tvI_i, tvJ_j, tvR_r] at q1066
                have q1066i := zeqi (Y := 0) (by decide) q1066
                refine tw_lload rfl rfl ?_
                refine tw_goto rfl ?_
                obtain rfl : t = 9 := by omega
                exact tw_lret rfl ⟨hF, Or.inl ⟨by omega, a, rfl, ha.trans (congrArg Nat.cast (show pick _ p = _ from if_pos (by omega)).symm)⟩⟩
            · try dsimp only [tvI_i, tvJ_j, tvR_r] at q1065
              have ht9 : t < 9 := by omega
              have zn := zof_cl hz
              have hz1 : (z + 1).toInt = ((t + 1 : Nat) : Int) := zincN hz (by omega)
              have v159 : (tA h1 159 z.toNatClampNeg).toInt = (((cNn (sOC (tA h 157) (fun i => tA h 121 (tA h 152 i).toNatClampNeg) k m) (sIx (tA h 154) (tA h 155)) (tvI (tF h 111 59)).toNatClampNeg) t : Nat) : Int) := by rw [zn]; exact n159 t ht9
              have v160 : (tA h1 160 z.toNatClampNeg).toInt = (((cNn (sOF (tA h 157) (fun i => tA h 121 (tA h 152 i).toNatClampNeg) (tA h 158) k m) (sIx (tA h 154) (tA h 155)) (tvI (tF h 111 59)).toNatClampNeg) t : Nat) : Int) := by rw [zn]; exact n160 t ht9
              have v161 : (tA h1 161 z.toNatClampNeg).toInt = (((cNn (sTC (tA h 157) (fun i => tA h 121 (tA h 152 i).toNatClampNeg) k m) (sIx (tA h 154) (tA h 155)) (tvI (tF h 111 59)).toNatClampNeg) t : Nat) : Int) := by rw [zn]; exact n161 t ht9
              have v162 : (tA h1 162 z.toNatClampNeg).toInt = (((cNn (sTF (tA h 157) (fun i => tA h 121 (tA h 152 i).toNatClampNeg) (tA h 158) k m) (sIx (tA h 154) (tA h 155)) (tvI (tF h 111 59)).toNatClampNeg) t : Nat) : Int) := by rw [zn]; exact n162 t ht9
              have m159 := (Int32.toInt_toInt64 (tA h1 159 z.toNatClampNeg)).trans v159
              have m160 := (Int32.toInt_toInt64 (tA h1 160 z.toNatClampNeg)).trans v160
              have m161 := (Int32.toInt_toInt64 (tA h1 161 z.toNatClampNeg)).trans v161
              have m162 := (Int32.toInt_toInt64 (tA h1 162 z.toNatClampNeg)).trans v162
              have hq := sOk_t (oC := (cNn (sOC (tA h 157) (fun i => tA h 121 (tA h 152 i).toNatClampNeg) k m) (sIx (tA h 154) (tA h 155)) (tvI (tF h 111 59)).toNatClampNeg)) (oF := (cNn (sOF (tA h 157) (fun i => tA h 121 (tA h 152 i).toNatClampNeg) (tA h 158) k m) (sIx (tA h 154) (tA h 155)) (tvI (tF h 111 59)).toNatClampNeg)) hT hFl t (by omega)
              obtain ⟨B1, B2, B3, B4⟩ := sOk_b (oC := (cNn (sOC (tA h 157) (fun i => tA h 121 (tA h 152 i).toNatClampNeg) k m) (sIx (tA h 154) (tA h 155)) (tvI (tF h 111 59)).toNatClampNeg)) (oF := (cNn (sOF (tA h 157) (fun i => tA h 121 (tA h 152 i).toNatClampNeg) (tA h 158) k m) (sIx (tA h 154) (tA h 155)) (tvI (tF h 111 59)).toNatClampNeg)) hT hO hFl ht9
              refine tw_aload rfl rfl ?_
              refine tw_getS rfl (hs_111_69 hF.1) ?_
              refine tw_iload rfl rfl ?_
              refine tw_iald rfl (fun f1069 => ?_)
              refine tw_if_le rfl (fun q1070 => ?_) (fun q1070 => ?_)
              · try dsimp only [tvI_i, tvJ_j, tvR_r] at q1070
                refine tw_iinc rfl rfl ?_
                refine tw_goto rfl ?_
                have hx0 : (cNn (sTC (tA h 157) (fun i => tA h 121 (tA h 152 i).toNatClampNeg) k m) (sIx (tA h 154) (tA h 155)) (tvI (tF h 111 59)).toNatClampNeg) t = 0 := by omega
                have eS := sSt_0 (oC := (cNn (sOC (tA h 157) (fun i => tA h 121 (tA h 152 i).toNatClampNeg) k m) (sIx (tA h 154) (tA h 155)) (tvI (tF h 111 59)).toNatClampNeg)) (oF := (cNn (sOF (tA h 157) (fun i => tA h 121 (tA h 152 i).toNatClampNeg) (tA h 158) k m) (sIx (tA h 154) (tA h 155)) (tvI (tF h 111 59)).toNatClampNeg)) (tF := (cNn (sTF (tA h 157) (fun i => tA h 121 (tA h 152 i).toNatClampNeg) (tA h 158) k m) (sIx (tA h 154) (tA h 155)) (tvI (tF h 111 59)).toNatClampNeg)) hx0
                exact tG_cut (zW_mono zTt G dp) (Or.inr ⟨rfl, rfl, _, t + 1, z + 1, a, b, s, o, _, _, rfl, hF, n159, n160, n161, n162, hz1, by omega, by rw [eS]; exact ha, by rw [eS]; exact hb, by rw [eS]; exact hs9, by rw [eS]; exact ho, rfl⟩)
              · try dsimp only [tvI_i, tvJ_j, tvR_r] at q1070
                have hx0 : ¬ (cNn (sTC (tA h 157) (fun i => tA h 121 (tA h 152 i).toNatClampNeg) k m) (sIx (tA h 154) (tA h 155)) (tvI (tF h 111 59)).toNatClampNeg) t = 0 := by omega
                have p1 := zLmN ha m161 (by omega)
                have p5 := zLmN hb m161 (by omega)
                have g2 : (cNn (sOC (tA h 157) (fun i => tA h 121 (tA h 152 i).toNatClampNeg) k m) (sIx (tA h 154) (tA h 155)) (tvI (tF h 111 59)).toNatClampNeg) t * (cNn (sTF (tA h 157) (fun i => tA h 121 (tA h 152 i).toNatClampNeg) (tA h 158) k m) (sIx (tA h 154) (tA h 155)) (tvI (tF h 111 59)).toNatClampNeg) t * (sSt (cNn (sOC (tA h 157) (fun i => tA h 121 (tA h 152 i).toNatClampNeg) k m) (sIx (tA h 154) (tA h 155)) (tvI (tF h 111 59)).toNatClampNeg) (cNn (sOF (tA h 157) (fun i => tA h 121 (tA h 152 i).toNatClampNeg) (tA h 158) k m) (sIx (tA h 154) (tA h 155)) (tvI (tF h 111 59)).toNatClampNeg) (cNn (sTC (tA h 157) (fun i => tA h 121 (tA h 152 i).toNatClampNeg) k m) (sIx (tA h 154) (tA h 155)) (tvI (tF h 111 59)).toNatClampNeg) (cNn (sTF (tA h 157) (fun i => tA h 121 (tA h 152 i).toNatClampNeg) (tA h 158) k m) (sIx (tA h 154) (tA h 155)) (tvI (tF h 111 59)).toNatClampNeg) t).2.1 ≤ 200 * 2 ^ 49 := by omega
                have g3 : (sSt (cNn (sOC (tA h 157) (fun i => tA h 121 (tA h 152 i).toNatClampNeg) k m) (sIx (tA h 154) (tA h 155)) (tvI (tF h 111 59)).toNatClampNeg) (cNn (sOF (tA h 157) (fun i => tA h 121 (tA h 152 i).toNatClampNeg) (tA h 158) k m) (sIx (tA h 154) (tA h 155)) (tvI (tF h 111 59)).toNatClampNeg) (cNn (sTC (tA h 157) (fun i => tA h 121 (tA h 152 i).toNatClampNeg) k m) (sIx (tA h 154) (tA h 155)) (tvI (tF h 111 59)).toNatClampNeg) (cNn (sTF (tA h 157) (fun i => tA h 121 (tA h 152 i).toNatClampNeg) (tA h 158) k m) (sIx (tA h 154) (tA h 155)) (tvI (tF h 111 59)).toNatClampNeg) t).2.1 * (cNn (sOC (tA h 157) (fun i => tA h 121 (tA h 152 i).toNatClampNeg) k m) (sIx (tA h 154) (tA h 155)) (tvI (tF h 111 59)).toNatClampNeg) t * (cNn (sTF (tA h 157) (fun i => tA h 121 (tA h 152 i).toNatClampNeg) (tA h 158) k m) (sIx (tA h 154) (tA h 155)) (tvI (tF h 111 59)).toNatClampNeg) t = (cNn (sOC (tA h 157) (fun i => tA h 121 (tA h 152 i).toNatClampNeg) k m) (sIx (tA h 154) (tA h 155)) (tvI (tF h 111 59)).toNatClampNeg) t * (cNn (sTF (tA h 157) (fun i => tA h 121 (tA h 152 i).toNatClampNeg) (tA h 158) k m) (sIx (tA h 154) (tA h 155)) (tvI (tF h 111 59)).toNatClampNeg) t * (sSt (cNn (sOC (tA h 157) (fun i => tA h 121 (tA h 152 i).toNatClampNeg) k m) (sIx (tA h 154) (tA h 155)) (tvI (tF h 111 59)).toNatClampNeg) (cNn (sOF (tA h 157) (fun i => tA h 121 (tA h 152 i).toNatClampNeg) (tA h 158) k m) (sIx (tA h 154) (tA h 155)) (tvI (tF h 111 59)).toNatClampNeg) (cNn (sTC (tA h 157) (fun i => tA h 121 (tA h 152 i).toNatClampNeg) k m) (sIx (tA h 154) (tA h 155)) (tvI (tF h 111 59)).toNatClampNeg) (cNn (sTF (tA h 157) (fun i => tA h 121 (tA h 152 i).toNatClampNeg) (tA h 158) k m) (sIx (tA h 154) (tA h 155)) (tvI (tF h 111 59)).toNatClampNeg) t).2.1 := by rw [Nat.mul_comm (sSt (cNn (sOC (tA h 157) (fun i => tA h 121 (tA h 152 i).toNatClampNeg) k m) (sIx (tA h 154) (tA h 155)) (tvI (tF h 111 59)).toNatClampNeg) (cNn (sOF (tA h 157) (fun i => tA h 121 (tA h 152 i).toNatClampNeg) (tA h 158) k m) (sIx (tA h 154) (tA h 155)) (tvI (tF h 111 59)).toNatClampNeg) (cNn (sTC (tA h 157) (fun i => tA h 121 (tA h 152 i).toNatClampNeg) k m) (sIx (tA h 154) (tA h 155)) (tvI (tF h 111 59)).toNatClampNeg) (cNn (sTF (tA h 157) (fun i => tA h 121 (tA h 152 i).toNatClampNeg) (tA h 158) k m) (sIx (tA h 154) (tA h 155)) (tvI (tF h 111 59)).toNatClampNeg) t).2.1, Nat.mul_assoc, Nat.mul_comm (sSt (cNn (sOC (tA h 157) (fun i => tA h 121 (tA h 152 i).toNatClampNeg) k m) (sIx (tA h 154) (tA h 155)) (tvI (tF h 111 59)).toNatClampNeg) (cNn (sOF (tA h 157) (fun i => tA h 121 (tA h 152 i).toNatClampNeg) (tA h 158) k m) (sIx (tA h 154) (tA h 155)) (tvI (tF h 111 59)).toNatClampNeg) (cNn (sTC (tA h 157) (fun i => tA h 121 (tA h 152 i).toNatClampNeg) k m) (sIx (tA h 154) (tA h 155)) (tvI (tF h 111 59)).toNatClampNeg) (cNn (sTF (tA h 157) (fun i => tA h 121 (tA h 152 i).toNatClampNeg) (tA h 158) k m) (sIx (tA h 154) (tA h 155)) (tvI (tF h 111 59)).toNatClampNeg) t).2.1, ← Nat.mul_assoc]
                have g4 : (sSt (cNn (sOC (tA h 157) (fun i => tA h 121 (tA h 152 i).toNatClampNeg) k m) (sIx (tA h 154) (tA h 155)) (tvI (tF h 111 59)).toNatClampNeg) (cNn (sOF (tA h 157) (fun i => tA h 121 (tA h 152 i).toNatClampNeg) (tA h 158) k m) (sIx (tA h 154) (tA h 155)) (tvI (tF h 111 59)).toNatClampNeg) (cNn (sTC (tA h 157) (fun i => tA h 121 (tA h 152 i).toNatClampNeg) k m) (sIx (tA h 154) (tA h 155)) (tvI (tF h 111 59)).toNatClampNeg) (cNn (sTF (tA h 157) (fun i => tA h 121 (tA h 152 i).toNatClampNeg) (tA h 158) k m) (sIx (tA h 154) (tA h 155)) (tvI (tF h 111 59)).toNatClampNeg) t).2.1 * (cNn (sOC (tA h 157) (fun i => tA h 121 (tA h 152 i).toNatClampNeg) k m) (sIx (tA h 154) (tA h 155)) (tvI (tF h 111 59)).toNatClampNeg) t ≤ 200 * 2 ^ 49 := by have y := Nat.le_of_lt B4; have y2 : (cNn (sOC (tA h 157) (fun i => tA h 121 (tA h 152 i).toNatClampNeg) k m) (sIx (tA h 154) (tA h 155)) (tvI (tF h 111 59)).toNatClampNeg) t ≤ 200 := (by have a := sm_m (f := (cNn (sOC (tA h 157) (fun i => tA h 121 (tA h 152 i).toNatClampNeg) k m) (sIx (tA h 154) (tA h 155)) (tvI (tF h 111 59)).toNatClampNeg)) (show t + 1 ≤ 9 by omega); have b : sm (cNn (sOC (tA h 157) (fun i => tA h 121 (tA h 152 i).toNatClampNeg) k m) (sIx (tA h 154) (tA h 155)) (tvI (tF h 111 59)).toNatClampNeg) (t + 1) = sm (cNn (sOC (tA h 157) (fun i => tA h 121 (tA h 152 i).toNatClampNeg) k m) (sIx (tA h 154) (tA h 155)) (tvI (tF h 111 59)).toNatClampNeg) t + (cNn (sOC (tA h 157) (fun i => tA h 121 (tA h 152 i).toNatClampNeg) k m) (sIx (tA h 154) (tA h 155)) (tvI (tF h 111 59)).toNatClampNeg) t := rfl; omega); have y3 := Nat.mul_le_mul y y2; omega
                have p2 := zLmN hb m159 (by omega)
                have p3 := zLmN p2 m162 (by omega)
                rw [g3] at p3
                have p4 := zLaN p1 p3 (by omega)
                refine tw_lload rfl rfl ?_
                refine tw_aload rfl rfl ?_
                refine tw_getS rfl (hs_111_68 hF.1) ?_
                refine tw_iload rfl rfl ?_
                refine tw_iald rfl (fun f1071 => ?_)
                refine tw_i2l rfl ?_
                refine tw_ladd rfl ?_
                refine tw_lstore rfl ?_
                refine tw_lload rfl rfl ?_
                refine tw_aload rfl rfl ?_
                refine tw_getS rfl (hs_111_67 hF.1) ?_
                refine tw_iload rfl rfl ?_
                refine tw_iald rfl (fun f1072 => ?_)
                refine tw_i2l rfl ?_
                refine tw_ladd rfl ?_
                refine tw_lstore rfl ?_
                refine tw_lload rfl rfl ?_
                refine tw_aload rfl rfl ?_
                refine tw_getS rfl (hs_111_69 hF.1) ?_
                refine tw_iload rfl rfl ?_
                refine tw_iald rfl (fun f1073 => ?_)
                refine tw_i2l rfl ?_
                refine tw_lmul rfl ?_
                refine tw_lload rfl rfl ?_
                refine tw_aload rfl rfl ?_
                refine tw_getS rfl (hs_111_67 hF.1) ?_
                refine tw_iload rfl rfl ?_
                refine tw_iald rfl (fun f1074 => ?_)
                refine tw_i2l rfl ?_
                refine tw_lmul rfl ?_
                refine tw_aload rfl rfl ?_
                refine tw_getS rfl (hs_111_70 hF.1) ?_
                refine tw_iload rfl rfl ?_
                refine tw_iald rfl (fun f1075 => ?_)
                refine tw_i2l rfl ?_
                refine tw_lmul rfl ?_
                refine tw_ladd rfl ?_
                refine tw_lstore rfl ?_
                refine tw_lload rfl rfl ?_
                refine tw_aload rfl rfl ?_
                refine tw_getS rfl (hs_111_69 hF.1) ?_
                refine tw_iload rfl rfl ?_
                refine tw_iald rfl (fun f1076 => ?_)
                refine tw_i2l rfl ?_
                refine tw_lmul rfl ?_
                refine tw_lstore rfl ?_
                refine tw_lload rfl rfl ?_
                refine tw_lload rfl rfl ?_
                refine tw_stat2 rfl (g_gcd hG p4 p5 (by omega) (by omega)) (fun wp1077 hp1077 p1077 => ?_)
                obtain ⟨g, rfl, hg, e9⟩ := p1077
                obtain rfl := e9.symm
                have hg1 := Nat.gcd_pos_of_pos_right ((sSt (cNn (sOC (tA h 157) (fun i => tA h 121 (tA h 152 i).toNatClampNeg) k m) (sIx (tA h 154) (tA h 155)) (tvI (tF h 111 59)).toNatClampNeg) (cNn (sOF (tA h 157) (fun i => tA h 121 (tA h 152 i).toNatClampNeg) (tA h 158) k m) (sIx (tA h 154) (tA h 155)) (tvI (tF h 111 59)).toNatClampNeg) (cNn (sTC (tA h 157) (fun i => tA h 121 (tA h 152 i).toNatClampNeg) k m) (sIx (tA h 154) (tA h 155)) (tvI (tF h 111 59)).toNatClampNeg) (cNn (sTF (tA h 157) (fun i => tA h 121 (tA h 152 i).toNatClampNeg) (tA h 158) k m) (sIx (tA h 154) (tA h 155)) (tvI (tF h 111 59)).toNatClampNeg) t).1 * (cNn (sTC (tA h 157) (fun i => tA h 121 (tA h 152 i).toNatClampNeg) k m) (sIx (tA h 154) (tA h 155)) (tvI (tF h 111 59)).toNatClampNeg) t + (cNn (sOC (tA h 157) (fun i => tA h 121 (tA h 152 i).toNatClampNeg) k m) (sIx (tA h 154) (tA h 155)) (tvI (tF h 111 59)).toNatClampNeg) t * (cNn (sTF (tA h 157) (fun i => tA h 121 (tA h 152 i).toNatClampNeg) (tA h 158) k m) (sIx (tA h 154) (tA h 155)) (tvI (tF h 111 59)).toNatClampNeg) t * (sSt (cNn (sOC (tA h 157) (fun i => tA h 121 (tA h 152 i).toNatClampNeg) k m) (sIx (tA h 154) (tA h 155)) (tvI (tF h 111 59)).toNatClampNeg) (cNn (sOF (tA h 157) (fun i => tA h 121 (tA h 152 i).toNatClampNeg) (tA h 158) k m) (sIx (tA h 154) (tA h 155)) (tvI (tF h 111 59)).toNatClampNeg) (cNn (sTC (tA h 157) (fun i => tA h 121 (tA h 152 i).toNatClampNeg) k m) (sIx (tA h 154) (tA h 155)) (tvI (tF h 111 59)).toNatClampNeg) (cNn (sTF (tA h 157) (fun i => tA h 121 (tA h 152 i).toNatClampNeg) (tA h 158) k m) (sIx (tA h 154) (tA h 155)) (tvI (tF h 111 59)).toNatClampNeg) t).2.1) (Nat.mul_pos hq.1 (show 0 < (cNn (sTC (tA h 157) (fun i => tA h 121 (tA h 152 i).toNatClampNeg) k m) (sIx (tA h 154) (tA h 155)) (tvI (tF h 111 59)).toNatClampNeg) t by omega))
                refine tw_lstore rfl ?_
                refine tw_lload rfl rfl ?_
                refine tw_lload rfl rfl ?_
                refine tw_ldiv rfl (fun _ => ?_)
                refine tw_lstore rfl ?_
                refine tw_lload rfl rfl ?_
                refine tw_lload rfl rfl ?_
                refine tw_ldiv rfl (fun _ => ?_)
                refine tw_lstore rfl ?_
                refine tw_iinc rfl rfl ?_
                refine tw_goto rfl ?_
                have eS := sSt_1 (oC := (cNn (sOC (tA h 157) (fun i => tA h 121 (tA h 152 i).toNatClampNeg) k m) (sIx (tA h 154) (tA h 155)) (tvI (tF h 111 59)).toNatClampNeg)) (oF := (cNn (sOF (tA h 157) (fun i => tA h 121 (tA h 152 i).toNatClampNeg) (tA h 158) k m) (sIx (tA h 154) (tA h 155)) (tvI (tF h 111 59)).toNatClampNeg)) (tF := (cNn (sTF (tA h 157) (fun i => tA h 121 (tA h 152 i).toNatClampNeg) (tA h 158) k m) (sIx (tA h 154) (tA h 155)) (tvI (tF h 111 59)).toNatClampNeg)) hx0
                have d1 := zQuo p4 hg hg1 (by omega)
                have d2 := zQuo p5 hg hg1 (by omega)
                have sF := hq.2.2.2.1
                have sO := hq.2.2.2.2
                have l1 := sm_m (f := (cNn (sOC (tA h 157) (fun i => tA h 121 (tA h 152 i).toNatClampNeg) k m) (sIx (tA h 154) (tA h 155)) (tvI (tF h 111 59)).toNatClampNeg)) (show t ≤ 9 by omega)
                have l2 : sm (cNn (sOF (tA h 157) (fun i => tA h 121 (tA h 152 i).toNatClampNeg) (tA h 158) k m) (sIx (tA h 154) (tA h 155)) (tvI (tF h 111 59)).toNatClampNeg) t ≤ sm (cNn (sOC (tA h 157) (fun i => tA h 121 (tA h 152 i).toNatClampNeg) k m) (sIx (tA h 154) (tA h 155)) (tvI (tF h 111 59)).toNatClampNeg) t := sm_l (fun i => cNn_l (fun j _ => sOF_le)) t
                have l3 : (cNn (sOF (tA h 157) (fun i => tA h 121 (tA h 152 i).toNatClampNeg) (tA h 158) k m) (sIx (tA h 154) (tA h 155)) (tvI (tF h 111 59)).toNatClampNeg) t ≤ (cNn (sOC (tA h 157) (fun i => tA h 121 (tA h 152 i).toNatClampNeg) k m) (sIx (tA h 154) (tA h 155)) (tvI (tF h 111 59)).toNatClampNeg) t := cNn_l (fun j _ => sOF_le)
                have l4 := sm_m (f := (cNn (sOC (tA h 157) (fun i => tA h 121 (tA h 152 i).toNatClampNeg) k m) (sIx (tA h 154) (tA h 155)) (tvI (tF h 111 59)).toNatClampNeg)) (show t + 1 ≤ 9 by omega)
                have l5 : sm (cNn (sOC (tA h 157) (fun i => tA h 121 (tA h 152 i).toNatClampNeg) k m) (sIx (tA h 154) (tA h 155)) (tvI (tF h 111 59)).toNatClampNeg) (t + 1) = sm (cNn (sOC (tA h 157) (fun i => tA h 121 (tA h 152 i).toNatClampNeg) k m) (sIx (tA h 154) (tA h 155)) (tvI (tF h 111 59)).toNatClampNeg) t + (cNn (sOC (tA h 157) (fun i => tA h 121 (tA h 152 i).toNatClampNeg) k m) (sIx (tA h 154) (tA h 155)) (tvI (tF h 111 59)).toNatClampNeg) t := rfl
                have d3 := zLaN hs9 m160 (by omega)
                have d4 := zLaN ho m159 (by omega)
                exact tG_cut (zW_mono zTt G dp) (Or.inr ⟨rfl, rfl, _, t + 1, z + 1, _, _, _, _, _, _, rfl, hF, n159, n160, n161, n162, hz1, by omega, by rw [eS]; exact d1, by rw [eS]; exact d2, by rw [eS]; exact d3, by rw [eS]; exact d4, rfl⟩)
          · try dsimp only [tvI_i, tvJ_j, tvR_r] at q1064
            have zn := zof_cl hz
            have hz1 : (z + 1).toInt = ((n + 1 : Nat) : Int) := zincN hz (by omega)
            have e121 : tA h1 121 = tA h 121 := hF.2.2.2.2.2 121 (fun y => by have y : 159 ≤ 121 ∧ 121 ≤ 162 := y; omega)
            have e152 : tA h1 152 = tA h 152 := hF.2.2.2.2.2 152 (fun y => by have y : 159 ≤ 152 ∧ 152 ≤ 162 := y; omega)
            have e154 : tA h1 154 = tA h 154 := hF.2.2.2.2.2 154 (fun y => by have y : 159 ≤ 154 ∧ 154 ≤ 162 := y; omega)
            have e155 : tA h1 155 = tA h 155 := hF.2.2.2.2.2 155 (fun y => by have y : 159 ≤ 155 ∧ 155 ≤ 162 := y; omega)
            have e157 : tA h1 157 = tA h 157 := hF.2.2.2.2.2 157 (fun y => by have y : 159 ≤ 157 ∧ 157 ≤ 162 := y; omega)
            have e158 : tA h1 158 = tA h 158 := hF.2.2.2.2.2 158 (fun y => by have y : 159 ≤ 158 ∧ 158 ≤ 162 := y; omega)
            refine tw_aload rfl rfl ?_
            refine tw_getS rfl (hs_111_65 hF.1) ?_
            refine tw_iload rfl rfl ?_
            refine tw_iald rfl (fun f1078 => ?_)
            refine tw_iload rfl rfl ?_
            refine tw_ic_gt rfl (fun q1079 => ?_) (fun q1079 => ?_)
            · try dsimp only [tvI_i, tvJ_j, tvR_r] at q1079
              refine tw_iinc rfl rfl ?_
              refine tw_goto rfl ?_
              rw [zn, e157] at q1079
              refine tG_cut (zW_mono zTt G dp) (Or.inr ⟨rfl, rfl, h1, n + 1, z + 1, _, _, _, _, _, _, _, _, _, _, rfl, hF, hz1, by omega, fun t ht => ?_, fun t ht => ?_, fun t ht => ?_, fun t ht => ?_, rfl⟩)
              · rw [hall159 t ht, cN_n (fun _ => if_neg (fun y => absurd y.1 (by omega)))]
              · rw [hall160 t ht, cN_n (fun _ => if_neg (fun y => absurd y.1 (by omega)))]
              · rw [hall161 t ht, cN_n (fun _ => if_neg (fun y => absurd y.1 (by omega)))]
              · rw [hall162 t ht, cN_n (fun _ => if_neg (fun y => absurd y.1 (by omega)))]
            · try dsimp only [tvI_i, tvJ_j, tvR_r] at q1079
              refine tw_push rfl ?_
              refine tw_aload rfl rfl ?_
              refine tw_getS rfl (hs_111_62 hF.1) ?_
              refine tw_iload rfl rfl ?_
              refine tw_iald rfl (fun f1080 => ?_)
              refine tw_imul rfl ?_
              refine tw_aload rfl rfl ?_
              refine tw_getS rfl (hs_111_63 hF.1) ?_
              refine tw_iload rfl rfl ?_
              refine tw_iald rfl (fun f1081 => ?_)
              refine tw_push rfl ?_
              refine tw_ic_ge rfl (fun q1082 => ?_) (fun q1082 => ?_)
              · try dsimp only [tvI_i, tvJ_j, tvR_r] at q1082
                refine tw_aload rfl rfl ?_
                refine tw_getS rfl (hs_111_63 hF.1) ?_
                refine tw_iload rfl rfl ?_
                refine tw_iald rfl (fun f1083 => ?_)
                refine tw_push rfl ?_
                refine tw_ic_ge rfl (fun q1084 => ?_) (fun q1084 => ?_)
                · try dsimp only [tvI_i, tvJ_j, tvR_r] at q1084
                  refine tw_push rfl ?_
                  refine tw_iadd rfl ?_
                  refine tw_istore rfl ?_
                  have b54 := h154 n (by omega)
                  have b55 := h155 n (by omega)
                  have kb : (2 : Int32).toInt = 2 := rfl
                  have k50 : (50 : Int32).toInt = 50 := rfl
                  have k100 : (100 : Int32).toInt = 100 := rfl
                  have s0 := q1082
                  have s1 := q1084
                  rw [zn, e155] at s0
                  rw [zn, e155] at s1
                  have sb : sIb (tA h 155 n).toInt = 2 := (if_neg (by omega)).trans (if_neg (by omega))
                  have hix : (3 * tA h1 154 z.toNatClampNeg + 2).toInt = (sIx (tA h 154) (tA h 155)) n := by
                    rw [zn, e154, zadI (by rw [(zmu3 b54).2, kb]; omega), (zmu3 b54).2, kb]
                    show _ = 3 * (tA h 154 n).toInt + sIb (tA h 155 n).toInt
                    rw [sb]
                  have hi0 : 0 ≤ (sIx (tA h 154) (tA h 155)) n ∧ (sIx (tA h 154) (tA h 155)) n ≤ 8 := by have s5 := sIb_b (tA h 155 n).toInt; unfold sIx; omega
                  refine tw_aload rfl rfl ?_
                  refine tw_getS rfl (hs_111_16 hF.1) ?_
                  refine tw_aload rfl rfl ?_
                  refine tw_getS rfl (hs_111_60 hF.1) ?_
                  refine tw_iload rfl rfl ?_
                  refine tw_iald rfl (fun f1085 => ?_)
                  refine tw_iald rfl (fun f1086 => ?_)
                  refine tw_iload rfl rfl ?_
                  refine tw_ic_ne rfl (fun q1087 => ?_) (fun q1087 => ?_)
                  · try dsimp only [tvI_i, tvJ_j, tvR_r] at q1087
                    have q1087i := zneq rfl q1087
                    refine tw_push rfl ?_
                    refine tw_istore rfl ?_
                    refine tw_aload rfl rfl ?_
                    refine tw_getS rfl (hs_111_66 hF.1) ?_
                    refine tw_iload rfl rfl ?_
                    refine tw_bald rfl (fun f1088 => ?_)
                    refine tw_if_eq rfl (fun q1089 => ?_) (fun q1089 => ?_)
                    · try dsimp only [tvI_i, tvJ_j, tvR_r] at q1089
                      have q1089i := zeqi (Y := 0) (by decide) q1089
                      refine tw_push rfl ?_
                      refine tw_istore rfl ?_
                      refine tw_aload rfl rfl ?_
                      refine tw_getS rfl (hs_111_67 hF.1) ?_
                      refine tw_iload rfl rfl ?_
                      refine tw_dup2 rfl ?_
                      refine tw_iald rfl (fun f1090 => ?_)
                      refine tw_iload rfl rfl ?_
                      refine tw_if_eq rfl (fun _ => ?_) (fun z => absurd z (by decide))
                      refine tw_push rfl ?_
                      refine tw_iadd rfl ?_
                      refine tw_iast rfl (fun f1091 => ?_)
                      refine tG_lsi f1091 hF.1 (fun g159 a159 => ?_)
                      try dsimp only [tvI_i, tvJ_j, tvR_r] at a159
                      have hF159 := aFr_s hF a159 (show 159 ≤ 159 ∧ 159 ≤ 162 by decide)
                      refine tw_aload rfl rfl ?_
                      refine tw_getS rfl (hs_111_68 hF159.1) ?_
                      refine tw_iload rfl rfl ?_
                      refine tw_dup2 rfl ?_
                      refine tw_iald rfl (fun f1092 => ?_)
                      refine tw_iload rfl rfl ?_
                      refine tw_if_eq rfl (fun _ => ?_) (fun z => absurd z (by decide))
                      refine tw_push rfl ?_
                      refine tw_iadd rfl ?_
                      refine tw_iast rfl (fun f1093 => ?_)
                      refine tG_lsi f1093 hF159.1 (fun g160 a160 => ?_)
                      try dsimp only [tvI_i, tvJ_j, tvR_r] at a160
                      have hF160 := aFr_s hF159 a160 (show 159 ≤ 160 ∧ 160 ≤ 162 by decide)
                      refine tw_aload rfl rfl ?_
                      refine tw_getS rfl (hs_111_69 hF160.1) ?_
                      refine tw_iload rfl rfl ?_
                      refine tw_dup2 rfl ?_
                      refine tw_iald rfl (fun f1094 => ?_)
                      refine tw_iload rfl rfl ?_
                      refine tw_if_eq rfl (fun _ => ?_) (fun z => absurd z (by decide))
                      refine tw_push rfl ?_
                      refine tw_iadd rfl ?_
                      refine tw_iast rfl (fun f1095 => ?_)
                      refine tG_lsi f1095 hF160.1 (fun g161 a161 => ?_)
                      try dsimp only [tvI_i, tvJ_j, tvR_r] at a161
                      have hF161 := aFr_s hF160 a161 (show 159 ≤ 161 ∧ 161 ≤ 162 by decide)
                      refine tw_aload rfl rfl ?_
                      refine tw_getS rfl (hs_111_70 hF161.1) ?_
                      refine tw_iload rfl rfl ?_
                      refine tw_dup2 rfl ?_
                      refine tw_iald rfl (fun f1096 => ?_)
                      refine tw_iload rfl rfl ?_
                      refine tw_if_eq rfl (fun _ => ?_) (fun z => absurd z (by decide))
                      refine tw_iload rfl rfl ?_
                      refine tw_iadd rfl ?_
                      refine tw_iast rfl (fun f1097 => ?_)
                      refine tG_lsi f1097 hF161.1 (fun g162 a162 => ?_)
                      try dsimp only [tvI_i, tvJ_j, tvR_r] at a162
                      have hF162 := aFr_s hF161 a162 (show 159 ≤ 162 ∧ 162 ≤ 162 by decide)
                      refine tw_iinc rfl rfl ?_
                      refine tw_goto rfl ?_
                      rw [zn, e157] at q1079
                      rw [zn, e121, e152] at q1087
                      rw [zn, e158] at q1089
                      have le9 : (tA h 157 n).toInt ≤ m.toInt := by omega
                      have hxn := zof_cl (x := (3 * tA h1 154 z.toNatClampNeg + 2)) (n := ((sIx (tA h 154) (tA h 155)) n).toNat) (by rw [hix]; omega)
                      rw [hxn] at a159
                      rw [hxn] at a160
                      rw [hxn] at a161
                      rw [hxn] at a162
                      have tix : (sIx (tA h 154) (tA h 155)) n = ((((sIx (tA h 154) (tA h 155)) n).toNat : Nat) : Int) := by omega
                      have w159 : (sOC (tA h 157) (fun i => tA h 121 (tA h 152 i).toNatClampNeg) k m) n = 0 := if_neg (fun y => q1087 y.2)
                      have c159 := cN_b (w := sOC (tA h 157) (fun i => tA h 121 (tA h 152 i).toNatClampNeg) k m) (B := 1) (tl := (sIx (tA h 154) (tA h 155))) (n := n) (fun i _ => s01) (by decide) ((sIx (tA h 154) (tA h 155)) n).toNat
                      have w160 : (sOF (tA h 157) (fun i => tA h 121 (tA h 152 i).toNatClampNeg) (tA h 158) k m) n = 0 := if_neg (fun y => q1087 y.2.1)
                      have c160 := cN_b (w := sOF (tA h 157) (fun i => tA h 121 (tA h 152 i).toNatClampNeg) (tA h 158) k m) (B := 1) (tl := (sIx (tA h 154) (tA h 155))) (n := n) (fun i _ => s01) (by decide) ((sIx (tA h 154) (tA h 155)) n).toNat
                      have w161 : (sTC (tA h 157) (fun i => tA h 121 (tA h 152 i).toNatClampNeg) k m) n = 1 := if_pos ⟨le9, q1087⟩
                      have c161 := cN_b (w := sTC (tA h 157) (fun i => tA h 121 (tA h 152 i).toNatClampNeg) k m) (B := 1) (tl := (sIx (tA h 154) (tA h 155))) (n := n) (fun i _ => s01) (by decide) ((sIx (tA h 154) (tA h 155)) n).toNat
                      have w162 : (sTF (tA h 157) (fun i => tA h 121 (tA h 152 i).toNatClampNeg) (tA h 158) k m) n = 0 := if_neg (fun y => y.2.2 q1089)
                      have c162 := cN_b (w := sTF (tA h 157) (fun i => tA h 121 (tA h 152 i).toNatClampNeg) (tA h 158) k m) (B := 1) (tl := (sIx (tA h 154) (tA h 155))) (n := n) (fun i _ => s01) (by decide) ((sIx (tA h 154) (tA h 155)) n).toNat
                      refine tG_cut (zW_mono zTt G dp) (Or.inr ⟨rfl, rfl, g162, n + 1, z + 1, _, _, _, _, _, _, _, _, _, _, rfl, hF162, hz1, by omega, fun t ht => ?_, fun t ht => ?_, fun t ht => ?_, fun t ht => ?_, rfl⟩)
                      · rw [mIs_o a162 (Or.inl (by decide)), mIs_o a161 (Or.inl (by decide)), mIs_o a160 (Or.inl (by decide))]
                        by_cases y : t = ((sIx (tA h 154) (tA h 155)) n).toNat
                        · rw [y, mIs_x a159, cN_y tix, w159]
                          exact zadU (hall159 _ (by omega)) rfl (by omega)
                        · rw [mIs_o a159 (Or.inr y), hall159 t ht, cN_n (fun y2 => absurd (by omega) y)]
                      · rw [mIs_o a162 (Or.inl (by decide)), mIs_o a161 (Or.inl (by decide))]
                        by_cases y : t = ((sIx (tA h 154) (tA h 155)) n).toNat
                        · rw [y, mIs_x a160, cN_y tix, w160]
                          exact zadU ((congrArg Int32.toInt (mIs_o a159 (Or.inl (by decide)))).trans (hall160 _ (by omega))) rfl (by omega)
                        · rw [mIs_o a160 (Or.inr y), mIs_o a159 (Or.inl (by decide)), hall160 t ht, cN_n (fun y2 => absurd (by omega) y)]
                      · rw [mIs_o a162 (Or.inl (by decide))]
                        by_cases y : t = ((sIx (tA h 154) (tA h 155)) n).toNat
                        · rw [y, mIs_x a161, cN_y tix, w161]
                          exact zadU ((congrArg Int32.toInt (mIs_o a160 (Or.inl (by decide)))).trans ((congrArg Int32.toInt (mIs_o a159 (Or.inl (by decide)))).trans (hall161 _ (by omega)))) rfl (by omega)
                        · rw [mIs_o a161 (Or.inr y), mIs_o a160 (Or.inl (by decide)), mIs_o a159 (Or.inl (by decide)), hall161 t ht, cN_n (fun y2 => absurd (by omega) y)]
                      · skip
                        by_cases y : t = ((sIx (tA h 154) (tA h 155)) n).toNat
                        · rw [y, mIs_x a162, cN_y tix, w162]
                          exact zadU ((congrArg Int32.toInt (mIs_o a161 (Or.inl (by decide)))).trans ((congrArg Int32.toInt (mIs_o a160 (Or.inl (by decide)))).trans ((congrArg Int32.toInt (mIs_o a159 (Or.inl (by decide)))).trans (hall162 _ (by omega))))) rfl (by omega)
                        · rw [mIs_o a162 (Or.inr y), mIs_o a161 (Or.inl (by decide)), mIs_o a160 (Or.inl (by decide)), mIs_o a159 (Or.inl (by decide)), hall162 t ht, cN_n (fun y2 => absurd (by omega) y)]
                    · try dsimp only [tvI_i, tvJ_j, tvR_r] at q1089
                      have q1089i := zneq (Y := 0) (by decide) q1089
                      refine tw_push rfl ?_
                      refine tw_goto rfl ?_
                      refine tw_istore rfl ?_
                      refine tw_aload rfl rfl ?_
                      refine tw_getS rfl (hs_111_67 hF.1) ?_
                      refine tw_iload rfl rfl ?_
                      refine tw_dup2 rfl ?_
                      refine tw_iald rfl (fun f1098 => ?_)
                      refine tw_iload rfl rfl ?_
                      refine tw_if_eq rfl (fun _ => ?_) (fun z => absurd z (by decide))
                      refine tw_push rfl ?_
                      refine tw_iadd rfl ?_
                      refine tw_iast rfl (fun f1099 => ?_)
                      refine tG_lsi f1099 hF.1 (fun g159 a159 => ?_)
                      try dsimp only [tvI_i, tvJ_j, tvR_r] at a159
                      have hF159 := aFr_s hF a159 (show 159 ≤ 159 ∧ 159 ≤ 162 by decide)
                      refine tw_aload rfl rfl ?_
                      refine tw_getS rfl (hs_111_68 hF159.1) ?_
                      refine tw_iload rfl rfl ?_
                      refine tw_dup2 rfl ?_
                      refine tw_iald rfl (fun f1100 => ?_)
                      refine tw_iload rfl rfl ?_
                      refine tw_if_eq rfl (fun _ => ?_) (fun z => absurd z (by decide))
                      refine tw_push rfl ?_
                      refine tw_iadd rfl ?_
                      refine tw_iast rfl (fun f1101 => ?_)
                      refine tG_lsi f1101 hF159.1 (fun g160 a160 => ?_)
                      try dsimp only [tvI_i, tvJ_j, tvR_r] at a160
                      have hF160 := aFr_s hF159 a160 (show 159 ≤ 160 ∧ 160 ≤ 162 by decide)
                      refine tw_aload rfl rfl ?_
                      refine tw_getS rfl (hs_111_69 hF160.1) ?_
                      refine tw_iload rfl rfl ?_
                      refine tw_dup2 rfl ?_
                      refine tw_iald rfl (fun f1102 => ?_)
                      refine tw_iload rfl rfl ?_
                      refine tw_if_eq rfl (fun _ => ?_) (fun z => absurd z (by decide))
                      refine tw_push rfl ?_
                      refine tw_iadd rfl ?_
                      refine tw_iast rfl (fun f1103 => ?_)
                      refine tG_lsi f1103 hF160.1 (fun g161 a161 => ?_)
                      try dsimp only [tvI_i, tvJ_j, tvR_r] at a161
                      have hF161 := aFr_s hF160 a161 (show 159 ≤ 161 ∧ 161 ≤ 162 by decide)
                      refine tw_aload rfl rfl ?_
                      refine tw_getS rfl (hs_111_70 hF161.1) ?_
                      refine tw_iload rfl rfl ?_
                      refine tw_dup2 rfl ?_
                      refine tw_iald rfl (fun f1104 => ?_)
                      refine tw_iload rfl rfl ?_
                      refine tw_if_eq rfl (fun _ => ?_) (fun z => absurd z (by decide))
                      refine tw_iload rfl rfl ?_
                      refine tw_iadd rfl ?_
                      refine tw_iast rfl (fun f1105 => ?_)
                      refine tG_lsi f1105 hF161.1 (fun g162 a162 => ?_)
                      try dsimp only [tvI_i, tvJ_j, tvR_r] at a162
                      have hF162 := aFr_s hF161 a162 (show 159 ≤ 162 ∧ 162 ≤ 162 by decide)
                      refine tw_iinc rfl rfl ?_
                      refine tw_goto rfl ?_
                      rw [zn, e157] at q1079
                      rw [zn, e121, e152] at q1087
                      rw [zn, e158] at q1089
                      have le9 : (tA h 157 n).toInt ≤ m.toInt := by omega
                      have hxn := zof_cl (x := (3 * tA h1 154 z.toNatClampNeg + 2)) (n := ((sIx (tA h 154) (tA h 155)) n).toNat) (by rw [hix]; omega)
                      rw [hxn] at a159
                      rw [hxn] at a160
                      rw [hxn] at a161
                      rw [hxn] at a162
                      have tix : (sIx (tA h 154) (tA h 155)) n = ((((sIx (tA h 154) (tA h 155)) n).toNat : Nat) : Int) := by omega
                      have w159 : (sOC (tA h 157) (fun i => tA h 121 (tA h 152 i).toNatClampNeg) k m) n = 0 := if_neg (fun y => q1087 y.2)
                      have c159 := cN_b (w := sOC (tA h 157) (fun i => tA h 121 (tA h 152 i).toNatClampNeg) k m) (B := 1) (tl := (sIx (tA h 154) (tA h 155))) (n := n) (fun i _ => s01) (by decide) ((sIx (tA h 154) (tA h 155)) n).toNat
                      have w160 : (sOF (tA h 157) (fun i => tA h 121 (tA h 152 i).toNatClampNeg) (tA h 158) k m) n = 0 := if_neg (fun y => q1087 y.2.1)
                      have c160 := cN_b (w := sOF (tA h 157) (fun i => tA h 121 (tA h 152 i).toNatClampNeg) (tA h 158) k m) (B := 1) (tl := (sIx (tA h 154) (tA h 155))) (n := n) (fun i _ => s01) (by decide) ((sIx (tA h 154) (tA h 155)) n).toNat
                      have w161 : (sTC (tA h 157) (fun i => tA h 121 (tA h 152 i).toNatClampNeg) k m) n = 1 := if_pos ⟨le9, q1087⟩
                      have c161 := cN_b (w := sTC (tA h 157) (fun i => tA h 121 (tA h 152 i).toNatClampNeg) k m) (B := 1) (tl := (sIx (tA h 154) (tA h 155))) (n := n) (fun i _ => s01) (by decide) ((sIx (tA h 154) (tA h 155)) n).toNat
                      have w162 : (sTF (tA h 157) (fun i => tA h 121 (tA h 152 i).toNatClampNeg) (tA h 158) k m) n = 1 := if_pos ⟨le9, q1087, q1089⟩
                      have c162 := cN_b (w := sTF (tA h 157) (fun i => tA h 121 (tA h 152 i).toNatClampNeg) (tA h 158) k m) (B := 1) (tl := (sIx (tA h 154) (tA h 155))) (n := n) (fun i _ => s01) (by decide) ((sIx (tA h 154) (tA h 155)) n).toNat
                      refine tG_cut (zW_mono zTt G dp) (Or.inr ⟨rfl, rfl, g162, n + 1, z + 1, _, _, _, _, _, _, _, _, _, _, rfl, hF162, hz1, by omega, fun t ht => ?_, fun t ht => ?_, fun t ht => ?_, fun t ht => ?_, rfl⟩)
                      · rw [mIs_o a162 (Or.inl (by decide)), mIs_o a161 (Or.inl (by decide)), mIs_o a160 (Or.inl (by decide))]
                        by_cases y : t = ((sIx (tA h 154) (tA h 155)) n).toNat
                        · rw [y, mIs_x a159, cN_y tix, w159]
                          exact zadU (hall159 _ (by omega)) rfl (by omega)
                        · rw [mIs_o a159 (Or.inr y), hall159 t ht, cN_n (fun y2 => absurd (by omega) y)]
                      · rw [mIs_o a162 (Or.inl (by decide)), mIs_o a161 (Or.inl (by decide))]
                        by_cases y : t = ((sIx (tA h 154) (tA h 155)) n).toNat
                        · rw [y, mIs_x a160, cN_y tix, w160]
                          exact zadU ((congrArg Int32.toInt (mIs_o a159 (Or.inl (by decide)))).trans (hall160 _ (by omega))) rfl (by omega)
                        · rw [mIs_o a160 (Or.inr y), mIs_o a159 (Or.inl (by decide)), hall160 t ht, cN_n (fun y2 => absurd (by omega) y)]
                      · rw [mIs_o a162 (Or.inl (by decide))]
                        by_cases y : t = ((sIx (tA h 154) (tA h 155)) n).toNat
                        · rw [y, mIs_x a161, cN_y tix, w161]
                          exact zadU ((congrArg Int32.toInt (mIs_o a160 (Or.inl (by decide)))).trans ((congrArg Int32.toInt (mIs_o a159 (Or.inl (by decide)))).trans (hall161 _ (by omega)))) rfl (by omega)
                        · rw [mIs_o a161 (Or.inr y), mIs_o a160 (Or.inl (by decide)), mIs_o a159 (Or.inl (by decide)), hall161 t ht, cN_n (fun y2 => absurd (by omega) y)]
                      · skip
                        by_cases y : t = ((sIx (tA h 154) (tA h 155)) n).toNat
                        · rw [y, mIs_x a162, cN_y tix, w162]
                          exact zadU ((congrArg Int32.toInt (mIs_o a161 (Or.inl (by decide)))).trans ((congrArg Int32.toInt (mIs_o a160 (Or.inl (by decide)))).trans ((congrArg Int32.toInt (mIs_o a159 (Or.inl (by decide)))).trans (hall162 _ (by omega))))) rfl (by omega)
                        · rw [mIs_o a162 (Or.inr y), mIs_o a161 (Or.inl (by decide)), mIs_o a160 (Or.inl (by decide)), mIs_o a159 (Or.inl (by decide)), hall162 t ht, cN_n (fun y2 => absurd (by omega) y)]
                  · try dsimp only [tvI_i, tvJ_j, tvR_r] at q1087
                    have q1087i := zeqi rfl q1087
                    refine tw_push rfl ?_
                    refine tw_goto rfl ?_
                    refine tw_istore rfl ?_
                    refine tw_aload rfl rfl ?_
                    refine tw_getS rfl (hs_111_66 hF.1) ?_
                    refine tw_iload rfl rfl ?_
                    refine tw_bald rfl (fun f1106 => ?_)
                    refine tw_if_eq rfl (fun q1107 => ?_) (fun q1107 => ?_)
                    · try dsimp only [tvI_i, tvJ_j, tvR_r] at q1107
                      have q1107i := zeqi (Y := 0) (by decide) q1107
                      refine tw_push rfl ?_
                      refine tw_istore rfl ?_
                      refine tw_aload rfl rfl ?_
                      refine tw_getS rfl (hs_111_67 hF.1) ?_
                      refine tw_iload rfl rfl ?_
                      refine tw_dup2 rfl ?_
                      refine tw_iald rfl (fun f1108 => ?_)
                      refine tw_iload rfl rfl ?_
                      refine tw_if_eq rfl (fun z => absurd z (by decide)) (fun _ => ?_)
                      refine tw_push rfl ?_
                      refine tw_goto rfl ?_
                      refine tw_iadd rfl ?_
                      refine tw_iast rfl (fun f1109 => ?_)
                      refine tG_lsi f1109 hF.1 (fun g159 a159 => ?_)
                      try dsimp only [tvI_i, tvJ_j, tvR_r] at a159
                      have hF159 := aFr_s hF a159 (show 159 ≤ 159 ∧ 159 ≤ 162 by decide)
                      refine tw_aload rfl rfl ?_
                      refine tw_getS rfl (hs_111_68 hF159.1) ?_
                      refine tw_iload rfl rfl ?_
                      refine tw_dup2 rfl ?_
                      refine tw_iald rfl (fun f1110 => ?_)
                      refine tw_iload rfl rfl ?_
                      refine tw_if_eq rfl (fun z => absurd z (by decide)) (fun _ => ?_)
                      refine tw_iload rfl rfl ?_
                      refine tw_goto rfl ?_
                      refine tw_iadd rfl ?_
                      refine tw_iast rfl (fun f1111 => ?_)
                      refine tG_lsi f1111 hF159.1 (fun g160 a160 => ?_)
                      try dsimp only [tvI_i, tvJ_j, tvR_r] at a160
                      have hF160 := aFr_s hF159 a160 (show 159 ≤ 160 ∧ 160 ≤ 162 by decide)
                      refine tw_aload rfl rfl ?_
                      refine tw_getS rfl (hs_111_69 hF160.1) ?_
                      refine tw_iload rfl rfl ?_
                      refine tw_dup2 rfl ?_
                      refine tw_iald rfl (fun f1112 => ?_)
                      refine tw_iload rfl rfl ?_
                      refine tw_if_eq rfl (fun z => absurd z (by decide)) (fun _ => ?_)
                      refine tw_push rfl ?_
                      refine tw_goto rfl ?_
                      refine tw_iadd rfl ?_
                      refine tw_iast rfl (fun f1113 => ?_)
                      refine tG_lsi f1113 hF160.1 (fun g161 a161 => ?_)
                      try dsimp only [tvI_i, tvJ_j, tvR_r] at a161
                      have hF161 := aFr_s hF160 a161 (show 159 ≤ 161 ∧ 161 ≤ 162 by decide)
                      refine tw_aload rfl rfl ?_
                      refine tw_getS rfl (hs_111_70 hF161.1) ?_
                      refine tw_iload rfl rfl ?_
                      refine tw_dup2 rfl ?_
                      refine tw_iald rfl (fun f1114 => ?_)
                      refine tw_iload rfl rfl ?_
                      refine tw_if_eq rfl (fun z => absurd z (by decide)) (fun _ => ?_)
                      refine tw_push rfl ?_
                      refine tw_goto rfl ?_
                      refine tw_iadd rfl ?_
                      refine tw_iast rfl (fun f1115 => ?_)
                      refine tG_lsi f1115 hF161.1 (fun g162 a162 => ?_)
                      try dsimp only [tvI_i, tvJ_j, tvR_r] at a162
                      have hF162 := aFr_s hF161 a162 (show 159 ≤ 162 ∧ 162 ≤ 162 by decide)
                      refine tw_iinc rfl rfl ?_
                      refine tw_goto rfl ?_
                      rw [zn, e157] at q1079
                      rw [zn, e121, e152] at q1087
                      rw [zn, e158] at q1107
                      have le9 : (tA h 157 n).toInt ≤ m.toInt := by omega
                      have hxn := zof_cl (x := (3 * tA h1 154 z.toNatClampNeg + 2)) (n := ((sIx (tA h 154) (tA h 155)) n).toNat) (by rw [hix]; omega)
                      rw [hxn] at a159
                      rw [hxn] at a160
                      rw [hxn] at a161
                      rw [hxn] at a162
                      have tix : (sIx (tA h 154) (tA h 155)) n = ((((sIx (tA h 154) (tA h 155)) n).toNat : Nat) : Int) := by omega
                      have w159 : (sOC (tA h 157) (fun i => tA h 121 (tA h 152 i).toNatClampNeg) k m) n = 1 := if_pos ⟨le9, q1087⟩
                      have c159 := cN_b (w := sOC (tA h 157) (fun i => tA h 121 (tA h 152 i).toNatClampNeg) k m) (B := 1) (tl := (sIx (tA h 154) (tA h 155))) (n := n) (fun i _ => s01) (by decide) ((sIx (tA h 154) (tA h 155)) n).toNat
                      have w160 : (sOF (tA h 157) (fun i => tA h 121 (tA h 152 i).toNatClampNeg) (tA h 158) k m) n = 0 := if_neg (fun y => y.2.2 q1107)
                      have c160 := cN_b (w := sOF (tA h 157) (fun i => tA h 121 (tA h 152 i).toNatClampNeg) (tA h 158) k m) (B := 1) (tl := (sIx (tA h 154) (tA h 155))) (n := n) (fun i _ => s01) (by decide) ((sIx (tA h 154) (tA h 155)) n).toNat
                      have w161 : (sTC (tA h 157) (fun i => tA h 121 (tA h 152 i).toNatClampNeg) k m) n = 0 := if_neg (fun y => y.2 q1087)
                      have c161 := cN_b (w := sTC (tA h 157) (fun i => tA h 121 (tA h 152 i).toNatClampNeg) k m) (B := 1) (tl := (sIx (tA h 154) (tA h 155))) (n := n) (fun i _ => s01) (by decide) ((sIx (tA h 154) (tA h 155)) n).toNat
                      have w162 : (sTF (tA h 157) (fun i => tA h 121 (tA h 152 i).toNatClampNeg) (tA h 158) k m) n = 0 := if_neg (fun y => y.2.1 q1087)
                      have c162 := cN_b (w := sTF (tA h 157) (fun i => tA h 121 (tA h 152 i).toNatClampNeg) (tA h 158) k m) (B := 1) (tl := (sIx (tA h 154) (tA h 155))) (n := n) (fun i _ => s01) (by decide) ((sIx (tA h 154) (tA h 155)) n).toNat
                      refine tG_cut (zW_mono zTt G dp) (Or.inr ⟨rfl, rfl, g162, n + 1, z + 1, _, _, _, _, _, _, _, _, _, _, rfl, hF162, hz1, by omega, fun t ht => ?_, fun t ht => ?_, fun t ht => ?_, fun t ht => ?_, rfl⟩)
                      · rw [mIs_o a162 (Or.inl (by decide)), mIs_o a161 (Or.inl (by decide)), mIs_o a160 (Or.inl (by decide))]
                        by_cases y : t = ((sIx (tA h 154) (tA h 155)) n).toNat
                        · rw [y, mIs_x a159, cN_y tix, w159]
                          exact zadU (hall159 _ (by omega)) rfl (by omega)
                        · rw [mIs_o a159 (Or.inr y), hall159 t ht, cN_n (fun y2 => absurd (by omega) y)]
                      · rw [mIs_o a162 (Or.inl (by decide)), mIs_o a161 (Or.inl (by decide))]
                        by_cases y : t = ((sIx (tA h 154) (tA h 155)) n).toNat
                        · rw [y, mIs_x a160, cN_y tix, w160]
                          exact zadU ((congrArg Int32.toInt (mIs_o a159 (Or.inl (by decide)))).trans (hall160 _ (by omega))) rfl (by omega)
                        · rw [mIs_o a160 (Or.inr y), mIs_o a159 (Or.inl (by decide)), hall160 t ht, cN_n (fun y2 => absurd (by omega) y)]
                      · rw [mIs_o a162 (Or.inl (by decide))]
                        by_cases y : t = ((sIx (tA h 154) (tA h 155)) n).toNat
                        · rw [y, mIs_x a161, cN_y tix, w161]
                          exact zadU ((congrArg Int32.toInt (mIs_o a160 (Or.inl (by decide)))).trans ((congrArg Int32.toInt (mIs_o a159 (Or.inl (by decide)))).trans (hall161 _ (by omega)))) rfl (by omega)
                        · rw [mIs_o a161 (Or.inr y), mIs_o a160 (Or.inl (by decide)), mIs_o a159 (Or.inl (by decide)), hall161 t ht, cN_n (fun y2 => absurd (by omega) y)]
                      · skip
                        by_cases y : t = ((sIx (tA h 154) (tA h 155)) n).toNat
                        · rw [y, mIs_x a162, cN_y tix, w162]
                          exact zadU ((congrArg Int32.toInt (mIs_o a161 (Or.inl (by decide)))).trans ((congrArg Int32.toInt (mIs_o a160 (Or.inl (by decide)))).trans ((congrArg Int32.toInt (mIs_o a159 (Or.inl (by decide)))).trans (hall162 _ (by omega))))) rfl (by omega)
                        · rw [mIs_o a162 (Or.inr y), mIs_o a161 (Or.inl (by decide)), mIs_o a160 (Or.inl (by decide)), mIs_o a159 (Or.inl (by decide)), hall162 t ht, cN_n (fun y2 => absurd (by omega) y)]
                    · try dsimp only [tvI_i, tvJ_j, tvR_r] at q1107
                      have q1107i := zneq (Y := 0) (by decide) q1107
                      refine tw_push rfl ?_
                      refine tw_goto rfl ?_
                      refine tw_istore rfl ?_
                      refine tw_aload rfl rfl ?_
                      refine tw_getS rfl (hs_111_67 hF.1) ?_
                      refine tw_iload rfl rfl ?_
                      refine tw_dup2 rfl ?_
                      refine tw_iald rfl (fun f1116 => ?_)
                      refine tw_iload rfl rfl ?_
                      refine tw_if_eq rfl (fun z => absurd z (by decide)) (fun _ => ?_)
                      refine tw_push rfl ?_
                      refine tw_goto rfl ?_
                      refine tw_iadd rfl ?_
                      refine tw_iast rfl (fun f1117 => ?_)
                      refine tG_lsi f1117 hF.1 (fun g159 a159 => ?_)
                      try dsimp only [tvI_i, tvJ_j, tvR_r] at a159
                      have hF159 := aFr_s hF a159 (show 159 ≤ 159 ∧ 159 ≤ 162 by decide)
                      refine tw_aload rfl rfl ?_
                      refine tw_getS rfl (hs_111_68 hF159.1) ?_
                      refine tw_iload rfl rfl ?_
                      refine tw_dup2 rfl ?_
                      refine tw_iald rfl (fun f1118 => ?_)
                      refine tw_iload rfl rfl ?_
                      refine tw_if_eq rfl (fun z => absurd z (by decide)) (fun _ => ?_)
                      refine tw_iload rfl rfl ?_
                      refine tw_goto rfl ?_
                      refine tw_iadd rfl ?_
                      refine tw_iast rfl (fun f1119 => ?_)
                      refine tG_lsi f1119 hF159.1 (fun g160 a160 => ?_)
                      try dsimp only [tvI_i, tvJ_j, tvR_r] at a160
                      have hF160 := aFr_s hF159 a160 (show 159 ≤ 160 ∧ 160 ≤ 162 by decide)
                      refine tw_aload rfl rfl ?_
                      refine tw_getS rfl (hs_111_69 hF160.1) ?_
                      refine tw_iload rfl rfl ?_
                      refine tw_dup2 rfl ?_
                      refine tw_iald rfl (fun f1120 => ?_)
                      refine tw_iload rfl rfl ?_
                      refine tw_if_eq rfl (fun z => absurd z (by decide)) (fun _ => ?_)
                      refine tw_push rfl ?_
                      refine tw_goto rfl ?_
                      refine tw_iadd rfl ?_
                      refine tw_iast rfl (fun f1121 => ?_)
                      refine tG_lsi f1121 hF160.1 (fun g161 a161 => ?_)
                      try dsimp only [tvI_i, tvJ_j, tvR_r] at a161
                      have hF161 := aFr_s hF160 a161 (show 159 ≤ 161 ∧ 161 ≤ 162 by decide)
                      refine tw_aload rfl rfl ?_
                      refine tw_getS rfl (hs_111_70 hF161.1) ?_
                      refine tw_iload rfl rfl ?_
                      refine tw_dup2 rfl ?_
                      refine tw_iald rfl (fun f1122 => ?_)
                      refine tw_iload rfl rfl ?_
                      refine tw_if_eq rfl (fun z => absurd z (by decide)) (fun _ => ?_)
                      refine tw_push rfl ?_
                      refine tw_goto rfl ?_
                      refine tw_iadd rfl ?_
                      refine tw_iast rfl (fun f1123 => ?_)
                      refine tG_lsi f1123 hF161.1 (fun g162 a162 => ?_)
                      try dsimp only [tvI_i, tvJ_j, tvR_r] at a162
                      have hF162 := aFr_s hF161 a162 (show 159 ≤ 162 ∧ 162 ≤ 162 by decide)
                      refine tw_iinc rfl rfl ?_
                      refine tw_goto rfl ?_
                      rw [zn, e157] at q1079
                      rw [zn, e121, e152] at q1087
                      rw [zn, e158] at q1107
                      have le9 : (tA h 157 n).toInt ≤ m.toInt := by omega
                      have hxn := zof_cl (x := (3 * tA h1 154 z.toNatClampNeg + 2)) (n := ((sIx (tA h 154) (tA h 155)) n).toNat) (by rw [hix]; omega)
                      rw [hxn] at a159
                      rw [hxn] at a160
                      rw [hxn] at a161
                      rw [hxn] at a162
                      have tix : (sIx (tA h 154) (tA h 155)) n = ((((sIx (tA h 154) (tA h 155)) n).toNat : Nat) : Int) := by omega
                      have w159 : (sOC (tA h 157) (fun i => tA h 121 (tA h 152 i).toNatClampNeg) k m) n = 1 := if_pos ⟨le9, q1087⟩
                      have c159 := cN_b (w := sOC (tA h 157) (fun i => tA h 121 (tA h 152 i).toNatClampNeg) k m) (B := 1) (tl := (sIx (tA h 154) (tA h 155))) (n := n) (fun i _ => s01) (by decide) ((sIx (tA h 154) (tA h 155)) n).toNat
                      have w160 : (sOF (tA h 157) (fun i => tA h 121 (tA h 152 i).toNatClampNeg) (tA h 158) k m) n = 1 := if_pos ⟨le9, q1087, q1107⟩
                      have c160 := cN_b (w := sOF (tA h 157) (fun i => tA h 121 (tA h 152 i).toNatClampNeg) (tA h 158) k m) (B := 1) (tl := (sIx (tA h 154) (tA h 155))) (n := n) (fun i _ => s01) (by decide) ((sIx (tA h 154) (tA h 155)) n).toNat
                      have w161 : (sTC (tA h 157) (fun i => tA h 121 (tA h 152 i).toNatClampNeg) k m) n = 0 := if_neg (fun y => y.2 q1087)
                      have c161 := cN_b (w := sTC (tA h 157) (fun i => tA h 121 (tA h 152 i).toNatClampNeg) k m) (B := 1) (tl := (sIx (tA h 154) (tA h 155))) (n := n) (fun i _ => s01) (by decide) ((sIx (tA h 154) (tA h 155)) n).toNat
                      have w162 : (sTF (tA h 157) (fun i => tA h 121 (tA h 152 i).toNatClampNeg) (tA h 158) k m) n = 0 := if_neg (fun y => y.2.1 q1087)
                      have c162 := cN_b (w := sTF (tA h 157) (fun i => tA h 121 (tA h 152 i).toNatClampNeg) (tA h 158) k m) (B := 1) (tl := (sIx (tA h 154) (tA h 155))) (n := n) (fun i _ => s01) (by decide) ((sIx (tA h 154) (tA h 155)) n).toNat
                      refine tG_cut (zW_mono zTt G dp) (Or.inr ⟨rfl, rfl, g162, n + 1, z + 1, _, _, _, _, _, _, _, _, _, _, rfl, hF162, hz1, by omega, fun t ht => ?_, fun t ht => ?_, fun t ht => ?_, fun t ht => ?_, rfl⟩)
                      · rw [mIs_o a162 (Or.inl (by decide)), mIs_o a161 (Or.inl (by decide)), mIs_o a160 (Or.inl (by decide))]
                        by_cases y : t = ((sIx (tA h 154) (tA h 155)) n).toNat
                        · rw [y, mIs_x a159, cN_y tix, w159]
                          exact zadU (hall159 _ (by omega)) rfl (by omega)
                        · rw [mIs_o a159 (Or.inr y), hall159 t ht, cN_n (fun y2 => absurd (by omega) y)]
                      · rw [mIs_o a162 (Or.inl (by decide)), mIs_o a161 (Or.inl (by decide))]
                        by_cases y : t = ((sIx (tA h 154) (tA h 155)) n).toNat
                        · rw [y, mIs_x a160, cN_y tix, w160]
                          exact zadU ((congrArg Int32.toInt (mIs_o a159 (Or.inl (by decide)))).trans (hall160 _ (by omega))) rfl (by omega)
                        · rw [mIs_o a160 (Or.inr y), mIs_o a159 (Or.inl (by decide)), hall160 t ht, cN_n (fun y2 => absurd (by omega) y)]
                      · rw [mIs_o a162 (Or.inl (by decide))]
                        by_cases y : t = ((sIx (tA h 154) (tA h 155)) n).toNat
                        · rw [y, mIs_x a161, cN_y tix, w161]
                          exact zadU ((congrArg Int32.toInt (mIs_o a160 (Or.inl (by decide)))).trans ((congrArg Int32.toInt (mIs_o a159 (Or.inl (by decide)))).trans (hall161 _ (by omega)))) rfl (by omega)
                        · rw [mIs_o a161 (Or.inr y), mIs_o a160 (Or.inl (by decide)), mIs_o a159 (Or.inl (by decide)), hall161 t ht, cN_n (fun y2 => absurd (by omega) y)]
                      · skip
                        by_cases y : t = ((sIx (tA h 154) (tA h 155)) n).toNat
                        · rw [y, mIs_x a162, cN_y tix, w162]
                          exact zadU ((congrArg Int32.toInt (mIs_o a161 (Or.inl (by decide)))).trans ((congrArg Int32.toInt (mIs_o a160 (Or.inl (by decide)))).trans ((congrArg Int32.toInt (mIs_o a159 (Or.inl (by decide)))).trans (hall162 _ (by omega))))) rfl (by omega)
                        · rw [mIs_o a162 (Or.inr y), mIs_o a161 (Or.inl (by decide)), mIs_o a160 (Or.inl (by decide)), mIs_o a159 (Or.inl (by decide)), hall162 t ht, cN_n (fun y2 => absurd (by omega) y)]
                · try dsimp only [tvI_i, tvJ_j, tvR_r] at q1084
                  refine tw_push rfl ?_
                  refine tw_goto rfl ?_
                  refine tw_iadd rfl ?_
                  refine tw_istore rfl ?_
                  have b54 := h154 n (by omega)
                  have b55 := h155 n (by omega)
                  have kb : (1 : Int32).toInt = 1 := rfl
                  have k50 : (50 : Int32).toInt = 50 := rfl
                  have k100 : (100 : Int32).toInt = 100 := rfl
                  have s0 := q1082
                  have s1 := q1084
                  rw [zn, e155] at s0
                  rw [zn, e155] at s1
                  have sb : sIb (tA h 155 n).toInt = 1 := (if_neg (by omega)).trans (if_pos (by omega))
                  have hix : (3 * tA h1 154 z.toNatClampNeg + 1).toInt = (sIx (tA h 154) (tA h 155)) n := by
                    rw [zn, e154, zadI (by rw [(zmu3 b54).2, kb]; omega), (zmu3 b54).2, kb]
                    show _ = 3 * (tA h 154 n).toInt + sIb (tA h 155 n).toInt
                    rw [sb]
                  have hi0 : 0 ≤ (sIx (tA h 154) (tA h 155)) n ∧ (sIx (tA h 154) (tA h 155)) n ≤ 8 := by have s5 := sIb_b (tA h 155 n).toInt; unfold sIx; omega
                  refine tw_aload rfl rfl ?_
                  refine tw_getS rfl (hs_111_16 hF.1) ?_
                  refine tw_aload rfl rfl ?_
                  refine tw_getS rfl (hs_111_60 hF.1) ?_
                  refine tw_iload rfl rfl ?_
                  refine tw_iald rfl (fun f1124 => ?_)
                  refine tw_iald rfl (fun f1125 => ?_)
                  refine tw_iload rfl rfl ?_
                  refine tw_ic_ne rfl (fun q1126 => ?_) (fun q1126 => ?_)
                  · try dsimp only [tvI_i, tvJ_j, tvR_r] at q1126
                    have q1126i := zneq rfl q1126
                    refine tw_push rfl ?_
                    refine tw_istore rfl ?_
                    refine tw_aload rfl rfl ?_
                    refine tw_getS rfl (hs_111_66 hF.1) ?_
                    refine tw_iload rfl rfl ?_
                    refine tw_bald rfl (fun f1127 => ?_)
                    refine tw_if_eq rfl (fun q1128 => ?_) (fun q1128 => ?_)
                    · try dsimp only [tvI_i, tvJ_j, tvR_r] at q1128
                      have q1128i := zeqi (Y := 0) (by decide) q1128
                      refine tw_push rfl ?_
                      refine tw_istore rfl ?_
                      refine tw_aload rfl rfl ?_
                      refine tw_getS rfl (hs_111_67 hF.1) ?_
                      refine tw_iload rfl rfl ?_
                      refine tw_dup2 rfl ?_
                      refine tw_iald rfl (fun f1129 => ?_)
                      refine tw_iload rfl rfl ?_
                      refine tw_if_eq rfl (fun _ => ?_) (fun z => absurd z (by decide))
                      refine tw_push rfl ?_
                      refine tw_iadd rfl ?_
                      refine tw_iast rfl (fun f1130 => ?_)
                      refine tG_lsi f1130 hF.1 (fun g159 a159 => ?_)
                      try dsimp only [tvI_i, tvJ_j, tvR_r] at a159
                      have hF159 := aFr_s hF a159 (show 159 ≤ 159 ∧ 159 ≤ 162 by decide)
                      refine tw_aload rfl rfl ?_
                      refine tw_getS rfl (hs_111_68 hF159.1) ?_
                      refine tw_iload rfl rfl ?_
                      refine tw_dup2 rfl ?_
                      refine tw_iald rfl (fun f1131 => ?_)
                      refine tw_iload rfl rfl ?_
                      refine tw_if_eq rfl (fun _ => ?_) (fun z => absurd z (by decide))
                      refine tw_push rfl ?_
                      refine tw_iadd rfl ?_
                      refine tw_iast rfl (fun f1132 => ?_)
                      refine tG_lsi f1132 hF159.1 (fun g160 a160 => ?_)
                      try dsimp only [tvI_i, tvJ_j, tvR_r] at a160
                      have hF160 := aFr_s hF159 a160 (show 159 ≤ 160 ∧ 160 ≤ 162 by decide)
                      refine tw_aload rfl rfl ?_
                      refine tw_getS rfl (hs_111_69 hF160.1) ?_
                      refine tw_iload rfl rfl ?_
                      refine tw_dup2 rfl ?_
                      refine tw_iald rfl (fun f1133 => ?_)
                      refine tw_iload rfl rfl ?_
                      refine tw_if_eq rfl (fun _ => ?_) (fun z => absurd z (by decide))
                      refine tw_push rfl ?_
                      refine tw_iadd rfl ?_
                      refine tw_iast rfl (fun f1134 => ?_)
                      refine tG_lsi f1134 hF160.1 (fun g161 a161 => ?_)
                      try dsimp only [tvI_i, tvJ_j, tvR_r] at a161
                      have hF161 := aFr_s hF160 a161 (show 159 ≤ 161 ∧ 161 ≤ 162 by decide)
                      refine tw_aload rfl rfl ?_
                      refine tw_getS rfl (hs_111_70 hF161.1) ?_
                      refine tw_iload rfl rfl ?_
                      refine tw_dup2 rfl ?_
                      refine tw_iald rfl (fun f1135 => ?_)
                      refine tw_iload rfl rfl ?_
                      refine tw_if_eq rfl (fun _ => ?_) (fun z => absurd z (by decide))
                      refine tw_iload rfl rfl ?_
                      refine tw_iadd rfl ?_
                      refine tw_iast rfl (fun f1136 => ?_)
                      refine tG_lsi f1136 hF161.1 (fun g162 a162 => ?_)
                      try dsimp only [tvI_i, tvJ_j, tvR_r] at a162
                      have hF162 := aFr_s hF161 a162 (show 159 ≤ 162 ∧ 162 ≤ 162 by decide)
                      refine tw_iinc rfl rfl ?_
                      refine tw_goto rfl ?_
                      rw [zn, e157] at q1079
                      rw [zn, e121, e152] at q1126
                      rw [zn, e158] at q1128
                      have le9 : (tA h 157 n).toInt ≤ m.toInt := by omega
                      have hxn := zof_cl (x := (3 * tA h1 154 z.toNatClampNeg + 1)) (n := ((sIx (tA h 154) (tA h 155)) n).toNat) (by rw [hix]; omega)
                      rw [hxn] at a159
                      rw [hxn] at a160
                      rw [hxn] at a161
                      rw [hxn] at a162
                      have tix : (sIx (tA h 154) (tA h 155)) n = ((((sIx (tA h 154) (tA h 155)) n).toNat : Nat) : Int) := by omega
                      have w159 : (sOC (tA h 157) (fun i => tA h 121 (tA h 152 i).toNatClampNeg) k m) n = 0 := if_neg (fun y => q1126 y.2)
                      have c159 := cN_b (w := sOC (tA h 157) (fun i => tA h 121 (tA h 152 i).toNatClampNeg) k m) (B := 1) (tl := (sIx (tA h 154) (tA h 155))) (n := n) (fun i _ => s01) (by decide) ((sIx (tA h 154) (tA h 155)) n).toNat
                      have w160 : (sOF (tA h 157) (fun i => tA h 121 (tA h 152 i).toNatClampNeg) (tA h 158) k m) n = 0 := if_neg (fun y => q1126 y.2.1)
                      have c160 := cN_b (w := sOF (tA h 157) (fun i => tA h 121 (tA h 152 i).toNatClampNeg) (tA h 158) k m) (B := 1) (tl := (sIx (tA h 154) (tA h 155))) (n := n) (fun i _ => s01) (by decide) ((sIx (tA h 154) (tA h 155)) n).toNat
                      have w161 : (sTC (tA h 157) (fun i => tA h 121 (tA h 152 i).toNatClampNeg) k m) n = 1 := if_pos ⟨le9, q1126⟩
                      have c161 := cN_b (w := sTC (tA h 157) (fun i => tA h 121 (tA h 152 i).toNatClampNeg) k m) (B := 1) (tl := (sIx (tA h 154) (tA h 155))) (n := n) (fun i _ => s01) (by decide) ((sIx (tA h 154) (tA h 155)) n).toNat
                      have w162 : (sTF (tA h 157) (fun i => tA h 121 (tA h 152 i).toNatClampNeg) (tA h 158) k m) n = 0 := if_neg (fun y => y.2.2 q1128)
                      have c162 := cN_b (w := sTF (tA h 157) (fun i => tA h 121 (tA h 152 i).toNatClampNeg) (tA h 158) k m) (B := 1) (tl := (sIx (tA h 154) (tA h 155))) (n := n) (fun i _ => s01) (by decide) ((sIx (tA h 154) (tA h 155)) n).toNat
                      refine tG_cut (zW_mono zTt G dp) (Or.inr ⟨rfl, rfl, g162, n + 1, z + 1, _, _, _, _, _, _, _, _, _, _, rfl, hF162, hz1, by omega, fun t ht => ?_, fun t ht => ?_, fun t ht => ?_, fun t ht => ?_, rfl⟩)
                      · rw [mIs_o a162 (Or.inl (by decide)), mIs_o a161 (Or.inl (by decide)), mIs_o a160 (Or.inl (by decide))]
                        by_cases y : t = ((sIx (tA h 154) (tA h 155)) n).toNat
                        · rw [y, mIs_x a159, cN_y tix, w159]
                          exact zadU (hall159 _ (by omega)) rfl (by omega)
                        · rw [mIs_o a159 (Or.inr y), hall159 t ht, cN_n (fun y2 => absurd (by omega) y)]
                      · rw [mIs_o a162 (Or.inl (by decide)), mIs_o a161 (Or.inl (by decide))]
                        by_cases y : t = ((sIx (tA h 154) (tA h 155)) n).toNat
                        · rw [y, mIs_x a160, cN_y tix, w160]
                          exact zadU ((congrArg Int32.toInt (mIs_o a159 (Or.inl (by decide)))).trans (hall160 _ (by omega))) rfl (by omega)
                        · rw [mIs_o a160 (Or.inr y), mIs_o a159 (Or.inl (by decide)), hall160 t ht, cN_n (fun y2 => absurd (by omega) y)]
                      · rw [mIs_o a162 (Or.inl (by decide))]
                        by_cases y : t = ((sIx (tA h 154) (tA h 155)) n).toNat
                        · rw [y, mIs_x a161, cN_y tix, w161]
                          exact zadU ((congrArg Int32.toInt (mIs_o a160 (Or.inl (by decide)))).trans ((congrArg Int32.toInt (mIs_o a159 (Or.inl (by decide)))).trans (hall161 _ (by omega)))) rfl (by omega)
                        · rw [mIs_o a161 (Or.inr y), mIs_o a160 (Or.inl (by decide)), mIs_o a159 (Or.inl (by decide)), hall161 t ht, cN_n (fun y2 => absurd (by omega) y)]
                      · skip
                        by_cases y : t = ((sIx (tA h 154) (tA h 155)) n).toNat
                        · rw [y, mIs_x a162, cN_y tix, w162]
                          exact zadU ((congrArg Int32.toInt (mIs_o a161 (Or.inl (by decide)))).trans ((congrArg Int32.toInt (mIs_o a160 (Or.inl (by decide)))).trans ((congrArg Int32.toInt (mIs_o a159 (Or.inl (by decide)))).trans (hall162 _ (by omega))))) rfl (by omega)
                        · rw [mIs_o a162 (Or.inr y), mIs_o a161 (Or.inl (by decide)), mIs_o a160 (Or.inl (by decide)), mIs_o a159 (Or.inl (by decide)), hall162 t ht, cN_n (fun y2 => absurd (by omega) y)]
                    · try dsimp only [tvI_i, tvJ_j, tvR_r] at q1128
                      have q1128i := zneq (Y := 0) (by decide) q1128
                      refine tw_push rfl ?_
                      refine tw_goto rfl ?_
                      refine tw_istore rfl ?_
                      refine tw_aload rfl rfl ?_
                      refine tw_getS rfl (hs_111_67 hF.1) ?_
                      refine tw_iload rfl rfl ?_
                      refine tw_dup2 rfl ?_
                      refine tw_iald rfl (fun f1137 => ?_)
                      refine tw_iload rfl rfl ?_
                      refine tw_if_eq rfl (fun _ => ?_) (fun z => absurd z (by decide))
                      refine tw_push rfl ?_
                      refine tw_iadd rfl ?_
                      refine tw_iast rfl (fun f1138 => ?_)
                      refine tG_lsi f1138 hF.1 (fun g159 a159 => ?_)
                      try dsimp only [tvI_i, tvJ_j, tvR_r] at a159
                      have hF159 := aFr_s hF a159 (show 159 ≤ 159 ∧ 159 ≤ 162 by decide)
                      refine tw_aload rfl rfl ?_
                      refine tw_getS rfl (hs_111_68 hF159.1) ?_
                      refine tw_iload rfl rfl ?_
                      refine tw_dup2 rfl ?_
                      refine tw_iald rfl (fun f1139 => ?_)
                      refine tw_iload rfl rfl ?_
                      refine tw_if_eq rfl (fun _ => ?_) (fun z => absurd z (by decide))
                      refine tw_push rfl ?_
                      refine tw_iadd rfl ?_
                      refine tw_iast rfl (fun f1140 => ?_)
                      refine tG_lsi f1140 hF159.1 (fun g160 a160 => ?_)
                      try dsimp only [tvI_i, tvJ_j, tvR_r] at a160
                      have hF160 := aFr_s hF159 a160 (show 159 ≤ 160 ∧ 160 ≤ 162 by decide)
                      refine tw_aload rfl rfl ?_
                      refine tw_getS rfl (hs_111_69 hF160.1) ?_
                      refine tw_iload rfl rfl ?_
                      refine tw_dup2 rfl ?_
                      refine tw_iald rfl (fun f1141 => ?_)
                      refine tw_iload rfl rfl ?_
                      refine tw_if_eq rfl (fun _ => ?_) (fun z => absurd z (by decide))
                      refine tw_push rfl ?_
                      refine tw_iadd rfl ?_
                      refine tw_iast rfl (fun f1142 => ?_)
                      refine tG_lsi f1142 hF160.1 (fun g161 a161 => ?_)
                      try dsimp only [tvI_i, tvJ_j, tvR_r] at a161
                      have hF161 := aFr_s hF160 a161 (show 159 ≤ 161 ∧ 161 ≤ 162 by decide)
                      refine tw_aload rfl rfl ?_
                      refine tw_getS rfl (hs_111_70 hF161.1) ?_
                      refine tw_iload rfl rfl ?_
                      refine tw_dup2 rfl ?_
                      refine tw_iald rfl (fun f1143 => ?_)
                      refine tw_iload rfl rfl ?_
                      refine tw_if_eq rfl (fun _ => ?_) (fun z => absurd z (by decide))
                      refine tw_iload rfl rfl ?_
                      refine tw_iadd rfl ?_
                      refine tw_iast rfl (fun f1144 => ?_)
                      refine tG_lsi f1144 hF161.1 (fun g162 a162 => ?_)
                      try dsimp only [tvI_i, tvJ_j, tvR_r] at a162
                      have hF162 := aFr_s hF161 a162 (show 159 ≤ 162 ∧ 162 ≤ 162 by decide)
                      refine tw_iinc rfl rfl ?_
                      refine tw_goto rfl ?_
                      rw [zn, e157] at q1079
                      rw [zn, e121, e152] at q1126
                      rw [zn, e158] at q1128
                      have le9 : (tA h 157 n).toInt ≤ m.toInt := by omega
                      have hxn := zof_cl (x := (3 * tA h1 154 z.toNatClampNeg + 1)) (n := ((sIx (tA h 154) (tA h 155)) n).toNat) (by rw [hix]; omega)
                      rw [hxn] at a159
                      rw [hxn] at a160
                      rw [hxn] at a161
                      rw [hxn] at a162
                      have tix : (sIx (tA h 154) (tA h 155)) n = ((((sIx (tA h 154) (tA h 155)) n).toNat : Nat) : Int) := by omega
                      have w159 : (sOC (tA h 157) (fun i => tA h 121 (tA h 152 i).toNatClampNeg) k m) n = 0 := if_neg (fun y => q1126 y.2)
                      have c159 := cN_b (w := sOC (tA h 157) (fun i => tA h 121 (tA h 152 i).toNatClampNeg) k m) (B := 1) (tl := (sIx (tA h 154) (tA h 155))) (n := n) (fun i _ => s01) (by decide) ((sIx (tA h 154) (tA h 155)) n).toNat
                      have w160 : (sOF (tA h 157) (fun i => tA h 121 (tA h 152 i).toNatClampNeg) (tA h 158) k m) n = 0 := if_neg (fun y => q1126 y.2.1)
                      have c160 := cN_b (w := sOF (tA h 157) (fun i => tA h 121 (tA h 152 i).toNatClampNeg) (tA h 158) k m) (B := 1) (tl := (sIx (tA h 154) (tA h 155))) (n := n) (fun i _ => s01) (by decide) ((sIx (tA h 154) (tA h 155)) n).toNat
                      have w161 : (sTC (tA h 157) (fun i => tA h 121 (tA h 152 i).toNatClampNeg) k m) n = 1 := if_pos ⟨le9, q1126⟩
                      have c161 := cN_b (w := sTC (tA h 157) (fun i => tA h 121 (tA h 152 i).toNatClampNeg) k m) (B := 1) (tl := (sIx (tA h 154) (tA h 155))) (n := n) (fun i _ => s01) (by decide) ((sIx (tA h 154) (tA h 155)) n).toNat
                      have w162 : (sTF (tA h 157) (fun i => tA h 121 (tA h 152 i).toNatClampNeg) (tA h 158) k m) n = 1 := if_pos ⟨le9, q1126, q1128⟩
                      have c162 := cN_b (w := sTF (tA h 157) (fun i => tA h 121 (tA h 152 i).toNatClampNeg) (tA h 158) k m) (B := 1) (tl := (sIx (tA h 154) (tA h 155))) (n := n) (fun i _ => s01) (by decide) ((sIx (tA h 154) (tA h 155)) n).toNat
                      refine tG_cut (zW_mono zTt G dp) (Or.inr ⟨rfl, rfl, g162, n + 1, z + 1, _, _, _, _, _, _, _, _, _, _, rfl, hF162, hz1, by omega, fun t ht => ?_, fun t ht => ?_, fun t ht => ?_, fun t ht => ?_, rfl⟩)
                      · rw [mIs_o a162 (Or.inl (by decide)), mIs_o a161 (Or.inl (by decide)), mIs_o a160 (Or.inl (by decide))]
                        by_cases y : t = ((sIx (tA h 154) (tA h 155)) n).toNat
                        · rw [y, mIs_x a159, cN_y tix, w159]
                          exact zadU (hall159 _ (by omega)) rfl (by omega)
                        · rw [mIs_o a159 (Or.inr y), hall159 t ht, cN_n (fun y2 => absurd (by omega) y)]
                      · rw [mIs_o a162 (Or.inl (by decide)), mIs_o a161 (Or.inl (by decide))]
                        by_cases y : t = ((sIx (tA h 154) (tA h 155)) n).toNat
                        · rw [y, mIs_x a160, cN_y tix, w160]
                          exact zadU ((congrArg Int32.toInt (mIs_o a159 (Or.inl (by decide)))).trans (hall160 _ (by omega))) rfl (by omega)
                        · rw [mIs_o a160 (Or.inr y), mIs_o a159 (Or.inl (by decide)), hall160 t ht, cN_n (fun y2 => absurd (by omega) y)]
                      · rw [mIs_o a162 (Or.inl (by decide))]
                        by_cases y : t = ((sIx (tA h 154) (tA h 155)) n).toNat
                        · rw [y, mIs_x a161, cN_y tix, w161]
                          exact zadU ((congrArg Int32.toInt (mIs_o a160 (Or.inl (by decide)))).trans ((congrArg Int32.toInt (mIs_o a159 (Or.inl (by decide)))).trans (hall161 _ (by omega)))) rfl (by omega)
                        · rw [mIs_o a161 (Or.inr y), mIs_o a160 (Or.inl (by decide)), mIs_o a159 (Or.inl (by decide)), hall161 t ht, cN_n (fun y2 => absurd (by omega) y)]
                      · skip
                        by_cases y : t = ((sIx (tA h 154) (tA h 155)) n).toNat
                        · rw [y, mIs_x a162, cN_y tix, w162]
                          exact zadU ((congrArg Int32.toInt (mIs_o a161 (Or.inl (by decide)))).trans ((congrArg Int32.toInt (mIs_o a160 (Or.inl (by decide)))).trans ((congrArg Int32.toInt (mIs_o a159 (Or.inl (by decide)))).trans (hall162 _ (by omega))))) rfl (by omega)
                        · rw [mIs_o a162 (Or.inr y), mIs_o a161 (Or.inl (by decide)), mIs_o a160 (Or.inl (by decide)), mIs_o a159 (Or.inl (by decide)), hall162 t ht, cN_n (fun y2 => absurd (by omega) y)]
                  · try dsimp only [tvI_i, tvJ_j, tvR_r] at q1126
                    have q1126i := zeqi rfl q1126
                    refine tw_push rfl ?_
                    refine tw_goto rfl ?_
                    refine tw_istore rfl ?_
                    refine tw_aload rfl rfl ?_
                    refine tw_getS rfl (hs_111_66 hF.1) ?_
                    refine tw_iload rfl rfl ?_
                    refine tw_bald rfl (fun f1145 => ?_)
                    refine tw_if_eq rfl (fun q1146 => ?_) (fun q1146 => ?_)
                    · try dsimp only [tvI_i, tvJ_j, tvR_r] at q1146
                      have q1146i := zeqi (Y := 0) (by decide) q1146
                      refine tw_push rfl ?_
                      refine tw_istore rfl ?_
                      refine tw_aload rfl rfl ?_
                      refine tw_getS rfl (hs_111_67 hF.1) ?_
                      refine tw_iload rfl rfl ?_
                      refine tw_dup2 rfl ?_
                      refine tw_iald rfl (fun f1147 => ?_)
                      refine tw_iload rfl rfl ?_
                      refine tw_if_eq rfl (fun z => absurd z (by decide)) (fun _ => ?_)
                      refine tw_push rfl ?_
                      refine tw_goto rfl ?_
                      refine tw_iadd rfl ?_
                      refine tw_iast rfl (fun f1148 => ?_)
                      refine tG_lsi f1148 hF.1 (fun g159 a159 => ?_)
                      try dsimp only [tvI_i, tvJ_j, tvR_r] at a159
                      have hF159 := aFr_s hF a159 (show 159 ≤ 159 ∧ 159 ≤ 162 by decide)
                      refine tw_aload rfl rfl ?_
                      refine tw_getS rfl (hs_111_68 hF159.1) ?_
                      refine tw_iload rfl rfl ?_
                      refine tw_dup2 rfl ?_
                      refine tw_iald rfl (fun f1149 => ?_)
                      refine tw_iload rfl rfl ?_
                      refine tw_if_eq rfl (fun z => absurd z (by decide)) (fun _ => ?_)
                      refine tw_iload rfl rfl ?_
                      refine tw_goto rfl ?_
                      refine tw_iadd rfl ?_
                      refine tw_iast rfl (fun f1150 => ?_)
                      refine tG_lsi f1150 hF159.1 (fun g160 a160 => ?_)
                      try dsimp only [tvI_i, tvJ_j, tvR_r] at a160
                      have hF160 := aFr_s hF159 a160 (show 159 ≤ 160 ∧ 160 ≤ 162 by decide)
                      refine tw_aload rfl rfl ?_
                      refine tw_getS rfl (hs_111_69 hF160.1) ?_
                      refine tw_iload rfl rfl ?_
                      refine tw_dup2 rfl ?_
                      refine tw_iald rfl (fun f1151 => ?_)
                      refine tw_iload rfl rfl ?_
                      refine tw_if_eq rfl (fun z => absurd z (by decide)) (fun _ => ?_)
                      refine tw_push rfl ?_
                      refine tw_goto rfl ?_
                      refine tw_iadd rfl ?_
                      refine tw_iast rfl (fun f1152 => ?_)
                      refine tG_lsi f1152 hF160.1 (fun g161 a161 => ?_)
                      try dsimp only [tvI_i, tvJ_j, tvR_r] at a161
                      have hF161 := aFr_s hF160 a161 (show 159 ≤ 161 ∧ 161 ≤ 162 by decide)
                      refine tw_aload rfl rfl ?_
                      refine tw_getS rfl (hs_111_70 hF161.1) ?_
                      refine tw_iload rfl rfl ?_
                      refine tw_dup2 rfl ?_
                      refine tw_iald rfl (fun f1153 => ?_)
                      refine tw_iload rfl rfl ?_
                      refine tw_if_eq rfl (fun z => absurd z (by decide)) (fun _ => ?_)
                      refine tw_push rfl ?_
                      refine tw_goto rfl ?_
                      refine tw_iadd rfl ?_
                      refine tw_iast rfl (fun f1154 => ?_)
                      refine tG_lsi f1154 hF161.1 (fun g162 a162 => ?_)
                      try dsimp only [tvI_i, tvJ_j, tvR_r] at a162
                      have hF162 := aFr_s hF161 a162 (show 159 ≤ 162 ∧ 162 ≤ 162 by decide)
                      refine tw_iinc rfl rfl ?_
                      refine tw_goto rfl ?_
                      rw [zn, e157] at q1079
                      rw [zn, e121, e152] at q1126
                      rw [zn, e158] at q1146
                      have le9 : (tA h 157 n).toInt ≤ m.toInt := by omega
                      have hxn := zof_cl (x := (3 * tA h1 154 z.toNatClampNeg + 1)) (n := ((sIx (tA h 154) (tA h 155)) n).toNat) (by rw [hix]; omega)
                      rw [hxn] at a159
                      rw [hxn] at a160
                      rw [hxn] at a161
                      rw [hxn] at a162
                      have tix : (sIx (tA h 154) (tA h 155)) n = ((((sIx (tA h 154) (tA h 155)) n).toNat : Nat) : Int) := by omega
                      have w159 : (sOC (tA h 157) (fun i => tA h 121 (tA h 152 i).toNatClampNeg) k m) n = 1 := if_pos ⟨le9, q1126⟩
                      have c159 := cN_b (w := sOC (tA h 157) (fun i => tA h 121 (tA h 152 i).toNatClampNeg) k m) (B := 1) (tl := (sIx (tA h 154) (tA h 155))) (n := n) (fun i _ => s01) (by decide) ((sIx (tA h 154) (tA h 155)) n).toNat
                      have w160 : (sOF (tA h 157) (fun i => tA h 121 (tA h 152 i).toNatClampNeg) (tA h 158) k m) n = 0 := if_neg (fun y => y.2.2 q1146)
                      have c160 := cN_b (w := sOF (tA h 157) (fun i => tA h 121 (tA h 152 i).toNatClampNeg) (tA h 158) k m) (B := 1) (tl := (sIx (tA h 154) (tA h 155))) (n := n) (fun i _ => s01) (by decide) ((sIx (tA h 154) (tA h 155)) n).toNat
                      have w161 : (sTC (tA h 157) (fun i => tA h 121 (tA h 152 i).toNatClampNeg) k m) n = 0 := if_neg (fun y => y.2 q1126)
                      have c161 := cN_b (w := sTC (tA h 157) (fun i => tA h 121 (tA h 152 i).toNatClampNeg) k m) (B := 1) (tl := (sIx (tA h 154) (tA h 155))) (n := n) (fun i _ => s01) (by decide) ((sIx (tA h 154) (tA h 155)) n).toNat
                      have w162 : (sTF (tA h 157) (fun i => tA h 121 (tA h 152 i).toNatClampNeg) (tA h 158) k m) n = 0 := if_neg (fun y => y.2.1 q1126)
                      have c162 := cN_b (w := sTF (tA h 157) (fun i => tA h 121 (tA h 152 i).toNatClampNeg) (tA h 158) k m) (B := 1) (tl := (sIx (tA h 154) (tA h 155))) (n := n) (fun i _ => s01) (by decide) ((sIx (tA h 154) (tA h 155)) n).toNat
                      refine tG_cut (zW_mono zTt G dp) (Or.inr ⟨rfl, rfl, g162, n + 1, z + 1, _, _, _, _, _, _, _, _, _, _, rfl, hF162, hz1, by omega, fun t ht => ?_, fun t ht => ?_, fun t ht => ?_, fun t ht => ?_, rfl⟩)
                      · rw [mIs_o a162 (Or.inl (by decide)), mIs_o a161 (Or.inl (by decide)), mIs_o a160 (Or.inl (by decide))]
                        by_cases y : t = ((sIx (tA h 154) (tA h 155)) n).toNat
                        · rw [y, mIs_x a159, cN_y tix, w159]
                          exact zadU (hall159 _ (by omega)) rfl (by omega)
                        · rw [mIs_o a159 (Or.inr y), hall159 t ht, cN_n (fun y2 => absurd (by omega) y)]
                      · rw [mIs_o a162 (Or.inl (by decide)), mIs_o a161 (Or.inl (by decide))]
                        by_cases y : t = ((sIx (tA h 154) (tA h 155)) n).toNat
                        · rw [y, mIs_x a160, cN_y tix, w160]
                          exact zadU ((congrArg Int32.toInt (mIs_o a159 (Or.inl (by decide)))).trans (hall160 _ (by omega))) rfl (by omega)
                        · rw [mIs_o a160 (Or.inr y), mIs_o a159 (Or.inl (by decide)), hall160 t ht, cN_n (fun y2 => absurd (by omega) y)]
                      · rw [mIs_o a162 (Or.inl (by decide))]
                        by_cases y : t = ((sIx (tA h 154) (tA h 155)) n).toNat
                        · rw [y, mIs_x a161, cN_y tix, w161]
                          exact zadU ((congrArg Int32.toInt (mIs_o a160 (Or.inl (by decide)))).trans ((congrArg Int32.toInt (mIs_o a159 (Or.inl (by decide)))).trans (hall161 _ (by omega)))) rfl (by omega)
                        · rw [mIs_o a161 (Or.inr y), mIs_o a160 (Or.inl (by decide)), mIs_o a159 (Or.inl (by decide)), hall161 t ht, cN_n (fun y2 => absurd (by omega) y)]
                      · skip
                        by_cases y : t = ((sIx (tA h 154) (tA h 155)) n).toNat
                        · rw [y, mIs_x a162, cN_y tix, w162]
                          exact zadU ((congrArg Int32.toInt (mIs_o a161 (Or.inl (by decide)))).trans ((congrArg Int32.toInt (mIs_o a160 (Or.inl (by decide)))).trans ((congrArg Int32.toInt (mIs_o a159 (Or.inl (by decide)))).trans (hall162 _ (by omega))))) rfl (by omega)
                        · rw [mIs_o a162 (Or.inr y), mIs_o a161 (Or.inl (by decide)), mIs_o a160 (Or.inl (by decide)), mIs_o a159 (Or.inl (by decide)), hall162 t ht, cN_n (fun y2 => absurd (by omega) y)]
                    · try dsimp only [tvI_i, tvJ_j, tvR_r] at q1146
                      have q1146i := zneq (Y := 0) (by decide) q1146
                      refine tw_push rfl ?_
                      refine tw_goto rfl ?_
                      refine tw_istore rfl ?_
                      refine tw_aload rfl rfl ?_
                      refine tw_getS rfl (hs_111_67 hF.1) ?_
                      refine tw_iload rfl rfl ?_
                      refine tw_dup2 rfl ?_
                      refine tw_iald rfl (fun f1155 => ?_)
                      refine tw_iload rfl rfl ?_
                      refine tw_if_eq rfl (fun z => absurd z (by decide)) (fun _ => ?_)
                      refine tw_push rfl ?_
                      refine tw_goto rfl ?_
                      refine tw_iadd rfl ?_
                      refine tw_iast rfl (fun f1156 => ?_)
                      refine tG_lsi f1156 hF.1 (fun g159 a159 => ?_)
                      try dsimp only [tvI_i, tvJ_j, tvR_r] at a159
                      have hF159 := aFr_s hF a159 (show 159 ≤ 159 ∧ 159 ≤ 162 by decide)
                      refine tw_aload rfl rfl ?_
                      refine tw_getS rfl (hs_111_68 hF159.1) ?_
                      refine tw_iload rfl rfl ?_
                      refine tw_dup2 rfl ?_
                      refine tw_iald rfl (fun f1157 => ?_)
                      refine tw_iload rfl rfl ?_
                      refine tw_if_eq rfl (fun z => absurd z (by decide)) (fun _ => ?_)
                      refine tw_iload rfl rfl ?_
                      refine tw_goto rfl ?_
                      refine tw_iadd rfl ?_
                      refine tw_iast rfl (fun f1158 => ?_)
                      refine tG_lsi f1158 hF159.1 (fun g160 a160 => ?_)
                      try dsimp only [tvI_i, tvJ_j, tvR_r] at a160
                      have hF160 := aFr_s hF159 a160 (show 159 ≤ 160 ∧ 160 ≤ 162 by decide)
                      refine tw_aload rfl rfl ?_
                      refine tw_getS rfl (hs_111_69 hF160.1) ?_
                      refine tw_iload rfl rfl ?_
                      refine tw_dup2 rfl ?_
                      refine tw_iald rfl (fun f1159 => ?_)
                      refine tw_iload rfl rfl ?_
                      refine tw_if_eq rfl (fun z => absurd z (by decide)) (fun _ => ?_)
                      refine tw_push rfl ?_
                      refine tw_goto rfl ?_
                      refine tw_iadd rfl ?_
                      refine tw_iast rfl (fun f1160 => ?_)
                      refine tG_lsi f1160 hF160.1 (fun g161 a161 => ?_)
                      try dsimp only [tvI_i, tvJ_j, tvR_r] at a161
                      have hF161 := aFr_s hF160 a161 (show 159 ≤ 161 ∧ 161 ≤ 162 by decide)
                      refine tw_aload rfl rfl ?_
                      refine tw_getS rfl (hs_111_70 hF161.1) ?_
                      refine tw_iload rfl rfl ?_
                      refine tw_dup2 rfl ?_
                      refine tw_iald rfl (fun f1161 => ?_)
                      refine tw_iload rfl rfl ?_
                      refine tw_if_eq rfl (fun z => absurd z (by decide)) (fun _ => ?_)
                      refine tw_push rfl ?_
                      refine tw_goto rfl ?_
                      refine tw_iadd rfl ?_
                      refine tw_iast rfl (fun f1162 => ?_)
                      refine tG_lsi f1162 hF161.1 (fun g162 a162 => ?_)
                      try dsimp only [tvI_i, tvJ_j, tvR_r] at a162
                      have hF162 := aFr_s hF161 a162 (show 159 ≤ 162 ∧ 162 ≤ 162 by decide)
                      refine tw_iinc rfl rfl ?_
                      refine tw_goto rfl ?_
                      rw [zn, e157] at q1079
                      rw [zn, e121, e152] at q1126
                      rw [zn, e158] at q1146
                      have le9 : (tA h 157 n).toInt ≤ m.toInt := by omega
                      have hxn := zof_cl (x := (3 * tA h1 154 z.toNatClampNeg + 1)) (n := ((sIx (tA h 154) (tA h 155)) n).toNat) (by rw [hix]; omega)
                      rw [hxn] at a159
                      rw [hxn] at a160
                      rw [hxn] at a161
                      rw [hxn] at a162
                      have tix : (sIx (tA h 154) (tA h 155)) n = ((((sIx (tA h 154) (tA h 155)) n).toNat : Nat) : Int) := by omega
                      have w159 : (sOC (tA h 157) (fun i => tA h 121 (tA h 152 i).toNatClampNeg) k m) n = 1 := if_pos ⟨le9, q1126⟩
                      have c159 := cN_b (w := sOC (tA h 157) (fun i => tA h 121 (tA h 152 i).toNatClampNeg) k m) (B := 1) (tl := (sIx (tA h 154) (tA h 155))) (n := n) (fun i _ => s01) (by decide) ((sIx (tA h 154) (tA h 155)) n).toNat
                      have w160 : (sOF (tA h 157) (fun i => tA h 121 (tA h 152 i).toNatClampNeg) (tA h 158) k m) n = 1 := if_pos ⟨le9, q1126, q1146⟩
                      have c160 := cN_b (w := sOF (tA h 157) (fun i => tA h 121 (tA h 152 i).toNatClampNeg) (tA h 158) k m) (B := 1) (tl := (sIx (tA h 154) (tA h 155))) (n := n) (fun i _ => s01) (by decide) ((sIx (tA h 154) (tA h 155)) n).toNat
                      have w161 : (sTC (tA h 157) (fun i => tA h 121 (tA h 152 i).toNatClampNeg) k m) n = 0 := if_neg (fun y => y.2 q1126)
                      have c161 := cN_b (w := sTC (tA h 157) (fun i => tA h 121 (tA h 152 i).toNatClampNeg) k m) (B := 1) (tl := (sIx (tA h 154) (tA h 155))) (n := n) (fun i _ => s01) (by decide) ((sIx (tA h 154) (tA h 155)) n).toNat
                      have w162 : (sTF (tA h 157) (fun i => tA h 121 (tA h 152 i).toNatClampNeg) (tA h 158) k m) n = 0 := if_neg (fun y => y.2.1 q1126)
                      have c162 := cN_b (w := sTF (tA h 157) (fun i => tA h 121 (tA h 152 i).toNatClampNeg) (tA h 158) k m) (B := 1) (tl := (sIx (tA h 154) (tA h 155))) (n := n) (fun i _ => s01) (by decide) ((sIx (tA h 154) (tA h 155)) n).toNat
                      refine tG_cut (zW_mono zTt G dp) (Or.inr ⟨rfl, rfl, g162, n + 1, z + 1, _, _, _, _, _, _, _, _, _, _, rfl, hF162, hz1, by omega, fun t ht => ?_, fun t ht => ?_, fun t ht => ?_, fun t ht => ?_, rfl⟩)
                      · rw [mIs_o a162 (Or.inl (by decide)), mIs_o a161 (Or.inl (by decide)), mIs_o a160 (Or.inl (by decide))]
                        by_cases y : t = ((sIx (tA h 154) (tA h 155)) n).toNat
                        · rw [y, mIs_x a159, cN_y tix, w159]
                          exact zadU (hall159 _ (by omega)) rfl (by omega)
                        · rw [mIs_o a159 (Or.inr y), hall159 t ht, cN_n (fun y2 => absurd (by omega) y)]
                      · rw [mIs_o a162 (Or.inl (by decide)), mIs_o a161 (Or.inl (by decide))]
                        by_cases y : t = ((sIx (tA h 154) (tA h 155)) n).toNat
                        · rw [y, mIs_x a160, cN_y tix, w160]
                          exact zadU ((congrArg Int32.toInt (mIs_o a159 (Or.inl (by decide)))).trans (hall160 _ (by omega))) rfl (by omega)
                        · rw [mIs_o a160 (Or.inr y), mIs_o a159 (Or.inl (by decide)), hall160 t ht, cN_n (fun y2 => absurd (by omega) y)]
                      · rw [mIs_o a162 (Or.inl (by decide))]
                        by_cases y : t = ((sIx (tA h 154) (tA h 155)) n).toNat
                        · rw [y, mIs_x a161, cN_y tix, w161]
                          exact zadU ((congrArg Int32.toInt (mIs_o a160 (Or.inl (by decide)))).trans ((congrArg Int32.toInt (mIs_o a159 (Or.inl (by decide)))).trans (hall161 _ (by omega)))) rfl (by omega)
                        · rw [mIs_o a161 (Or.inr y), mIs_o a160 (Or.inl (by decide)), mIs_o a159 (Or.inl (by decide)), hall161 t ht, cN_n (fun y2 => absurd (by omega) y)]
                      · skip
                        by_cases y : t = ((sIx (tA h 154) (tA h 155)) n).toNat
                        · rw [y, mIs_x a162, cN_y tix, w162]
                          exact zadU ((congrArg Int32.toInt (mIs_o a161 (Or.inl (by decide)))).trans ((congrArg Int32.toInt (mIs_o a160 (Or.inl (by decide)))).trans ((congrArg Int32.toInt (mIs_o a159 (Or.inl (by decide)))).trans (hall162 _ (by omega))))) rfl (by omega)
                        · rw [mIs_o a162 (Or.inr y), mIs_o a161 (Or.inl (by decide)), mIs_o a160 (Or.inl (by decide)), mIs_o a159 (Or.inl (by decide)), hall162 t ht, cN_n (fun y2 => absurd (by omega) y)]
              · try dsimp only [tvI_i, tvJ_j, tvR_r] at q1082
                refine tw_push rfl ?_
                refine tw_goto rfl ?_
                refine tw_iadd rfl ?_
                refine tw_istore rfl ?_
                have b54 := h154 n (by omega)
                have b55 := h155 n (by omega)
                have kb : (0 : Int32).toInt = 0 := rfl
                have k50 : (50 : Int32).toInt = 50 := rfl
                have k100 : (100 : Int32).toInt = 100 := rfl
                have s0 := q1082
                rw [zn, e155] at s0
                have sb : sIb (tA h 155 n).toInt = 0 := if_pos (by omega)
                have hix : (3 * tA h1 154 z.toNatClampNeg + 0).toInt = (sIx (tA h 154) (tA h 155)) n := by
                  rw [zn, e154, zadI (by rw [(zmu3 b54).2, kb]; omega), (zmu3 b54).2, kb]
                  show _ = 3 * (tA h 154 n).toInt + sIb (tA h 155 n).toInt
                  rw [sb]
                have hi0 : 0 ≤ (sIx (tA h 154) (tA h 155)) n ∧ (sIx (tA h 154) (tA h 155)) n ≤ 8 := by have s5 := sIb_b (tA h 155 n).toInt; unfold sIx; omega
                refine tw_aload rfl rfl ?_
                refine tw_getS rfl (hs_111_16 hF.1) ?_
                refine tw_aload rfl rfl ?_
                refine tw_getS rfl (hs_111_60 hF.1) ?_
                refine tw_iload rfl rfl ?_
                refine tw_iald rfl (fun f1163 => ?_)
                refine tw_iald rfl (fun f1164 => ?_)
                refine tw_iload rfl rfl ?_
                refine tw_ic_ne rfl (fun q1165 => ?_) (fun q1165 => ?_)
                · try dsimp only [tvI_i, tvJ_j, tvR_r] at q1165
                  have q1165i := zneq rfl q1165
                  refine tw_push rfl ?_
                  refine tw_istore rfl ?_
                  refine tw_aload rfl rfl ?_
                  refine tw_getS rfl (hs_111_66 hF.1) ?_
                  refine tw_iload rfl rfl ?_
                  refine tw_bald rfl (fun f1166 => ?_)
                  refine tw_if_eq rfl (fun q1167 => ?_) (fun q1167 => ?_)
                  · try dsimp only [tvI_i, tvJ_j, tvR_r] at q1167
                    have q1167i := zeqi (Y := 0) (by decide) q1167
                    refine tw_push rfl ?_
                    refine tw_istore rfl ?_
                    refine tw_aload rfl rfl ?_
                    refine tw_getS rfl (hs_111_67 hF.1) ?_
                    refine tw_iload rfl rfl ?_
                    refine tw_dup2 rfl ?_
                    refine tw_iald rfl (fun f1168 => ?_)
                    refine tw_iload rfl rfl ?_
                    refine tw_if_eq rfl (fun _ => ?_) (fun z => absurd z (by decide))
                    refine tw_push rfl ?_
                    refine tw_iadd rfl ?_
                    refine tw_iast rfl (fun f1169 => ?_)
                    refine tG_lsi f1169 hF.1 (fun g159 a159 => ?_)
                    try dsimp only [tvI_i, tvJ_j, tvR_r] at a159
                    have hF159 := aFr_s hF a159 (show 159 ≤ 159 ∧ 159 ≤ 162 by decide)
                    refine tw_aload rfl rfl ?_
                    refine tw_getS rfl (hs_111_68 hF159.1) ?_
                    refine tw_iload rfl rfl ?_
                    refine tw_dup2 rfl ?_
                    refine tw_iald rfl (fun f1170 => ?_)
                    refine tw_iload rfl rfl ?_
                    refine tw_if_eq rfl (fun _ => ?_) (fun z => absurd z (by decide))
                    refine tw_push rfl ?_
                    refine tw_iadd rfl ?_
                    refine tw_iast rfl (fun f1171 => ?_)
                    refine tG_lsi f1171 hF159.1 (fun g160 a160 => ?_)
                    try dsimp only [tvI_i, tvJ_j, tvR_r] at a160
                    have hF160 := aFr_s hF159 a160 (show 159 ≤ 160 ∧ 160 ≤ 162 by decide)
                    refine tw_aload rfl rfl ?_
                    refine tw_getS rfl (hs_111_69 hF160.1) ?_
                    refine tw_iload rfl rfl ?_
                    refine tw_dup2 rfl ?_
                    refine tw_iald rfl (fun f1172 => ?_)
                    refine tw_iload rfl rfl ?_
                    refine tw_if_eq rfl (fun _ => ?_) (fun z => absurd z (by decide))
                    refine tw_push rfl ?_
                    refine tw_iadd rfl ?_
                    refine tw_iast rfl (fun f1173 => ?_)
                    refine tG_lsi f1173 hF160.1 (fun g161 a161 => ?_)
                    try dsimp only [tvI_i, tvJ_j, tvR_r] at a161
                    have hF161 := aFr_s hF160 a161 (show 159 ≤ 161 ∧ 161 ≤ 162 by decide)
                    refine tw_aload rfl rfl ?_
                    refine tw_getS rfl (hs_111_70 hF161.1) ?_
                    refine tw_iload rfl rfl ?_
                    refine tw_dup2 rfl ?_
                    refine tw_iald rfl (fun f1174 => ?_)
                    refine tw_iload rfl rfl ?_
                    refine tw_if_eq rfl (fun _ => ?_) (fun z => absurd z (by decide))
                    refine tw_iload rfl rfl ?_
                    refine tw_iadd rfl ?_
                    refine tw_iast rfl (fun f1175 => ?_)
                    refine tG_lsi f1175 hF161.1 (fun g162 a162 => ?_)
                    try dsimp only [tvI_i, tvJ_j, tvR_r] at a162
                    have hF162 := aFr_s hF161 a162 (show 159 ≤ 162 ∧ 162 ≤ 162 by decide)
                    refine tw_iinc rfl rfl ?_
                    refine tw_goto rfl ?_
                    rw [zn, e157] at q1079
                    rw [zn, e121, e152] at q1165
                    rw [zn, e158] at q1167
                    have le9 : (tA h 157 n).toInt ≤ m.toInt := by omega
                    have hxn := zof_cl (x := (3 * tA h1 154 z.toNatClampNeg + 0)) (n := ((sIx (tA h 154) (tA h 155)) n).toNat) (by rw [hix]; omega)
                    rw [hxn] at a159
                    rw [hxn] at a160
                    rw [hxn] at a161
                    rw [hxn] at a162
                    have tix : (sIx (tA h 154) (tA h 155)) n = ((((sIx (tA h 154) (tA h 155)) n).toNat : Nat) : Int) := by omega
                    have w159 : (sOC (tA h 157) (fun i => tA h 121 (tA h 152 i).toNatClampNeg) k m) n = 0 := if_neg (fun y => q1165 y.2)
                    have c159 := cN_b (w := sOC (tA h 157) (fun i => tA h 121 (tA h 152 i).toNatClampNeg) k m) (B := 1) (tl := (sIx (tA h 154) (tA h 155))) (n := n) (fun i _ => s01) (by decide) ((sIx (tA h 154) (tA h 155)) n).toNat
                    have w160 : (sOF (tA h 157) (fun i => tA h 121 (tA h 152 i).toNatClampNeg) (tA h 158) k m) n = 0 := if_neg (fun y => q1165 y.2.1)
                    have c160 := cN_b (w := sOF (tA h 157) (fun i => tA h 121 (tA h 152 i).toNatClampNeg) (tA h 158) k m) (B := 1) (tl := (sIx (tA h 154) (tA h 155))) (n := n) (fun i _ => s01) (by decide) ((sIx (tA h 154) (tA h 155)) n).toNat
                    have w161 : (sTC (tA h 157) (fun i => tA h 121 (tA h 152 i).toNatClampNeg) k m) n = 1 := if_pos ⟨le9, q1165⟩
                    have c161 := cN_b (w := sTC (tA h 157) (fun i => tA h 121 (tA h 152 i).toNatClampNeg) k m) (B := 1) (tl := (sIx (tA h 154) (tA h 155))) (n := n) (fun i _ => s01) (by decide) ((sIx (tA h 154) (tA h 155)) n).toNat
                    have w162 : (sTF (tA h 157) (fun i => tA h 121 (tA h 152 i).toNatClampNeg) (tA h 158) k m) n = 0 := if_neg (fun y => y.2.2 q1167)
                    have c162 := cN_b (w := sTF (tA h 157) (fun i => tA h 121 (tA h 152 i).toNatClampNeg) (tA h 158) k m) (B := 1) (tl := (sIx (tA h 154) (tA h 155))) (n := n) (fun i _ => s01) (by decide) ((sIx (tA h 154) (tA h 155)) n).toNat
                    refine tG_cut (zW_mono zTt G dp) (Or.inr ⟨rfl, rfl, g162, n + 1, z + 1, _, _, _, _, _, _, _, _, _, _, rfl, hF162, hz1, by omega, fun t ht => ?_, fun t ht => ?_, fun t ht => ?_, fun t ht => ?_, rfl⟩)
                    · rw [mIs_o a162 (Or.inl (by decide)), mIs_o a161 (Or.inl (by decide)), mIs_o a160 (Or.inl (by decide))]
                      by_cases y : t = ((sIx (tA h 154) (tA h 155)) n).toNat
                      · rw [y, mIs_x a159, cN_y tix, w159]
                        exact zadU (hall159 _ (by omega)) rfl (by omega)
                      · rw [mIs_o a159 (Or.inr y), hall159 t ht, cN_n (fun y2 => absurd (by omega) y)]
                    · rw [mIs_o a162 (Or.inl (by decide)), mIs_o a161 (Or.inl (by decide))]
                      by_cases y : t = ((sIx (tA h 154) (tA h 155)) n).toNat
                      · rw [y, mIs_x a160, cN_y tix, w160]
                        exact zadU ((congrArg Int32.toInt (mIs_o a159 (Or.inl (by decide)))).trans (hall160 _ (by omega))) rfl (by omega)
                      · rw [mIs_o a160 (Or.inr y), mIs_o a159 (Or.inl (by decide)), hall160 t ht, cN_n (fun y2 => absurd (by omega) y)]
                    · rw [mIs_o a162 (Or.inl (by decide))]
                      by_cases y : t = ((sIx (tA h 154) (tA h 155)) n).toNat
                      · rw [y, mIs_x a161, cN_y tix, w161]
                        exact zadU ((congrArg Int32.toInt (mIs_o a160 (Or.inl (by decide)))).trans ((congrArg Int32.toInt (mIs_o a159 (Or.inl (by decide)))).trans (hall161 _ (by omega)))) rfl (by omega)
                      · rw [mIs_o a161 (Or.inr y), mIs_o a160 (Or.inl (by decide)), mIs_o a159 (Or.inl (by decide)), hall161 t ht, cN_n (fun y2 => absurd (by omega) y)]
                    · skip
                      by_cases y : t = ((sIx (tA h 154) (tA h 155)) n).toNat
                      · rw [y, mIs_x a162, cN_y tix, w162]
                        exact zadU ((congrArg Int32.toInt (mIs_o a161 (Or.inl (by decide)))).trans ((congrArg Int32.toInt (mIs_o a160 (Or.inl (by decide)))).trans ((congrArg Int32.toInt (mIs_o a159 (Or.inl (by decide)))).trans (hall162 _ (by omega))))) rfl (by omega)
                      · rw [mIs_o a162 (Or.inr y), mIs_o a161 (Or.inl (by decide)), mIs_o a160 (Or.inl (by decide)), mIs_o a159 (Or.inl (by decide)), hall162 t ht, cN_n (fun y2 => absurd (by omega) y)]
                  · try dsimp only [tvI_i, tvJ_j, tvR_r] at q1167
                    have q1167i := zneq (Y := 0) (by decide) q1167
                    refine tw_push rfl ?_
                    refine tw_goto rfl ?_
                    refine tw_istore rfl ?_
                    refine tw_aload rfl rfl ?_
                    refine tw_getS rfl (hs_111_67 hF.1) ?_
                    refine tw_iload rfl rfl ?_
                    refine tw_dup2 rfl ?_
                    refine tw_iald rfl (fun f1176 => ?_)
                    refine tw_iload rfl rfl ?_
                    refine tw_if_eq rfl (fun _ => ?_) (fun z => absurd z (by decide))
                    refine tw_push rfl ?_
                    refine tw_iadd rfl ?_
                    refine tw_iast rfl (fun f1177 => ?_)
                    refine tG_lsi f1177 hF.1 (fun g159 a159 => ?_)
                    try dsimp only [tvI_i, tvJ_j, tvR_r] at a159
                    have hF159 := aFr_s hF a159 (show 159 ≤ 159 ∧ 159 ≤ 162 by decide)
                    refine tw_aload rfl rfl ?_
                    refine tw_getS rfl (hs_111_68 hF159.1) ?_
                    refine tw_iload rfl rfl ?_
                    refine tw_dup2 rfl ?_
                    refine tw_iald rfl (fun f1178 => ?_)
                    refine tw_iload rfl rfl ?_
                    refine tw_if_eq rfl (fun _ => ?_) (fun z => absurd z (by decide))
                    refine tw_push rfl ?_
                    refine tw_iadd rfl ?_
                    refine tw_iast rfl (fun f1179 => ?_)
                    refine tG_lsi f1179 hF159.1 (fun g160 a160 => ?_)
                    try dsimp only [tvI_i, tvJ_j, tvR_r] at a160
                    have hF160 := aFr_s hF159 a160 (show 159 ≤ 160 ∧ 160 ≤ 162 by decide)
                    refine tw_aload rfl rfl ?_
                    refine tw_getS rfl (hs_111_69 hF160.1) ?_
                    refine tw_iload rfl rfl ?_
                    refine tw_dup2 rfl ?_
                    refine tw_iald rfl (fun f1180 => ?_)
                    refine tw_iload rfl rfl ?_
                    refine tw_if_eq rfl (fun _ => ?_) (fun z => absurd z (by decide))
                    refine tw_push rfl ?_
                    refine tw_iadd rfl ?_
                    refine tw_iast rfl (fun f1181 => ?_)
                    refine tG_lsi f1181 hF160.1 (fun g161 a161 => ?_)
                    try dsimp only [tvI_i, tvJ_j, tvR_r] at a161
                    have hF161 := aFr_s hF160 a161 (show 159 ≤ 161 ∧ 161 ≤ 162 by decide)
                    refine tw_aload rfl rfl ?_
                    refine tw_getS rfl (hs_111_70 hF161.1) ?_
                    refine tw_iload rfl rfl ?_
                    refine tw_dup2 rfl ?_
                    refine tw_iald rfl (fun f1182 => ?_)
                    refine tw_iload rfl rfl ?_
                    refine tw_if_eq rfl (fun _ => ?_) (fun z => absurd z (by decide))
                    refine tw_iload rfl rfl ?_
                    refine tw_iadd rfl ?_
                    refine tw_iast rfl (fun f1183 => ?_)
                    refine tG_lsi f1183 hF161.1 (fun g162 a162 => ?_)
                    try dsimp only [tvI_i, tvJ_j, tvR_r] at a162
                    have hF162 := aFr_s hF161 a162 (show 159 ≤ 162 ∧ 162 ≤ 162 by decide)
                    refine tw_iinc rfl rfl ?_
                    refine tw_goto rfl ?_
                    rw [zn, e157] at q1079
                    rw [zn, e121, e152] at q1165
                    rw [zn, e158] at q1167
                    have le9 : (tA h 157 n).toInt ≤ m.toInt := by omega
                    have hxn := zof_cl (x := (3 * tA h1 154 z.toNatClampNeg + 0)) (n := ((sIx (tA h 154) (tA h 155)) n).toNat) (by rw [hix]; omega)
                    rw [hxn] at a159
                    rw [hxn] at a160
                    rw [hxn] at a161
                    rw [hxn] at a162
                    have tix : (sIx (tA h 154) (tA h 155)) n = ((((sIx (tA h 154) (tA h 155)) n).toNat : Nat) : Int) := by omega
                    have w159 : (sOC (tA h 157) (fun i => tA h 121 (tA h 152 i).toNatClampNeg) k m) n = 0 := if_neg (fun y => q1165 y.2)
                    have c159 := cN_b (w := sOC (tA h 157) (fun i => tA h 121 (tA h 152 i).toNatClampNeg) k m) (B := 1) (tl := (sIx (tA h 154) (tA h 155))) (n := n) (fun i _ => s01) (by decide) ((sIx (tA h 154) (tA h 155)) n).toNat
                    have w160 : (sOF (tA h 157) (fun i => tA h 121 (tA h 152 i).toNatClampNeg) (tA h 158) k m) n = 0 := if_neg (fun y => q1165 y.2.1)
                    have c160 := cN_b (w := sOF (tA h 157) (fun i => tA h 121 (tA h 152 i).toNatClampNeg) (tA h 158) k m) (B := 1) (tl := (sIx (tA h 154) (tA h 155))) (n := n) (fun i _ => s01) (by decide) ((sIx (tA h 154) (tA h 155)) n).toNat
                    have w161 : (sTC (tA h 157) (fun i => tA h 121 (tA h 152 i).toNatClampNeg) k m) n = 1 := if_pos ⟨le9, q1165⟩
                    have c161 := cN_b (w := sTC (tA h 157) (fun i => tA h 121 (tA h 152 i).toNatClampNeg) k m) (B := 1) (tl := (sIx (tA h 154) (tA h 155))) (n := n) (fun i _ => s01) (by decide) ((sIx (tA h 154) (tA h 155)) n).toNat
                    have w162 : (sTF (tA h 157) (fun i => tA h 121 (tA h 152 i).toNatClampNeg) (tA h 158) k m) n = 1 := if_pos ⟨le9, q1165, q1167⟩
                    have c162 := cN_b (w := sTF (tA h 157) (fun i => tA h 121 (tA h 152 i).toNatClampNeg) (tA h 158) k m) (B := 1) (tl := (sIx (tA h 154) (tA h 155))) (n := n) (fun i _ => s01) (by decide) ((sIx (tA h 154) (tA h 155)) n).toNat
                    refine tG_cut (zW_mono zTt G dp) (Or.inr ⟨rfl, rfl, g162, n + 1, z + 1, _, _, _, _, _, _, _, _, _, _, rfl, hF162, hz1, by omega, fun t ht => ?_, fun t ht => ?_, fun t ht => ?_, fun t ht => ?_, rfl⟩)
                    · rw [mIs_o a162 (Or.inl (by decide)), mIs_o a161 (Or.inl (by decide)), mIs_o a160 (Or.inl (by decide))]
                      by_cases y : t = ((sIx (tA h 154) (tA h 155)) n).toNat
                      · rw [y, mIs_x a159, cN_y tix, w159]
                        exact zadU (hall159 _ (by omega)) rfl (by omega)
                      · rw [mIs_o a159 (Or.inr y), hall159 t ht, cN_n (fun y2 => absurd (by omega) y)]
                    · rw [mIs_o a162 (Or.inl (by decide)), mIs_o a161 (Or.inl (by decide))]
                      by_cases y : t = ((sIx (tA h 154) (tA h 155)) n).toNat
                      · rw [y, mIs_x a160, cN_y tix, w160]
                        exact zadU ((congrArg Int32.toInt (mIs_o a159 (Or.inl (by decide)))).trans (hall160 _ (by omega))) rfl (by omega)
                      · rw [mIs_o a160 (Or.inr y), mIs_o a159 (Or.inl (by decide)), hall160 t ht, cN_n (fun y2 => absurd (by omega) y)]
                    · rw [mIs_o a162 (Or.inl (by decide))]
                      by_cases y : t = ((sIx (tA h 154) (tA h 155)) n).toNat
                      · rw [y, mIs_x a161, cN_y tix, w161]
                        exact zadU ((congrArg Int32.toInt (mIs_o a160 (Or.inl (by decide)))).trans ((congrArg Int32.toInt (mIs_o a159 (Or.inl (by decide)))).trans (hall161 _ (by omega)))) rfl (by omega)
                      · rw [mIs_o a161 (Or.inr y), mIs_o a160 (Or.inl (by decide)), mIs_o a159 (Or.inl (by decide)), hall161 t ht, cN_n (fun y2 => absurd (by omega) y)]
                    · skip
                      by_cases y : t = ((sIx (tA h 154) (tA h 155)) n).toNat
                      · rw [y, mIs_x a162, cN_y tix, w162]
                        exact zadU ((congrArg Int32.toInt (mIs_o a161 (Or.inl (by decide)))).trans ((congrArg Int32.toInt (mIs_o a160 (Or.inl (by decide)))).trans ((congrArg Int32.toInt (mIs_o a159 (Or.inl (by decide)))).trans (hall162 _ (by omega))))) rfl (by omega)
                      · rw [mIs_o a162 (Or.inr y), mIs_o a161 (Or.inl (by decide)), mIs_o a160 (Or.inl (by decide)), mIs_o a159 (Or.inl (by decide)), hall162 t ht, cN_n (fun y2 => absurd (by omega) y)]
                · try dsimp only [tvI_i, tvJ_j, tvR_r] at q1165
                  have q1165i := zeqi rfl q1165
                  refine tw_push rfl ?_
                  refine tw_goto rfl ?_
                  refine tw_istore rfl ?_
                  refine tw_aload rfl rfl ?_
                  refine tw_getS rfl (hs_111_66 hF.1) ?_
                  refine tw_iload rfl rfl ?_
                  refine tw_bald rfl (fun f1184 => ?_)
                  refine tw_if_eq rfl (fun q1185 => ?_) (fun q1185 => ?_)
                  · try dsimp only [tvI_i, tvJ_j, tvR_r] at q1185
                    have q1185i := zeqi (Y := 0) (by decide) q1185
                    refine tw_push rfl ?_
                    refine tw_istore rfl ?_
                    refine tw_aload rfl rfl ?_
                    refine tw_getS rfl (hs_111_67 hF.1) ?_
                    refine tw_iload rfl rfl ?_
                    refine tw_dup2 rfl ?_
                    refine tw_iald rfl (fun f1186 => ?_)
                    refine tw_iload rfl rfl ?_
                    refine tw_if_eq rfl (fun z => absurd z (by decide)) (fun _ => ?_)
                    refine tw_push rfl ?_
                    refine tw_goto rfl ?_
                    refine tw_iadd rfl ?_
                    refine tw_iast rfl (fun f1187 => ?_)
                    refine tG_lsi f1187 hF.1 (fun g159 a159 => ?_)
                    try dsimp only [tvI_i, tvJ_j, tvR_r] at a159
                    have hF159 := aFr_s hF a159 (show 159 ≤ 159 ∧ 159 ≤ 162 by decide)
                    refine tw_aload rfl rfl ?_
                    refine tw_getS rfl (hs_111_68 hF159.1) ?_
                    refine tw_iload rfl rfl ?_
                    refine tw_dup2 rfl ?_
                    refine tw_iald rfl (fun f1188 => ?_)
                    refine tw_iload rfl rfl ?_
                    refine tw_if_eq rfl (fun z => absurd z (by decide)) (fun _ => ?_)
                    refine tw_iload rfl rfl ?_
                    refine tw_goto rfl ?_
                    refine tw_iadd rfl ?_
                    refine tw_iast rfl (fun f1189 => ?_)
                    refine tG_lsi f1189 hF159.1 (fun g160 a160 => ?_)
                    try dsimp only [tvI_i, tvJ_j, tvR_r] at a160
                    have hF160 := aFr_s hF159 a160 (show 159 ≤ 160 ∧ 160 ≤ 162 by decide)
                    refine tw_aload rfl rfl ?_
                    refine tw_getS rfl (hs_111_69 hF160.1) ?_
                    refine tw_iload rfl rfl ?_
                    refine tw_dup2 rfl ?_
                    refine tw_iald rfl (fun f1190 => ?_)
                    refine tw_iload rfl rfl ?_
                    refine tw_if_eq rfl (fun z => absurd z (by decide)) (fun _ => ?_)
                    refine tw_push rfl ?_
                    refine tw_goto rfl ?_
                    refine tw_iadd rfl ?_
                    refine tw_iast rfl (fun f1191 => ?_)
                    refine tG_lsi f1191 hF160.1 (fun g161 a161 => ?_)
                    try dsimp only [tvI_i, tvJ_j, tvR_r] at a161
                    have hF161 := aFr_s hF160 a161 (show 159 ≤ 161 ∧ 161 ≤ 162 by decide)
                    refine tw_aload rfl rfl ?_
                    refine tw_getS rfl (hs_111_70 hF161.1) ?_
                    refine tw_iload rfl rfl ?_
                    refine tw_dup2 rfl ?_
                    refine tw_iald rfl (fun f1192 => ?_)
                    refine tw_iload rfl rfl ?_
                    refine tw_if_eq rfl (fun z => absurd z (by decide)) (fun _ => ?_)
                    refine tw_push rfl ?_
                    refine tw_goto rfl ?_
                    refine tw_iadd rfl ?_
                    refine tw_iast rfl (fun f1193 => ?_)
                    refine tG_lsi f1193 hF161.1 (fun g162 a162 => ?_)
                    try dsimp only [tvI_i, tvJ_j, tvR_r] at a162
                    have hF162 := aFr_s hF161 a162 (show 159 ≤ 162 ∧ 162 ≤ 162 by decide)
                    refine tw_iinc rfl rfl ?_
                    refine tw_goto rfl ?_
                    rw [zn, e157] at q1079
                    rw [zn, e121, e152] at q1165
                    rw [zn, e158] at q1185
                    have le9 : (tA h 157 n).toInt ≤ m.toInt := by omega
                    have hxn := zof_cl (x := (3 * tA h1 154 z.toNatClampNeg + 0)) (n := ((sIx (tA h 154) (tA h 155)) n).toNat) (by rw [hix]; omega)
                    rw [hxn] at a159
                    rw [hxn] at a160
                    rw [hxn] at a161
                    rw [hxn] at a162
                    have tix : (sIx (tA h 154) (tA h 155)) n = ((((sIx (tA h 154) (tA h 155)) n).toNat : Nat) : Int) := by omega
                    have w159 : (sOC (tA h 157) (fun i => tA h 121 (tA h 152 i).toNatClampNeg) k m) n = 1 := if_pos ⟨le9, q1165⟩
                    have c159 := cN_b (w := sOC (tA h 157) (fun i => tA h 121 (tA h 152 i).toNatClampNeg) k m) (B := 1) (tl := (sIx (tA h 154) (tA h 155))) (n := n) (fun i _ => s01) (by decide) ((sIx (tA h 154) (tA h 155)) n).toNat
                    have w160 : (sOF (tA h 157) (fun i => tA h 121 (tA h 152 i).toNatClampNeg) (tA h 158) k m) n = 0 := if_neg (fun y => y.2.2 q1185)
                    have c160 := cN_b (w := sOF (tA h 157) (fun i => tA h 121 (tA h 152 i).toNatClampNeg) (tA h 158) k m) (B := 1) (tl := (sIx (tA h 154) (tA h 155))) (n := n) (fun i _ => s01) (by decide) ((sIx (tA h 154) (tA h 155)) n).toNat
                    have w161 : (sTC (tA h 157) (fun i => tA h 121 (tA h 152 i).toNatClampNeg) k m) n = 0 := if_neg (fun y => y.2 q1165)
                    have c161 := cN_b (w := sTC (tA h 157) (fun i => tA h 121 (tA h 152 i).toNatClampNeg) k m) (B := 1) (tl := (sIx (tA h 154) (tA h 155))) (n := n) (fun i _ => s01) (by decide) ((sIx (tA h 154) (tA h 155)) n).toNat
                    have w162 : (sTF (tA h 157) (fun i => tA h 121 (tA h 152 i).toNatClampNeg) (tA h 158) k m) n = 0 := if_neg (fun y => y.2.1 q1165)
                    have c162 := cN_b (w := sTF (tA h 157) (fun i => tA h 121 (tA h 152 i).toNatClampNeg) (tA h 158) k m) (B := 1) (tl := (sIx (tA h 154) (tA h 155))) (n := n) (fun i _ => s01) (by decide) ((sIx (tA h 154) (tA h 155)) n).toNat
                    refine tG_cut (zW_mono zTt G dp) (Or.inr ⟨rfl, rfl, g162, n + 1, z + 1, _, _, _, _, _, _, _, _, _, _, rfl, hF162, hz1, by omega, fun t ht => ?_, fun t ht => ?_, fun t ht => ?_, fun t ht => ?_, rfl⟩)
                    · rw [mIs_o a162 (Or.inl (by decide)), mIs_o a161 (Or.inl (by decide)), mIs_o a160 (Or.inl (by decide))]
                      by_cases y : t = ((sIx (tA h 154) (tA h 155)) n).toNat
                      · rw [y, mIs_x a159, cN_y tix, w159]
                        exact zadU (hall159 _ (by omega)) rfl (by omega)
                      · rw [mIs_o a159 (Or.inr y), hall159 t ht, cN_n (fun y2 => absurd (by omega) y)]
                    · rw [mIs_o a162 (Or.inl (by decide)), mIs_o a161 (Or.inl (by decide))]
                      by_cases y : t = ((sIx (tA h 154) (tA h 155)) n).toNat
                      · rw [y, mIs_x a160, cN_y tix, w160]
                        exact zadU ((congrArg Int32.toInt (mIs_o a159 (Or.inl (by decide)))).trans (hall160 _ (by omega))) rfl (by omega)
                      · rw [mIs_o a160 (Or.inr y), mIs_o a159 (Or.inl (by decide)), hall160 t ht, cN_n (fun y2 => absurd (by omega) y)]
                    · rw [mIs_o a162 (Or.inl (by decide))]
                      by_cases y : t = ((sIx (tA h 154) (tA h 155)) n).toNat
                      · rw [y, mIs_x a161, cN_y tix, w161]
                        exact zadU ((congrArg Int32.toInt (mIs_o a160 (Or.inl (by decide)))).trans ((congrArg Int32.toInt (mIs_o a159 (Or.inl (by decide)))).trans (hall161 _ (by omega)))) rfl (by omega)
                      · rw [mIs_o a161 (Or.inr y), mIs_o a160 (Or.inl (by decide)), mIs_o a159 (Or.inl (by decide)), hall161 t ht, cN_n (fun y2 => absurd (by omega) y)]
                    · skip
                      by_cases y : t = ((sIx (tA h 154) (tA h 155)) n).toNat
                      · rw [y, mIs_x a162, cN_y tix, w162]
                        exact zadU ((congrArg Int32.toInt (mIs_o a161 (Or.inl (by decide)))).trans ((congrArg Int32.toInt (mIs_o a160 (Or.inl (by decide)))).trans ((congrArg Int32.toInt (mIs_o a159 (Or.inl (by decide)))).trans (hall162 _ (by omega))))) rfl (by omega)
                      · rw [mIs_o a162 (Or.inr y), mIs_o a161 (Or.inl (by decide)), mIs_o a160 (Or.inl (by decide)), mIs_o a159 (Or.inl (by decide)), hall162 t ht, cN_n (fun y2 => absurd (by omega) y)]
                  · try dsimp only [tvI_i, tvJ_j, tvR_r] at q1185
                    have q1185i := zneq (Y := 0) (by decide) q1185
                    refine tw_push rfl ?_
                    refine tw_goto rfl ?_
                    refine tw_istore rfl ?_
                    refine tw_aload rfl rfl ?_
                    refine tw_getS rfl (hs_111_67 hF.1) ?_
                    refine tw_iload rfl rfl ?_
                    refine tw_dup2 rfl ?_
                    refine tw_iald rfl (fun f1194 => ?_)
                    refine tw_iload rfl rfl ?_
                    refine tw_if_eq rfl (fun z => absurd z (by decide)) (fun _ => ?_)
                    refine tw_push rfl ?_
                    refine tw_goto rfl ?_
                    refine tw_iadd rfl ?_
                    refine tw_iast rfl (fun f1195 => ?_)
                    refine tG_lsi f1195 hF.1 (fun g159 a159 => ?_)
                    try dsimp only [tvI_i, tvJ_j, tvR_r] at a159
                    have hF159 := aFr_s hF a159 (show 159 ≤ 159 ∧ 159 ≤ 162 by decide)
                    refine tw_aload rfl rfl ?_
                    refine tw_getS rfl (hs_111_68 hF159.1) ?_
                    refine tw_iload rfl rfl ?_
                    refine tw_dup2 rfl ?_
                    refine tw_iald rfl (fun f1196 => ?_)
                    refine tw_iload rfl rfl ?_
                    refine tw_if_eq rfl (fun z => absurd z (by decide)) (fun _ => ?_)
                    refine tw_iload rfl rfl ?_
                    refine tw_goto rfl ?_
                    refine tw_iadd rfl ?_
                    refine tw_iast rfl (fun f1197 => ?_)
                    refine tG_lsi f1197 hF159.1 (fun g160 a160 => ?_)
                    try dsimp only [tvI_i, tvJ_j, tvR_r] at a160
                    have hF160 := aFr_s hF159 a160 (show 159 ≤ 160 ∧ 160 ≤ 162 by decide)
                    refine tw_aload rfl rfl ?_
                    refine tw_getS rfl (hs_111_69 hF160.1) ?_
                    refine tw_iload rfl rfl ?_
                    refine tw_dup2 rfl ?_
                    refine tw_iald rfl (fun f1198 => ?_)
                    refine tw_iload rfl rfl ?_
                    refine tw_if_eq rfl (fun z => absurd z (by decide)) (fun _ => ?_)
                    refine tw_push rfl ?_
                    refine tw_goto rfl ?_
                    refine tw_iadd rfl ?_
                    refine tw_iast rfl (fun f1199 => ?_)
                    refine tG_lsi f1199 hF160.1 (fun g161 a161 => ?_)
                    try dsimp only [tvI_i, tvJ_j, tvR_r] at a161
                    have hF161 := aFr_s hF160 a161 (show 159 ≤ 161 ∧ 161 ≤ 162 by decide)
                    refine tw_aload rfl rfl ?_
                    refine tw_getS rfl (hs_111_70 hF161.1) ?_
                    refine tw_iload rfl rfl ?_
                    refine tw_dup2 rfl ?_
                    refine tw_iald rfl (fun f1200 => ?_)
                    refine tw_iload rfl rfl ?_
                    refine tw_if_eq rfl (fun z => absurd z (by decide)) (fun _ => ?_)
                    refine tw_push rfl ?_
                    refine tw_goto rfl ?_
                    refine tw_iadd rfl ?_
                    refine tw_iast rfl (fun f1201 => ?_)
                    refine tG_lsi f1201 hF161.1 (fun g162 a162 => ?_)
                    try dsimp only [tvI_i, tvJ_j, tvR_r] at a162
                    have hF162 := aFr_s hF161 a162 (show 159 ≤ 162 ∧ 162 ≤ 162 by decide)
                    refine tw_iinc rfl rfl ?_
                    refine tw_goto rfl ?_
                    rw [zn, e157] at q1079
                    rw [zn, e121, e152] at q1165
                    rw [zn, e158] at q1185
                    have le9 : (tA h 157 n).toInt ≤ m.toInt := by omega
                    have hxn := zof_cl (x := (3 * tA h1 154 z.toNatClampNeg + 0)) (n := ((sIx (tA h 154) (tA h 155)) n).toNat) (by rw [hix]; omega)
                    rw [hxn] at a159
                    rw [hxn] at a160
                    rw [hxn] at a161
                    rw [hxn] at a162
                    have tix : (sIx (tA h 154) (tA h 155)) n = ((((sIx (tA h 154) (tA h 155)) n).toNat : Nat) : Int) := by omega
                    have w159 : (sOC (tA h 157) (fun i => tA h 121 (tA h 152 i).toNatClampNeg) k m) n = 1 := if_pos ⟨le9, q1165⟩
                    have c159 := cN_b (w := sOC (tA h 157) (fun i => tA h 121 (tA h 152 i).toNatClampNeg) k m) (B := 1) (tl := (sIx (tA h 154) (tA h 155))) (n := n) (fun i _ => s01) (by decide) ((sIx (tA h 154) (tA h 155)) n).toNat
                    have w160 : (sOF (tA h 157) (fun i => tA h 121 (tA h 152 i).toNatClampNeg) (tA h 158) k m) n = 1 := if_pos ⟨le9, q1165, q1185⟩
                    have c160 := cN_b (w := sOF (tA h 157) (fun i => tA h 121 (tA h 152 i).toNatClampNeg) (tA h 158) k m) (B := 1) (tl := (sIx (tA h 154) (tA h 155))) (n := n) (fun i _ => s01) (by decide) ((sIx (tA h 154) (tA h 155)) n).toNat
                    have w161 : (sTC (tA h 157) (fun i => tA h 121 (tA h 152 i).toNatClampNeg) k m) n = 0 := if_neg (fun y => y.2 q1165)
                    have c161 := cN_b (w := sTC (tA h 157) (fun i => tA h 121 (tA h 152 i).toNatClampNeg) k m) (B := 1) (tl := (sIx (tA h 154) (tA h 155))) (n := n) (fun i _ => s01) (by decide) ((sIx (tA h 154) (tA h 155)) n).toNat
                    have w162 : (sTF (tA h 157) (fun i => tA h 121 (tA h 152 i).toNatClampNeg) (tA h 158) k m) n = 0 := if_neg (fun y => y.2.1 q1165)
                    have c162 := cN_b (w := sTF (tA h 157) (fun i => tA h 121 (tA h 152 i).toNatClampNeg) (tA h 158) k m) (B := 1) (tl := (sIx (tA h 154) (tA h 155))) (n := n) (fun i _ => s01) (by decide) ((sIx (tA h 154) (tA h 155)) n).toNat
                    refine tG_cut (zW_mono zTt G dp) (Or.inr ⟨rfl, rfl, g162, n + 1, z + 1, _, _, _, _, _, _, _, _, _, _, rfl, hF162, hz1, by omega, fun t ht => ?_, fun t ht => ?_, fun t ht => ?_, fun t ht => ?_, rfl⟩)
                    · rw [mIs_o a162 (Or.inl (by decide)), mIs_o a161 (Or.inl (by decide)), mIs_o a160 (Or.inl (by decide))]
                      by_cases y : t = ((sIx (tA h 154) (tA h 155)) n).toNat
                      · rw [y, mIs_x a159, cN_y tix, w159]
                        exact zadU (hall159 _ (by omega)) rfl (by omega)
                      · rw [mIs_o a159 (Or.inr y), hall159 t ht, cN_n (fun y2 => absurd (by omega) y)]
                    · rw [mIs_o a162 (Or.inl (by decide)), mIs_o a161 (Or.inl (by decide))]
                      by_cases y : t = ((sIx (tA h 154) (tA h 155)) n).toNat
                      · rw [y, mIs_x a160, cN_y tix, w160]
                        exact zadU ((congrArg Int32.toInt (mIs_o a159 (Or.inl (by decide)))).trans (hall160 _ (by omega))) rfl (by omega)
                      · rw [mIs_o a160 (Or.inr y), mIs_o a159 (Or.inl (by decide)), hall160 t ht, cN_n (fun y2 => absurd (by omega) y)]
                    · rw [mIs_o a162 (Or.inl (by decide))]
                      by_cases y : t = ((sIx (tA h 154) (tA h 155)) n).toNat
                      · rw [y, mIs_x a161, cN_y tix, w161]
                        exact zadU ((congrArg Int32.toInt (mIs_o a160 (Or.inl (by decide)))).trans ((congrArg Int32.toInt (mIs_o a159 (Or.inl (by decide)))).trans (hall161 _ (by omega)))) rfl (by omega)
                      · rw [mIs_o a161 (Or.inr y), mIs_o a160 (Or.inl (by decide)), mIs_o a159 (Or.inl (by decide)), hall161 t ht, cN_n (fun y2 => absurd (by omega) y)]
                    · skip
                      by_cases y : t = ((sIx (tA h 154) (tA h 155)) n).toNat
                      · rw [y, mIs_x a162, cN_y tix, w162]
                        exact zadU ((congrArg Int32.toInt (mIs_o a161 (Or.inl (by decide)))).trans ((congrArg Int32.toInt (mIs_o a160 (Or.inl (by decide)))).trans ((congrArg Int32.toInt (mIs_o a159 (Or.inl (by decide)))).trans (hall162 _ (by omega))))) rfl (by omega)
                      · rw [mIs_o a162 (Or.inr y), mIs_o a161 (Or.inl (by decide)), mIs_o a160 (Or.inl (by decide)), mIs_o a159 (Or.inl (by decide)), hall162 t ht, cN_n (fun y2 => absurd (by omega) y)]
        · try dsimp only [tvI_i, tvJ_j, tvR_r] at q1063
          refine tw_aload rfl rfl ?_
          refine tw_getS rfl (hs_111_67 hF.1) ?_
          refine tw_iload rfl rfl ?_
          refine tw_push rfl ?_
          refine tw_iast rfl (fun f1202 => ?_)
          refine tG_lsi f1202 hF.1 (fun g159 a159 => ?_)
          try dsimp only [tvI_i, tvJ_j, tvR_r] at a159
          have hF159 := aFr_s hF a159 (show 159 ≤ 159 ∧ 159 ≤ 162 by decide)
          refine tw_aload rfl rfl ?_
          refine tw_getS rfl (hs_111_68 hF159.1) ?_
          refine tw_iload rfl rfl ?_
          refine tw_push rfl ?_
          refine tw_iast rfl (fun f1203 => ?_)
          refine tG_lsi f1203 hF159.1 (fun g160 a160 => ?_)
          try dsimp only [tvI_i, tvJ_j, tvR_r] at a160
          have hF160 := aFr_s hF159 a160 (show 159 ≤ 160 ∧ 160 ≤ 162 by decide)
          refine tw_aload rfl rfl ?_
          refine tw_getS rfl (hs_111_69 hF160.1) ?_
          refine tw_iload rfl rfl ?_
          refine tw_push rfl ?_
          refine tw_iast rfl (fun f1204 => ?_)
          refine tG_lsi f1204 hF160.1 (fun g161 a161 => ?_)
          try dsimp only [tvI_i, tvJ_j, tvR_r] at a161
          have hF161 := aFr_s hF160 a161 (show 159 ≤ 161 ∧ 161 ≤ 162 by decide)
          refine tw_aload rfl rfl ?_
          refine tw_getS rfl (hs_111_70 hF161.1) ?_
          refine tw_iload rfl rfl ?_
          refine tw_push rfl ?_
          refine tw_iast rfl (fun f1205 => ?_)
          refine tG_lsi f1205 hF161.1 (fun g162 a162 => ?_)
          try dsimp only [tvI_i, tvJ_j, tvR_r] at a162
          have hF162 := aFr_s hF161 a162 (show 159 ≤ 162 ∧ 162 ≤ 162 by decide)
          refine tw_iinc rfl rfl ?_
          refine tw_goto rfl ?_
          have hz1 : (z + 1).toInt = ((n + 1 : Nat) : Int) := zincN hz (by omega)
          rw [zof_cl hz] at a159
          rw [zof_cl hz] at a160
          rw [zof_cl hz] at a161
          rw [zof_cl hz] at a162
          refine tG_cut (zW_mono zTt G dp) (Or.inr ⟨rfl, rfl, _, n + 1, z + 1, _, _, _, _, _, _, _, _, _, _, rfl, hF162, hz1, by omega, fun t ht => ?_, fun t ht => ?_, fun t ht => ?_, fun t ht => ?_, rfl⟩)
          · rw [mIs_o a162 (Or.inl (by decide)), mIs_o a161 (Or.inl (by decide)), mIs_o a160 (Or.inl (by decide))]
            by_cases y : t = n
            · rw [y]; exact mIs_x a159
            · rw [mIs_o a159 (Or.inr y)]
              exact hall159 t (by omega)
          · rw [mIs_o a162 (Or.inl (by decide)), mIs_o a161 (Or.inl (by decide))]
            by_cases y : t = n
            · rw [y]; exact mIs_x a160
            · rw [mIs_o a160 (Or.inr y), mIs_o a159 (Or.inl (by decide))]
              exact hall160 t (by omega)
          · rw [mIs_o a162 (Or.inl (by decide))]
            by_cases y : t = n
            · rw [y]; exact mIs_x a161
            · rw [mIs_o a161 (Or.inr y), mIs_o a160 (Or.inl (by decide)), mIs_o a159 (Or.inl (by decide))]
              exact hall161 t (by omega)
          · skip
            by_cases y : t = n
            · rw [y]; exact mIs_x a162
            · rw [mIs_o a162 (Or.inr y), mIs_o a161 (Or.inl (by decide)), mIs_o a160 (Or.inl (by decide)), mIs_o a159 (Or.inl (by decide))]
              exact hall162 t (by omega)
      · try dsimp only [tvI_i, tvJ_j, tvR_r] at p1062
        obtain rfl := e9.symm
        refine tw_if_ne rfl (fun z => absurd z (by decide)) (fun _ => ?_)
        refine tw_push rfl ?_
        exact tw_lret rfl ⟨aFr_r hs, Or.inr ⟨by omega, rfl⟩⟩
    · try dsimp only [tvI_i, tvJ_j, tvR_r] at p1061
      obtain rfl := e9.symm
      refine tw_if_eq rfl (fun _ => ?_) (fun z => absurd z (by decide))
      refine tw_push rfl ?_
      exact tw_lret rfl ⟨aFr_r hs, Or.inr ⟨by omega, rfl⟩⟩
  · try dsimp only [tvI_i, tvJ_j, tvR_r] at p1060
    obtain rfl := e9.symm
    refine tw_if_eq rfl (fun _ => ?_) (fun z => absurd z (by decide))
    refine tw_push rfl ?_
    exact tw_lret rfl ⟨aFr_r hs, Or.inr ⟨by omega, rfl⟩⟩
theorem f_expected {G : zG} (hG : G.1 = zProg) {h : zH} {k m p : Int32} (hs : tSh h) (hn72 : tN h 72 = 9) (hn73 : tN h 73 = 9) (hn74 : tN h 74 = 9) (hn75 : tN h 75 = 9) (h68 : ∀ i, i < 200 → 0 ≤ (tA h 68 i).toInt ∧ (tA h 68 i).toInt ≤ 2) (h69 : ∀ i, i < 200 → 0 ≤ (tA h 69 i).toInt ∧ (tA h 69 i).toInt ≤ 200) (h63 : 0 ≤ (tvI (tF h 63 8)).toInt ∧ (tvI (tF h 63 8)).toInt ≤ 200) : tC zTt G 135 [.ref 0, .int k, .int m, .int p] h (fun w h2 => aFr (fun r => 72 ≤ r ∧ r ≤ 75) h h2 ∧ ((((0 ≤ k.toInt ∧ k.toInt < (tvI (tF h 1 6)).toInt) ∧ (0 ≤ m.toInt ∧ m.toInt ≤ 599) ∧ (0 ≤ p.toInt ∧ p.toInt ≤ 3)) ∧ ∃ x : Int64, w = some (.long x) ∧ x.toInt = ((pick (sSt (cNn (sOC (tA h 67) (tA h 65) k m) (sIx (tA h 68) (tA h 69)) (tvI (tF h 63 8)).toNatClampNeg) (cNn (sOF (tA h 67) (tA h 65) (tA h 71) k m) (sIx (tA h 68) (tA h 69)) (tvI (tF h 63 8)).toNatClampNeg) (cNn (sTC (tA h 67) (tA h 65) k m) (sIx (tA h 68) (tA h 69)) (tvI (tF h 63 8)).toNatClampNeg) (cNn (sTF (tA h 67) (tA h 65) (tA h 71) k m) (sIx (tA h 68) (tA h 69)) (tvI (tF h 63 8)).toNatClampNeg) 9) p : Nat) : Int)) ∨ (¬ ((0 ≤ k.toInt ∧ k.toInt < (tvI (tF h 1 6)).toInt) ∧ (0 ≤ m.toInt ∧ m.toInt ≤ 599) ∧ (0 ≤ p.toInt ∧ p.toInt ≤ 3)) ∧ w = some (.long (-1))))) := by
  refine tC_in (by rw [hG]; rfl) (fun dp => ?_)
  refine tw_aload rfl rfl ?_
  refine tw_getS rfl (hs_0_0 hs) ?_
  refine tw_iload rfl rfl ?_
  refine tw_virt1 rfl (f_hasKind hG hs) (fun w9 h9 p1206 => ?_)
  obtain ⟨⟨p1206, rfl⟩ | ⟨p1206, rfl⟩, rfl⟩ := p1206
  · try dsimp only [tvI_i, tvJ_j, tvR_r] at p1206
    refine tw_if_eq rfl (fun z => absurd z (by decide)) (fun _ => ?_)
    refine tw_iload rfl rfl ?_
    refine tw_stat1 rfl (f_isMonth hG) (fun w9 h9 p1207 => ?_)
    obtain ⟨⟨p1207, rfl⟩ | ⟨p1207, rfl⟩, rfl⟩ := p1207
    · try dsimp only [tvI_i, tvJ_j, tvR_r] at p1207
      refine tw_if_eq rfl (fun z => absurd z (by decide)) (fun _ => ?_)
      refine tw_iload rfl rfl ?_
      refine tw_push rfl ?_
      refine tw_push rfl ?_
      refine tw_stat3 rfl (f_isWithin hG (LO := 0) (HI := 3) (by decide) (by decide)) (fun w9 h9 p1208 => ?_)
      obtain ⟨⟨p1208, rfl⟩ | ⟨p1208, rfl⟩, rfl⟩ := p1208
      · try dsimp only [tvI_i, tvJ_j, tvR_r] at p1208
        refine tw_if_ne rfl (fun _ => ?_) (fun z => absurd z (by decide))
        refine tw_aload rfl rfl ?_
        refine tw_getS rfl (hs_0_5 hs) ?_
        refine tw_iload rfl rfl ?_
        refine tw_iload rfl rfl ?_
        refine tw_iload rfl rfl ?_
        refine tw_virt3 rfl (f_beside hG hs hn72 hn73 hn74 hn75 h68 h69 h63 (by omega)) (fun wp1209 hp1209 p1209 => ?_)
        obtain ⟨Fp1209, xp1209, rfl, ep1209⟩ := p1209
        exact tw_lret rfl ⟨Fp1209, Or.inl ⟨by omega, xp1209, rfl, ep1209⟩⟩
      · try dsimp only [tvI_i, tvJ_j, tvR_r] at p1208
        refine tw_if_ne rfl (fun z => absurd z (by decide)) (fun _ => ?_)
        refine tw_push rfl ?_
        exact tw_lret rfl ⟨aFr_r hs, Or.inr ⟨by omega, rfl⟩⟩
    · try dsimp only [tvI_i, tvJ_j, tvR_r] at p1207
      refine tw_if_eq rfl (fun _ => ?_) (fun z => absurd z (by decide))
      refine tw_push rfl ?_
      exact tw_lret rfl ⟨aFr_r hs, Or.inr ⟨by omega, rfl⟩⟩
  · try dsimp only [tvI_i, tvJ_j, tvR_r] at p1206
    refine tw_if_eq rfl (fun _ => ?_) (fun z => absurd z (by decide))
    refine tw_push rfl ?_
    exact tw_lret rfl ⟨aFr_r hs, Or.inr ⟨by omega, rfl⟩⟩
noncomputable def ph_exc (k m p : Int32) (h : zH) (w : Option Value) (h2 : zH) : Prop := aFr (fun r => 72 ≤ r ∧ r ≤ 75) h h2 ∧ ((((0 ≤ k.toInt ∧ k.toInt < (tvI (tF h 1 6)).toInt) ∧ (0 ≤ m.toInt ∧ m.toInt ≤ 599) ∧ (0 ≤ p.toInt ∧ p.toInt ≤ 3)) ∧ ∃ x : Int64, w = some (.long x) ∧ x.toInt = ((pick (sSt (cNn (sOC (tA h 67) (tA h 65) k m) (sIx (tA h 68) (tA h 69)) (tvI (tF h 63 8)).toNatClampNeg) (cNn (sOF (tA h 67) (tA h 65) (tA h 71) k m) (sIx (tA h 68) (tA h 69)) (tvI (tF h 63 8)).toNatClampNeg) (cNn (sTC (tA h 67) (tA h 65) k m) (sIx (tA h 68) (tA h 69)) (tvI (tF h 63 8)).toNatClampNeg) (cNn (sTF (tA h 67) (tA h 65) (tA h 71) k m) (sIx (tA h 68) (tA h 69)) (tvI (tF h 63 8)).toNatClampNeg) 9) p : Nat) : Int)) ∨ (¬ ((0 ≤ k.toInt ∧ k.toInt < (tvI (tF h 1 6)).toInt) ∧ (0 ≤ m.toInt ∧ m.toInt ≤ 599) ∧ (0 ≤ p.toInt ∧ p.toInt ≤ 3)) ∧ w = some (.long (-1))))
noncomputable def ph_exm (k m p : Int32) (h : zH) (w : Option Value) (h2 : zH) : Prop := aFr (fun r => 159 ≤ r ∧ r ≤ 162) h h2 ∧ ((((0 ≤ k.toInt ∧ k.toInt < (tvI (tF h 111 3)).toInt) ∧ (0 ≤ m.toInt ∧ m.toInt ≤ 599) ∧ (0 ≤ p.toInt ∧ p.toInt ≤ 3)) ∧ ∃ x : Int64, w = some (.long x) ∧ x.toInt = ((pick (sSt (cNn (sOC (tA h 157) (fun i => tA h 121 (tA h 152 i).toNatClampNeg) k m) (sIx (tA h 154) (tA h 155)) (tvI (tF h 111 59)).toNatClampNeg) (cNn (sOF (tA h 157) (fun i => tA h 121 (tA h 152 i).toNatClampNeg) (tA h 158) k m) (sIx (tA h 154) (tA h 155)) (tvI (tF h 111 59)).toNatClampNeg) (cNn (sTC (tA h 157) (fun i => tA h 121 (tA h 152 i).toNatClampNeg) k m) (sIx (tA h 154) (tA h 155)) (tvI (tF h 111 59)).toNatClampNeg) (cNn (sTF (tA h 157) (fun i => tA h 121 (tA h 152 i).toNatClampNeg) (tA h 158) k m) (sIx (tA h 154) (tA h 155)) (tvI (tF h 111 59)).toNatClampNeg) 9) p : Nat) : Int)) ∨ (¬ ((0 ≤ k.toInt ∧ k.toInt < (tvI (tF h 111 3)).toInt) ∧ (0 ≤ m.toInt ∧ m.toInt ≤ 599) ∧ (0 ≤ p.toInt ∧ p.toInt ≤ 3)) ∧ w = some (.long (-1))))
theorem cNn_e {w w2 tl tl2 : Nat → Int} {n : Nat} (h : ∀ i, i < n → w i = w2 i ∧ tl i = tl2 i) : cNn w tl n = cNn w2 tl2 n := funext fun _ => congrArg Int.toNat (cN_e h)
theorem sOC_c {to kd kd2 : Nat → Int32} {k m : Int32} {i : Nat} (h : kd i = kd2 i) : sOC to kd k m i = sOC to kd2 k m i := by unfold sOC; rw [h]
theorem sOF_c {to kd kd2 bu : Nat → Int32} {k m : Int32} {i : Nat} (h : kd i = kd2 i) : sOF to kd bu k m i = sOF to kd2 bu k m i := by unfold sOF; rw [h]
theorem sTC_c {to kd kd2 : Nat → Int32} {k m : Int32} {i : Nat} (h : kd i = kd2 i) : sTC to kd k m i = sTC to kd2 k m i := by unfold sTC; rw [h]
theorem sTF_c {to kd kd2 bu : Nat → Int32} {k m : Int32} {i : Nat} (h : kd i = kd2 i) : sTF to kd bu k m i = sTF to kd2 bu k m i := by unfold sTF; rw [h]
theorem a_expected {k m p : Int32} {h h2 h3 : zH} {w w2 : Option Value} (hC : R_crashes h) (hK : R_kinds h) (hk : R_ck2 h) (hto : R_ctold h) (hbu : R_cburn h) (hso : R_csort h) (hsp : R_cspeed h) (e59 : tF h2 111 59 = tF h 111 59) (e3 : tF h2 111 3 = tF h 111 3) (t121 : tA h2 121 = tA h 121) (t152 : tA h2 152 = tA h 152) (t154 : tA h2 154 = tA h 154) (t155 : tA h2 155 = tA h 155) (t157 : tA h2 157 = tA h 157) (t158 : tA h2 158 = tA h 158) (k1 : ph_exc k m p h w h2) (k2 : ph_exm k m p h2 w2 h3) : w2 = w := by
  unfold R_crashes at hC
  unfold R_kinds at hK
  unfold R_ck2 at hk
  unfold R_ctold at hto
  unfold R_cburn at hbu
  unfold R_csort at hso
  unfold R_cspeed at hsp
  unfold ph_exc at k1
  unfold ph_exm at k2
  have eN : tF h2 111 59 = tF h 63 8 := e59.trans hC.symm
  have eK : tF h2 111 3 = tF h 1 6 := e3.trans hK.symm
  have hn : ∀ i, i < (tvI (tF h 63 8)).toNatClampNeg → tA h 121 (tA h 152 i).toNatClampNeg = tA h 65 i := fun i hi => (hk i (by rw [← hC]; rw [zclE] at hi; omega)).1.symm
  have E72 : (cNn (sOC (tA h2 157) (fun i => tA h2 121 (tA h2 152 i).toNatClampNeg) k m) (sIx (tA h2 154) (tA h2 155)) (tvI (tF h2 111 59)).toNatClampNeg) = (cNn (sOC (tA h 67) (tA h 65) k m) (sIx (tA h 68) (tA h 69)) (tvI (tF h 63 8)).toNatClampNeg) := by
    rw [eN, t157, t121, t152, t154, t155, ← hto, ← hso, ← hsp]
    exact cNn_e (fun i hi => ⟨sOC_c (hn i hi), rfl⟩)
  have E73 : (cNn (sOF (tA h2 157) (fun i => tA h2 121 (tA h2 152 i).toNatClampNeg) (tA h2 158) k m) (sIx (tA h2 154) (tA h2 155)) (tvI (tF h2 111 59)).toNatClampNeg) = (cNn (sOF (tA h 67) (tA h 65) (tA h 71) k m) (sIx (tA h 68) (tA h 69)) (tvI (tF h 63 8)).toNatClampNeg) := by
    rw [eN, t157, t121, t152, t154, t155, t158, ← hto, ← hso, ← hsp, ← hbu]
    exact cNn_e (fun i hi => ⟨sOF_c (hn i hi), rfl⟩)
  have E74 : (cNn (sTC (tA h2 157) (fun i => tA h2 121 (tA h2 152 i).toNatClampNeg) k m) (sIx (tA h2 154) (tA h2 155)) (tvI (tF h2 111 59)).toNatClampNeg) = (cNn (sTC (tA h 67) (tA h 65) k m) (sIx (tA h 68) (tA h 69)) (tvI (tF h 63 8)).toNatClampNeg) := by
    rw [eN, t157, t121, t152, t154, t155, ← hto, ← hso, ← hsp]
    exact cNn_e (fun i hi => ⟨sTC_c (hn i hi), rfl⟩)
  have E75 : (cNn (sTF (tA h2 157) (fun i => tA h2 121 (tA h2 152 i).toNatClampNeg) (tA h2 158) k m) (sIx (tA h2 154) (tA h2 155)) (tvI (tF h2 111 59)).toNatClampNeg) = (cNn (sTF (tA h 67) (tA h 65) (tA h 71) k m) (sIx (tA h 68) (tA h 69)) (tvI (tF h 63 8)).toNatClampNeg) := by
    rw [eN, t157, t121, t152, t154, t155, t158, ← hto, ← hso, ← hsp, ← hbu]
    exact cNn_e (fun i hi => ⟨sTF_c (hn i hi), rfl⟩)
  rcases k1 with ⟨-, ⟨c1, x, rfl, hx⟩ | ⟨c1, rfl⟩⟩ <;> rcases k2 with ⟨-, ⟨c2, y, rfl, hy⟩ | ⟨c2, rfl⟩⟩
  · rw [E72, E73, E74, E75] at hy
    exact congrArg (fun z => some (Value.long z)) (Int64.toInt_inj.mp (hy.trans hx.symm))
  · exact absurd (by rw [eK]; exact c1) c2
  · exact absurd (by rw [← eK]; exact c2) c1
  · rfl
section TN19
variable {xs : Nat → Int32} {τ : List Nat} {h : zH}
theorem tq_72 (hB : zBs xs τ h) : tN h 72 = 9 := by
  obtain ⟨a, b, -⟩ := tkd_a hB (p := 72) (t := 48) rfl rfl
  omega
theorem tq_73 (hB : zBs xs τ h) : tN h 73 = 9 := by
  obtain ⟨a, b, -⟩ := tkd_a hB (p := 73) (t := 49) rfl rfl
  omega
theorem tq_74 (hB : zBs xs τ h) : tN h 74 = 9 := by
  obtain ⟨a, b, -⟩ := tkd_a hB (p := 74) (t := 50) rfl rfl
  omega
theorem tq_75 (hB : zBs xs τ h) : tN h 75 = 9 := by
  obtain ⟨a, b, -⟩ := tkd_a hB (p := 75) (t := 51) rfl rfl
  omega
end TN19
