theorem zdecM {x : Int32} {a : Nat} (hx : x.toInt = a) (h : 1 ≤ a) (ha : a ≤ 1000000) : (x + (-1)).toInt = (a : Int) - 1 := by
  rw [Int32.toInt_add, hx, show (-1 : Int32).toInt = -1 from rfl]
  exact Int.bmod_eq_of_le (by show (-2147483648 : Int) ≤ (a : Int) + -1; omega) (by show (a : Int) + -1 < (2147483648 : Int); omega)
theorem f_work {G : zG} (hG : G.1 = zProg) {h : zH} {a b : Nat} {x y : Int32} {e : List Nat} {t : Bool} (hs : tSh h) (h52 : tN h 52 = 12) (h53 : tN h 53 = 80) (hx : x.toInt = b) (hy : y.toInt = ((b + e.length : Nat) : Int)) (hN : b + e.length ≤ tN h a ∧ tN h a ≤ 400) (hv : ∀ i, i < tN h a → 0 ≤ (tA h a i).toInt) (hc : cdAt (fun i => (tA h a i).toNatClampNeg) b e) (ht : tyL [] e = some [t]) (hn : nVl e ≤ 80) : tC zTt G 68 [.ref 48, .ref a, .int x, .int y] h (fun w h2 => w = some (.long (wv (tJ h 52) e)) ∧ wFr 53 h h2) := by
  refine tC_in (by rw [hG]; rfl) (fun dp => ?_)
  refine tw_push rfl ?_
  refine tw_istore rfl ?_
  refine tw_iload rfl rfl ?_
  refine tw_istore rfl ?_
  refine tG_loop (zW_mono zTt G dp) (zW_conj zTt G dp) (V := fun pc L st h9 _ _ => pc = 6 ∧ st = [] ∧ ∃ (h1 : zH) (k top : Nat) (z u : Int32) (e2 : List Nat) (X : List Int64) (S : List Bool) (l6 : Option Value), h1 = h9 ∧ wFr 53 h h1 ∧ z.toInt = k ∧ u.toInt = top ∧ k + e2.length = b + e.length ∧ evA (tJ h 52) (fun i => (tA h a i).toNatClampNeg) (tJ h1 53) [wv (tJ h 52) e] k top e2 X S ∧ L = [some (.ref 48), some (.ref a), some (.int x), some (.int y), some (.int u), some (.int z), l6]) ?_ (⟨rfl, rfl, h, b, 0, x, 0, e, [], [], _, rfl, wFr_r hs, hx, rfl, rfl, evA_0 hc ht hn, rfl⟩)
  rintro _ _ _ _ _ _ ⟨rfl, rfl, h1, k, top, z, u, e2, X, S, l6, rfl, hF, hz, hu, hke, hE, rfl⟩
  have k19 : (1 : Int32).toInt = 1 := rfl
  have k29 : (100100 : Int32).toInt = 100100 := rfl
  have h80 : (Int32.ofNat (tN h1 53)).toInt = 80 := by rw [hF.2.2.2.2.1, h53]; rfl
  have hla : (Int32.ofNat (tN h1 a)).toInt = tN h a := by rw [hF.2.2.2.2.1]; exact yofN (by omega)
  refine tw_iload rfl rfl ?_
  refine tw_iload rfl rfl ?_
  refine tw_ic_ge rfl (fun q891 => ?_) (fun q891 => ?_)
  · try dsimp only [tvI_i, tvJ_j, tvR_r] at q891
    refine tw_iload rfl rfl ?_
    refine tw_if_le rfl (fun q892 => ?_) (fun q892 => ?_)
    · try dsimp only [tvI_i, tvJ_j, tvR_r] at q892
      exfalso
      have e2n : e2 = [] := List.length_eq_zero_iff.mp (by omega)
      subst e2n
      have y1 := evA_e hE
      omega
    · try dsimp only [tvI_i, tvJ_j, tvR_r] at q892
      refine tw_aload rfl rfl ?_
      refine tw_getS rfl (hs_48_5 hF.1) ?_
      refine tw_push rfl ?_
      refine tw_lald rfl (fun f893 => ?_)
      refine tw_goto rfl ?_
      have e2n : e2 = [] := List.length_eq_zero_iff.mp (by omega)
      subst e2n
      have y1 := evA_e hE
      exact tw_lret rfl ⟨congrArg (fun z => some (Value.long z)) (show tJ h1 53 0 = _ from y1.2), hF⟩
  · try dsimp only [tvI_i, tvJ_j, tvR_r] at q891
    refine tw_iload rfl rfl ?_
    refine tw_aload rfl rfl ?_
    refine tw_alen rfl ?_
    refine tw_ic_ge rfl (fun q894 => ?_) (fun q894 => ?_)
    · try dsimp only [tvI_i, tvJ_j, tvR_r] at q894
      exfalso
      omega
    · try dsimp only [tvI_i, tvJ_j, tvR_r] at q894
      rcases e2 with _ | ⟨c, e3⟩
      · exfalso; have hke : k + 0 = b + e.length := hke; omega
      have hke : k + (e3.length + 1) = b + e.length := hke
      have hcl : (tA h a k).toNatClampNeg = c := hE.at_.1
      have hcv : (tA h1 a z.toNatClampNeg).toInt = (c : Int) := by rw [hF.2.2.1, zof_cl hz]; have y1 := hv k (by omega); rw [zclE] at hcl; omega
      have hc0 : (tA h1 a z.toNatClampNeg).toInt = (c : Int) := hcv
      have h79 : top ≤ 80 := by have y1 := hE.few; have y2 := hE.len; omega
      refine tw_aload rfl rfl ?_
      refine tw_iload rfl rfl ?_
      refine tw_iald rfl (fun f895 => ?_)
      refine tw_istore rfl ?_
      refine tw_iload rfl rfl ?_
      refine tw_push rfl ?_
      refine tw_ic_ge rfl (fun q896 => ?_) (fun q896 => ?_)
      · try dsimp only [tvI_i, tvJ_j, tvR_r] at q896
        refine tw_iload rfl rfl ?_
        refine tw_push rfl ?_
        refine tw_ic_ne rfl (fun q897 => ?_) (fun q897 => ?_)
        · try dsimp only [tvI_i, tvJ_j, tvR_r] at q897
          have q897i := zneq (Y := 100110) (by decide) q897
          refine tw_iload rfl rfl ?_
          refine tw_push rfl ?_
          refine tw_ic_le rfl (fun q898 => ?_) (fun q898 => ?_)
          · try dsimp only [tvI_i, tvJ_j, tvR_r] at q898
            exfalso
            have y1 := (evA_j hE (by omega) (by omega)).1
            omega
          · try dsimp only [tvI_i, tvJ_j, tvR_r] at q898
            obtain ⟨y0, y1, y2, -, X2, S2, E2⟩ := evA_j hE (by omega) (by omega)
            have hd1 : (u + (-1)).toInt = ((top - 1 : Nat) : Int) := (zdecM hu (by omega) (by omega)).trans (by omega)
            have hd2 : (u + (-1) - 1).toNatClampNeg = top - 2 := zof_cl ((zsbM (b := 1) hd1 rfl (by omega) (by decide)).trans (by omega))
            have hd3 : (u + (-1)).toNatClampNeg = top - 1 := zof_cl hd1
            refine tw_iinc rfl rfl ?_
            refine tw_aload rfl rfl ?_
            refine tw_getS rfl (hs_48_5 hF.1) ?_
            refine tw_iload rfl rfl ?_
            refine tw_push rfl ?_
            refine tw_isub rfl ?_
            refine tw_iload rfl rfl ?_
            refine tw_aload rfl rfl ?_
            refine tw_getS rfl (hs_48_5 hF.1) ?_
            refine tw_iload rfl rfl ?_
            refine tw_push rfl ?_
            refine tw_isub rfl ?_
            refine tw_lald rfl (fun f899 => ?_)
            refine tw_aload rfl rfl ?_
            refine tw_getS rfl (hs_48_5 hF.1) ?_
            refine tw_iload rfl rfl ?_
            refine tw_lald rfl (fun f900 => ?_)
            refine tw_stat3 rfl (f_join hG hcv (by omega) (by omega)) (fun w9 h9 p901 => ?_)
            obtain ⟨rfl, e9⟩ := p901
            obtain rfl := e9.symm
            refine tw_last rfl (fun f902 => ?_)
            refine tG_lst f902 hF.1 (fun h3 a3 => ?_)
            try dsimp only [tvI_i, tvJ_j, tvR_r] at a3
            have hF3 := wFr_s hF a3
            refine tw_iinc rfl rfl ?_
            refine tw_goto rfl ?_
            have hk1 : (z + 1).toInt = ((k + 1 : Nat) : Int) := zincN hz (by omega)
            have hkl : k + 1 + e3.length = b + e.length := by omega
            rw [hd2, hd3] at a3
            have E3 : evA (tJ h 52) (fun i => (tA h a i).toNatClampNeg) (tJ h3 53) [wv (tJ h 52) e] (k + 1) (top - 1) e3 X2 S2 := by rw [mJs_g a3 rfl]; exact E2
            exact tG_cut (zW_mono zTt G dp) (Or.inr ⟨rfl, rfl, h3, k + 1, top - 1, z + 1, u + (-1), e3, X2, S2, _, rfl, hF3, hk1, hd1, hkl, E3, rfl⟩)
        · try dsimp only [tvI_i, tvJ_j, tvR_r] at q897
          have q897i := zeqi (Y := 100110) (by decide) q897
          refine tw_iload rfl rfl ?_
          refine tw_if_le rfl (fun q903 => ?_) (fun q903 => ?_)
          · try dsimp only [tvI_i, tvJ_j, tvR_r] at q903
            exfalso
            have y1 := (evA_n hE (by omega)).1
            omega
          · try dsimp only [tvI_i, tvJ_j, tvR_r] at q903
            obtain ⟨y0, -, X2, S2, E2⟩ := evA_n hE (by omega)
            have hu1 : (u - 1).toNatClampNeg = top - 1 := zof_cl ((zsbM (b := 1) hu rfl (by omega) (by decide)).trans (by omega))
            refine tw_aload rfl rfl ?_
            refine tw_getS rfl (hs_48_5 hF.1) ?_
            refine tw_iload rfl rfl ?_
            refine tw_push rfl ?_
            refine tw_isub rfl ?_
            refine tw_push rfl ?_
            refine tw_aload rfl rfl ?_
            refine tw_getS rfl (hs_48_5 hF.1) ?_
            refine tw_iload rfl rfl ?_
            refine tw_push rfl ?_
            refine tw_isub rfl ?_
            refine tw_lald rfl (fun f904 => ?_)
            refine tw_lsub rfl ?_
            refine tw_last rfl (fun f905 => ?_)
            refine tG_lst f905 hF.1 (fun h3 a3 => ?_)
            try dsimp only [tvI_i, tvJ_j, tvR_r] at a3
            have hF3 := wFr_s hF a3
            refine tw_goto rfl ?_
            refine tw_iinc rfl rfl ?_
            refine tw_goto rfl ?_
            have hk1 : (z + 1).toInt = ((k + 1 : Nat) : Int) := zincN hz (by omega)
            have hkl : k + 1 + e3.length = b + e.length := by omega
            rw [hu1] at a3
            have E3 : evA (tJ h 52) (fun i => (tA h a i).toNatClampNeg) (tJ h3 53) [wv (tJ h 52) e] (k + 1) top e3 X2 S2 := by rw [mJs_g a3 rfl]; exact E2
            exact tG_cut (zW_mono zTt G dp) (Or.inr ⟨rfl, rfl, h3, k + 1, top, z + 1, u, e3, X2, S2, _, rfl, hF3, hk1, hu, hkl, E3, rfl⟩)
      · try dsimp only [tvI_i, tvJ_j, tvR_r] at q896
        refine tw_iload rfl rfl ?_
        refine tw_aload rfl rfl ?_
        refine tw_getS rfl (hs_48_5 hF.1) ?_
        refine tw_alen rfl ?_
        refine tw_ic_ge rfl (fun q906 => ?_) (fun q906 => ?_)
        · try dsimp only [tvI_i, tvJ_j, tvR_r] at q906
          exfalso
          have y1 := (evA_v hE (by omega)).1
          omega
        · try dsimp only [tvI_i, tvJ_j, tvR_r] at q906
          obtain ⟨y80, y12, X2, S2, E2⟩ := evA_v hE (by omega)
          refine tw_aload rfl rfl ?_
          refine tw_getS rfl (hs_48_5 hF.1) ?_
          refine tw_iload rfl rfl ?_
          refine tw_aload rfl rfl ?_
          refine tw_iload rfl rfl ?_
          refine tw_virt1 rfl (f_valueOf hG hF.1 (by rw [hF.2.2.2.2.1]; exact h52) hcv y12) (fun w9 h9 p907 => ?_)
          obtain ⟨rfl, e9⟩ := p907
          obtain rfl := e9.symm
          refine tw_last rfl (fun f908 => ?_)
          refine tG_lst f908 hF.1 (fun h3 a3 => ?_)
          try dsimp only [tvI_i, tvJ_j, tvR_r] at a3
          have hF3 := wFr_s hF a3
          refine tw_iinc rfl rfl ?_
          refine tw_goto rfl ?_
          refine tw_iinc rfl rfl ?_
          refine tw_goto rfl ?_
          have hk1 : (z + 1).toInt = ((k + 1 : Nat) : Int) := zincN hz (by omega)
          have hkl : k + 1 + e3.length = b + e.length := by omega
          rw [zof_cl hu, hF.2.2.2.2.2 52 (by decide)] at a3
          have E3 : evA (tJ h 52) (fun i => (tA h a i).toNatClampNeg) (tJ h3 53) [wv (tJ h 52) e] (k + 1) (top + 1) e3 X2 S2 := by rw [mJs_g a3 rfl]; exact E2
          exact tG_cut (zW_mono zTt G dp) (Or.inr ⟨rfl, rfl, h3, k + 1, top + 1, z + 1, u + 1, e3, X2, S2, _, rfl, hF3, hk1, zincN hu (by omega), hkl, E3, rfl⟩)
theorem f_firstTrue {G : zG} (hG : G.1 = zProg) {h : zH} {a b q K th : Nat} {y t : Int32} {cs : List Nat} {cl : Nat → rCt} (hs : tSh h) (h52 : tN h 52 = 12) (h53 : tN h 53 = 80) (D : rDt h a b K cs cl) (hy : y.toInt = q) (hq : (q : Int) < (tvI (tF h 48 3)).toInt) (h50 : tO h 50 q = some a) (h51 : tO h 51 q = some b) (ht : t.toInt = th) : tC zTt G 66 [.ref 48, .int y, .int t] h (fun w h2 => wFr 53 h h2 ∧ fTr (tJ h 52) cs cl K th (fun i => 4 * i) w) := by
  refine tC_in (by rw [hG]; rfl) (fun dp => ?_)
  have hyq : y.toNatClampNeg = q := zof_cl hy
  have o50 : ∀ h1, wFr 53 h h1 → zrf (tO h1 50 y.toNatClampNeg) = .ref a := fun h1 k => by rw [k.2.2.2.1, hyq, h50]; rfl
  have o51 : zrf (tO h 51 y.toNatClampNeg) = .ref b := by rw [hyq, h51]; rfl
  refine tw_iload rfl rfl ?_
  refine tw_if_lt rfl (fun q909 => ?_) (fun q909 => ?_)
  · try dsimp only [tvI_i, tvJ_j, tvR_r] at q909
    exfalso
    omega
  · try dsimp only [tvI_i, tvJ_j, tvR_r] at q909
    refine tw_iload rfl rfl ?_
    refine tw_aload rfl rfl ?_
    refine tw_getS rfl (hi_48_3 hs) ?_
    refine tw_ic_lt rfl (fun q910 => ?_) (fun q910 => ?_)
    · try dsimp only [tvI_i, tvJ_j, tvR_r] at q910
      refine tw_aload rfl rfl ?_
      refine tw_getS rfl (hs_48_2 hs) ?_
      refine tw_iload rfl rfl ?_
      refine tw_aaldS rfl (fun _ => o51) ?_
      refine tw_astore rfl ?_
      refine tw_push rfl ?_
      refine tw_istore rfl ?_
      refine tG_loop (zW_mono zTt G dp) (zW_conj zTt G dp) (V := fun pc L st h9 _ _ => pc = 24 ∧ st = [] ∧ ∃ (h1 : zH) (i : Nat) (x : Int32) (l5 : Option Value), h1 = h9 ∧ wFr 53 h h1 ∧ i ≤ K ∧ x.toInt = ((4 * i : Nat) : Int) ∧ (∀ j, j < i → ¬ hit (tJ h 52) cs (cl j) th) ∧ L = [some (.ref 48), some (.int y), some (.int t), some (.ref b), some (.int x), l5]) ?_ (⟨rfl, rfl, h, 0, 0, _, rfl, wFr_r hs, Nat.zero_le _, rfl, fun j hj => absurd hj (Nat.not_lt_zero _), rfl⟩)
      rintro _ _ _ _ _ _ ⟨rfl, rfl, h1, i, x, l5, rfl, hF, hiK, hx, hall, rfl⟩
      have hlb : (Int32.ofNat (tN h1 b)).toInt = ((4 * K : Nat) : Int) := by rw [hF.2.2.2.2.1, D.len]; exact yofN (by have := D.few; omega)
      have hx4 : (x + 4).toInt = ((4 * i + 4 : Nat) : Int) := zadN (b := 4) hx rfl (by have := D.few; omega) (by decide)
      refine tw_iload rfl rfl ?_
      refine tw_push rfl ?_
      refine tw_iadd rfl ?_
      refine tw_aload rfl rfl ?_
      refine tw_alen rfl ?_
      refine tw_ic_gt rfl (fun q912 => ?_) (fun q912 => ?_)
      · try dsimp only [tvI_i, tvJ_j, tvR_r] at q912
        refine tw_push rfl ?_
        exact tw_iret rfl ⟨hF, Or.inl ⟨rfl, fun i9 h9 => hall i9 (by have y2 := hlb; omega)⟩⟩
      · try dsimp only [tvI_i, tvJ_j, tvR_r] at q912
        have hi : i < K := by have y1 := hx4; have y2 := hlb; omega
        obtain ⟨d0, d1, d2, d3⟩ := D.row i hi
        have x0 : x.toNatClampNeg = 4 * i := zof_cl hx
        have x2 : (x + 2).toNatClampNeg = 4 * i + 2 := zof_cl (zadN (b := 2) hx rfl (by have := D.few; omega) (by decide))
        have x3 : (x + 3).toNatClampNeg = 4 * i + 3 := zof_cl (zadN (b := 3) hx rfl (by have := D.few; omega) (by decide))
        have eA := hF.2.2.1
        have v0 : (tA h1 b x.toNatClampNeg).toInt = ((cl i).1 : Int) := by rw [eA, x0]; exact d0
        have v2 : (tA h1 b (x + 2).toNatClampNeg).toInt = ((cl i).2.2.1 : Int) := by rw [eA, x2]; exact d2
        have v3 : (tA h1 b (x + 3).toNatClampNeg).toInt = ((cl i).2.2.2 : Int) := by rw [eA, x3]; exact d3
        refine tw_aload rfl rfl ?_
        refine tw_iload rfl rfl ?_
        refine tw_push rfl ?_
        refine tw_iadd rfl ?_
        refine tw_iald rfl (fun f913 => ?_)
        refine tw_aload rfl rfl ?_
        refine tw_iload rfl rfl ?_
        refine tw_push rfl ?_
        refine tw_iadd rfl ?_
        refine tw_iald rfl (fun f914 => ?_)
        refine tw_ic_ne rfl (fun q915 => ?_) (fun q915 => ?_)
        · try dsimp only [tvI_i, tvJ_j, tvR_r] at q915
          have q915i := zneq rfl q915
          refine tw_push rfl ?_
          refine tw_istore rfl ?_
          refine tw_aload rfl rfl ?_
          refine tw_iload rfl rfl ?_
          refine tw_iald rfl (fun f916 => ?_)
          refine tw_iload rfl rfl ?_
          refine tw_ic_ne rfl (fun q917 => ?_) (fun q917 => ?_)
          · try dsimp only [tvI_i, tvJ_j, tvR_r] at q917
            have q917i := zneq rfl q917
            refine tw_iinc rfl rfl ?_
            refine tw_goto rfl ?_
            have hx9 : (x + 4).toInt = ((4 * (i + 1) : Nat) : Int) := (zadN (b := 4) hx rfl (by have := D.few; omega) (by decide)).trans (by omega)
            have hno : ¬ hit (tJ h 52) cs (cl i) th := (fun z => q917i (by have y1 := z.1; omega))
            exact tG_cut (zW_mono zTt G dp) (Or.inr ⟨rfl, rfl, _, i + 1, x + 4, _, rfl, hF, by omega, hx9, fun j hj => (Classical.em (j = i)).elim (fun z => by rw [z]; exact hno) (fun z => hall j (by omega)), rfl⟩)
          · try dsimp only [tvI_i, tvJ_j, tvR_r] at q917
            have q917i := zeqi rfl q917
            refine tw_iload rfl rfl ?_
            refine tw_if_ne rfl (fun z => absurd z (by decide)) (fun _ => ?_)
            refine tw_aload rfl rfl ?_
            refine tw_aload rfl rfl ?_
            refine tw_getS rfl (hs_48_1 hF.1) ?_
            refine tw_iload rfl rfl ?_
            refine tw_aaldS rfl (fun _ => o50 _ hF) ?_
            refine tw_aload rfl rfl ?_
            refine tw_iload rfl rfl ?_
            refine tw_push rfl ?_
            refine tw_iadd rfl ?_
            refine tw_iald rfl (fun f919 => ?_)
            refine tw_aload rfl rfl ?_
            refine tw_iload rfl rfl ?_
            refine tw_push rfl ?_
            refine tw_iadd rfl ?_
            refine tw_iald rfl (fun f920 => ?_)
            obtain ⟨s1, s2, s3, s4, p, qq, s5, s6⟩ := rOk_t (D.ok i hi) D.nv (fun z => q915 (Int32.toInt_inj.mp (by omega)))
            refine tw_virt3 rfl (f_work hG hF.1 (by rw [hF.2.2.2.2.1]; exact h52) (by rw [hF.2.2.2.2.1]; exact h53) v2 (e := slc cs (cl i).2.2.1 (cl i).2.2.2) (t := true) (v3.trans (congrArg Nat.cast s1)) ⟨by rw [← s1, hF.2.2.2.2.1, ← cs_len D.arr]; exact s2, by rw [hF.2.2.2.2.1]; exact D.big⟩ (by rw [hF.2.2.2.2.1, hF.2.2.1]; exact D.pos) (by rw [hF.2.2.1]; exact cdAt_c D.arr s6 s5) s3 s4) (fun wp921 hp921 p921 => ?_)
            obtain ⟨rfl, Fp921⟩ := p921
            have hF2 := wFr_t hF Fp921
            rw [hF.2.2.2.2.2 52 (by decide)]
            refine tw_push rfl ?_
            refine tw_lc_eq rfl rfl (fun q922 => ?_) (fun q922 => ?_)
            · try dsimp only [tvI_i, tvJ_j, tvR_r] at q922
              refine tw_iinc rfl rfl ?_
              refine tw_goto rfl ?_
              have hx9 : (x + 4).toInt = ((4 * (i + 1) : Nat) : Int) := (zadN (b := 4) hx rfl (by have := D.few; omega) (by decide)).trans (by omega)
              have s0 : ¬ (cl i).2.2.1 = (cl i).2.2.2 := fun z => q915 (Int32.toInt_inj.mp (by omega))
              have hno : ¬ hit (tJ h 52) cs (cl i) th := (fun z => z.2.elim (fun y => s0 y) (fun y => y q922))
              exact tG_cut (zW_mono zTt G dp) (Or.inr ⟨rfl, rfl, _, i + 1, x + 4, _, rfl, hF2, by omega, hx9, fun j hj => (Classical.em (j = i)).elim (fun z => by rw [z]; exact hno) (fun z => hall j (by omega)), rfl⟩)
            · try dsimp only [tvI_i, tvJ_j, tvR_r] at q922
              refine tw_iload rfl rfl ?_
              exact tw_iret rfl ⟨hF2, Or.inr ⟨i, hi, ⟨by have y1 := q917i; omega, Or.inr q922⟩, hall, _, rfl, hx⟩⟩
        · try dsimp only [tvI_i, tvJ_j, tvR_r] at q915
          have q915i := zeqi rfl q915
          refine tw_push rfl ?_
          refine tw_goto rfl ?_
          refine tw_istore rfl ?_
          refine tw_aload rfl rfl ?_
          refine tw_iload rfl rfl ?_
          refine tw_iald rfl (fun f923 => ?_)
          refine tw_iload rfl rfl ?_
          refine tw_ic_ne rfl (fun q924 => ?_) (fun q924 => ?_)
          · try dsimp only [tvI_i, tvJ_j, tvR_r] at q924
            have q924i := zneq rfl q924
            refine tw_iinc rfl rfl ?_
            refine tw_goto rfl ?_
            have hx9 : (x + 4).toInt = ((4 * (i + 1) : Nat) : Int) := (zadN (b := 4) hx rfl (by have := D.few; omega) (by decide)).trans (by omega)
            have hno : ¬ hit (tJ h 52) cs (cl i) th := (fun z => q924i (by have y1 := z.1; omega))
            exact tG_cut (zW_mono zTt G dp) (Or.inr ⟨rfl, rfl, _, i + 1, x + 4, _, rfl, hF, by omega, hx9, fun j hj => (Classical.em (j = i)).elim (fun z => by rw [z]; exact hno) (fun z => hall j (by omega)), rfl⟩)
          · try dsimp only [tvI_i, tvJ_j, tvR_r] at q924
            have q924i := zeqi rfl q924
            refine tw_iload rfl rfl ?_
            refine tw_if_ne rfl (fun _ => ?_) (fun z => absurd z (by decide))
            refine tw_iload rfl rfl ?_
            exact tw_iret rfl ⟨hF, Or.inr ⟨i, hi, ⟨by have y1 := q924i; omega, Or.inl (by have y1 := q915i; omega)⟩, hall, _, rfl, hx⟩⟩
    · try dsimp only [tvI_i, tvJ_j, tvR_r] at q910
      exfalso
      omega
theorem f_sumOf {G : zG} (hG : G.1 = zProg) {h : zH} {a b q K i : Nat} {y x : Int32} {cs : List Nat} {cl : Nat → rCt} (hs : tSh h) (h52 : tN h 52 = 12) (h53 : tN h 53 = 80) (D : rDt h a b K cs cl) (hy : y.toInt = q) (h50 : tO h 50 q = some a) (h51 : tO h 51 q = some b) (hx : x.toInt = ((4 * i : Nat) : Int)) (hi : i < K) (h15 : (cl i).1 ≠ 15) : tC zTt G 67 [.ref 48, .int y, .int x] h (fun w h2 => w = some (.long (wv (tJ h 52) (slc cs (cl i).2.1 (cl i).2.2.1))) ∧ wFr 53 h h2) := by
  refine tC_in (by rw [hG]; rfl) (fun dp => ?_)
  have hyq : y.toNatClampNeg = q := zof_cl hy
  have o50 : zrf (tO h 50 y.toNatClampNeg) = .ref a := by rw [hyq, h50]; rfl
  have o51 : zrf (tO h 51 y.toNatClampNeg) = .ref b := by rw [hyq, h51]; rfl
  have hK := D.few
  obtain ⟨d0, d1, d2, d3⟩ := D.row i hi
  have x1 : (x + 1).toNatClampNeg = 4 * i + 1 := zof_cl (zadN (b := 1) hx rfl (by omega) (by decide))
  have x2 : (x + 2).toNatClampNeg = 4 * i + 2 := zof_cl (zadN (b := 2) hx rfl (by omega) (by decide))
  have v1 : (tA h b (x + 1).toNatClampNeg).toInt = ((cl i).2.1 : Int) := by rw [x1]; exact d1
  have v2 : (tA h b (x + 2).toNatClampNeg).toInt = ((cl i).2.2.1 : Int) := by rw [x2]; exact d2
  obtain ⟨s1, s2, s3, s4, p, qq, s5, s6⟩ := rOk_s (D.ok i hi) D.nv h15
  refine tw_aload rfl rfl ?_
  refine tw_aload rfl rfl ?_
  refine tw_getS rfl (hs_48_1 hs) ?_
  refine tw_iload rfl rfl ?_
  refine tw_aaldS rfl (fun _ => o50) ?_
  refine tw_aload rfl rfl ?_
  refine tw_getS rfl (hs_48_2 hs) ?_
  refine tw_iload rfl rfl ?_
  refine tw_aaldS rfl (fun _ => o51) ?_
  refine tw_iload rfl rfl ?_
  refine tw_push rfl ?_
  refine tw_iadd rfl ?_
  refine tw_iald rfl (fun f927 => ?_)
  refine tw_aload rfl rfl ?_
  refine tw_getS rfl (hs_48_2 hs) ?_
  refine tw_iload rfl rfl ?_
  refine tw_aaldS rfl (fun _ => o51) ?_
  refine tw_iload rfl rfl ?_
  refine tw_push rfl ?_
  refine tw_iadd rfl ?_
  refine tw_iald rfl (fun f929 => ?_)
  refine tw_virt3 rfl (f_work hG hs h52 h53 v1 (e := slc cs (cl i).2.1 (cl i).2.2.1) (t := false) (v2.trans (congrArg Nat.cast s1)) ⟨by rw [← s1, ← cs_len D.arr]; exact s2, D.big⟩ D.pos (cdAt_c D.arr s6 s5) s3 s4) (fun wp930 hp930 p930 => ?_)
  obtain ⟨rfl, Fp930⟩ := p930
  exact tw_lret rfl ⟨rfl, Fp930⟩
theorem g_truth1 {G : zG} (hG : G.1 = zProg) {h : zH} : tC zTt G 229 [.int 1] h (fun w h2 => w = some (.long 1) ∧ h2 = h) := by
  refine tC_in (by rw [hG]; rfl) (fun dp => ?_)
  refine tw_iload rfl rfl ?_
  refine tw_if_eq rfl (fun z => absurd z (by decide)) (fun _ => ?_)
  refine tw_push rfl ?_
  refine tw_goto rfl ?_
  exact tw_lret rfl ⟨rfl, rfl⟩
theorem g_truth0 {G : zG} (hG : G.1 = zProg) {h : zH} : tC zTt G 229 [.int 0] h (fun w h2 => w = some (.long 0) ∧ h2 = h) := by
  refine tC_in (by rw [hG]; rfl) (fun dp => ?_)
  refine tw_iload rfl rfl ?_
  refine tw_if_eq rfl (fun _ => ?_) (fun z => absurd z (by decide))
  refine tw_push rfl ?_
  exact tw_lret rfl ⟨rfl, rfl⟩
theorem g_two {G : zG} (hG : G.1 = zProg) {h : zH} {y : Int32} {s : Nat} {a b : Int64} (hy : y.toInt = s) (h1 : 2 ≤ s) (h2 : s ≤ 12) (h3 : s ≠ 10) : tC zTt G 230 [.int y, .long a, .long b] h (fun w h2 => w = some (.long (jp (mCode s 0) a b)) ∧ h2 = h) := by
  refine tC_in (by rw [hG]; rfl) (fun dp => ?_)
  refine tw_iload rfl rfl ?_
  refine tw_table rfl (fun q931 => ?_) (fun t9 q931a q931b q931c => ?_)
  · try dsimp only [tvI_i, tvJ_j, tvR_r] at q931
    refine tw_lload rfl rfl ?_
    refine tw_push rfl ?_
    refine tw_lc_ne rfl rfl (fun q932 => ?_) (fun q932 => ?_)
    · try dsimp only [tvI_i, tvJ_j, tvR_r] at q932
      refine tw_push rfl ?_
      refine tw_goto rfl ?_
      refine tw_stat1 rfl (g_truth1 hG) (fun w9 h9 p933 => ?_)
      obtain ⟨rfl, e9⟩ := p933
      obtain rfl := e9.symm
      obtain rfl : s = 12 := by omega
      exact tw_lret rfl ⟨congrArg (fun z => some (Value.long z)) (b64_1 (p := a ≠ 0 ∨ b ≠ 0) (Or.inl q932)).symm, rfl⟩
    · try dsimp only [tvI_i, tvJ_j, tvR_r] at q932
      refine tw_lload rfl rfl ?_
      refine tw_push rfl ?_
      refine tw_lc_eq rfl rfl (fun q934 => ?_) (fun q934 => ?_)
      · try dsimp only [tvI_i, tvJ_j, tvR_r] at q934
        refine tw_push rfl ?_
        refine tw_stat1 rfl (g_truth0 hG) (fun w9 h9 p935 => ?_)
        obtain ⟨rfl, e9⟩ := p935
        obtain rfl := e9.symm
        obtain rfl : s = 12 := by omega
        exact tw_lret rfl ⟨congrArg (fun z => some (Value.long z)) (b64_0 (p := a ≠ 0 ∨ b ≠ 0) (fun z => z.elim (fun y => y q932) (fun y => y q934))).symm, rfl⟩
      · try dsimp only [tvI_i, tvJ_j, tvR_r] at q934
        refine tw_push rfl ?_
        refine tw_goto rfl ?_
        refine tw_stat1 rfl (g_truth1 hG) (fun w9 h9 p936 => ?_)
        obtain ⟨rfl, e9⟩ := p936
        obtain rfl := e9.symm
        obtain rfl : s = 12 := by omega
        exact tw_lret rfl ⟨congrArg (fun z => some (Value.long z)) (b64_1 (p := a ≠ 0 ∨ b ≠ 0) (Or.inr q934)).symm, rfl⟩
  · have q931d : (tvI (.int y)).toInt = 2 ∨ (tvI (.int y)).toInt = 3 ∨ (tvI (.int y)).toInt = 4 ∨ (tvI (.int y)).toInt = 5 ∨ (tvI (.int y)).toInt = 6 ∨ (tvI (.int y)).toInt = 7 ∨ (tvI (.int y)).toInt = 8 ∨ (tvI (.int y)).toInt = 9 ∨ (tvI (.int y)).toInt = 10 ∨ (tvI (.int y)).toInt = 11 := by omega
    rcases q931d with q931 | q931 | q931 | q931 | q931 | q931 | q931 | q931 | q931 | q931
    · obtain rfl : t9 = 56 := by rw [q931] at q931c; exact Option.some.inj (q931c.symm.trans rfl)
      try dsimp only [tvI_i, tvJ_j, tvR_r] at q931
      refine tw_lload rfl rfl ?_
      refine tw_lload rfl rfl ?_
      refine tw_lmul rfl ?_
      obtain rfl : s = 2 := by omega
      exact tw_lret rfl ⟨rfl, rfl⟩
    · obtain rfl : t9 = 60 := by rw [q931] at q931c; exact Option.some.inj (q931c.symm.trans rfl)
      try dsimp only [tvI_i, tvJ_j, tvR_r] at q931
      refine tw_lload rfl rfl ?_
      refine tw_lload rfl rfl ?_
      refine tw_ladd rfl ?_
      obtain rfl : s = 3 := by omega
      exact tw_lret rfl ⟨rfl, rfl⟩
    · obtain rfl : t9 = 64 := by rw [q931] at q931c; exact Option.some.inj (q931c.symm.trans rfl)
      try dsimp only [tvI_i, tvJ_j, tvR_r] at q931
      refine tw_lload rfl rfl ?_
      refine tw_lload rfl rfl ?_
      refine tw_lsub rfl ?_
      obtain rfl : s = 4 := by omega
      exact tw_lret rfl ⟨rfl, rfl⟩
    · obtain rfl : t9 = 68 := by rw [q931] at q931c; exact Option.some.inj (q931c.symm.trans rfl)
      try dsimp only [tvI_i, tvJ_j, tvR_r] at q931
      refine tw_lload rfl rfl ?_
      refine tw_lload rfl rfl ?_
      refine tw_lc_ge rfl rfl (fun q937 => ?_) (fun q937 => ?_)
      · try dsimp only [tvI_i, tvJ_j, tvR_r] at q937
        refine tw_push rfl ?_
        refine tw_stat1 rfl (g_truth0 hG) (fun w9 h9 p938 => ?_)
        obtain ⟨rfl, e9⟩ := p938
        obtain rfl := e9.symm
        obtain rfl : s = 5 := by omega
        exact tw_lret rfl ⟨congrArg (fun z => some (Value.long z)) (b64_0 (p := a.toInt < b.toInt) (by omega)).symm, rfl⟩
      · try dsimp only [tvI_i, tvJ_j, tvR_r] at q937
        refine tw_push rfl ?_
        refine tw_goto rfl ?_
        refine tw_stat1 rfl (g_truth1 hG) (fun w9 h9 p939 => ?_)
        obtain ⟨rfl, e9⟩ := p939
        obtain rfl := e9.symm
        obtain rfl : s = 5 := by omega
        exact tw_lret rfl ⟨congrArg (fun z => some (Value.long z)) (b64_1 (p := a.toInt < b.toInt) (by omega)).symm, rfl⟩
    · obtain rfl : t9 = 83 := by rw [q931] at q931c; exact Option.some.inj (q931c.symm.trans rfl)
      try dsimp only [tvI_i, tvJ_j, tvR_r] at q931
      refine tw_lload rfl rfl ?_
      refine tw_lload rfl rfl ?_
      refine tw_lc_gt rfl rfl (fun q940 => ?_) (fun q940 => ?_)
      · try dsimp only [tvI_i, tvJ_j, tvR_r] at q940
        refine tw_push rfl ?_
        refine tw_stat1 rfl (g_truth0 hG) (fun w9 h9 p941 => ?_)
        obtain ⟨rfl, e9⟩ := p941
        obtain rfl := e9.symm
        obtain rfl : s = 6 := by omega
        exact tw_lret rfl ⟨congrArg (fun z => some (Value.long z)) (b64_0 (p := a.toInt ≤ b.toInt) (by omega)).symm, rfl⟩
      · try dsimp only [tvI_i, tvJ_j, tvR_r] at q940
        refine tw_push rfl ?_
        refine tw_goto rfl ?_
        refine tw_stat1 rfl (g_truth1 hG) (fun w9 h9 p942 => ?_)
        obtain ⟨rfl, e9⟩ := p942
        obtain rfl := e9.symm
        obtain rfl : s = 6 := by omega
        exact tw_lret rfl ⟨congrArg (fun z => some (Value.long z)) (b64_1 (p := a.toInt ≤ b.toInt) (by omega)).symm, rfl⟩
    · obtain rfl : t9 = 98 := by rw [q931] at q931c; exact Option.some.inj (q931c.symm.trans rfl)
      try dsimp only [tvI_i, tvJ_j, tvR_r] at q931
      refine tw_lload rfl rfl ?_
      refine tw_lload rfl rfl ?_
      refine tw_lc_ne rfl rfl (fun q943 => ?_) (fun q943 => ?_)
      · try dsimp only [tvI_i, tvJ_j, tvR_r] at q943
        refine tw_push rfl ?_
        refine tw_stat1 rfl (g_truth0 hG) (fun w9 h9 p944 => ?_)
        obtain ⟨rfl, e9⟩ := p944
        obtain rfl := e9.symm
        obtain rfl : s = 7 := by omega
        exact tw_lret rfl ⟨congrArg (fun z => some (Value.long z)) (b64_0 (p := a = b) q943).symm, rfl⟩
      · try dsimp only [tvI_i, tvJ_j, tvR_r] at q943
        refine tw_push rfl ?_
        refine tw_goto rfl ?_
        refine tw_stat1 rfl (g_truth1 hG) (fun w9 h9 p945 => ?_)
        obtain ⟨rfl, e9⟩ := p945
        obtain rfl := e9.symm
        obtain rfl : s = 7 := by omega
        exact tw_lret rfl ⟨congrArg (fun z => some (Value.long z)) (b64_1 (p := a = b) q943).symm, rfl⟩
    · obtain rfl : t9 = 113 := by rw [q931] at q931c; exact Option.some.inj (q931c.symm.trans rfl)
      try dsimp only [tvI_i, tvJ_j, tvR_r] at q931
      refine tw_lload rfl rfl ?_
      refine tw_lload rfl rfl ?_
      refine tw_lc_lt rfl rfl (fun q946 => ?_) (fun q946 => ?_)
      · try dsimp only [tvI_i, tvJ_j, tvR_r] at q946
        refine tw_push rfl ?_
        refine tw_stat1 rfl (g_truth0 hG) (fun w9 h9 p947 => ?_)
        obtain ⟨rfl, e9⟩ := p947
        obtain rfl := e9.symm
        obtain rfl : s = 8 := by omega
        exact tw_lret rfl ⟨congrArg (fun z => some (Value.long z)) (b64_0 (p := b.toInt ≤ a.toInt) (by omega)).symm, rfl⟩
      · try dsimp only [tvI_i, tvJ_j, tvR_r] at q946
        refine tw_push rfl ?_
        refine tw_goto rfl ?_
        refine tw_stat1 rfl (g_truth1 hG) (fun w9 h9 p948 => ?_)
        obtain ⟨rfl, e9⟩ := p948
        obtain rfl := e9.symm
        obtain rfl : s = 8 := by omega
        exact tw_lret rfl ⟨congrArg (fun z => some (Value.long z)) (b64_1 (p := b.toInt ≤ a.toInt) (by omega)).symm, rfl⟩
    · obtain rfl : t9 = 128 := by rw [q931] at q931c; exact Option.some.inj (q931c.symm.trans rfl)
      try dsimp only [tvI_i, tvJ_j, tvR_r] at q931
      refine tw_lload rfl rfl ?_
      refine tw_lload rfl rfl ?_
      refine tw_lc_le rfl rfl (fun q949 => ?_) (fun q949 => ?_)
      · try dsimp only [tvI_i, tvJ_j, tvR_r] at q949
        refine tw_push rfl ?_
        refine tw_stat1 rfl (g_truth0 hG) (fun w9 h9 p950 => ?_)
        obtain ⟨rfl, e9⟩ := p950
        obtain rfl := e9.symm
        obtain rfl : s = 9 := by omega
        exact tw_lret rfl ⟨congrArg (fun z => some (Value.long z)) (b64_0 (p := b.toInt < a.toInt) (by omega)).symm, rfl⟩
      · try dsimp only [tvI_i, tvJ_j, tvR_r] at q949
        refine tw_push rfl ?_
        refine tw_goto rfl ?_
        refine tw_stat1 rfl (g_truth1 hG) (fun w9 h9 p951 => ?_)
        obtain ⟨rfl, e9⟩ := p951
        obtain rfl := e9.symm
        obtain rfl : s = 9 := by omega
        exact tw_lret rfl ⟨congrArg (fun z => some (Value.long z)) (b64_1 (p := b.toInt < a.toInt) (by omega)).symm, rfl⟩
    · obtain rfl : t9 = 164 := by rw [q931] at q931c; exact Option.some.inj (q931c.symm.trans rfl)
      try dsimp only [tvI_i, tvJ_j, tvR_r] at q931
      exfalso
      omega
    · obtain rfl : t9 = 143 := by rw [q931] at q931c; exact Option.some.inj (q931c.symm.trans rfl)
      try dsimp only [tvI_i, tvJ_j, tvR_r] at q931
      refine tw_lload rfl rfl ?_
      refine tw_push rfl ?_
      refine tw_lc_eq rfl rfl (fun q952 => ?_) (fun q952 => ?_)
      · try dsimp only [tvI_i, tvJ_j, tvR_r] at q952
        refine tw_push rfl ?_
        refine tw_stat1 rfl (g_truth0 hG) (fun w9 h9 p953 => ?_)
        obtain ⟨rfl, e9⟩ := p953
        obtain rfl := e9.symm
        obtain rfl : s = 11 := by omega
        exact tw_lret rfl ⟨congrArg (fun z => some (Value.long z)) (b64_0 (p := a ≠ 0 ∧ b ≠ 0) (fun z => z.1 q952)).symm, rfl⟩
      · try dsimp only [tvI_i, tvJ_j, tvR_r] at q952
        refine tw_lload rfl rfl ?_
        refine tw_push rfl ?_
        refine tw_lc_eq rfl rfl (fun q954 => ?_) (fun q954 => ?_)
        · try dsimp only [tvI_i, tvJ_j, tvR_r] at q954
          refine tw_push rfl ?_
          refine tw_stat1 rfl (g_truth0 hG) (fun w9 h9 p955 => ?_)
          obtain ⟨rfl, e9⟩ := p955
          obtain rfl := e9.symm
          obtain rfl : s = 11 := by omega
          exact tw_lret rfl ⟨congrArg (fun z => some (Value.long z)) (b64_0 (p := a ≠ 0 ∧ b ≠ 0) (fun z => z.2 q954)).symm, rfl⟩
        · try dsimp only [tvI_i, tvJ_j, tvR_r] at q954
          refine tw_push rfl ?_
          refine tw_goto rfl ?_
          refine tw_stat1 rfl (g_truth1 hG) (fun w9 h9 p956 => ?_)
          obtain ⟨rfl, e9⟩ := p956
          obtain rfl := e9.symm
          obtain rfl : s = 11 := by omega
          exact tw_lret rfl ⟨congrArg (fun z => some (Value.long z)) (b64_1 (p := a ≠ 0 ∧ b ≠ 0) ⟨q952, q954⟩).symm, rfl⟩
theorem mC_o {s v c : Nat} (e : mCode s v = c) (h : s ≠ 0 ∧ s ≠ 1 ∧ s ≠ 10) : 100100 ≤ c ∧ c ≠ 100110 := by
  unfold mCode at e
  repeat' (split at e)
  all_goals omega
theorem g_answer {G : zG} (hG : G.1 = zProg) {h : zH} {q b : Nat} {y x1 x2 : Int32} {e : List Nat} {t : Bool} (hs : tSh h) (hy : y.toInt = q) (hq : q < 10) (hx1 : x1.toInt = b) (hx2 : x2.toInt = ((b + e.length : Nat) : Int)) (hN : b + e.length ≤ 400) (h133 : ∀ i, i < 5000 → 0 ≤ (tA h 133 i).toInt ∧ (tA h 133 i).toInt ≤ 14) (h134 : ∀ i, i < 5000 → 0 ≤ (tA h 134 i).toInt ∧ (tA h 134 i).toInt ≤ 99999) (hc : cdAt (fun i => mCode (tA h 133 (500 * q + i)).toNatClampNeg (tA h 134 (500 * q + i)).toNatClampNeg) b e) (ht : tyL [] e = some [t]) (hn : nVl e ≤ 80) : tC zTt G 231 [.ref 111, .int y, .int x1, .int x2] h (fun w h2 => w = some (.long (wv (tJ h 143) e)) ∧ wFr 144 h h2) := by
  refine tC_in (by rw [hG]; rfl) (fun dp => ?_)
  have m5 : (500 * y).toInt = ((500 * q : Nat) : Int) := zmul5 hy hq
  refine tw_push rfl ?_
  refine tw_istore rfl ?_
  refine tw_push rfl ?_
  refine tw_iload rfl rfl ?_
  refine tw_imul rfl ?_
  refine tw_iload rfl rfl ?_
  refine tw_iadd rfl ?_
  refine tw_istore rfl ?_
  refine tG_loop (zW_mono zTt G dp) (zW_conj zTt G dp) (V := fun pc L st h9 _ _ => pc = 12 ∧ st = [] ∧ ∃ (h1 : zH) (k top : Nat) (z u : Int32) (e2 : List Nat) (X : List Int64) (S : List Bool), h1 = h9 ∧ wFr 144 h h1 ∧ z.toInt = ((500 * q + k : Nat) : Int) ∧ u.toInt = top ∧ k + e2.length = b + e.length ∧ evA (tJ h 143) (fun i => mCode (tA h 133 (500 * q + i)).toNatClampNeg (tA h 134 (500 * q + i)).toNatClampNeg) (tJ h1 144) [wv (tJ h 143) e] k top e2 X S ∧ L = [some (.ref 111), some (.int y), some (.int x1), some (.int x2), some (.int u), some (.int z)]) ?_ (⟨rfl, rfl, h, b, 0, _, 0, e, [], [], rfl, wFr_r hs, zadN m5 hx1 (by omega) (by omega), rfl, rfl, evA_0 hc ht hn, rfl⟩)
  rintro _ _ _ _ _ _ ⟨rfl, rfl, h1, k, top, z, u, e2, X, S, rfl, hF, hz, hu, hke, hE, rfl⟩
  have hto : (500 * y + x2).toInt = ((500 * q + (b + e.length) : Nat) : Int) := zadN m5 hx2 (by omega) (by omega)
  refine tw_iload rfl rfl ?_
  refine tw_push rfl ?_
  refine tw_iload rfl rfl ?_
  refine tw_imul rfl ?_
  refine tw_iload rfl rfl ?_
  refine tw_iadd rfl ?_
  refine tw_ic_ge rfl (fun q957 => ?_) (fun q957 => ?_)
  · try dsimp only [tvI_i, tvJ_j, tvR_r] at q957
    refine tw_aload rfl rfl ?_
    refine tw_getS rfl (hs_111_49 hF.1) ?_
    refine tw_push rfl ?_
    refine tw_lald rfl (fun f958 => ?_)
    have e2n : e2 = [] := List.length_eq_zero_iff.mp (by omega)
    subst e2n
    have y1 := evA_e hE
    exact tw_lret rfl ⟨congrArg (fun z => some (Value.long z)) (show tJ h1 144 0 = _ from y1.2), hF⟩
  · try dsimp only [tvI_i, tvJ_j, tvR_r] at q957
    rcases e2 with _ | ⟨c, e3⟩
    · exfalso; have hke : k + 0 = b + e.length := hke; omega
    have hke : k + (e3.length + 1) = b + e.length := hke
    have hcl : mCode (tA h 133 (500 * q + k)).toNatClampNeg (tA h 134 (500 * q + k)).toNatClampNeg = c := hE.at_.1
    have b1 := h133 (500 * q + k) (by omega)
    have b2 := h134 (500 * q + k) (by omega)
    have zz : z.toNatClampNeg = 500 * q + k := zof_cl hz
    have e1 : tA h1 133 z.toNatClampNeg = tA h 133 (500 * q + k) := by rw [hF.2.2.1, zz]
    have e4 : tA h1 134 z.toNatClampNeg = tA h 134 (500 * q + k) := by rw [hF.2.2.1, zz]
    have hs0 : (tA h1 133 z.toNatClampNeg).toInt = (((tA h 133 (500 * q + k)).toNatClampNeg : Nat) : Int) := by rw [e1]; exact (zclx b1.1).symm
    have hv9 : (tA h 134 (500 * q + k)).toNatClampNeg ≤ 99999 := by rw [zclE]; omega
    have h79 : top ≤ 80 := by have y1 := hE.few; have y2 := hE.len; omega
    have hval : (tA h1 134 z.toNatClampNeg).toInt = (((tA h 134 (500 * q + k)).toNatClampNeg : Nat) : Int) := by rw [e4]; exact (zclx b2.1).symm
    refine tw_aload rfl rfl ?_
    refine tw_getS rfl (hs_111_36 hF.1) ?_
    refine tw_iload rfl rfl ?_
    refine tw_iald rfl (fun f959 => ?_)
    refine tw_if_ne rfl (fun q960 => ?_) (fun q960 => ?_)
    · try dsimp only [tvI_i, tvJ_j, tvR_r] at q960
      have q960i := zneq (Y := 0) (by decide) q960
      refine tw_aload rfl rfl ?_
      refine tw_getS rfl (hs_111_36 hF.1) ?_
      refine tw_iload rfl rfl ?_
      refine tw_iald rfl (fun f961 => ?_)
      refine tw_push rfl ?_
      refine tw_ic_ne rfl (fun q962 => ?_) (fun q962 => ?_)
      · try dsimp only [tvI_i, tvJ_j, tvR_r] at q962
        have q962i := zneq (Y := 1) (by decide) q962
        refine tw_aload rfl rfl ?_
        refine tw_getS rfl (hs_111_36 hF.1) ?_
        refine tw_iload rfl rfl ?_
        refine tw_iald rfl (fun f963 => ?_)
        refine tw_push rfl ?_
        refine tw_ic_ne rfl (fun q964 => ?_) (fun q964 => ?_)
        · try dsimp only [tvI_i, tvJ_j, tvR_r] at q964
          have q964i := zneq (Y := 10) (by decide) q964
          have hsn : (tA h 133 (500 * q + k)).toNatClampNeg ≠ 0 ∧ (tA h 133 (500 * q + k)).toNatClampNeg ≠ 1 ∧ (tA h 133 (500 * q + k)).toNatClampNeg ≠ 10 := by have z1 := q960i; have z2 := q962i; have z3 := q964i; omega
          have hcj := mC_o hcl hsn
          obtain ⟨y0, y1, y2, ye, X2, S2, E2⟩ := evA_j hE (by omega) (by omega)
          obtain ⟨y3, y4, y5, y6⟩ := mC_j hcl y1 y2 hv9
          have hu1 : (u - 1).toNatClampNeg = top - 1 := zof_cl ((zsbM (b := 1) hu rfl (by omega) (by decide)).trans (by omega))
          have hu2 : (u - 2).toNatClampNeg = top - 2 := zof_cl ((zsbM (b := 2) hu rfl (by omega) (by decide)).trans (by omega))
          refine tw_aload rfl rfl ?_
          refine tw_getS rfl (hs_111_49 hF.1) ?_
          refine tw_iload rfl rfl ?_
          refine tw_push rfl ?_
          refine tw_isub rfl ?_
          refine tw_aload rfl rfl ?_
          refine tw_getS rfl (hs_111_36 hF.1) ?_
          refine tw_iload rfl rfl ?_
          refine tw_iald rfl (fun f965 => ?_)
          refine tw_aload rfl rfl ?_
          refine tw_getS rfl (hs_111_49 hF.1) ?_
          refine tw_iload rfl rfl ?_
          refine tw_push rfl ?_
          refine tw_isub rfl ?_
          refine tw_lald rfl (fun f966 => ?_)
          refine tw_aload rfl rfl ?_
          refine tw_getS rfl (hs_111_49 hF.1) ?_
          refine tw_iload rfl rfl ?_
          refine tw_push rfl ?_
          refine tw_isub rfl ?_
          refine tw_lald rfl (fun f967 => ?_)
          refine tw_stat3 rfl (g_two hG hs0 y3 y4 y5) (fun w9 h9 p968 => ?_)
          obtain ⟨rfl, e9⟩ := p968
          obtain rfl := e9.symm
          refine tw_last rfl (fun f969 => ?_)
          refine tG_lst f969 hF.1 (fun h3 a3 => ?_)
          try dsimp only [tvI_i, tvJ_j, tvR_r] at a3
          have hF3 := wFr_s hF a3
          refine tw_iinc rfl rfl ?_
          refine tw_iinc rfl rfl ?_
          refine tw_goto rfl ?_
          have hk1 : (z + 1).toInt = ((500 * q + (k + 1) : Nat) : Int) := (zincN hz (by omega)).trans (by omega)
          have hkl : k + 1 + e3.length = b + e.length := by omega
          rw [hu1, hu2] at a3
          rw [← y6, ← ye] at a3
          have E3 : evA (tJ h 143) (fun i => mCode (tA h 133 (500 * q + i)).toNatClampNeg (tA h 134 (500 * q + i)).toNatClampNeg) (tJ h3 144) [wv (tJ h 143) e] (k + 1) (top - 1) e3 X2 S2 := by rw [mJs_g a3 rfl]; exact E2
          have hd1 : (u + (-1)).toInt = ((top - 1 : Nat) : Int) := (zdecM hu (by omega) (by omega)).trans (by omega)
          exact tG_cut (zW_mono zTt G dp) (Or.inr ⟨rfl, rfl, h3, k + 1, top - 1, z + 1, u + (-1), e3, X2, S2, rfl, hF3, hk1, hd1, hkl, E3, rfl⟩)
        · try dsimp only [tvI_i, tvJ_j, tvR_r] at q964
          have q964i := zeqi (Y := 10) (by decide) q964
          have hs9 : (tA h 133 (500 * q + k)).toNatClampNeg = 10 := by have y0 := q964i; omega
          have hc9 : c = 100110 := by rw [hs9] at hcl; exact hcl.symm
          obtain ⟨y0, ye, X2, S2, E2⟩ := evA_n hE hc9
          have hu1 : (u - 1).toNatClampNeg = top - 1 := zof_cl ((zsbM (b := 1) hu rfl (by omega) (by decide)).trans (by omega))
          refine tw_aload rfl rfl ?_
          refine tw_getS rfl (hs_111_49 hF.1) ?_
          refine tw_iload rfl rfl ?_
          refine tw_push rfl ?_
          refine tw_isub rfl ?_
          refine tw_aload rfl rfl ?_
          refine tw_getS rfl (hs_111_49 hF.1) ?_
          refine tw_iload rfl rfl ?_
          refine tw_push rfl ?_
          refine tw_isub rfl ?_
          refine tw_lald rfl (fun f970 => ?_)
          refine tw_push rfl ?_
          refine tw_lc_ne rfl rfl (fun q971 => ?_) (fun q971 => ?_)
          · try dsimp only [tvI_i, tvJ_j, tvR_r] at q971
            refine tw_push rfl ?_
            refine tw_stat1 rfl (g_truth0 hG) (fun w9 h9 p972 => ?_)
            obtain ⟨rfl, e9⟩ := p972
            obtain rfl := e9.symm
            refine tw_last rfl (fun f973 => ?_)
            refine tG_lst f973 hF.1 (fun h3 a3 => ?_)
            try dsimp only [tvI_i, tvJ_j, tvR_r] at a3
            have hF3 := wFr_s hF a3
            refine tw_goto rfl ?_
            refine tw_iinc rfl rfl ?_
            refine tw_goto rfl ?_
            have hk1 : (z + 1).toInt = ((500 * q + (k + 1) : Nat) : Int) := (zincN hz (by omega)).trans (by omega)
            have hkl : k + 1 + e3.length = b + e.length := by omega
            rw [hu1] at a3 q971
            have a3 : mJs 144 (top - 1) (1 - tJ h1 144 (top - 1)) h1 h3 := by rw [ye, b64_0 q971]; exact a3
            have E3 : evA (tJ h 143) (fun i => mCode (tA h 133 (500 * q + i)).toNatClampNeg (tA h 134 (500 * q + i)).toNatClampNeg) (tJ h3 144) [wv (tJ h 143) e] (k + 1) top e3 X2 S2 := by rw [mJs_g a3 rfl]; exact E2
            exact tG_cut (zW_mono zTt G dp) (Or.inr ⟨rfl, rfl, h3, k + 1, top, z + 1, u, e3, X2, S2, rfl, hF3, hk1, hu, hkl, E3, rfl⟩)
          · try dsimp only [tvI_i, tvJ_j, tvR_r] at q971
            refine tw_push rfl ?_
            refine tw_goto rfl ?_
            refine tw_stat1 rfl (g_truth1 hG) (fun w9 h9 p974 => ?_)
            obtain ⟨rfl, e9⟩ := p974
            obtain rfl := e9.symm
            refine tw_last rfl (fun f975 => ?_)
            refine tG_lst f975 hF.1 (fun h3 a3 => ?_)
            try dsimp only [tvI_i, tvJ_j, tvR_r] at a3
            have hF3 := wFr_s hF a3
            refine tw_goto rfl ?_
            refine tw_iinc rfl rfl ?_
            refine tw_goto rfl ?_
            have hk1 : (z + 1).toInt = ((500 * q + (k + 1) : Nat) : Int) := (zincN hz (by omega)).trans (by omega)
            have hkl : k + 1 + e3.length = b + e.length := by omega
            rw [hu1] at a3 q971
            have a3 : mJs 144 (top - 1) (1 - tJ h1 144 (top - 1)) h1 h3 := by rw [ye, b64_1 q971]; exact a3
            have E3 : evA (tJ h 143) (fun i => mCode (tA h 133 (500 * q + i)).toNatClampNeg (tA h 134 (500 * q + i)).toNatClampNeg) (tJ h3 144) [wv (tJ h 143) e] (k + 1) top e3 X2 S2 := by rw [mJs_g a3 rfl]; exact E2
            exact tG_cut (zW_mono zTt G dp) (Or.inr ⟨rfl, rfl, h3, k + 1, top, z + 1, u, e3, X2, S2, rfl, hF3, hk1, hu, hkl, E3, rfl⟩)
      · try dsimp only [tvI_i, tvJ_j, tvR_r] at q962
        have q962i := zeqi (Y := 1) (by decide) q962
        have hs9 : (tA h 133 (500 * q + k)).toNatClampNeg = 1 := by have y0 := q962i; omega
        have hc8 : (if (tA h 134 (500 * q + k)).toNatClampNeg < 12 then 100000 + (tA h 134 (500 * q + k)).toNatClampNeg else 200000 + (tA h 134 (500 * q + k)).toNatClampNeg) = c := by rw [hs9] at hcl; exact hcl
        have hc7 : (tA h 134 (500 * q + k)).toNatClampNeg < 12 := by
          refine Classical.byContradiction (fun y => ?_)
          rw [if_neg y] at hc8
          have y2 := (evA_j hE (by omega) (by omega)).2.2.1
          omega
        rw [if_pos hc7] at hc8
        obtain ⟨y80, y12, X2, S2, E2⟩ := evA_v hE (by omega)
        refine tw_aload rfl rfl ?_
        refine tw_getS rfl (hs_111_49 hF.1) ?_
        refine tw_iload rfl rfl ?_
        refine tw_aload rfl rfl ?_
        refine tw_getS rfl (hs_111_48 hF.1) ?_
        refine tw_aload rfl rfl ?_
        refine tw_getS rfl (hs_111_37 hF.1) ?_
        refine tw_iload rfl rfl ?_
        refine tw_iald rfl (fun f976 => ?_)
        refine tw_lald rfl (fun f977 => ?_)
        refine tw_last rfl (fun f978 => ?_)
        refine tG_lst f978 hF.1 (fun h3 a3 => ?_)
        try dsimp only [tvI_i, tvJ_j, tvR_r] at a3
        have hF3 := wFr_s hF a3
        refine tw_iinc rfl rfl ?_
        refine tw_goto rfl ?_
        refine tw_iinc rfl rfl ?_
        refine tw_goto rfl ?_
        have hk1 : (z + 1).toInt = ((500 * q + (k + 1) : Nat) : Int) := (zincN hz (by omega)).trans (by omega)
        have hkl : k + 1 + e3.length = b + e.length := by omega
        rw [zof_cl hu, hF.2.2.2.2.2 143 (by decide), e4, show (tA h 134 (500 * q + k)).toNatClampNeg = c - 100000 by omega, ← vOf_w (W := (tJ h 143)) (by omega)] at a3
        have E3 : evA (tJ h 143) (fun i => mCode (tA h 133 (500 * q + i)).toNatClampNeg (tA h 134 (500 * q + i)).toNatClampNeg) (tJ h3 144) [wv (tJ h 143) e] (k + 1) (top + 1) e3 X2 S2 := by rw [mJs_g a3 rfl]; exact E2
        exact tG_cut (zW_mono zTt G dp) (Or.inr ⟨rfl, rfl, h3, k + 1, top + 1, z + 1, u + 1, e3, X2, S2, rfl, hF3, hk1, zincN hu (by omega), hkl, E3, rfl⟩)
    · try dsimp only [tvI_i, tvJ_j, tvR_r] at q960
      have q960i := zeqi (Y := 0) (by decide) q960
      have hs9 : (tA h 133 (500 * q + k)).toNatClampNeg = 0 := by have y0 := q960i; omega
      have hc9 : c = (tA h 134 (500 * q + k)).toNatClampNeg := by rw [hs9] at hcl; exact hcl.symm
      obtain ⟨y80, y12, X2, S2, E2⟩ := evA_v hE (by omega)
      refine tw_aload rfl rfl ?_
      refine tw_getS rfl (hs_111_49 hF.1) ?_
      refine tw_iload rfl rfl ?_
      refine tw_aload rfl rfl ?_
      refine tw_getS rfl (hs_111_37 hF.1) ?_
      refine tw_iload rfl rfl ?_
      refine tw_iald rfl (fun f979 => ?_)
      refine tw_i2l rfl ?_
      refine tw_last rfl (fun f980 => ?_)
      refine tG_lst f980 hF.1 (fun h3 a3 => ?_)
      try dsimp only [tvI_i, tvJ_j, tvR_r] at a3
      have hF3 := wFr_s hF a3
      refine tw_iinc rfl rfl ?_
      refine tw_goto rfl ?_
      refine tw_iinc rfl rfl ?_
      refine tw_goto rfl ?_
      have hk1 : (z + 1).toInt = ((500 * q + (k + 1) : Nat) : Int) := (zincN hz (by omega)).trans (by omega)
      have hkl : k + 1 + e3.length = b + e.length := by omega
      rw [zof_cl hu, ← vOf_n (W := (tJ h 143)) (c := c) (by omega) (by rw [hval, hc9])] at a3
      have E3 : evA (tJ h 143) (fun i => mCode (tA h 133 (500 * q + i)).toNatClampNeg (tA h 134 (500 * q + i)).toNatClampNeg) (tJ h3 144) [wv (tJ h 143) e] (k + 1) (top + 1) e3 X2 S2 := by rw [mJs_g a3 rfl]; exact E2
      exact tG_cut (zW_mono zTt G dp) (Or.inr ⟨rfl, rfl, h3, k + 1, top + 1, z + 1, u + 1, e3, X2, S2, rfl, hF3, hk1, zincN hu (by omega), hkl, E3, rfl⟩)
theorem g_tells {G : zG} (hG : G.1 = zProg) {h : zH} {q K kd t0 : Nat} {y k9 t9 : Int32} {cs : List Nat} {cl : Nat → rCt} (hs : tSh h) (D : rDm h q K cs cl) (hy : y.toInt = q) (hq : q < 10) (hk9 : k9.toInt = kd) (hkd : kd ≤ 3) (ht9 : t9.toInt = t0) (h133 : ∀ i, i < 5000 → 0 ≤ (tA h 133 i).toInt ∧ (tA h 133 i).toInt ≤ 14) (h134 : ∀ i, i < 5000 → 0 ≤ (tA h 134 i).toInt ∧ (tA h 134 i).toInt ≤ 99999) (h135 : ∀ i, i < 120 → 0 ≤ (tA h 135 i).toInt ∧ (tA h 135 i).toInt ≤ 3) (h136 : ∀ i, i < 120 → 0 ≤ (tA h 136 i).toInt ∧ (tA h 136 i).toInt ≤ 99999) (h138 : ∀ i, i < 120 → 0 ≤ (tA h 138 i).toInt ∧ (tA h 138 i).toInt ≤ 410) (h139 : ∀ i, i < 120 → 0 ≤ (tA h 139 i).toInt ∧ (tA h 139 i).toInt ≤ 410) : tC zTt G 232 [.ref 111, .int y, .int k9, .int t9] h (fun w h2 => wFr 144 h h2 ∧ fTr (tJ h 143) cs cl K (thc kd t0) (fun i => 12 * q + i) w) := by
  refine tC_in (by rw [hG]; rfl) (fun dp => ?_)
  have m12 : (12 * y).toInt = ((12 * q : Nat) : Int) := zmul12 hy hq
  have hyq : y.toNatClampNeg = q := zof_cl hy
  have hK12 := D.few
  refine tw_push rfl ?_
  refine tw_istore rfl ?_
  refine tG_loop (zW_mono zTt G dp) (zW_conj zTt G dp) (V := fun pc L st h9 _ _ => pc = 3 ∧ st = [] ∧ ∃ (h1 : zH) (i : Nat) (x : Int32) (l5 l6 : Option Value), h1 = h9 ∧ wFr 144 h h1 ∧ i ≤ K ∧ x.toInt = (i : Int) ∧ (∀ j, j < i → ¬ hit (tJ h 143) cs (cl j) (thc kd t0)) ∧ L = [some (.ref 111), some (.int y), some (.int k9), some (.int t9), some (.int x), l5, l6]) ?_ (⟨rfl, rfl, h, 0, 0, _, _, rfl, wFr_r hs, Nat.zero_le _, rfl, fun j hj => absurd hj (Nat.not_lt_zero _), rfl⟩)
  rintro _ _ _ _ _ _ ⟨rfl, rfl, h1, i, x, l5, l6, rfl, hF, hiK, hx, hall, rfl⟩
  have hcK : (tA h1 140 y.toNatClampNeg).toInt = (K : Int) := by rw [hF.2.2.1, hyq]; exact D.cnt
  refine tw_iload rfl rfl ?_
  refine tw_aload rfl rfl ?_
  refine tw_getS rfl (hs_111_43 hF.1) ?_
  refine tw_iload rfl rfl ?_
  refine tw_iald rfl (fun f981 => ?_)
  refine tw_ic_ge rfl (fun q982 => ?_) (fun q982 => ?_)
  · try dsimp only [tvI_i, tvJ_j, tvR_r] at q982
    refine tw_push rfl ?_
    exact tw_iret rfl ⟨hF, Or.inl ⟨rfl, fun i9 h9 => hall i9 (by have y2 := hcK; omega)⟩⟩
  · try dsimp only [tvI_i, tvJ_j, tvR_r] at q982
    have eA := hF.2.2.1
    have hi : i < K := by have y1 := hcK; omega
    have hrow : (12 * y + x).toInt = ((12 * q + i : Nat) : Int) := zadN m12 hx (by omega) (by omega)
    have zz : (12 * y + x).toNatClampNeg = 12 * q + i := zof_cl hrow
    have hr := D.row i hi
    have c1 := h135 (12 * q + i) (by omega)
    have c2 := h136 (12 * q + i) (by omega)
    have c3 : ((cl i).1, (cl i).2.1, (cl i).2.2.1, (cl i).2.2.2) = (thc (tA h 135 (12 * q + i)).toNatClampNeg (tA h 136 (12 * q + i)).toNatClampNeg, (tA h 137 (12 * q + i)).toNatClampNeg, (tA h 138 (12 * q + i)).toNatClampNeg, (tA h 139 (12 * q + i)).toNatClampNeg) := by rw [← hr]; rfl
    have c4 := congrArg (fun z : rCt => z.1) c3
    have c6 := congrArg (fun z : rCt => z.2.2.1) c3
    have c7 := congrArg (fun z : rCt => z.2.2.2) c3
    dsimp only at c4 c6 c7
    have w1 : tA h1 135 (12 * y + x).toNatClampNeg = tA h 135 (12 * q + i) := by rw [eA, zz]
    have w2 : tA h1 136 (12 * y + x).toNatClampNeg = tA h 136 (12 * q + i) := by rw [eA, zz]
    have w3 : (tA h1 138 (12 * y + x).toNatClampNeg).toInt = ((cl i).2.2.1 : Int) := by rw [eA, zz, c6]; exact (zclx (h138 (12 * q + i) (by omega)).1).symm
    have w4 : (tA h1 139 (12 * y + x).toNatClampNeg).toInt = ((cl i).2.2.2 : Int) := by rw [eA, zz, c7]; exact (zclx (h139 (12 * q + i) (by omega)).1).symm
    have hth : (cl i).1 = thc kd t0 ↔ tA h1 135 (12 * y + x).toNatClampNeg = k9 ∧ tA h1 136 (12 * y + x).toNatClampNeg = t9 := by
      rw [c4, thc_i (by rw [zclE]; omega) hkd, w1, w2]
      constructor
      · rintro ⟨u1, u2⟩
        exact ⟨Int32.toInt_inj.mp (by rw [hk9, ← u1]; exact (zclx c1.1).symm), Int32.toInt_inj.mp (by rw [ht9, ← u2]; exact (zclx c2.1).symm)⟩
      · rintro ⟨u1, u2⟩
        exact ⟨by rw [u1]; exact zof_cl hk9, by rw [u2]; exact zof_cl ht9⟩
    refine tw_push rfl ?_
    refine tw_iload rfl rfl ?_
    refine tw_imul rfl ?_
    refine tw_iload rfl rfl ?_
    refine tw_iadd rfl ?_
    refine tw_istore rfl ?_
    refine tw_aload rfl rfl ?_
    refine tw_getS rfl (hs_111_38 hF.1) ?_
    refine tw_iload rfl rfl ?_
    refine tw_iald rfl (fun f983 => ?_)
    refine tw_iload rfl rfl ?_
    refine tw_ic_ne rfl (fun q984 => ?_) (fun q984 => ?_)
    · try dsimp only [tvI_i, tvJ_j, tvR_r] at q984
      have q984i := zneq rfl q984
      refine tw_push rfl ?_
      refine tw_istore rfl ?_
      refine tw_iload rfl rfl ?_
      refine tw_if_eq rfl (fun _ => ?_) (fun z => absurd z (by decide))
      refine tw_iinc rfl rfl ?_
      refine tw_goto rfl ?_
      have hx9 : (x + 1).toInt = ((i + 1 : Nat) : Int) := zincN hx (by omega)
      have hno : ¬ hit (tJ h 143) cs (cl i) (thc kd t0) := (fun z => q984 (hth.mp z.1).1)
      exact tG_cut (zW_mono zTt G dp) (Or.inr ⟨rfl, rfl, _, i + 1, x + 1, _, _, rfl, hF, by omega, hx9, fun j hj => (Classical.em (j = i)).elim (fun z => by rw [z]; exact hno) (fun z => hall j (by omega)), rfl⟩)
    · try dsimp only [tvI_i, tvJ_j, tvR_r] at q984
      have q984i := zeqi rfl q984
      refine tw_aload rfl rfl ?_
      refine tw_getS rfl (hs_111_39 hF.1) ?_
      refine tw_iload rfl rfl ?_
      refine tw_iald rfl (fun f985 => ?_)
      refine tw_iload rfl rfl ?_
      refine tw_ic_ne rfl (fun q986 => ?_) (fun q986 => ?_)
      · try dsimp only [tvI_i, tvJ_j, tvR_r] at q986
        have q986i := zneq rfl q986
        refine tw_push rfl ?_
        refine tw_istore rfl ?_
        refine tw_iload rfl rfl ?_
        refine tw_if_eq rfl (fun _ => ?_) (fun z => absurd z (by decide))
        refine tw_iinc rfl rfl ?_
        refine tw_goto rfl ?_
        have hx9 : (x + 1).toInt = ((i + 1 : Nat) : Int) := zincN hx (by omega)
        have hno : ¬ hit (tJ h 143) cs (cl i) (thc kd t0) := (fun z => q986 (hth.mp z.1).2)
        exact tG_cut (zW_mono zTt G dp) (Or.inr ⟨rfl, rfl, _, i + 1, x + 1, _, _, rfl, hF, by omega, hx9, fun j hj => (Classical.em (j = i)).elim (fun z => by rw [z]; exact hno) (fun z => hall j (by omega)), rfl⟩)
      · try dsimp only [tvI_i, tvJ_j, tvR_r] at q986
        have q986i := zeqi rfl q986
        refine tw_push rfl ?_
        refine tw_goto rfl ?_
        refine tw_istore rfl ?_
        refine tw_iload rfl rfl ?_
        refine tw_if_eq rfl (fun z => absurd z (by decide)) (fun _ => ?_)
        refine tw_aload rfl rfl ?_
        refine tw_getS rfl (hs_111_41 hF.1) ?_
        refine tw_iload rfl rfl ?_
        refine tw_iald rfl (fun f987 => ?_)
        refine tw_aload rfl rfl ?_
        refine tw_getS rfl (hs_111_42 hF.1) ?_
        refine tw_iload rfl rfl ?_
        refine tw_iald rfl (fun f988 => ?_)
        refine tw_ic_eq rfl (fun q989 => ?_) (fun q989 => ?_)
        · try dsimp only [tvI_i, tvJ_j, tvR_r] at q989
          have q989i := zeqi rfl q989
          refine tw_iload rfl rfl ?_
          exact tw_iret rfl ⟨hF, Or.inr ⟨i, hi, ⟨(hth.mpr ⟨q984, q986⟩), Or.inl (by have y1 := q989i; omega)⟩, hall, _, rfl, hrow⟩⟩
        · try dsimp only [tvI_i, tvJ_j, tvR_r] at q989
          have q989i := zneq rfl q989
          refine tw_aload rfl rfl ?_
          refine tw_iload rfl rfl ?_
          refine tw_aload rfl rfl ?_
          refine tw_getS rfl (hs_111_41 hF.1) ?_
          refine tw_iload rfl rfl ?_
          refine tw_iald rfl (fun f990 => ?_)
          refine tw_aload rfl rfl ?_
          refine tw_getS rfl (hs_111_42 hF.1) ?_
          refine tw_iload rfl rfl ?_
          refine tw_iald rfl (fun f991 => ?_)
          obtain ⟨s1, s2, s3, s4, p, qq, s5, s6⟩ := rOk_t (D.ok i hi) D.nv (fun z => q989 (Int32.toInt_inj.mp (by omega)))
          refine tw_virt3 rfl (g_answer hG hF.1 hy hq w3 (e := slc cs (cl i).2.2.1 (cl i).2.2.2) (t := true) (w4.trans (congrArg Nat.cast s1)) (by rw [← s1]; have := D.big; omega) (by rw [hF.2.2.1]; exact h133) (by rw [hF.2.2.1]; exact h134) (by rw [hF.2.2.1]; exact cdAt_h s5 s6 D.cod) s3 s4) (fun wp992 hp992 p992 => ?_)
          obtain ⟨rfl, Fp992⟩ := p992
          have hF2 := wFr_t hF Fp992
          rw [hF.2.2.2.2.2 143 (by decide)]
          refine tw_push rfl ?_
          refine tw_lc_eq rfl rfl (fun q993 => ?_) (fun q993 => ?_)
          · try dsimp only [tvI_i, tvJ_j, tvR_r] at q993
            refine tw_iinc rfl rfl ?_
            refine tw_goto rfl ?_
            have hx9 : (x + 1).toInt = ((i + 1 : Nat) : Int) := zincN hx (by omega)
            have s0 : ¬ (cl i).2.2.1 = (cl i).2.2.2 := fun z => q989 (Int32.toInt_inj.mp (by omega))
            have hno : ¬ hit (tJ h 143) cs (cl i) (thc kd t0) := (fun z => z.2.elim (fun y => s0 y) (fun y => y q993))
            exact tG_cut (zW_mono zTt G dp) (Or.inr ⟨rfl, rfl, _, i + 1, x + 1, _, _, rfl, hF2, by omega, hx9, fun j hj => (Classical.em (j = i)).elim (fun z => by rw [z]; exact hno) (fun z => hall j (by omega)), rfl⟩)
          · try dsimp only [tvI_i, tvJ_j, tvR_r] at q993
            refine tw_iload rfl rfl ?_
            exact tw_iret rfl ⟨hF2, Or.inr ⟨i, hi, ⟨(hth.mpr ⟨q984, q986⟩), Or.inr q993⟩, hall, _, rfl, hrow⟩⟩
/-! a rule as it is kept, in the class and in the reference -/
noncomputable def cQd (h : zH) (b i : Nat) : rCt := ((tA h b (4 * i)).toNatClampNeg, (tA h b (4 * i + 1)).toNatClampNeg, (tA h b (4 * i + 2)).toNatClampNeg, (tA h b (4 * i + 3)).toNatClampNeg)
noncomputable def rCd (h : zH) (q a : Nat) : Prop := cArr h a = mEk h q (tN h a) ∧ tN h (a + 1) = 4 * (tA h 140 q).toNatClampNeg ∧ (∀ i, i < (tA h 140 q).toNatClampNeg → cQd h (a + 1) i = mRow h (12 * q + i) ∧ rOk (cArr h a) (mRow h (12 * q + i))) ∧ nVl (cArr h a) ≤ 80
theorem cArr_e {h h2 : zH} {a : Nat} (e1 : 0 < tN h a → tA h2 a = tA h a) (e2 : tN h2 a = tN h a) : cArr h2 a = cArr h a := by
  unfold cArr
  rw [e2]
  refine List.map_congr_left (fun i hi => ?_)
  have hi := List.mem_range.mp hi
  rw [e1 (by omega)]
theorem mEk_e {h h2 : zH} {q k : Nat} (e : ∀ i, i < 500 → tA h2 133 (500 * q + i) = tA h 133 (500 * q + i) ∧ tA h2 134 (500 * q + i) = tA h 134 (500 * q + i)) (hk : k ≤ 500) : mEk h2 q k = mEk h q k := by
  unfold mEk
  refine List.map_congr_left (fun i hi => ?_)
  have hi := List.mem_range.mp hi
  rw [(e i (by omega)).1, (e i (by omega)).2]
theorem cArr_len {h : zH} {a : Nat} : (cArr h a).length = tN h a := by unfold cArr; rw [List.length_map, List.length_range]
theorem rCd_fr {h h2 : zH} {q a : Nat} (k : rCd h q a) (hN : tN h a ≤ 400) (e1 : 0 < tN h a → tA h2 a = tA h a) (e2 : tN h2 a = tN h a) (e3 : 0 < tN h (a + 1) → tA h2 (a + 1) = tA h (a + 1)) (e4 : tN h2 (a + 1) = tN h (a + 1)) (o : ∀ i, i < 500 → tA h2 133 (500 * q + i) = tA h 133 (500 * q + i) ∧ tA h2 134 (500 * q + i) = tA h 134 (500 * q + i)) (o2 : tA h2 140 q = tA h 140 q) (o3 : ∀ i, i < (tA h 140 q).toNatClampNeg → mRow h2 (12 * q + i) = mRow h (12 * q + i)) : rCd h2 q a := by
  obtain ⟨k1, k2, k3, k4⟩ := k
  have eC := cArr_e e1 e2
  refine ⟨?_, ?_, fun i hi => ?_, ?_⟩
  · rw [eC, e2, k1]
    exact (mEk_e o (by omega)).symm
  · rw [e4, o2]
    exact k2
  · rw [o2] at hi
    rw [o3 i hi, eC]
    have y := k3 i hi
    refine ⟨?_, y.2⟩
    rw [← y.1]
    unfold cQd
    rw [e3 (by omega)]
  · rw [eC]
    exact k4
theorem mRow_e {h h2 : zH} {i : Nat} (o : ∀ p, 135 ≤ p → p ≤ 139 → tA h2 p i = tA h p i) : mRow h2 i = mRow h i := by
  unfold mRow
  rw [o 135 (by decide) (by decide), o 136 (by decide) (by decide), o 137 (by decide) (by decide), o 138 (by decide) (by decide), o 139 (by decide) (by decide)]
/-- what the two evaluators stand on -/
theorem rCd_D {xs : Nat → Int32} {τ : List Nat} {h : zH} {q a : Nat} (hB : zBs xs τ h) (hq : q < 10) (h50 : tO h 50 q = some a) (h51 : tO h 51 q = some (a + 1)) (k : rCd h q a) : rDt h a (a + 1) (tA h 140 q).toNatClampNeg (cArr h a) (fun i => mRow h (12 * q + i)) ∧ rDm h q (tA h 140 q).toNatClampNeg (cArr h a) (fun i => mRow h (12 * q + i)) := by
  obtain ⟨k1, k2, k3, k4⟩ := k
  have t1 := arr_tag hB (p := 50) (q := q) rfl rfl hq (by decide) h50
  have t2 := arr_tag hB (p := 51) (q := q) rfl rfl hq (by decide) h51
  obtain ⟨-, b2, b3⟩ := tkd_v hB t1 rfl
  obtain ⟨-, -, c3⟩ := tkd_v hB t2 rfl
  have d := (ka_140 hB).2 q hq
  have hK : (tA h 140 q).toNatClampNeg ≤ 12 := by rw [zclE]; omega
  refine ⟨⟨rfl, b2, fun i hi => (b3 i hi).1, k2, hK, fun i hi => ?_, fun i hi => (k3 i hi).2, k4⟩, ⟨fun i hi => ?_, by rw [cArr_len]; exact b2, (zclx d.1).symm, hK, fun i hi => rfl, fun i hi => (k3 i hi).2, k4⟩⟩
  · have y := (k3 i hi).1
    dsimp only
    rw [← y]
    exact ⟨(zclx (c3 _ (by omega)).1).symm, (zclx (c3 _ (by omega)).1).symm, (zclx (c3 _ (by omega)).1).symm, (zclx (c3 _ (by omega)).1).symm⟩
  · rw [cArr_len] at hi
    rw [k1]
    unfold mEk
    rw [List.getElem?_map, List.getElem?_range hi]
    rfl
theorem tfr_vn {xs : Nat → Int32} {τ : List Nat} {h h2 : zH} {W : Nat → Nat → Bool} {p t : Nat} (hB : zBs xs τ h) (hf : yFr W τ h h2) (ht : τ[p]? = some t) : tN h2 p = tN h p := by
  obtain ⟨ct, c, a1, a2, -⟩ := hB.1.2 _ _ ht
  obtain ⟨c2, b1, b2⟩ := hf _ _ _ ht a2
  unfold tN
  rw [a2, b1]
  match c, c2, b2 with
  | .inr (x, fs), .inr (y, gs), b2 => rfl
  | .inl (k, N, x), .inl (k2, N2, y), b2 => exact b2.2.1.symm
theorem cCls_at {h : zH} {b : Nat} {l : List rCt} (e : cCls h b l.length = l) {i : Nat} (hi : i < l.length) : l[i]? = some (cQd h b i) := by
  rw [← e]
  unfold cCls
  rw [List.getElem?_map, List.getElem?_range hi]
  rfl
noncomputable def R_rcd (h : zH) : Prop := ∀ q : Nat, (q : Int) < (tvI (tF h 48 3)).toInt → q < 10 → ∃ a, 182 ≤ a ∧ tO h 50 q = some a ∧ tO h 51 q = some (a + 1) ∧ rCd h q a
/-- rules stay what they were, and one may come -/
theorem a_rcd {xs : Nat → Int32} {τ τ2 τ3 : List Nat} {y : Int32} {h h2 h3 : zH} {w w2 : Option Value} {W1 W2 : Nat → Nat → Bool} (hB : zBs xs τ h) (hB2 : zBs xs τ2 h2) (hB3 : zBs xs τ3 h3) (r1 : yFr W1 τ h h2) (r2 : yFr W2 τ2 h2 h3) (v1 : W2 152 0 = false) (v2 : W2 153 0 = false) (hN : R_rules h) (hR : R_rcd h) (e2 : tF h2 111 30 = tF h 111 30) (oc : ∀ p, 133 ≤ p → p ≤ 140 → tA h2 p = tA h p) (t2 : tF h3 48 3 = tF h2 48 3) (t3 : tO h3 50 = tO h2 50) (t4 : tO h3 51 = tO h2 51) (k2 : ph_rum y h w h2 w2 h3) : R_rcd h3 := by
  have hN0 := hN
  unfold R_rules at hN0
  have i48 := hi_48_3 (zBs_sh hB)
  rcases k2 with ⟨-, rfl, -, rfl⟩ | ⟨r, ⟨f, hr⟩, k1, k2⟩
  · exact hR
  · obtain ⟨m1, m2, k2⟩ := k2
    have E30 : tvI (tF h2 111 30) = tvI (tF h 48 3) := by rw [e2, ← hN0]
    have b48 := kb_48_3 hB
    have hcl : (((tvI (tF h 48 3)).toNatClampNeg : Nat) : Int) = (tvI (tF h 48 3)).toInt := zclx b48.1
    -- an old rule
    have old : ∀ q a : Nat, (q : Int) < (tvI (tF h 48 3)).toInt → q < 10 → 182 ≤ a → tO h 50 q = some a → tO h 51 q = some (a + 1) → rCd h q a → (∀ p, 182 ≤ p → 0 < tN h p → tA h2 p = tA h p) → tO h2 50 q = some a → tO h2 51 q = some (a + 1) → tA h3 140 q = tA h2 140 q → rCd h3 q a := by
      intro q a hq h10 a1 a2 a3 k hfr b2 b3 m6
      have s1 := arr_tag hB (p := 50) (q := q) rfl rfl h10 (by decide) a2
      have s2 := arr_tag hB (p := 51) (q := q) rfl rfl h10 (by decide) a3
      have s3 := arr_tag hB2 (p := 50) (q := q) rfl rfl h10 (by decide) b2
      have s4 := arr_tag hB2 (p := 51) (q := q) rfl rfl h10 (by decide) b3
      have n1 := tfr_vn hB r1 s1
      have n2 := tfr_vn hB r1 s2
      have n3 := tfr_v hB2 r2 s3 v1
      have n4 := tfr_v hB2 r2 s4 v2
      have d := (ka_140 hB).2 q h10
      refine rCd_fr k (tkd_v hB s1 rfl).2.1 (fun z => n3.1.trans (hfr a a1 z)) (n3.2.trans n1) (fun z => n4.1.trans (hfr (a + 1) (by omega) z)) (n4.2.trans n2) (fun i hi => ?_) ?_ (fun i hi => mRow_e (fun p p1 p2 => ?_))
      · have z := m1.2.2.2.2.1 (500 * q + i) (by rw [E30]; omega)
        rw [z.1, z.2, oc 133 (by decide) (by decide), oc 134 (by decide) (by decide)]
        exact ⟨rfl, rfl⟩
      · rw [m6, oc 140 (by decide) (by decide)]
      · rw [m1.2.2.2.2.2 p (12 * q + i) p1 p2 (by rw [E30]; rw [zclE] at hi; omega), oc p (by omega) (by omega)]
    cases r with
    | inl e =>
      obtain ⟨m3, -, m4, m6, -⟩ := k2
      rcases k1 with k1 | ⟨k1, -, k3, k4, k5, k6, k7⟩
      · exact absurd m3 (Nat.not_lt_of_le k1)
      · intro q hq h10
        rw [t2, k3] at hq
        obtain ⟨a, a1, a2, a3, k⟩ := hR q hq h10
        have b2 : tO h2 50 q = some a := by rw [k6]; exact a2
        have b3 : tO h2 51 q = some (a + 1) := by rw [k7]; exact a3
        exact ⟨a, a1, by rw [t3]; exact b2, by rw [t4]; exact b3, old q a hq h10 a1 a2 a3 k (fun p hp _ => k5 p hp) b2 b3 (congrFun m6 q)⟩
    | inr x =>
      obtain ⟨-, m4, m5, -, m7, m8, m9⟩ := k2
      obtain ⟨k1, -, k3, k4, a0, g1, g2, g3, g4, g5, g6, g7⟩ := k1
      rw [E30] at m5 m7 m8 m9
      obtain ⟨i1, i2⟩ := rRu_ok f _ _ _ hr ⟨Nat.zero_le _, Nat.zero_le _⟩ (fun c hc => by cases hc)
      have n1 : (tvI (tF h 48 3) + 1).toInt = (tvI (tF h 48 3)).toInt + 1 := (zincN (n := (tvI (tF h 48 3)).toNatClampNeg) hcl.symm (by omega)).trans (by omega)
      intro q hq h10
      rw [t2, k3] at hq
      have hq : (q : Int) < (tvI (tF h 48 3) + 1).toInt := hq
      by_cases z : q = (tvI (tF h 48 3)).toNatClampNeg
      · have b2 : tO h2 50 q = some a0 := by rw [g2]; exact if_pos z
        have b3 : tO h2 51 q = some (a0 + 1) := by rw [g3]; exact if_pos z
        have s3 := arr_tag hB2 (p := 50) (q := q) rfl rfl h10 (by decide) b2
        have s4 := arr_tag hB2 (p := 51) (q := q) rfl rfl h10 (by decide) b3
        have n3 := tfr_v hB2 r2 s3 v1
        have n4 := tfr_v hB2 r2 s4 v2
        have eC : cArr h3 a0 = x.1.2.2 := (cArr_e (fun _ => n3.1) n3.2).trans g4
        have eL : tN h3 a0 = x.1.2.2.length := by rw [← eC, cArr_len]
        rw [← z] at m5 m8 m9
        refine ⟨a0, g1, by rw [t3]; exact b2, by rw [t4]; exact b3, ?_, ?_, fun i hi => ?_, ?_⟩
        · rw [eC, eL]
          exact m9
        · rw [n4.2, g5, m5]
        · rw [m5] at hi
          have y1 := m8 i hi
          have y2 := cCls_at g6 hi
          have y3 : cQd h3 (a0 + 1) i = cQd h2 (a0 + 1) i := by
            unfold cQd
            rw [n4.1]
          rw [y1] at y2
          have y4 := Option.some.inj y2
          refine ⟨by rw [y3, ← y4], ?_⟩
          rw [eC]
          exact i2 _ (List.mem_of_getElem? y1)
        · rw [eC]
          have := i1.1
          have := i1.2
          omega
      · have hq2 : (q : Int) < (tvI (tF h 48 3)).toInt := by rw [n1] at hq; omega
        obtain ⟨a, a1, a2, a3, k⟩ := hR q hq2 h10
        have b2 : tO h2 50 q = some a := by rw [g2]; exact (if_neg z).trans a2
        have b3 : tO h2 51 q = some (a + 1) := by rw [g3]; exact (if_neg z).trans a3
        exact ⟨a, a1, by rw [t3]; exact b2, by rw [t4]; exact b3, old q a hq2 h10 a1 a2 a3 k g7 b2 b3 (m7 q z).1⟩
theorem and_5 {A B C D E : Prop} (x : A ∧ B ∧ C ∧ D) (y : E) : A ∧ B ∧ C ∧ D ∧ E := ⟨x.1, x.2.1, x.2.2.1, x.2.2.2, y⟩
/-! counting by months -/
noncomputable def cN (w tl : Nat → Int) : Nat → Nat → Int
  | 0, _ => 0
  | n + 1, t => cN w tl n t + (if tl n = (t : Int) then w n else 0)
noncomputable def bN (w tl : Nat → Int) : Nat → Int → Int
  | 0, _ => 0
  | n + 1, t => bN w tl n t + (if tl n ≤ t then w n else 0)
noncomputable def aU (f : Nat → Int) : Nat → Int
  | 0 => f 0
  | t + 1 => aU f t + f (t + 1)
theorem aU_add (f g : Nat → Int) (m : Nat) : aU (fun t => f t + g t) m = aU f m + aU g m := by
  induction m with
  | zero => rfl
  | succ m ih =>
    show aU (fun t => f t + g t) m + (f (m + 1) + g (m + 1)) = aU f m + f (m + 1) + (aU g m + g (m + 1))
    rw [ih]
    omega
theorem aU_ite {c x : Int} (hc : 0 ≤ c) (m : Nat) : aU (fun t => if c = (t : Int) then x else 0) m = if c ≤ (m : Int) then x else 0 := by
  induction m with
  | zero =>
    show (if c = ((0 : Nat) : Int) then x else 0) = _
    by_cases h : c = ((0 : Nat) : Int)
    · rw [if_pos h, if_pos (by omega)]
    · rw [if_neg h, if_neg (by omega)]
  | succ m ih =>
    show aU (fun t => if c = (t : Int) then x else 0) m + (if c = ((m + 1 : Nat) : Int) then x else 0) = _
    rw [ih]
    by_cases h : c ≤ (m : Int)
    · rw [if_pos h, if_neg (by omega), if_pos (by omega), Int.add_zero]
    · rw [if_neg h]
      by_cases h2 : c = ((m + 1 : Nat) : Int)
      · rw [if_pos h2, if_pos (by omega), Int.zero_add]
      · rw [if_neg h2, if_neg (by omega), Int.zero_add]
theorem aU_0 (m : Nat) : aU (fun _ => 0) m = 0 := by
  induction m with
  | zero => rfl
  | succ m ih =>
    show aU (fun _ => 0) m + 0 = 0
    rw [ih]
    rfl
theorem aU_cN {w tl : Nat → Int} {n : Nat} (h : ∀ i, i < n → 0 ≤ tl i) (m : Nat) : aU (cN w tl n) m = bN w tl n m := by
  induction n with
  | zero => exact aU_0 m
  | succ n ih =>
    show aU (fun t => cN w tl n t + (if tl n = (t : Int) then w n else 0)) m = bN w tl n m + (if tl n ≤ (m : Int) then w n else 0)
    rw [aU_add, ih (fun i hi => h i (by omega)), aU_ite (h n (by omega))]
theorem bN_b {w tl : Nat → Int} {B : Int} {n : Nat} (h : ∀ i, i < n → 0 ≤ w i ∧ w i ≤ B) (hB : 0 ≤ B) (m : Int) : 0 ≤ bN w tl n m ∧ bN w tl n m ≤ B * n := by
  induction n with
  | zero => exact ⟨Int.le_refl _, by rw [Int.mul_comm]; show (0 : Int) ≤ 0 * B; rw [Int.zero_mul]; exact Int.le_refl _⟩
  | succ n ih =>
    have y := ih (fun i hi => h i (by omega))
    have z := h n (by omega)
    have e : B * ((n + 1 : Nat) : Int) = B * n + B := by rw [Int.natCast_add, Int.mul_add]; show _ + B * 1 = _; rw [Int.mul_one]
    show 0 ≤ bN w tl n m + (if tl n ≤ m then w n else 0) ∧ bN w tl n m + (if tl n ≤ m then w n else 0) ≤ _
    rw [e]
    by_cases q : tl n ≤ m
    · rw [if_pos q]; omega
    · rw [if_neg q]; omega
theorem cN_b {w tl : Nat → Int} {B : Int} {n : Nat} (h : ∀ i, i < n → 0 ≤ w i ∧ w i ≤ B) (hB : 0 ≤ B) (m : Nat) : 0 ≤ cN w tl n m ∧ cN w tl n m ≤ B * n := by
  induction n with
  | zero => exact ⟨Int.le_refl _, by rw [Int.mul_comm]; show (0 : Int) ≤ 0 * B; rw [Int.zero_mul]; exact Int.le_refl _⟩
  | succ n ih =>
    have y := ih (fun i hi => h i (by omega))
    have z := h n (by omega)
    have e : B * ((n + 1 : Nat) : Int) = B * n + B := by rw [Int.natCast_add, Int.mul_add]; show _ + B * 1 = _; rw [Int.mul_one]
    show 0 ≤ cN w tl n m + (if tl n = (m : Int) then w n else 0) ∧ cN w tl n m + (if tl n = (m : Int) then w n else 0) ≤ _
    rw [e]
    by_cases q : tl n = (m : Int)
    · rw [if_pos q]; omega
    · rw [if_neg q]; omega
theorem cN_y {w tl : Nat → Int} {n t : Nat} (h : tl n = (t : Int)) : cN w tl (n + 1) t = cN w tl n t + w n := by
  show cN w tl n t + (if tl n = (t : Int) then w n else 0) = _
  rw [if_pos h]
theorem cN_n {w tl : Nat → Int} {n t : Nat} (h : tl n = (t : Int) → w n = 0) : cN w tl (n + 1) t = cN w tl n t := by
  show cN w tl n t + (if tl n = (t : Int) then w n else 0) = _
  by_cases q : tl n = (t : Int)
  · rw [if_pos q, h q, Int.add_zero]
  · rw [if_neg q, Int.add_zero]
theorem bN_e {w w2 tl tl2 : Nat → Int} {n : Nat} {t : Int} (h : ∀ i, i < n → w i = w2 i ∧ tl i = tl2 i) : bN w tl n t = bN w2 tl2 n t := by
  induction n with
  | zero => rfl
  | succ n ih =>
    show bN w tl n t + (if tl n ≤ t then w n else 0) = bN w2 tl2 n t + (if tl2 n ≤ t then w2 n else 0)
    rw [ih (fun i hi => h i (by omega)), (h n (by omega)).1, (h n (by omega)).2]
/-! an int array is written, the rest stays -/
noncomputable def mIs (p i : Nat) (x : Int32) (h h3 : zH) : Prop := tSh h3 ∧ tF h3 = tF h ∧ tJ h3 = tJ h ∧ tO h3 = tO h ∧ tN h3 = tN h ∧ tA h3 = fun q j => if q = p ∧ j = i then x else tA h q j
noncomputable def aFr (P : Nat → Prop) (h h2 : zH) : Prop := tSh h2 ∧ tF h2 = tF h ∧ tJ h2 = tJ h ∧ tO h2 = tO h ∧ tN h2 = tN h ∧ ∀ q, ¬ P q → tA h2 q = tA h q
section AFR
variable {h h1 h2 h3 : zH} {P : Nat → Prop} {p i : Nat} {x : Int32}
theorem aFr_r (hs : tSh h) : aFr P h h := ⟨hs, rfl, rfl, rfl, rfl, fun _ _ => rfl⟩
theorem aFr_t (a : aFr P h h1) (k : aFr P h1 h2) : aFr P h h2 := ⟨k.1, k.2.1.trans a.2.1, k.2.2.1.trans a.2.2.1, k.2.2.2.1.trans a.2.2.2.1, k.2.2.2.2.1.trans a.2.2.2.2.1, fun q hq => (k.2.2.2.2.2 q hq).trans (a.2.2.2.2.2 q hq)⟩
theorem aFr_m {R : Nat → Prop} (a : aFr P h h1) (hR : ∀ q, P q → R q) : aFr R h h1 := ⟨a.1, a.2.1, a.2.2.1, a.2.2.2.1, a.2.2.2.2.1, fun q hq => a.2.2.2.2.2 q (fun z => hq (hR q z))⟩
theorem aFr_s (a : aFr P h h1) (k : mIs p i x h1 h3) (hp : P p) : aFr P h h3 := aFr_t a ⟨k.1, k.2.1, k.2.2.1, k.2.2.2.1, k.2.2.2.2.1, fun q hq => by rw [k.2.2.2.2.2]; funext j; exact if_neg (fun z => hq (by rw [z.1]; exact hp))⟩
theorem mIs_x (k : mIs p i x h1 h3) : tA h3 p i = x := by rw [k.2.2.2.2.2]; exact if_pos ⟨rfl, rfl⟩
theorem mIs_o {q j : Nat} (k : mIs p i x h1 h3) (hn : q ≠ p ∨ j ≠ i) : tA h3 q j = tA h1 q j := by rw [k.2.2.2.2.2]; exact if_neg (fun z => hn.elim (fun y => y z.1) (fun y => y z.2))
theorem tG_lsi {tt : zT} {G : zG} {cd : zK} {bc bs : Nat} {rt : Option FieldType} {M : zM} {Q : zQ} {Z : zX} {f : Bool} {pc : Nat} {L : zL} {st : List Value} {c n kd : Nat} {i : Int32} (hf : tIn h p kd i) (hs : tSh h) (k : ∀ h3, mIs p i.toNatClampNeg x h h3 → tG tt G cd bc bs rt M Q Z f pc L st h3 c n) : tG tt G cd bc bs rt M Q Z f pc L st (tSA h p i.toNatClampNeg x) c n := k _ ⟨tSh_SA hs, tF_tSA _ _ _ _, tJ_tSA _ _ _ _, tO_tSA _ _ _ _, tN_tSA _ _ _ _, tA_tSA hf.cell _ _⟩
end AFR
theorem zadI {x y : Int32} (h : -2147483648 ≤ x.toInt + y.toInt ∧ x.toInt + y.toInt ≤ 2147483647) : (x + y).toInt = x.toInt + y.toInt := by
  rw [Int32.toInt_add]
  exact Int.bmod_eq_of_le (by show (-2147483648 : Int) ≤ x.toInt + y.toInt; omega) (by show x.toInt + y.toInt < (2147483648 : Int); omega)
theorem aU_i (f : Nat → Int) (t : Nat) : f t = if t ≤ 0 then aU f t else f t := by
  by_cases h : t ≤ 0
  · rw [if_pos h]
    obtain rfl : t = 0 := by omega
    rfl
  · rw [if_neg h]
theorem wIte {p : Prop} [Decidable p] {x B : Int} (h : 0 ≤ x ∧ x ≤ B) : 0 ≤ (if p then x else 0) ∧ (if p then x else 0) ≤ B := by
  by_cases q : p
  · rw [if_pos q]; exact h
  · rw [if_neg q]; omega
/-- cars of a kind; fires and deaths of a kind -/
noncomputable def wK (h : zH) (k : Int32) (i : Nat) : Int := if tA h 121 i = k then 1 else 0
noncomputable def tK9 (h : zH) (i : Nat) : Int := (tA h 123 i).toInt
noncomputable def wF (h : zH) (k : Int32) (i : Nat) : Int := if tA h 65 i = k ∧ ¬ tA h 71 i = 0 then 1 else 0
noncomputable def wD (h : zH) (k : Int32) (i : Nat) : Int := if tA h 65 i = k ∧ ¬ tA h 71 i = 0 then (tA h 70 i).toInt else 0
noncomputable def tF9 (h : zH) (i : Nat) : Int := (tA h 67 i).toInt
theorem zadU {x y : Int32} {a b : Int} (hx : x.toInt = a) (hy : y.toInt = b) (h : 0 ≤ a ∧ a ≤ 100000000 ∧ 0 ≤ b ∧ b ≤ 100000000) : (x + y).toInt = a + b := by rw [zadI (by omega), hx, hy]
theorem f_fillI {G : zG} (hG : G.1 = zProg) {h : zH} {p : Nat} {x : Int32} (hs : tSh h) (hN : tN h p ≤ 1000) : tC zTt G 282 [.ref p, .int x] h (fun w h2 => w = none ∧ aFr (fun r => r = p) h h2 ∧ ∀ t, t < tN h p → tA h2 p t = x) := by
  refine tC_in (by rw [hG]; rfl) (fun dp => ?_)
  have hl : (Int32.ofNat (tN h p)).toInt = ((tN h p : Nat) : Int) := yofN (by omega)
  refine tw_push rfl ?_
  refine tw_istore rfl ?_
  refine tw_aload rfl rfl ?_
  refine tw_alen rfl ?_
  refine tw_istore rfl ?_
  refine tG_loop (zW_mono zTt G dp) (zW_conj zTt G dp) (V := fun pc L st h9 _ _ => pc = 5 ∧ st = [] ∧ ∃ (h1 : zH) (k : Nat) (z : Int32), h1 = h9 ∧ aFr (fun r => r = p) h h1 ∧ z.toInt = (k : Int) ∧ (∀ t, t < k → tA h1 p t = x) ∧ L = [some (.ref p), some (.int x), some (.int z), some (.int (Int32.ofNat (tN h p)))]) ?_ (⟨rfl, rfl, h, 0, 0, rfl, aFr_r hs, rfl, fun t ht => absurd ht (Nat.not_lt_zero _), rfl⟩)
  rintro _ _ _ _ _ _ ⟨rfl, rfl, h1, k, z, rfl, hF, hz, hall, rfl⟩
  refine tw_iload rfl rfl ?_
  refine tw_iload rfl rfl ?_
  refine tw_ic_ge rfl (fun q994 => ?_) (fun q994 => ?_)
  · try dsimp only [tvI_i, tvJ_j, tvR_r] at q994
    exact tw_vret rfl ⟨rfl, hF, fun t ht => hall t (by omega)⟩
  · try dsimp only [tvI_i, tvJ_j, tvR_r] at q994
    refine tw_aload rfl rfl ?_
    refine tw_iload rfl rfl ?_
    refine tw_iload rfl rfl ?_
    refine tw_iast rfl (fun f995 => ?_)
    refine tG_lsi f995 hF.1 (fun h3 a3 => ?_)
    try dsimp only [tvI_i, tvJ_j, tvR_r] at a3
    have hF3 := aFr_s hF a3 rfl
    refine tw_iinc rfl rfl ?_
    refine tw_goto rfl ?_
    have hk1 : (z + 1).toInt = ((k + 1 : Nat) : Int) := zincN hz (by omega)
    rw [zof_cl hz] at a3
    exact tG_cut (zW_mono zTt G dp) (Or.inr ⟨rfl, rfl, h3, k + 1, z + 1, rfl, hF3, hk1, fun t ht => (Classical.em (t = k)).elim (fun y => by rw [y]; exact mIs_x a3) (fun y => (mIs_o a3 (Or.inr y)).trans (hall t (by omega))), rfl⟩)
theorem f_addUp {G : zG} (hG : G.1 = zProg) {h : zH} {p : Nat} {f : Nat → Int} (hs : tSh h) (hN : 1 ≤ tN h p ∧ tN h p ≤ 1000) (hf : ∀ t, t < tN h p → (tA h p t).toInt = f t) (hb : ∀ t, t < tN h p → 0 ≤ aU f t ∧ aU f t ≤ 100000000) : tC zTt G 169 [.ref p] h (fun w h2 => w = none ∧ aFr (fun r => r = p) h h2 ∧ ∀ t, t < tN h p → (tA h2 p t).toInt = aU f t) := by
  refine tC_in (by rw [hG]; rfl) (fun dp => ?_)
  refine tw_push rfl ?_
  refine tw_istore rfl ?_
  refine tG_loop (zW_mono zTt G dp) (zW_conj zTt G dp) (V := fun pc L st h9 _ _ => pc = 2 ∧ st = [] ∧ ∃ (h1 : zH) (k : Nat) (z : Int32), h1 = h9 ∧ aFr (fun r => r = p) h h1 ∧ z.toInt = ((k + 1 : Nat) : Int) ∧ (∀ t, t < tN h p → (tA h1 p t).toInt = if t ≤ k then aU f t else f t) ∧ L = [some (.ref p), some (.int z)]) ?_ (⟨rfl, rfl, h, 0, 1, rfl, aFr_r hs, rfl, fun t ht => (hf t ht).trans (aU_i f t), rfl⟩)
  rintro _ _ _ _ _ _ ⟨rfl, rfl, h1, k, z, rfl, hF, hz, hall, rfl⟩
  have hl : (Int32.ofNat (tN h1 p)).toInt = ((tN h p : Nat) : Int) := by rw [hF.2.2.2.2.1]; exact yofN (by omega)
  refine tw_iload rfl rfl ?_
  refine tw_aload rfl rfl ?_
  refine tw_alen rfl ?_
  refine tw_ic_ge rfl (fun q996 => ?_) (fun q996 => ?_)
  · try dsimp only [tvI_i, tvJ_j, tvR_r] at q996
    refine tw_vret rfl ⟨rfl, hF, fun t ht => ?_⟩
    rw [hall t ht, if_pos (by omega)]
  · try dsimp only [tvI_i, tvJ_j, tvR_r] at q996
    have hk9 : k + 1 < tN h p := by omega
    have z0 : z.toNatClampNeg = k + 1 := zof_cl hz
    have z1 : (z - 1).toNatClampNeg = k := zof_cl ((zsbM (b := 1) hz rfl (by omega) (by decide)).trans (by omega))
    have u0 := hall (k + 1) hk9
    rw [if_neg (by omega)] at u0
    have u1 := hall k (by omega)
    rw [if_pos (Nat.le_refl _)] at u1
    have b1 := hb k (by omega)
    have b2 := hb (k + 1) hk9
    have b3 : aU f (k + 1) = aU f k + f (k + 1) := rfl
    refine tw_aload rfl rfl ?_
    refine tw_iload rfl rfl ?_
    refine tw_dup2 rfl ?_
    refine tw_iald rfl (fun f997 => ?_)
    refine tw_aload rfl rfl ?_
    refine tw_iload rfl rfl ?_
    refine tw_push rfl ?_
    refine tw_isub rfl ?_
    refine tw_iald rfl (fun f998 => ?_)
    refine tw_iadd rfl ?_
    refine tw_iast rfl (fun f999 => ?_)
    refine tG_lsi f999 hF.1 (fun h3 a3 => ?_)
    try dsimp only [tvI_i, tvJ_j, tvR_r] at a3
    have hF3 := aFr_s hF a3 rfl
    refine tw_iinc rfl rfl ?_
    refine tw_goto rfl ?_
    rw [z0, z1] at a3
    have hx9 : (tA h3 p (k + 1)).toInt = aU f (k + 1) := by rw [mIs_x a3, zadI (by omega)]; omega
    have hk1 : (z + 1).toInt = ((k + 1 + 1 : Nat) : Int) := zincN hz (by omega)
    refine tG_cut (zW_mono zTt G dp) (Or.inr ⟨rfl, rfl, h3, k + 1, z + 1, rfl, hF3, hk1, fun t ht => ?_, rfl⟩)
    by_cases y : t = k + 1
    · rw [y, hx9, if_pos (Nat.le_refl _)]
    · rw [mIs_o a3 (Or.inr y), hall t ht]
      by_cases y2 : t ≤ k
      · rw [if_pos y2, if_pos (by omega)]
      · rw [if_neg y2, if_neg (by omega)]
theorem f_countCars {G : zG} (hG : G.1 = zProg) {h : zH} {k : Int32} (hs : tSh h) (hL : R_cl h) (hg : ∀ i r : Nat, (i : Int) < (tvI (tF h 36 4)).toInt → tO h 39 i = some r → 182 ≤ r) (hK : R_ckind h) (hT : R_ctl h) (hn : tN h 107 = 600) (h123 : ∀ i, i < 300 → 0 ≤ (tA h 123 i).toInt ∧ (tA h 123 i).toInt ≤ 599) (h36 : 0 ≤ (tvI (tF h 36 4)).toInt ∧ (tvI (tF h 36 4)).toInt ≤ 300) : tC zTt G 23 [.ref 36, .int k, .ref 107] h (fun w h2 => w = none ∧ aFr (fun r => r = 107) h h2 ∧ ∀ t : Nat, t < 600 → (tA h2 107 t).toInt = bN (wK h k) (tK9 h) (tvI (tF h 36 4)).toNatClampNeg t) := by
  refine tC_in (by rw [hG]; rfl) (fun dp => ?_)
  have hNC : (((tvI (tF h 36 4)).toNatClampNeg : Nat) : Int) = (tvI (tF h 36 4)).toInt := zclx h36.1
  have hw1 : ∀ i, i < (tvI (tF h 36 4)).toNatClampNeg → 0 ≤ wK h k i ∧ wK h k i ≤ 1 := fun i _ => wIte ⟨by decide, by decide⟩
  have ht0 : ∀ i, i < (tvI (tF h 36 4)).toNatClampNeg → 0 ≤ tK9 h i := fun i hi => (h123 i (by rw [zclE] at hi; omega)).1
  refine tw_aload rfl rfl ?_
  refine tw_push rfl ?_
  refine tw_stat2 rfl (f_fillI hG hs (by rw [hn]; decide)) (fun wp1000 hp1000 p1000 => ?_)
  obtain ⟨rfl, Fp1000, Zp1000⟩ := p1000
  rw [hn] at Zp1000
  refine tw_push rfl ?_
  refine tw_istore rfl ?_
  refine tG_loop (zW_mono zTt G dp) (zW_conj zTt G dp) (V := fun pc L st h9 _ _ => pc = 7 ∧ st = [] ∧ ∃ (h1 : zH) (n : Nat) (z : Int32) (l4 : Option Value), h1 = h9 ∧ aFr (fun r => r = 107) h h1 ∧ z.toInt = (n : Int) ∧ (n : Int) ≤ (tvI (tF h 36 4)).toInt ∧ (∀ t, t < 600 → (tA h1 107 t).toInt = cN (wK h k) (tK9 h) n t) ∧ L = [some (.ref 36), some (.int k), some (.ref 107), some (.int z), l4]) ?_ (⟨rfl, rfl, _, 0, 0, none, rfl, Fp1000, rfl, h36.1, fun t ht => by rw [Zp1000 t ht]; rfl, rfl⟩)
  rintro _ _ _ _ _ _ ⟨rfl, rfl, h1, n, z, l4, rfl, hF, hz, hnn, hall, rfl⟩
  have hL1 : R_cl h1 := by unfold R_cl; rw [hF.2.1, hF.2.2.2.1]; exact hL
  have hg1 : ∀ i r : Nat, (i : Int) < (tvI (tF h1 36 4)).toInt → tO h1 39 i = some r → 182 ≤ r := by rw [hF.2.1, hF.2.2.2.1]; exact hg
  have hK1 : R_ckind h1 := fun i r hi hr => by rw [hF.2.1, hF.2.2.2.2.2 121 (by decide)]; rw [hF.2.1] at hi; rw [hF.2.2.2.1] at hr; exact hK i r hi hr
  have hT1 : R_ctl h1 := fun i r hi hr => by rw [hF.2.1, hF.2.2.2.2.2 123 (by decide)]; rw [hF.2.1] at hi; rw [hF.2.2.2.1] at hr; exact hT i r hi hr
  have e36 : (tvI (tF h1 36 4)).toInt = (tvI (tF h 36 4)).toInt := by rw [hF.2.1]
  refine tw_iload rfl rfl ?_
  refine tw_aload rfl rfl ?_
  refine tw_getS rfl (hi_36_4 hF.1) ?_
  refine tw_ic_ge rfl (fun q1001 => ?_) (fun q1001 => ?_)
  · try dsimp only [tvI_i, tvJ_j, tvR_r] at q1001
    refine tw_aload rfl rfl ?_
    have hnN : n = (tvI (tF h 36 4)).toNatClampNeg := by rw [zclE]; omega
    refine tw_stat1 rfl (f_addUp hG hF.1 (f := cN (wK h k) (tK9 h) (tvI (tF h 36 4)).toNatClampNeg) (by rw [hF.2.2.2.2.1, hn]; decide) (by rw [hF.2.2.2.2.1, hn]; exact fun t ht => (hall t ht).trans (by rw [hnN])) (by rw [hF.2.2.2.2.1, hn]; exact fun t ht => by rw [aU_cN ht0]; have y := bN_b (B := 1) (tl := tK9 h) (n := (tvI (tF h 36 4)).toNatClampNeg) hw1 (by decide) (t : Int); omega)) (fun wp1002 hp1002 p1002 => ?_)
    obtain ⟨rfl, Fp1002, Zp1002⟩ := p1002
    rw [hF.2.2.2.2.1, hn] at Zp1002
    exact tw_vret rfl ⟨rfl, aFr_t hF Fp1002, fun t ht => (Zp1002 t ht).trans (aU_cN ht0 t)⟩
  · try dsimp only [tvI_i, tvJ_j, tvR_r] at q1001
    refine tw_aload rfl rfl ?_
    refine tw_iload rfl rfl ?_
    refine tw_virt1 rfl (f_carAtR hG hF.1 hL1 hg1) (fun w9 h9 p1003 => ?_)
    obtain ⟨⟨rp1003, p1003, p1003r, p1003g, rfl⟩ | ⟨p1003, rfl⟩, e9⟩ := p1003
    · obtain rfl := e9.symm
      refine tw_astore rfl ?_
      refine tw_aload rfl rfl ?_
      refine tw_ifnull rfl (fun z => by cases z) (fun _ _ => ?_)
      refine tw_aload rfl rfl ?_
      refine tw_getS rfl (hK1 _ _ p1003.2 p1003r) ?_
      refine tw_iload rfl rfl ?_
      refine tw_ic_ne rfl (fun q1006 => ?_) (fun q1006 => ?_)
      · try dsimp only [tvI_i, tvJ_j, tvR_r] at q1006
        have q1006i := zneq rfl q1006
        refine tw_iinc rfl rfl ?_
        refine tw_goto rfl ?_
        have hz1 : (z + 1).toInt = ((n + 1 : Nat) : Int) := zincN hz (by omega)
        have zn := zof_cl hz
        have e0 : tA h1 121 n = tA h 121 n := congrFun (hF.2.2.2.2.2 121 (by decide)) n
        rw [zn, e0] at q1006
        refine tG_cut (zW_mono zTt G dp) (Or.inr ⟨rfl, rfl, h1, n + 1, z + 1, _, rfl, hF, hz1, by omega, fun t ht => ?_, rfl⟩)
        rw [hall t ht, cN_n (fun _ => if_neg q1006)]
      · try dsimp only [tvI_i, tvJ_j, tvR_r] at q1006
        have q1006i := zeqi rfl q1006
        refine tw_aload rfl rfl ?_
        refine tw_aload rfl rfl ?_
        refine tw_getS rfl (hT1 _ _ p1003.2 p1003r) ?_
        refine tw_dup2 rfl ?_
        refine tw_iald rfl (fun f1007 => ?_)
        refine tw_push rfl ?_
        refine tw_iadd rfl ?_
        refine tw_iast rfl (fun f1008 => ?_)
        refine tG_lsi f1008 hF.1 (fun h3 a3 => ?_)
        try dsimp only [tvI_i, tvJ_j, tvR_r] at a3
        have hF3 := aFr_s hF a3 rfl
        refine tw_iinc rfl rfl ?_
        refine tw_goto rfl ?_
        have hz1 : (z + 1).toInt = ((n + 1 : Nat) : Int) := zincN hz (by omega)
        have zn := zof_cl hz
        have e0 : tA h1 121 n = tA h 121 n := congrFun (hF.2.2.2.2.2 121 (by decide)) n
        rw [zn, e0] at q1006
        have e1 : tA h1 123 n = tA h 123 n := congrFun (hF.2.2.2.2.2 123 (by decide)) n
        rw [zn, e1] at a3
        have b9 := h123 n (by omega)
        have t9 : (((tA h 123 n).toNatClampNeg : Nat) : Int) = tK9 h n := zclx b9.1
        refine tG_cut (zW_mono zTt G dp) (Or.inr ⟨rfl, rfl, h3, n + 1, z + 1, _, rfl, hF3, hz1, by omega, fun t ht => ?_, rfl⟩)
        by_cases y : t = (tA h 123 n).toNatClampNeg
        · rw [y, mIs_x a3, cN_y t9.symm, show wK h k n = 1 from if_pos q1006]
          have b8 := cN_b (B := 1) (tl := tK9 h) (n := n) (fun i hi => hw1 i (by rw [zclE]; omega)) (by decide) (tA h 123 n).toNatClampNeg
          exact zadU (hall _ (by omega)) rfl (by omega)
        · rw [mIs_o a3 (Or.inr y), hall t ht, cN_n (fun y2 => absurd (by omega) y)]
    · obtain rfl := e9.symm
      exact absurd ⟨by omega, by omega⟩ p1003
theorem f_countFires {G : zG} (hG : G.1 = zProg) {h : zH} {k : Int32} (hs : tSh h) (hn108 : tN h 108 = 600) (hn109 : tN h 109 = 600) (h67 : ∀ i, i < 200 → 0 ≤ (tA h 67 i).toInt ∧ (tA h 67 i).toInt ≤ 599) (h70 : ∀ i, i < 200 → 0 ≤ (tA h 70 i).toInt ∧ (tA h 70 i).toInt ≤ 9) (h63 : 0 ≤ (tvI (tF h 63 8)).toInt ∧ (tvI (tF h 63 8)).toInt ≤ 200) : tC zTt G 10 [.ref 63, .int k, .ref 108, .ref 109] h (fun w h2 => w = none ∧ aFr (fun r => r = 108 ∨ r = 109) h h2 ∧ (∀ t : Nat, t < 600 → (tA h2 108 t).toInt = bN (wF h k) (tF9 h) (tvI (tF h 63 8)).toNatClampNeg t) ∧ (∀ t : Nat, t < 600 → (tA h2 109 t).toInt = bN (wD h k) (tF9 h) (tvI (tF h 63 8)).toNatClampNeg t)) := by
  refine tC_in (by rw [hG]; rfl) (fun dp => ?_)
  have hNC : (((tvI (tF h 63 8)).toNatClampNeg : Nat) : Int) = (tvI (tF h 63 8)).toInt := zclx h63.1
  have hw108 : ∀ i, i < (tvI (tF h 63 8)).toNatClampNeg → 0 ≤ wF h k i ∧ wF h k i ≤ 1 := fun i _ => wIte ⟨by decide, by decide⟩
  have hw109 : ∀ i, i < (tvI (tF h 63 8)).toNatClampNeg → 0 ≤ wD h k i ∧ wD h k i ≤ 9 := fun i hi => wIte (h70 i (by rw [zclE] at hi; omega))
  have ht0 : ∀ i, i < (tvI (tF h 63 8)).toNatClampNeg → 0 ≤ tF9 h i := fun i hi => (h67 i (by rw [zclE] at hi; omega)).1
  refine tw_aload rfl rfl ?_
  refine tw_push rfl ?_
  refine tw_stat2 rfl (f_fillI hG hs (by rw [hn108]; decide)) (fun wp1009 hp1009 p1009 => ?_)
  obtain ⟨rfl, FF, Zp1009⟩ := p1009
  rw [hn108] at Zp1009
  refine tw_aload rfl rfl ?_
  refine tw_push rfl ?_
  refine tw_stat2 rfl (f_fillI hG FF.1 (by rw [FF.2.2.2.2.1]; rw [hn109]; decide)) (fun wp1010 hp1010 p1010 => ?_)
  obtain ⟨rfl, Fp1010, Zp1010⟩ := p1010
  rw [FF.2.2.2.2.1, hn109] at Zp1010
  refine tw_push rfl ?_
  refine tw_istore rfl ?_
  refine tG_loop (zW_mono zTt G dp) (zW_conj zTt G dp) (V := fun pc L st h9 _ _ => pc = 13 ∧ st = [] ∧ ∃ (h1 : zH) (n : Nat) (z : Int32), h1 = h9 ∧ aFr (fun r => r = 108 ∨ r = 109) h h1 ∧ z.toInt = (n : Int) ∧ (n : Int) ≤ (tvI (tF h 63 8)).toInt ∧ (∀ t, t < 600 → (tA h1 108 t).toInt = cN (wF h k) (tF9 h) n t) ∧ (∀ t, t < 600 → (tA h1 109 t).toInt = cN (wD h k) (tF9 h) n t) ∧ L = [some (.ref 63), some (.int k), some (.ref 108), some (.ref 109), some (.int z)]) ?_ (⟨rfl, rfl, _, 0, 0, rfl, aFr_t (aFr_m FF (fun _ y => Or.inl y)) (aFr_m Fp1010 (fun _ y => Or.inr y)), rfl, h63.1, fun t ht => by rw [congrFun (Fp1010.2.2.2.2.2 108 (by decide)) t, Zp1009 t ht]; rfl, fun t ht => by rw [Zp1010 t ht]; rfl, rfl⟩)
  rintro _ _ _ _ _ _ ⟨rfl, rfl, h1, n, z, rfl, hF, hz, hnn, hal8, hal9, rfl⟩
  have e63 : (tvI (tF h1 63 8)).toInt = (tvI (tF h 63 8)).toInt := by rw [hF.2.1]
  refine tw_iload rfl rfl ?_
  refine tw_aload rfl rfl ?_
  refine tw_getS rfl (hi_63_8 hF.1) ?_
  refine tw_ic_ge rfl (fun q1011 => ?_) (fun q1011 => ?_)
  · try dsimp only [tvI_i, tvJ_j, tvR_r] at q1011
    refine tw_aload rfl rfl ?_
    have hnN : n = (tvI (tF h 63 8)).toNatClampNeg := by rw [zclE]; omega
    refine tw_stat1 rfl (f_addUp hG hF.1 (f := cN (wF h k) (tF9 h) (tvI (tF h 63 8)).toNatClampNeg) (by rw [hF.2.2.2.2.1, hn108]; decide) (by rw [hF.2.2.2.2.1, hn108]; exact fun t ht => (hal8 t ht).trans (by rw [hnN])) (by rw [hF.2.2.2.2.1, hn108]; exact fun t ht => by rw [aU_cN ht0]; have y := bN_b (B := 1) (tl := tF9 h) (n := (tvI (tF h 63 8)).toNatClampNeg) hw108 (by decide) (t : Int); omega)) (fun wp1012 hp1012 p1012 => ?_)
    obtain ⟨rfl, FB, Z8⟩ := p1012
    rw [hF.2.2.2.2.1, hn108] at Z8
    have FA := aFr_t hF (aFr_m FB (fun _ y => Or.inl y))
    refine tw_aload rfl rfl ?_
    refine tw_stat1 rfl (f_addUp hG FA.1 (f := cN (wD h k) (tF9 h) (tvI (tF h 63 8)).toNatClampNeg) (by rw [FA.2.2.2.2.1, hn109]; decide) (by rw [FA.2.2.2.2.1, hn109]; exact fun t ht => ((congrArg Int32.toInt (congrFun (FB.2.2.2.2.2 109 (by decide)) t)).trans (hal9 t ht)).trans (by rw [hnN])) (by rw [FA.2.2.2.2.1, hn109]; exact fun t ht => by rw [aU_cN ht0]; have y := bN_b (B := 9) (tl := tF9 h) (n := (tvI (tF h 63 8)).toNatClampNeg) hw109 (by decide) (t : Int); omega)) (fun wp1013 hp1013 p1013 => ?_)
    obtain ⟨rfl, FC, Z9⟩ := p1013
    rw [FA.2.2.2.2.1, hn109] at Z9
    exact tw_vret rfl ⟨rfl, aFr_t FA (aFr_m FC (fun _ y => Or.inr y)), fun t ht => (congrArg Int32.toInt (congrFun (FC.2.2.2.2.2 108 (by decide)) t)).trans ((Z8 t ht).trans (aU_cN ht0 t)), fun t ht => (Z9 t ht).trans (aU_cN ht0 t)⟩
  · try dsimp only [tvI_i, tvJ_j, tvR_r] at q1011
    have zn := zof_cl hz
    have e65 : tA h1 65 n = tA h 65 n := congrFun (hF.2.2.2.2.2 65 (by decide)) n
    have e67 : tA h1 67 n = tA h 67 n := congrFun (hF.2.2.2.2.2 67 (by decide)) n
    have e70 : tA h1 70 n = tA h 70 n := congrFun (hF.2.2.2.2.2 70 (by decide)) n
    have e71 : tA h1 71 n = tA h 71 n := congrFun (hF.2.2.2.2.2 71 (by decide)) n
    have b9 := h67 n (by omega)
    have b7 := h70 n (by omega)
    have t9 : (((tA h 67 n).toNatClampNeg : Nat) : Int) = tF9 h n := zclx b9.1
    have hz1 : (z + 1).toInt = ((n + 1 : Nat) : Int) := zincN hz (by omega)
    refine tw_aload rfl rfl ?_
    refine tw_getS rfl (hs_63_1 hF.1) ?_
    refine tw_iload rfl rfl ?_
    refine tw_iald rfl (fun f1014 => ?_)
    refine tw_iload rfl rfl ?_
    refine tw_ic_ne rfl (fun q1015 => ?_) (fun q1015 => ?_)
    · try dsimp only [tvI_i, tvJ_j, tvR_r] at q1015
      have q1015i := zneq rfl q1015
      refine tw_iinc rfl rfl ?_
      refine tw_goto rfl ?_
      rw [zn, e65] at q1015
      refine tG_cut (zW_mono zTt G dp) (Or.inr ⟨rfl, rfl, h1, n + 1, z + 1, rfl, hF, hz1, by omega, fun t ht => ?_, fun t ht => ?_, rfl⟩)
      · rw [hal8 t ht, cN_n (fun _ => if_neg (fun y => q1015 y.1))]
      · rw [hal9 t ht, cN_n (fun _ => if_neg (fun y => q1015 y.1))]
    · try dsimp only [tvI_i, tvJ_j, tvR_r] at q1015
      have q1015i := zeqi rfl q1015
      refine tw_aload rfl rfl ?_
      refine tw_getS rfl (hs_63_7 hF.1) ?_
      refine tw_iload rfl rfl ?_
      refine tw_bald rfl (fun f1016 => ?_)
      refine tw_if_eq rfl (fun q1017 => ?_) (fun q1017 => ?_)
      · try dsimp only [tvI_i, tvJ_j, tvR_r] at q1017
        have q1017i := zeqi (Y := 0) (by decide) q1017
        refine tw_iinc rfl rfl ?_
        refine tw_goto rfl ?_
        rw [zn, e65] at q1015
        rw [zn, e71] at q1017
        refine tG_cut (zW_mono zTt G dp) (Or.inr ⟨rfl, rfl, h1, n + 1, z + 1, rfl, hF, hz1, by omega, fun t ht => ?_, fun t ht => ?_, rfl⟩)
        · rw [hal8 t ht, cN_n (fun _ => if_neg (fun y => y.2 q1017))]
        · rw [hal9 t ht, cN_n (fun _ => if_neg (fun y => y.2 q1017))]
      · try dsimp only [tvI_i, tvJ_j, tvR_r] at q1017
        have q1017i := zneq (Y := 0) (by decide) q1017
        refine tw_aload rfl rfl ?_
        refine tw_aload rfl rfl ?_
        refine tw_getS rfl (hs_63_3 hF.1) ?_
        refine tw_iload rfl rfl ?_
        refine tw_iald rfl (fun f1018 => ?_)
        refine tw_dup2 rfl ?_
        refine tw_iald rfl (fun f1019 => ?_)
        refine tw_push rfl ?_
        refine tw_iadd rfl ?_
        refine tw_iast rfl (fun f1020 => ?_)
        refine tG_lsi f1020 hF.1 (fun h3 a3 => ?_)
        try dsimp only [tvI_i, tvJ_j, tvR_r] at a3
        have hF3 := aFr_s hF a3 (Or.inl rfl)
        refine tw_aload rfl rfl ?_
        refine tw_aload rfl rfl ?_
        refine tw_getS rfl (hs_63_3 hF3.1) ?_
        refine tw_iload rfl rfl ?_
        refine tw_iald rfl (fun f1021 => ?_)
        refine tw_dup2 rfl ?_
        refine tw_iald rfl (fun f1022 => ?_)
        refine tw_aload rfl rfl ?_
        refine tw_getS rfl (hs_63_6 hF3.1) ?_
        refine tw_iload rfl rfl ?_
        refine tw_iald rfl (fun f1023 => ?_)
        refine tw_iadd rfl ?_
        refine tw_iast rfl (fun f1024 => ?_)
        refine tG_lsi f1024 hF3.1 (fun h4 a4 => ?_)
        try dsimp only [tvI_i, tvJ_j, tvR_r] at a4
        have hF4 := aFr_s hF3 a4 (Or.inr rfl)
        refine tw_iinc rfl rfl ?_
        refine tw_goto rfl ?_
        rw [zn, e65] at q1015
        rw [zn, e71] at q1017
        have hw8 : wF h k n = 1 := if_pos ⟨q1015, q1017⟩
        have hw9 : wD h k n = (tA h 70 n).toInt := if_pos ⟨q1015, q1017⟩
        rw [zn, e67] at a3
        have f67 : tA h3 67 n = tA h 67 n := (congrFun (hF3.2.2.2.2.2 67 (by decide)) n)
        have f70 : tA h3 70 n = tA h 70 n := (congrFun (hF3.2.2.2.2.2 70 (by decide)) n)
        rw [zn, f67, f70] at a4
        have b8 := cN_b (B := 1) (tl := tF9 h) (n := n) (fun i hi => hw108 i (by rw [zclE]; omega)) (by decide) (tA h 67 n).toNatClampNeg
        have b6 := cN_b (B := 9) (tl := tF9 h) (n := n) (fun i hi => hw109 i (by rw [zclE]; omega)) (by decide) (tA h 67 n).toNatClampNeg
        refine tG_cut (zW_mono zTt G dp) (Or.inr ⟨rfl, rfl, h4, n + 1, z + 1, rfl, hF4, hz1, by omega, fun t ht => ?_, fun t ht => ?_, rfl⟩)
        · rw [mIs_o a4 (Or.inl (by decide))]
          by_cases y : t = (tA h 67 n).toNatClampNeg
          · rw [y, mIs_x a3, cN_y t9.symm, hw8]
            exact zadU (hal8 _ (by omega)) rfl (by omega)
          · rw [mIs_o a3 (Or.inr y), hal8 t ht, cN_n (fun y2 => absurd (by omega) y)]
        · by_cases y : t = (tA h 67 n).toNatClampNeg
          · rw [y, mIs_x a4, cN_y t9.symm, hw9]
            exact zadU ((congrArg Int32.toInt (mIs_o a3 (Or.inl (by decide)))).trans (hal9 _ (by omega))) rfl (by omega)
          · rw [mIs_o a4 (Or.inr y), mIs_o a3 (Or.inl (by decide)), hal9 t ht, cN_n (fun y2 => absurd (by omega) y)]
theorem f_fillJ {G : zG} (hG : G.1 = zProg) {h : zH} {p : Nat} {x : Int64} (hs : tSh h) (hN : tN h p ≤ 1000) : tC zTt G 281 [.ref p, .long x] h (fun w h2 => w = none ∧ wFr p h h2 ∧ ∀ t, t < tN h p → tJ h2 p t = x) := by
  refine tC_in (by rw [hG]; rfl) (fun dp => ?_)
  have hl : (Int32.ofNat (tN h p)).toInt = ((tN h p : Nat) : Int) := yofN (by omega)
  refine tw_push rfl ?_
  refine tw_istore rfl ?_
  refine tw_aload rfl rfl ?_
  refine tw_alen rfl ?_
  refine tw_istore rfl ?_
  refine tG_loop (zW_mono zTt G dp) (zW_conj zTt G dp) (V := fun pc L st h9 _ _ => pc = 6 ∧ st = [] ∧ ∃ (h1 : zH) (k : Nat) (z : Int32), h1 = h9 ∧ wFr p h h1 ∧ z.toInt = (k : Int) ∧ (∀ t, t < k → tJ h1 p t = x) ∧ L = [some (.ref p), some (.long x), none, some (.int z), some (.int (Int32.ofNat (tN h p)))]) ?_ (⟨rfl, rfl, h, 0, 0, rfl, wFr_r hs, rfl, fun t ht => absurd ht (Nat.not_lt_zero _), rfl⟩)
  rintro _ _ _ _ _ _ ⟨rfl, rfl, h1, k, z, rfl, hF, hz, hall, rfl⟩
  refine tw_iload rfl rfl ?_
  refine tw_iload rfl rfl ?_
  refine tw_ic_ge rfl (fun q1025 => ?_) (fun q1025 => ?_)
  · try dsimp only [tvI_i, tvJ_j, tvR_r] at q1025
    exact tw_vret rfl ⟨rfl, hF, fun t ht => hall t (by omega)⟩
  · try dsimp only [tvI_i, tvJ_j, tvR_r] at q1025
    refine tw_aload rfl rfl ?_
    refine tw_iload rfl rfl ?_
    refine tw_lload rfl rfl ?_
    refine tw_last rfl (fun f1026 => ?_)
    refine tG_lst f1026 hF.1 (fun h3 a3 => ?_)
    try dsimp only [tvI_i, tvJ_j, tvR_r] at a3
    have hF3 := wFr_s hF a3
    refine tw_iinc rfl rfl ?_
    refine tw_goto rfl ?_
    have hk1 : (z + 1).toInt = ((k + 1 : Nat) : Int) := zincN hz (by omega)
    rw [zof_cl hz] at a3
    have ea := mJs_g a3 rfl
    exact tG_cut (zW_mono zTt G dp) (Or.inr ⟨rfl, rfl, h3, k + 1, z + 1, rfl, hF3, hk1, fun t ht => (congrFun ea t).trans ((Classical.em (t = k)).elim (fun y => if_pos y) (fun y => (if_neg y).trans (hall t (by omega)))), rfl⟩)
theorem wF_e {h h2 : zH} {k : Int32} (e1 : tA h2 65 = tA h 65) (e2 : tA h2 71 = tA h 71) : wF h2 k = wF h k := by
  funext i
  unfold wF
  rw [e1, e2]
theorem wD_e {h h2 : zH} {k : Int32} (e1 : tA h2 65 = tA h 65) (e2 : tA h2 71 = tA h 71) (e3 : tA h2 70 = tA h 70) : wD h2 k = wD h k := by
  funext i
  unfold wD
  rw [e1, e2, e3]
theorem tF9_e {h h2 : zH} (e1 : tA h2 67 = tA h 67) : tF9 h2 = tF9 h := by
  funext i
  unfold tF9
  rw [e1]
/-- what the class counts of a kind -/
noncomputable def tly (k : Int32) (h h2 : zH) : Prop := (∀ t : Nat, t < 600 → (tA h2 107 t).toInt = bN (wK h k) (tK9 h) (tvI (tF h 36 4)).toNatClampNeg t) ∧ (∀ t : Nat, t < 600 → (tA h2 108 t).toInt = bN (wF h k) (tF9 h) (tvI (tF h 63 8)).toNatClampNeg t) ∧ ∀ t : Nat, t < 600 → (tA h2 109 t).toInt = bN (wD h k) (tF9 h) (tvI (tF h 63 8)).toNatClampNeg t
theorem f_tally {G : zG} (hG : G.1 = zProg) {h : zH} {k : Int32} (hs : tSh h) (hL : R_cl h) (hg : ∀ i r : Nat, (i : Int) < (tvI (tF h 36 4)).toInt → tO h 39 i = some r → 182 ≤ r) (hK : R_ckind h) (hT : R_ctl h) (hn107 : tN h 107 = 600) (hn108 : tN h 108 = 600) (hn109 : tN h 109 = 600) (h123 : ∀ i, i < 300 → 0 ≤ (tA h 123 i).toInt ∧ (tA h 123 i).toInt ≤ 599) (h36 : 0 ≤ (tvI (tF h 36 4)).toInt ∧ (tvI (tF h 36 4)).toInt ≤ 300) (h67 : ∀ i, i < 200 → 0 ≤ (tA h 67 i).toInt ∧ (tA h 67 i).toInt ≤ 599) (h70 : ∀ i, i < 200 → 0 ≤ (tA h 70 i).toInt ∧ (tA h 70 i).toInt ≤ 9) (h63 : 0 ≤ (tvI (tF h 63 8)).toInt ∧ (tvI (tF h 63 8)).toInt ≤ 200) : tC zTt G 164 [.ref 0, .int k] h (fun w h2 => w = none ∧ aFr (fun r => r = 107 ∨ r = 108 ∨ r = 109) h h2 ∧ tly k h h2) := by
  refine tC_in (by rw [hG]; rfl) (fun dp => ?_)
  refine tw_aload rfl rfl ?_
  refine tw_getS rfl (hs_0_1 hs) ?_
  refine tw_iload rfl rfl ?_
  refine tw_aload rfl rfl ?_
  refine tw_getS rfl (hs_0_10 hs) ?_
  refine tw_virt2 rfl (f_countCars hG hs hL hg hK hT hn107 h123 h36) (fun wp1027 hp1027 p1027 => ?_)
  obtain ⟨rfl, FA, Z7⟩ := p1027
  have eA : ∀ p, p ≠ 107 → tA hp1027 p = tA h p := fun p hp => FA.2.2.2.2.2 p hp
  have eF : tF hp1027 = tF h := FA.2.1
  refine tw_aload rfl rfl ?_
  refine tw_getS rfl (hs_0_5 FA.1) ?_
  refine tw_iload rfl rfl ?_
  refine tw_aload rfl rfl ?_
  refine tw_getS rfl (hs_0_11 FA.1) ?_
  refine tw_aload rfl rfl ?_
  refine tw_getS rfl (hs_0_12 FA.1) ?_
  refine tw_virt3 rfl (f_countFires hG FA.1 (by rw [FA.2.2.2.2.1]; exact hn108) (by rw [FA.2.2.2.2.1]; exact hn109) (by rw [eA 67 (by decide)]; exact h67) (by rw [eA 70 (by decide)]; exact h70) (by rw [eF]; exact h63)) (fun wp1028 hp1028 p1028 => ?_)
  obtain ⟨rfl, FB, Z8, Z9⟩ := p1028
  rw [eF] at Z8 Z9
  rw [wF_e (eA 65 (by decide)) (eA 71 (by decide)), tF9_e (eA 67 (by decide))] at Z8
  rw [wD_e (eA 65 (by decide)) (eA 71 (by decide)) (eA 70 (by decide)), tF9_e (eA 67 (by decide))] at Z9
  exact tw_vret rfl ⟨rfl, aFr_t (aFr_m FA (fun _ y => Or.inl y)) (aFr_m FB (fun _ y => Or.inr y)), fun t ht => (congrArg Int32.toInt (congrFun (FB.2.2.2.2.2 107 (by decide)) t)).trans (Z7 t ht), Z8, Z9⟩
/-- the words of a kind in a month -/
noncomputable def qW (a b c d e f g : Int64) : Nat → Int64
  | 0 => a
  | 1 => b
  | 2 => c
  | 3 => d
  | 4 => e
  | 5 => f
  | 6 => g
  | _ => 0
theorem mJs_7 {h b0 b1 b2 b3 b4 b5 b6 b7 : zH} {x0 x1 x2 x3 x4 x5 x6 : Int64} {p : Nat} (k0 : ∀ t, t < 12 → tJ b0 p t = 0) (k1 : mJs p 0 x0 b0 b1) (k2 : mJs p 1 x1 b1 b2) (k3 : mJs p 2 x2 b2 b3) (k4 : mJs p 3 x3 b3 b4) (k5 : mJs p 4 x4 b4 b5) (k6 : mJs p 5 x5 b5 b6) (k7 : mJs p 6 x6 b6 b7) : ∀ i, i < 12 → tJ b7 p i = qW x0 x1 x2 x3 x4 x5 x6 i := by
  intro i hi
  rw [mJs_g k7 (mJs_g k6 (mJs_g k5 (mJs_g k4 (mJs_g k3 (mJs_g k2 (mJs_g k1 rfl))))))]
  have z := k0 i hi
  rcases (by omega : i = 0 ∨ i = 1 ∨ i = 2 ∨ i = 3 ∨ i = 4 ∨ i = 5 ∨ i = 6 ∨ (7 ≤ i ∧ i < 12)) with rfl | rfl | rfl | rfl | rfl | rfl | rfl | hi7
  · rfl
  · rfl
  · rfl
  · rfl
  · rfl
  · rfl
  · rfl
  · dsimp only
    rw [if_neg (by omega), if_neg (by omega), if_neg (by omega), if_neg (by omega), if_neg (by omega), if_neg (by omega), if_neg (by omega), z]
    rcases (by omega : i = 7 ∨ i = 8 ∨ i = 9 ∨ i = 10 ∨ i = 11) with rfl | rfl | rfl | rfl | rfl <;> rfl
theorem f_askOfKind {G : zG} (hG : G.1 = zProg) {h : zH} {k m y : Int32} (hs : tSh h) (h52 : tN h 52 = 12) : tC zTt G 165 [.ref 0, .int k, .int m, .int y] h (fun w h2 => w = none ∧ wFr 52 h h2 ∧ ∀ i, i < 12 → tJ h2 52 i = (qW m.toInt64 k.toInt64 (tA h 3 k.toNatClampNeg).toInt64 y.toInt64 (tA h 107 m.toNatClampNeg).toInt64 (tA h 108 m.toNatClampNeg).toInt64 (tA h 109 m.toNatClampNeg).toInt64) i) := by
  refine tC_in (by rw [hG]; rfl) (fun dp => ?_)
  refine tw_aload rfl rfl ?_
  refine tw_getS rfl (hs_0_3 hs) ?_
  refine tw_getS rfl (hs_48_4 hs) ?_
  refine tw_astore rfl ?_
  refine tw_aload rfl rfl ?_
  refine tw_push rfl ?_
  refine tw_stat2 rfl (f_fillJ hG hs (by rw [h52]; decide)) (fun wp1029 hp1029 p1029 => ?_)
  obtain ⟨rfl, G0, Z0⟩ := p1029
  rw [h52] at Z0
  refine tw_aload rfl rfl ?_
  refine tw_push rfl ?_
  refine tw_iload rfl rfl ?_
  refine tw_i2l rfl ?_
  refine tw_last rfl (fun f1030 => ?_)
  refine tG_lst f1030 G0.1 (fun b1 a1 => ?_)
  try dsimp only [tvI_i, tvJ_j, tvR_r] at a1
  have G1 := wFr_s G0 a1
  refine tw_aload rfl rfl ?_
  refine tw_push rfl ?_
  refine tw_iload rfl rfl ?_
  refine tw_i2l rfl ?_
  refine tw_last rfl (fun f1031 => ?_)
  refine tG_lst f1031 G1.1 (fun b2 a2 => ?_)
  try dsimp only [tvI_i, tvJ_j, tvR_r] at a2
  have G2 := wFr_s G1 a2
  refine tw_aload rfl rfl ?_
  refine tw_push rfl ?_
  refine tw_aload rfl rfl ?_
  refine tw_getS rfl (hs_0_0 G2.1) ?_
  refine tw_getS rfl (hs_1_1 G2.1) ?_
  refine tw_iload rfl rfl ?_
  refine tw_iald rfl (fun f1032 => ?_)
  refine tw_i2l rfl ?_
  refine tw_last rfl (fun f1033 => ?_)
  refine tG_lst f1033 G2.1 (fun b3 a3 => ?_)
  try dsimp only [tvI_i, tvJ_j, tvR_r] at a3
  have G3 := wFr_s G2 a3
  refine tw_aload rfl rfl ?_
  refine tw_push rfl ?_
  refine tw_iload rfl rfl ?_
  refine tw_i2l rfl ?_
  refine tw_last rfl (fun f1034 => ?_)
  refine tG_lst f1034 G3.1 (fun b4 a4 => ?_)
  try dsimp only [tvI_i, tvJ_j, tvR_r] at a4
  have G4 := wFr_s G3 a4
  refine tw_aload rfl rfl ?_
  refine tw_push rfl ?_
  refine tw_aload rfl rfl ?_
  refine tw_getS rfl (hs_0_10 G4.1) ?_
  refine tw_iload rfl rfl ?_
  refine tw_iald rfl (fun f1035 => ?_)
  refine tw_i2l rfl ?_
  refine tw_last rfl (fun f1036 => ?_)
  refine tG_lst f1036 G4.1 (fun b5 a5 => ?_)
  try dsimp only [tvI_i, tvJ_j, tvR_r] at a5
  have G5 := wFr_s G4 a5
  refine tw_aload rfl rfl ?_
  refine tw_push rfl ?_
  refine tw_aload rfl rfl ?_
  refine tw_getS rfl (hs_0_11 G5.1) ?_
  refine tw_iload rfl rfl ?_
  refine tw_iald rfl (fun f1037 => ?_)
  refine tw_i2l rfl ?_
  refine tw_last rfl (fun f1038 => ?_)
  refine tG_lst f1038 G5.1 (fun b6 a6 => ?_)
  try dsimp only [tvI_i, tvJ_j, tvR_r] at a6
  have G6 := wFr_s G5 a6
  refine tw_aload rfl rfl ?_
  refine tw_push rfl ?_
  refine tw_aload rfl rfl ?_
  refine tw_getS rfl (hs_0_12 G6.1) ?_
  refine tw_iload rfl rfl ?_
  refine tw_iald rfl (fun f1039 => ?_)
  refine tw_i2l rfl ?_
  refine tw_last rfl (fun f1040 => ?_)
  refine tG_lst f1040 G6.1 (fun b7 a7 => ?_)
  try dsimp only [tvI_i, tvJ_j, tvR_r] at a7
  have G7 := wFr_s G6 a7
  rw [congrFun G2.2.2.1 3] at a3
  rw [congrFun G4.2.2.1 107] at a5
  rw [congrFun G5.2.2.1 108] at a6
  rw [congrFun G6.2.2.1 109] at a7
  exact tw_vret rfl ⟨rfl, G7, mJs_7 (h := h) Z0 a1 a2 a3 a4 a5 a6 a7⟩
/-- the rule in force among the first n -/
noncomputable def sRI (fm : Nat → Int32) (m : Int32) : Nat → Int32
  | 0 => -1
  | n + 1 => if (fm n).toInt ≤ m.toInt ∧ (sRI fm m n = -1 ∨ (fm (sRI fm m n).toNatClampNeg).toInt ≤ (fm n).toInt) then Int32.ofNat n else sRI fm m n
section RI9
variable {fm : Nat → Int32} {m x y : Int32} {n : Nat}
theorem sRI_u : sRI fm m (n + 1) = if (fm n).toInt ≤ m.toInt ∧ (sRI fm m n = -1 ∨ (fm (sRI fm m n).toNatClampNeg).toInt ≤ (fm n).toInt) then Int32.ofNat n else sRI fm m n := rfl
theorem sRI_y (hx : x.toInt = n) (hy : y = sRI fm m n) (h1 : (fm x.toNatClampNeg).toInt ≤ m.toInt) (h2 : y = -1 ∨ (fm y.toNatClampNeg).toInt ≤ (fm x.toNatClampNeg).toInt) : x = sRI fm m (n + 1) := by
  rw [zof_cl hx] at h1 h2
  rw [sRI_u, ← hy, if_pos ⟨h1, h2⟩]
  exact zof hx
theorem sRI_n (hx : x.toInt = n) (hy : y = sRI fm m n) (h : ¬ ((fm x.toNatClampNeg).toInt ≤ m.toInt ∧ (y = -1 ∨ (fm y.toNatClampNeg).toInt ≤ (fm x.toNatClampNeg).toInt))) : y = sRI fm m (n + 1) := by
  rw [zof_cl hx] at h
  rw [sRI_u, ← hy, if_neg h]
end RI9
theorem f_ruleIn {G : zG} (hG : G.1 = zProg) {h : zH} {m : Int32} (hs : tSh h) (hn : 0 ≤ (tvI (tF h 48 3)).toInt) : tC zTt G 65 [.ref 48, .int m] h (fun w h2 => w = some (.int (sRI (tA h 49) m (tvI (tF h 48 3)).toNatClampNeg)) ∧ h2 = h) := by
  refine tC_in (by rw [hG]; rfl) (fun dp => ?_)
  refine tw_push rfl ?_
  refine tw_istore rfl ?_
  refine tw_push rfl ?_
  refine tw_istore rfl ?_
  refine tG_loop (zW_mono zTt G dp) (zW_conj zTt G dp) (V := fun pc L st h9 _ _ => pc = 4 ∧ st = [] ∧ h = h9 ∧ ∃ (n : Nat) (x y : Int32), x.toInt = n ∧ (n : Int) ≤ (tvI (tF h 48 3)).toInt ∧ y = sRI (tA h 49) m n ∧ L = [some (.ref 48), some (.int m), some (.int y), some (.int x)]) ?_ (⟨rfl, rfl, rfl, 0, 0, -1, rfl, hn, rfl, rfl⟩)
  rintro _ _ _ _ _ _ ⟨rfl, rfl, rfl, n, x, y, hx, hn, hy, rfl⟩
  refine tw_iload rfl rfl ?_
  refine tw_aload rfl rfl ?_
  refine tw_getS rfl (hi_48_3 hs) ?_
  refine tw_ic_ge rfl (fun q1041 => ?_) (fun q1041 => ?_)
  · try dsimp only [tvI_i, tvJ_j, tvR_r] at q1041
    refine tw_iload rfl rfl ?_
    exact tw_iret rfl ⟨(by rw [show n = (tvI (tF h 48 3)).toNatClampNeg from by rw [zclE]; omega] at hy; exact congrArg (fun z => some (Value.int z)) hy), rfl⟩
  · try dsimp only [tvI_i, tvJ_j, tvR_r] at q1041
    refine tw_aload rfl rfl ?_
    refine tw_getS rfl (hs_48_0 hs) ?_
    refine tw_iload rfl rfl ?_
    refine tw_iald rfl (fun f1042 => ?_)
    refine tw_iload rfl rfl ?_
    refine tw_ic_gt rfl (fun q1043 => ?_) (fun q1043 => ?_)
    · try dsimp only [tvI_i, tvJ_j, tvR_r] at q1043
      refine tw_iinc rfl rfl ?_
      refine tw_goto rfl ?_
      exact tG_cut (zW_mono zTt G dp) (Or.inr ⟨rfl, rfl, rfl, n + 1, x + 1, _, zincL hx q1041, by omega, sRI_n hx hy (fun z => absurd z.1 (by omega)), rfl⟩)
    · try dsimp only [tvI_i, tvJ_j, tvR_r] at q1043
      refine tw_iload rfl rfl ?_
      refine tw_push rfl ?_
      refine tw_ic_eq rfl (fun q1044 => ?_) (fun q1044 => ?_)
      · try dsimp only [tvI_i, tvJ_j, tvR_r] at q1044
        have q1044i := zeqi (Y := (-1)) (by decide) q1044
        refine tw_iload rfl rfl ?_
        refine tw_istore rfl ?_
        refine tw_iinc rfl rfl ?_
        refine tw_goto rfl ?_
        exact tG_cut (zW_mono zTt G dp) (Or.inr ⟨rfl, rfl, rfl, n + 1, x + 1, _, zincL hx q1041, by omega, sRI_y hx hy (by omega) (Or.inl q1044), rfl⟩)
      · try dsimp only [tvI_i, tvJ_j, tvR_r] at q1044
        have q1044i := zneq (Y := (-1)) (by decide) q1044
        refine tw_aload rfl rfl ?_
        refine tw_getS rfl (hs_48_0 hs) ?_
        refine tw_iload rfl rfl ?_
        refine tw_iald rfl (fun f1045 => ?_)
        refine tw_aload rfl rfl ?_
        refine tw_getS rfl (hs_48_0 hs) ?_
        refine tw_iload rfl rfl ?_
        refine tw_iald rfl (fun f1046 => ?_)
        refine tw_ic_lt rfl (fun q1047 => ?_) (fun q1047 => ?_)
        · try dsimp only [tvI_i, tvJ_j, tvR_r] at q1047
          refine tw_iinc rfl rfl ?_
          refine tw_goto rfl ?_
          exact tG_cut (zW_mono zTt G dp) (Or.inr ⟨rfl, rfl, rfl, n + 1, x + 1, _, zincL hx q1041, by omega, sRI_n hx hy (fun z => z.2.elim q1044 (fun z => absurd z (by omega))), rfl⟩)
        · try dsimp only [tvI_i, tvJ_j, tvR_r] at q1047
          refine tw_iload rfl rfl ?_
          refine tw_istore rfl ?_
          refine tw_iinc rfl rfl ?_
          refine tw_goto rfl ?_
          exact tG_cut (zW_mono zTt G dp) (Or.inr ⟨rfl, rfl, rfl, n + 1, x + 1, _, zincL hx q1041, by omega, sRI_y hx hy (by omega) (Or.inr (by omega)), rfl⟩)
theorem g_inForceIn {G : zG} (hG : G.1 = zProg) {h : zH} {m : Int32} (hs : tSh h) (hn : 0 ≤ (tvI (tF h 111 30)).toInt) : tC zTt G 226 [.ref 111, .int m] h (fun w h2 => w = some (.int (sRI (tA h 141) m (tvI (tF h 111 30)).toNatClampNeg)) ∧ h2 = h) := by
  refine tC_in (by rw [hG]; rfl) (fun dp => ?_)
  refine tw_push rfl ?_
  refine tw_istore rfl ?_
  refine tw_push rfl ?_
  refine tw_istore rfl ?_
  refine tG_loop (zW_mono zTt G dp) (zW_conj zTt G dp) (V := fun pc L st h9 _ _ => pc = 4 ∧ st = [] ∧ h = h9 ∧ ∃ (n : Nat) (x y : Int32), x.toInt = n ∧ (n : Int) ≤ (tvI (tF h 111 30)).toInt ∧ y = sRI (tA h 141) m n ∧ L = [some (.ref 111), some (.int m), some (.int y), some (.int x)]) ?_ (⟨rfl, rfl, rfl, 0, 0, -1, rfl, hn, rfl, rfl⟩)
  rintro _ _ _ _ _ _ ⟨rfl, rfl, rfl, n, x, y, hx, hn, hy, rfl⟩
  refine tw_iload rfl rfl ?_
  refine tw_aload rfl rfl ?_
  refine tw_getS rfl (hi_111_30 hs) ?_
  refine tw_ic_ge rfl (fun q1048 => ?_) (fun q1048 => ?_)
  · try dsimp only [tvI_i, tvJ_j, tvR_r] at q1048
    refine tw_iload rfl rfl ?_
    exact tw_iret rfl ⟨(by rw [show n = (tvI (tF h 111 30)).toNatClampNeg from by rw [zclE]; omega] at hy; exact congrArg (fun z => some (Value.int z)) hy), rfl⟩
  · try dsimp only [tvI_i, tvJ_j, tvR_r] at q1048
    refine tw_aload rfl rfl ?_
    refine tw_getS rfl (hs_111_44 hs) ?_
    refine tw_iload rfl rfl ?_
    refine tw_iald rfl (fun f1049 => ?_)
    refine tw_iload rfl rfl ?_
    refine tw_ic_gt rfl (fun q1050 => ?_) (fun q1050 => ?_)
    · try dsimp only [tvI_i, tvJ_j, tvR_r] at q1050
      refine tw_iload rfl rfl ?_
      refine tw_istore rfl ?_
      refine tw_iinc rfl rfl ?_
      refine tw_goto rfl ?_
      exact tG_cut (zW_mono zTt G dp) (Or.inr ⟨rfl, rfl, rfl, n + 1, x + 1, _, zincL hx q1048, by omega, sRI_n hx hy (fun z => absurd z.1 (by omega)), rfl⟩)
    · try dsimp only [tvI_i, tvJ_j, tvR_r] at q1050
      refine tw_iload rfl rfl ?_
      refine tw_push rfl ?_
      refine tw_ic_eq rfl (fun q1051 => ?_) (fun q1051 => ?_)
      · try dsimp only [tvI_i, tvJ_j, tvR_r] at q1051
        have q1051i := zeqi (Y := (-1)) (by decide) q1051
        refine tw_iload rfl rfl ?_
        refine tw_goto rfl ?_
        refine tw_istore rfl ?_
        refine tw_iinc rfl rfl ?_
        refine tw_goto rfl ?_
        exact tG_cut (zW_mono zTt G dp) (Or.inr ⟨rfl, rfl, rfl, n + 1, x + 1, _, zincL hx q1048, by omega, sRI_y hx hy (by omega) (Or.inl q1051), rfl⟩)
      · try dsimp only [tvI_i, tvJ_j, tvR_r] at q1051
        have q1051i := zneq (Y := (-1)) (by decide) q1051
        refine tw_aload rfl rfl ?_
        refine tw_getS rfl (hs_111_44 hs) ?_
        refine tw_iload rfl rfl ?_
        refine tw_iald rfl (fun f1052 => ?_)
        refine tw_aload rfl rfl ?_
        refine tw_getS rfl (hs_111_44 hs) ?_
        refine tw_iload rfl rfl ?_
        refine tw_iald rfl (fun f1053 => ?_)
        refine tw_ic_lt rfl (fun q1054 => ?_) (fun q1054 => ?_)
        · try dsimp only [tvI_i, tvJ_j, tvR_r] at q1054
          refine tw_iload rfl rfl ?_
          refine tw_istore rfl ?_
          refine tw_iinc rfl rfl ?_
          refine tw_goto rfl ?_
          exact tG_cut (zW_mono zTt G dp) (Or.inr ⟨rfl, rfl, rfl, n + 1, x + 1, _, zincL hx q1048, by omega, sRI_n hx hy (fun z => z.2.elim q1051 (fun z => absurd z (by omega))), rfl⟩)
        · try dsimp only [tvI_i, tvJ_j, tvR_r] at q1054
          refine tw_iload rfl rfl ?_
          refine tw_goto rfl ?_
          refine tw_istore rfl ?_
          refine tw_iinc rfl rfl ?_
          refine tw_goto rfl ?_
          exact tG_cut (zW_mono zTt G dp) (Or.inr ⟨rfl, rfl, rfl, n + 1, x + 1, _, zincL hx q1048, by omega, sRI_y hx hy (by omega) (Or.inr (by omega)), rfl⟩)
/-! what a rule tells, whichever words they are -/
theorem ev_w {W W2 : Nat → Int64} (hW : ∀ i, i < 12 → W i = W2 i) {e : List Nat} {S S1 : List Bool} {X : List Int64} (h : tyL S e = some S1) : ev W e X = ev W2 e X := by
  induction e generalizing S X with
  | nil => rfl
  | cons c e ih =>
    obtain ⟨S2, h1, h2⟩ := tyL_c h
    show ev W e (ev1 W c X) = ev W2 e (ev1 W2 c X)
    have e1 : ev1 W c X = ev1 W2 c X := by
      by_cases z : c < 100100
      · rw [ev_v z, ev_v z]
        have hc : c < 100012 := by
          unfold tyS at h1
          split at h1
          · assumption
          · repeat' (split at h1)
            all_goals first | omega | cases h1
        unfold vOf
        by_cases y : 100000 ≤ c
        · rw [if_pos y, if_pos y, hW _ (by omega)]
        · rw [if_neg y, if_neg y]
      · unfold ev1
        rw [if_neg z, if_neg z]
    rw [e1]
    exact ih h2
theorem wv_w {W W2 : Nat → Int64} (hW : ∀ i, i < 12 → W i = W2 i) {e : List Nat} {S1 : List Bool} (h : tyL [] e = some S1) : wv W e = wv W2 e := by
  unfold wv
  rw [ev_w hW h]
theorem hit_w {W W2 : Nat → Int64} (hW : ∀ i, i < 12 → W i = W2 i) {cs : List Nat} {c : rCt} {th : Nat} (ok : rOk cs c) (nv : nVl cs ≤ 80) : hit W cs c th ↔ hit W2 cs c th := by
  unfold hit
  by_cases z : c.2.2.1 = c.2.2.2
  · exact ⟨fun y => ⟨y.1, Or.inl z⟩, fun y => ⟨y.1, Or.inl z⟩⟩
  · rw [wv_w hW (rOk_t ok nv z).2.2.1]
noncomputable def clI (z : Int) : Int := if z < 0 then 0 else if 200 < z then 200 else z
/-- what the first clause of a thing tells, held between 0 and 200; -1 without one -/
noncomputable def muO (W : Nat → Int64) (cs : List Nat) (cl : Nat → rCt) (K th : Nat) (r : Int32) : Prop := (r = -1 ∧ ∀ i, i < K → ¬ hit W cs (cl i) th) ∨ ∃ i, i < K ∧ hit W cs (cl i) th ∧ (∀ j, j < i → ¬ hit W cs (cl j) th) ∧ r.toInt = clI (wv W (slc cs (cl i).2.1 (cl i).2.2.1)).toInt
theorem muO_u {W W2 : Nat → Int64} (hW : ∀ i, i < 12 → W i = W2 i) {cs : List Nat} {cl : Nat → rCt} {K th : Nat} {r r2 : Int32} (ok : ∀ i, i < K → rOk cs (cl i)) (nv : nVl cs ≤ 80) (h15 : th ≠ 15) (h1 : muO W cs cl K th r) (h2 : muO W2 cs cl K th r2) : r2 = r := by
  rcases h1 with ⟨rfl, a1⟩ | ⟨i, a1, a2, a3, a4⟩ <;> rcases h2 with ⟨rfl, b1⟩ | ⟨j, b1, b2, b3, b4⟩
  · rfl
  · exact absurd ((hit_w hW (ok j b1) nv).mpr b2) (a1 j b1)
  · exact absurd ((hit_w hW (ok i a1) nv).mp a2) (b1 i a1)
  · have e : i = j := by
      rcases Nat.lt_trichotomy i j with z | z | z
      · exact absurd ((hit_w hW (ok i a1) nv).mp a2) (b3 i z)
      · exact z
      · exact absurd ((hit_w hW (ok j b1) nv).mpr b2) (a3 j z)
    subst e
    have h15 : (cl i).1 ≠ 15 := fun z => h15 (a2.1.symm.trans z)
    refine Int32.toInt_inj.mp ?_
    rw [a4, b4, wv_w hW (rOk_s (ok i a1) nv h15).2.2.1]
theorem zl2i {x : Int64} (h : 0 ≤ x.toInt ∧ x.toInt ≤ 1000) : x.toInt32.toInt = x.toInt := by
  rw [Int64.toInt_toInt32]
  exact Int.bmod_eq_of_le (by show (-2147483648 : Int) ≤ x.toInt; omega) (by show x.toInt < (2147483648 : Int); omega)
theorem clI_c {S : Int64} : ((if (if S < 200 then S else 200) < 0 then 0 else if S < 200 then S else 200 : Int64)).toInt32.toInt = clI S.toInt := by
  have k2 : (200 : Int64).toInt = 200 := by decide
  have k0 : (0 : Int64).toInt = 0 := by decide
  unfold clI
  by_cases a : S < 200
  · have a2 := Int64.lt_iff_toInt_lt.mp a
    rw [if_pos a]
    by_cases b : S < 0
    · have b2 := Int64.lt_iff_toInt_lt.mp b
      rw [if_pos b, if_pos (by omega)]
      rfl
    · have b2 : ¬ S.toInt < 0 := fun z => b (Int64.lt_iff_toInt_lt.mpr (by omega))
      rw [if_neg b, if_neg b2, if_neg (by omega)]
      exact zl2i (by omega)
  · have a2 : ¬ S.toInt < 200 := fun z => a (Int64.lt_iff_toInt_lt.mpr (by omega))
    rw [if_neg a, if_neg (by decide), if_neg (by omega)]
    by_cases b : 200 < S.toInt
    · rw [if_pos b]; rfl
    · rw [if_neg b, show S.toInt = 200 by omega]; rfl
/-- only words and stacks have changed -/
noncomputable def lFr (h h2 : zH) : Prop := tSh h2 ∧ tF h2 = tF h ∧ tA h2 = tA h ∧ tO h2 = tO h ∧ tN h2 = tN h
theorem lFr_w {h h2 : zH} {p : Nat} (k : wFr p h h2) : lFr h h2 := ⟨k.1, k.2.1, k.2.2.1, k.2.2.2.1, k.2.2.2.2.1⟩
theorem lFr_t {h h1 h2 : zH} (a : lFr h h1) (k : lFr h1 h2) : lFr h h2 := ⟨k.1, k.2.1.trans a.2.1, k.2.2.1.trans a.2.2.1, k.2.2.2.1.trans a.2.2.2.1, k.2.2.2.2.trans a.2.2.2.2⟩
theorem rDt.fr {h h2 : zH} {a b K : Nat} {cs : List Nat} {cl : Nat → rCt} (D : rDt h a b K cs cl) (k : lFr h h2) : rDt h2 a b K cs cl := by
  obtain ⟨h1, h2, h3, h4, h5, h6, h7, h8⟩ := D
  have eN := k.2.2.2.2
  have eA := k.2.2.1
  exact ⟨by rw [eN, eA]; exact h1, by rw [eN]; exact h2, by rw [eN, eA]; exact h3, by rw [eN]; exact h4, h5, by rw [eA]; exact h6, h7, h8⟩
theorem rDm.fr {h h2 : zH} {q K : Nat} {cs : List Nat} {cl : Nat → rCt} (D : rDm h q K cs cl) (k : lFr h h2) : rDm h2 q K cs cl := by
  obtain ⟨h1, h2, h3, h4, h5, h6, h7⟩ := D
  have eA := k.2.2.1
  exact ⟨by rw [eA]; exact h1, h2, by rw [eA]; exact h3, h4, fun i hi => by rw [← h5 i hi]; unfold mRow; rw [eA], h6, h7⟩
/-- the rule that is in force, in the class's arrays -/
noncomputable def rIc (h : zH) (y : Int32) (K : Nat) (cs : List Nat) (cl : Nat → rCt) : Prop := (y = -1 ∧ K = 0) ∨ ∃ q a b : Nat, y.toInt = (q : Int) ∧ (q : Int) < (tvI (tF h 48 3)).toInt ∧ tO h 50 q = some a ∧ tO h 51 q = some b ∧ (182 ≤ a ∧ 182 ≤ b) ∧ rDt h a b K cs cl
theorem rIc.fr {h h2 : zH} {y : Int32} {K : Nat} {cs : List Nat} {cl : Nat → rCt} (D : rIc h y K cs cl) (k : lFr h h2) : rIc h2 y K cs cl := by
  rcases D with D | ⟨q, a, b, h1, h2, h3, h4, h6, h5⟩
  · exact Or.inl D
  · exact Or.inr ⟨q, a, b, h1, by rw [k.2.1]; exact h2, by rw [k.2.2.2.1]; exact h3, by rw [k.2.2.2.1]; exact h4, h6, h5.fr k⟩
theorem rIc_af {h h2 : zH} {P : Nat → Prop} {y : Int32} {K : Nat} {cs : List Nat} {cl : Nat → rCt} (D : rIc h y K cs cl) (k : aFr P h h2) (hP : ∀ q, P q → q < 182) : rIc h2 y K cs cl := by
  rcases D with D | ⟨q, a, b, h1, h2, h3, h4, h6, d1, d2, d3, d4, d5, d6, d7, d8⟩
  · exact Or.inl D
  · have ea := k.2.2.2.2.2 a (fun z => by have := hP a z; omega)
    have eb := k.2.2.2.2.2 b (fun z => by have := hP b z; omega)
    have eN := k.2.2.2.2.1
    refine Or.inr ⟨q, a, b, h1, by rw [k.2.1]; exact h2, by rw [k.2.2.2.1]; exact h3, by rw [k.2.2.2.1]; exact h4, h6, ?_, ?_, ?_, ?_, d5, ?_, d7, d8⟩
    · rw [eN, ea]; exact d1
    · rw [eN]; exact d2
    · rw [eN, ea]; exact d3
    · rw [eN]; exact d4
    · rw [eb]; exact d6
/-- the same in the reference's -/
noncomputable def rIm (h : zH) (y : Int32) (K : Nat) (cs : List Nat) (cl : Nat → rCt) : Prop := (y = -1 ∧ K = 0) ∨ ∃ q : Nat, y.toInt = (q : Int) ∧ q < 10 ∧ rDm h q K cs cl
/-! the reference's words -/
noncomputable def qS (g : Nat → Int64) (a b c d : Int64) (e f i : Int) : Prop := g 0 = a ∧ g 1 = b ∧ g 2 = c ∧ g 3 = d ∧ (g 4).toInt = e ∧ (g 5).toInt = f ∧ (g 6).toInt = i ∧ ∀ t, 7 ≤ t → t < 12 → g t = 0
section QS
variable {g : Nat → Int64} {a b c d x : Int64} {e f i e2 : Int}
theorem qS_0 (h : ∀ t, t < 12 → g t = 0) : qS (fun j => if j = 3 then d else if j = 2 then c else if j = 1 then b else if j = 0 then a else g j) a b c d 0 0 0 := by
  refine ⟨rfl, rfl, rfl, rfl, ?_, ?_, ?_, fun t h1 h2 => ?_⟩
  · show (g 4).toInt = 0
    rw [h 4 (by decide)]; rfl
  · show (g 5).toInt = 0
    rw [h 5 (by decide)]; rfl
  · show (g 6).toInt = 0
    rw [h 6 (by decide)]; rfl
  · dsimp only
    rw [if_neg (by omega), if_neg (by omega), if_neg (by omega), if_neg (by omega)]
    exact h t h2
theorem qS_4 (k : qS g a b c d e f i) (hx : x.toInt = e2) : qS (fun j => if j = 4 then x else g j) a b c d e2 f i := by
  obtain ⟨k0, k1, k2, k3, k4, k5, k6, k7⟩ := k
  exact ⟨k0, k1, k2, k3, hx, k5, k6, fun t h1 h2 => (if_neg (by omega)).trans (k7 t h1 h2)⟩
theorem qS_5 (k : qS g a b c d e f i) (hx : x.toInt = e2) : qS (fun j => if j = 5 then x else g j) a b c d e e2 i := by
  obtain ⟨k0, k1, k2, k3, k4, k5, k6, k7⟩ := k
  exact ⟨k0, k1, k2, k3, k4, hx, k6, fun t h1 h2 => (if_neg (by omega)).trans (k7 t h1 h2)⟩
theorem qS_6 (k : qS g a b c d e f i) (hx : x.toInt = e2) : qS (fun j => if j = 6 then x else g j) a b c d e f e2 := by
  obtain ⟨k0, k1, k2, k3, k4, k5, k6, k7⟩ := k
  exact ⟨k0, k1, k2, k3, k4, k5, hx, fun t h1 h2 => (if_neg (by omega)).trans (k7 t h1 h2)⟩
theorem qS_W {e3 f3 i3 : Int64} (k : qS g a b c d e f i) (h4 : e3.toInt = e) (h5 : f3.toInt = f) (h6 : i3.toInt = i) : ∀ t, t < 12 → qW a b c d e3 f3 i3 t = g t := by
  obtain ⟨k0, k1, k2, k3, k4, k5, k6, k7⟩ := k
  intro t ht
  rcases (by omega : t = 0 ∨ t = 1 ∨ t = 2 ∨ t = 3 ∨ t = 4 ∨ t = 5 ∨ t = 6 ∨ (7 ≤ t ∧ t < 12)) with rfl | rfl | rfl | rfl | rfl | rfl | rfl | h7
  · exact k0.symm
  · exact k1.symm
  · exact k2.symm
  · exact k3.symm
  · exact Int64.toInt_inj.mp (h4.trans k4.symm)
  · exact Int64.toInt_inj.mp (h5.trans k5.symm)
  · exact Int64.toInt_inj.mp (h6.trans k6.symm)
  · rw [k7 t h7.1 h7.2]
    rcases (by omega : t = 7 ∨ t = 8 ∨ t = 9 ∨ t = 10 ∨ t = 11) with rfl | rfl | rfl | rfl | rfl <;> rfl
end QS
theorem zLadJ {x y : Int64} {a b : Int} (hx : x.toInt = a) (hy : y.toInt = b) (h : 0 ≤ a ∧ a ≤ 100000000 ∧ 0 ≤ b ∧ b ≤ 100000000) : (x + y).toInt = a + b := by
  rw [Int64.toInt_add, hx, hy]
  exact Int.bmod_eq_of_le (by show (-9223372036854775808 : Int) ≤ a + b; omega) (by show a + b < (9223372036854775808 : Int); omega)
theorem bN_y {w tl : Nat → Int} {n : Nat} {t x : Int} (h : tl n ≤ t) (hx : w n = x) : bN w tl (n + 1) t = bN w tl n t + x := by
  show bN w tl n t + (if tl n ≤ t then w n else 0) = _
  rw [if_pos h, hx]
theorem bN_n {w tl : Nat → Int} {n : Nat} {t : Int} (h : tl n ≤ t → w n = 0) : bN w tl (n + 1) t = bN w tl n t := by
  show bN w tl n t + (if tl n ≤ t then w n else 0) = _
  by_cases q : tl n ≤ t
  · rw [if_pos q, h q, Int.add_zero]
  · rw [if_neg q, Int.add_zero]
theorem bN_e2 {w w2 tl tl2 : Nat → Int} {n : Nat} {t : Int} (h : ∀ i, i < n → tl i = tl2 i ∧ (tl i ≤ t → w i = w2 i)) : bN w tl n t = bN w2 tl2 n t := by
  induction n with
  | zero => rfl
  | succ n ih =>
    show bN w tl n t + (if tl n ≤ t then w n else 0) = bN w2 tl2 n t + (if tl2 n ≤ t then w2 n else 0)
    rw [ih (fun i hi => h i (by omega)), ← (h n (by omega)).1]
    by_cases q : tl n ≤ t
    · rw [if_pos q, if_pos q, (h n (by omega)).2 q]
    · rw [if_neg q, if_neg q]
/-- the reference's cars of a kind made by a month; its fires and deaths -/
noncomputable def mK9 (h : zH) (k m : Int32) (i : Nat) : Int := if tA h 121 i = k ∧ (tA h 122 i).toInt ≤ m.toInt then 1 else 0
noncomputable def mF9 (h : zH) (k : Int32) (i : Nat) : Int := if tA h 121 (tA h 152 i).toNatClampNeg = k ∧ ¬ tA h 158 i = 0 then 1 else 0
noncomputable def mD9 (h : zH) (k : Int32) (i : Nat) : Int := if tA h 121 (tA h 152 i).toNatClampNeg = k ∧ ¬ tA h 158 i = 0 then (tA h 156 i).toInt else 0
noncomputable def mT9 (h : zH) (i : Nat) : Int := (tA h 157 i).toInt
theorem f_firstTrueN {G : zG} (hG : G.1 = zProg) {h : zH} {y t : Int32} (hy : y = -1) : tC zTt G 66 [.ref 48, .int y, .int t] h (fun w h2 => w = some (.int (-1)) ∧ h2 = h) := by
  refine tC_in (by rw [hG]; rfl) (fun dp => ?_)
  refine tw_iload rfl rfl ?_
  refine tw_if_lt rfl (fun _ => ?_) (fun z => absurd z (by rw [hy]; decide))
  refine tw_push rfl ?_
  exact tw_iret rfl ⟨rfl, rfl⟩
theorem f_firstTrueA {G : zG} (hG : G.1 = zProg) {h : zH} {K th : Nat} {y t : Int32} {cs : List Nat} {cl : Nat → rCt} (hs : tSh h) (h52 : tN h 52 = 12) (h53 : tN h 53 = 80) (D : rIc h y K cs cl) (ht : t.toInt = th) : tC zTt G 66 [.ref 48, .int y, .int t] h (fun w h2 => wFr 53 h h2 ∧ fTr (tJ h 52) cs cl K th (fun i => 4 * i) w) := by
  rcases D with ⟨D, k0⟩ | ⟨q, a, b, d1, d2, d3, d4, -, d5⟩
  · refine (f_firstTrueN hG D).mono (fun w h2 z => ?_)
    obtain ⟨rfl, rfl⟩ := z
    exact ⟨wFr_r hs, Or.inl ⟨rfl, fun i hi => by omega⟩⟩
  · exact f_firstTrue hG hs h52 h53 d5 d1 d2 d3 d4 ht
theorem f_sumOfA {G : zG} (hG : G.1 = zProg) {h : zH} {K i : Nat} {y x : Int32} {cs : List Nat} {cl : Nat → rCt} (hs : tSh h) (h52 : tN h 52 = 12) (h53 : tN h 53 = 80) (D : rIc h y K cs cl) (hx : x.toInt = ((4 * i : Nat) : Int)) (hi : i < K) (h15 : (cl i).1 ≠ 15) : tC zTt G 67 [.ref 48, .int y, .int x] h (fun w h2 => w = some (.long (wv (tJ h 52) (slc cs (cl i).2.1 (cl i).2.2.1))) ∧ wFr 53 h h2) := by
  rcases D with ⟨D, k0⟩ | ⟨q, a, b, d1, d2, d3, d4, -, d5⟩
  · omega
  · exact f_sumOf hG hs h52 h53 d5 d1 d3 d4 hx hi h15
theorem f_mustOf {G : zG} (hG : G.1 = zProg) {h : zH} {k s m : Int32} {K th : Nat} {cs : List Nat} {cl : Nat → rCt} (hs : tSh h) (hn : 0 ≤ (tvI (tF h 48 3)).toInt) (h52 : tN h 52 = 12) (h53 : tN h 53 = 80) (D : rIc h (sRI (tA h 49) m (tvI (tF h 48 3)).toNatClampNeg) K cs cl) (hth : s.toInt = th) (h15 : th ≠ 15) : tC zTt G 167 [.ref 0, .int k, .int s, .int m] h (fun w h2 => lFr h h2 ∧ ∃ (r : Int32) (W : Nat → Int64), w = some (.int r) ∧ (∀ i, i < 12 → W i = (qW m.toInt64 k.toInt64 (tA h 3 k.toNatClampNeg).toInt64 m.toInt64 (tA h 107 m.toNatClampNeg).toInt64 (tA h 108 m.toNatClampNeg).toInt64 (tA h 109 m.toNatClampNeg).toInt64) i) ∧ muO W cs cl K th r) := by
  refine tC_in (by rw [hG]; rfl) (fun dp => ?_)
  refine tw_aload rfl rfl ?_
  refine tw_getS rfl (hs_0_3 hs) ?_
  refine tw_iload rfl rfl ?_
  refine tw_virt1 rfl (f_ruleIn hG hs hn) (fun w9 h9 p1055 => ?_)
  obtain ⟨rfl, e9⟩ := p1055
  obtain rfl := e9.symm
  refine tw_istore rfl ?_
  refine tw_aload rfl rfl ?_
  refine tw_iload rfl rfl ?_
  refine tw_iload rfl rfl ?_
  refine tw_iload rfl rfl ?_
  refine tw_virt3 rfl (f_askOfKind hG hs h52) (fun wp1056 hp1056 p1056 => ?_)
  obtain ⟨rfl, FA, ZW⟩ := p1056
  have LA := lFr_w FA
  refine tw_aload rfl rfl ?_
  refine tw_getS rfl (hs_0_3 FA.1) ?_
  refine tw_iload rfl rfl ?_
  refine tw_iload rfl rfl ?_
  refine tw_virt2 rfl (f_firstTrueA hG FA.1 (by rw [LA.2.2.2.2]; exact h52) (by rw [LA.2.2.2.2]; exact h53) (D.fr LA) hth) (fun w9 hp1057 p1057 => ?_)
  obtain ⟨FB, ⟨rfl, hno⟩ | ⟨i, hi, hit1, hfst, x9, rfl, hx9⟩⟩ := p1057
  · refine tw_istore rfl ?_
    refine tw_iload rfl rfl ?_
    refine tw_push rfl ?_
    refine tw_ic_ne rfl (fun z => absurd z (by decide)) (fun _ => ?_)
    refine tw_push rfl ?_
    exact tw_iret rfl ⟨lFr_t LA (lFr_w FB), -1, _, rfl, ZW, Or.inl ⟨rfl, hno⟩⟩
  · have LB := lFr_t LA (lFr_w FB)
    refine tw_istore rfl ?_
    refine tw_iload rfl rfl ?_
    refine tw_push rfl ?_
    refine tw_ic_ne rfl (fun q1058 => ?_) (fun q1058 => ?_)
    · try dsimp only [tvI_i, tvJ_j, tvR_r] at q1058
      have q1058i := zneq (Y := (-1)) (by decide) q1058
      refine tw_push rfl ?_
      refine tw_push rfl ?_
      refine tw_aload rfl rfl ?_
      refine tw_getS rfl (hs_0_3 FB.1) ?_
      refine tw_iload rfl rfl ?_
      refine tw_iload rfl rfl ?_
      refine tw_virt2 rfl (f_sumOfA hG FB.1 (by rw [LB.2.2.2.2]; exact h52) (by rw [LB.2.2.2.2]; exact h53) (D.fr LB) hx9 hi (fun z => h15 (hit1.1.symm.trans z))) (fun wp1059 hp1059 p1059 => ?_)
      obtain ⟨rfl, FC⟩ := p1059
      refine tw_lmin rfl ?_
      refine tw_lmax rfl ?_
      refine tw_l2i rfl ?_
      rw [FB.2.2.2.2.2 52 (by decide)]
      exact tw_iret rfl ⟨lFr_t LB (lFr_w FC), _, _, rfl, ZW, Or.inr ⟨i, hi, hit1, hfst, clI_c⟩⟩
    · try dsimp only [tvI_i, tvJ_j, tvR_r] at q1058
      have q1058i := zeqi (Y := (-1)) (by decide) q1058
      exfalso
      have k9 : (-1 : Int32).toInt = -1 := rfl
      omega
theorem g_asks {G : zG} (hG : G.1 = zProg) {h : zH} {k m y : Int32} (hs : tSh h) (h5 : 0 ≤ (tvI (tF h 111 5)).toInt ∧ (tvI (tF h 111 5)).toInt ≤ 300) (h59 : 0 ≤ (tvI (tF h 111 59)).toInt ∧ (tvI (tF h 111 59)).toInt ≤ 200) (h156 : ∀ i, i < 200 → 0 ≤ (tA h 156 i).toInt ∧ (tA h 156 i).toInt ≤ 9) : tC zTt G 228 [.ref 111, .int k, .int m, .int y] h (fun w h2 => w = none ∧ wFr 143 h h2 ∧ qS (tJ h2 143) m.toInt64 k.toInt64 (tA h 114 k.toNatClampNeg).toInt64 y.toInt64 (bN (mK9 h k m) (tK9 h) (tvI (tF h 111 5)).toNatClampNeg m.toInt) (bN (mF9 h k) (mT9 h) (tvI (tF h 111 59)).toNatClampNeg m.toInt) (bN (mD9 h k) (mT9 h) (tvI (tF h 111 59)).toNatClampNeg m.toInt)) := by
  refine tC_in (by rw [hG]; rfl) (fun dp => ?_)
  refine tw_push rfl ?_
  refine tw_istore rfl ?_
  refine tG_loop (zW_mono zTt G dp) (zW_conj zTt G dp) (V := fun pc L st h9 _ _ => pc = 3 ∧ st = [] ∧ ∃ (h1 : zH) (n : Nat) (z : Int32) (l5 : Option Value), h1 = h9 ∧ wFr 143 h h1 ∧ z.toInt = (n : Int) ∧ n ≤ 12 ∧ (∀ t, t < n → tJ h1 143 t = 0) ∧ L = [some (.ref 111), some (.int k), some (.int m), some (.int y), some (.int z), l5]) ?_ (⟨rfl, rfl, h, 0, 0, none, rfl, wFr_r hs, rfl, by decide, fun t ht => absurd ht (Nat.not_lt_zero _), rfl⟩)
  rintro _ _ _ _ _ _ ⟨rfl, rfl, h1, n, z, l5, rfl, hF, hz, hn12, hall, rfl⟩
  have k12 : (12 : Int32).toInt = 12 := rfl
  refine tw_iload rfl rfl ?_
  refine tw_push rfl ?_
  refine tw_ic_ge rfl (fun q1060 => ?_) (fun q1060 => ?_)
  · try dsimp only [tvI_i, tvJ_j, tvR_r] at q1060
    refine tw_aload rfl rfl ?_
    refine tw_getS rfl (hs_111_48 hF.1) ?_
    refine tw_push rfl ?_
    refine tw_iload rfl rfl ?_
    refine tw_i2l rfl ?_
    refine tw_last rfl (fun f1061 => ?_)
    refine tG_lst f1061 hF.1 (fun hs0 as0 => ?_)
    try dsimp only [tvI_i, tvJ_j, tvR_r] at as0
    have Fs0 := wFr_s hF as0
    refine tw_aload rfl rfl ?_
    refine tw_getS rfl (hs_111_48 Fs0.1) ?_
    refine tw_push rfl ?_
    refine tw_iload rfl rfl ?_
    refine tw_i2l rfl ?_
    refine tw_last rfl (fun f1062 => ?_)
    refine tG_lst f1062 Fs0.1 (fun hs1 as1 => ?_)
    try dsimp only [tvI_i, tvJ_j, tvR_r] at as1
    have Fs1 := wFr_s Fs0 as1
    refine tw_aload rfl rfl ?_
    refine tw_getS rfl (hs_111_48 Fs1.1) ?_
    refine tw_push rfl ?_
    refine tw_aload rfl rfl ?_
    refine tw_getS rfl (hs_111_9 Fs1.1) ?_
    refine tw_iload rfl rfl ?_
    refine tw_iald rfl (fun f1063 => ?_)
    refine tw_i2l rfl ?_
    refine tw_last rfl (fun f1064 => ?_)
    refine tG_lst f1064 Fs1.1 (fun hs2 as2 => ?_)
    try dsimp only [tvI_i, tvJ_j, tvR_r] at as2
    have Fs2 := wFr_s Fs1 as2
    refine tw_aload rfl rfl ?_
    refine tw_getS rfl (hs_111_48 Fs2.1) ?_
    refine tw_push rfl ?_
    refine tw_iload rfl rfl ?_
    refine tw_i2l rfl ?_
    refine tw_last rfl (fun f1065 => ?_)
    refine tG_lst f1065 Fs2.1 (fun hs3 as3 => ?_)
    try dsimp only [tvI_i, tvJ_j, tvR_r] at as3
    have Fs3 := wFr_s Fs2 as3
    rw [congrFun Fs1.2.2.1 114] at as2
    have qq0 : qS (tJ hs3 143) m.toInt64 k.toInt64 (tA h 114 k.toNatClampNeg).toInt64 y.toInt64 (bN (mK9 h k m) (tK9 h) 0 m.toInt) 0 0 := by rw [mJs_g as3 (mJs_g as2 (mJs_g as1 (mJs_g as0 rfl)))]; exact qS_0 (fun t ht => hall t (by omega))
    refine tw_push rfl ?_
    refine tw_istore rfl ?_
    refine tG_loop (zW_mono zTt G dp) (zW_conj zTt G dp) (V := fun pc L st h9 _ _ => pc = 64 ∧ st = [] ∧ ∃ (h1 : zH) (n : Nat) (z : Int32) (l5 : Option Value), h1 = h9 ∧ wFr 143 h h1 ∧ z.toInt = (n : Int) ∧ (n : Int) ≤ (tvI (tF h 111 5)).toInt ∧ qS (tJ h1 143) m.toInt64 k.toInt64 (tA h 114 k.toNatClampNeg).toInt64 y.toInt64 (bN (mK9 h k m) (tK9 h) n m.toInt) 0 0 ∧ L = [some (.ref 111), some (.int k), some (.int m), some (.int y), some (.int z), l5]) ?_ (⟨rfl, rfl, _, 0, 0, _, rfl, Fs3, rfl, h5.1, qq0, rfl⟩)
    rintro _ _ _ _ _ _ ⟨rfl, rfl, h1, n, z, l5, rfl, hF, hz, hnn, hQ, rfl⟩
    have e5 : (tvI (tF h1 111 5)).toInt = (tvI (tF h 111 5)).toInt := by rw [hF.2.1]
    refine tw_iload rfl rfl ?_
    refine tw_aload rfl rfl ?_
    refine tw_getS rfl (hi_111_5 hF.1) ?_
    refine tw_ic_ge rfl (fun q1066 => ?_) (fun q1066 => ?_)
    · try dsimp only [tvI_i, tvJ_j, tvR_r] at q1066
      have nN : n = (tvI (tF h 111 5)).toNatClampNeg := by rw [zclE]; omega
      have qq3 : qS (tJ h1 143) m.toInt64 k.toInt64 (tA h 114 k.toNatClampNeg).toInt64 y.toInt64 (bN (mK9 h k m) (tK9 h) (tvI (tF h 111 5)).toNatClampNeg m.toInt) (bN (mF9 h k) (mT9 h) 0 m.toInt) (bN (mD9 h k) (mT9 h) 0 m.toInt) := by rw [← nN]; exact hQ
      refine tw_push rfl ?_
      refine tw_istore rfl ?_
      refine tG_loop (zW_mono zTt G dp) (zW_conj zTt G dp) (V := fun pc L st h9 _ _ => pc = 129 ∧ st = [] ∧ ∃ (h1 : zH) (n : Nat) (z : Int32) (l5 : Option Value), h1 = h9 ∧ wFr 143 h h1 ∧ z.toInt = (n : Int) ∧ (n : Int) ≤ (tvI (tF h 111 59)).toInt ∧ qS (tJ h1 143) m.toInt64 k.toInt64 (tA h 114 k.toNatClampNeg).toInt64 y.toInt64 (bN (mK9 h k m) (tK9 h) (tvI (tF h 111 5)).toNatClampNeg m.toInt) (bN (mF9 h k) (mT9 h) n m.toInt) (bN (mD9 h k) (mT9 h) n m.toInt) ∧ L = [some (.ref 111), some (.int k), some (.int m), some (.int y), some (.int z), l5]) ?_ (⟨rfl, rfl, _, 0, 0, _, rfl, hF, rfl, h59.1, qq3, rfl⟩)
      rintro _ _ _ _ _ _ ⟨rfl, rfl, h1, n, z, l5, rfl, hF, hz, hnn, hQ, rfl⟩
      have e59 : (tvI (tF h1 111 59)).toInt = (tvI (tF h 111 59)).toInt := by rw [hF.2.1]
      refine tw_iload rfl rfl ?_
      refine tw_aload rfl rfl ?_
      refine tw_getS rfl (hi_111_59 hF.1) ?_
      refine tw_ic_ge rfl (fun q1067 => ?_) (fun q1067 => ?_)
      · try dsimp only [tvI_i, tvJ_j, tvR_r] at q1067
        have nN : n = (tvI (tF h 111 59)).toNatClampNeg := by rw [zclE]; omega
        rw [nN] at hQ
        exact tw_vret rfl ⟨rfl, hF, hQ⟩
      · try dsimp only [tvI_i, tvJ_j, tvR_r] at q1067
        have zn := zof_cl hz
        have hz1 : (z + 1).toInt = ((n + 1 : Nat) : Int) := zincN hz (by omega)
        have e121 : tA h1 121 = tA h 121 := congrFun hF.2.2.1 121
        have e152 : tA h1 152 = tA h 152 := congrFun hF.2.2.1 152
        have e156 : tA h1 156 = tA h 156 := congrFun hF.2.2.1 156
        have e157 : tA h1 157 = tA h 157 := congrFun hF.2.2.1 157
        have e158 : tA h1 158 = tA h 158 := congrFun hF.2.2.1 158
        have b7 := h156 n (by omega)
        have b5 := bN_b (w := mF9 h k) (B := 1) (tl := mT9 h) (n := n) (fun i hi => (wIte ⟨by decide, by decide⟩ : 0 ≤ mF9 h k i ∧ mF9 h k i ≤ 1)) (by decide) m.toInt
        have b6 := bN_b (w := mD9 h k) (B := 9) (tl := mT9 h) (n := n) (fun i hi => (wIte (h156 i (by omega)) : 0 ≤ mD9 h k i ∧ mD9 h k i ≤ 9)) (by decide) m.toInt
        refine tw_aload rfl rfl ?_
        refine tw_getS rfl (hs_111_16 hF.1) ?_
        refine tw_aload rfl rfl ?_
        refine tw_getS rfl (hs_111_60 hF.1) ?_
        refine tw_iload rfl rfl ?_
        refine tw_iald rfl (fun f1068 => ?_)
        refine tw_iald rfl (fun f1069 => ?_)
        refine tw_iload rfl rfl ?_
        refine tw_ic_ne rfl (fun q1070 => ?_) (fun q1070 => ?_)
        · try dsimp only [tvI_i, tvJ_j, tvR_r] at q1070
          have q1070i := zneq rfl q1070
          refine tw_push rfl ?_
          refine tw_istore rfl ?_
          refine tw_aload rfl rfl ?_
          refine tw_getS rfl (hs_111_48 hF.1) ?_
          refine tw_push rfl ?_
          refine tw_dup2 rfl ?_
          refine tw_lald rfl (fun f1071 => ?_)
          refine tw_iload rfl rfl ?_
          refine tw_if_eq rfl (fun _ => ?_) (fun z => absurd z (by decide))
          refine tw_push rfl ?_
          refine tw_ladd rfl ?_
          refine tw_last rfl (fun f1072 => ?_)
          refine tG_lst f1072 hF.1 (fun h5 a5 => ?_)
          try dsimp only [tvI_i, tvJ_j, tvR_r] at a5
          have F5 := wFr_s hF a5
          refine tw_aload rfl rfl ?_
          refine tw_getS rfl (hs_111_48 F5.1) ?_
          refine tw_push rfl ?_
          refine tw_dup2 rfl ?_
          refine tw_lald rfl (fun f1073 => ?_)
          refine tw_iload rfl rfl ?_
          refine tw_if_eq rfl (fun _ => ?_) (fun z => absurd z (by decide))
          refine tw_push rfl ?_
          refine tw_ladd rfl ?_
          refine tw_last rfl (fun f1074 => ?_)
          refine tG_lst f1074 F5.1 (fun h6 a6 => ?_)
          try dsimp only [tvI_i, tvJ_j, tvR_r] at a6
          have F6 := wFr_s F5 a6
          refine tw_iinc rfl rfl ?_
          refine tw_goto rfl ?_
          rw [zn, e121, e152] at q1070
          have hq5 : qS (tJ h5 143) m.toInt64 k.toInt64 (tA h 114 k.toNatClampNeg).toInt64 y.toInt64 (bN (mK9 h k m) (tK9 h) (tvI (tF h 111 5)).toNatClampNeg m.toInt) (bN (mF9 h k) (mT9 h) (n + 1) m.toInt) (bN (mD9 h k) (mT9 h) n m.toInt) := by
            rw [mJs_g a5 rfl]
            exact qS_5 hQ (by rw [(bN_n (fun _ => if_neg (fun y => q1070 y.1))).trans (Int.add_zero _).symm]; exact zLadJ hQ.2.2.2.2.2.1 rfl (by omega))
          have hq6 : qS (tJ h6 143) m.toInt64 k.toInt64 (tA h 114 k.toNatClampNeg).toInt64 y.toInt64 (bN (mK9 h k m) (tK9 h) (tvI (tF h 111 5)).toNatClampNeg m.toInt) (bN (mF9 h k) (mT9 h) (n + 1) m.toInt) (bN (mD9 h k) (mT9 h) (n + 1) m.toInt) := by
            rw [mJs_g a6 rfl]
            exact qS_6 hq5 (by rw [(bN_n (fun _ => if_neg (fun y => q1070 y.1))).trans (Int.add_zero _).symm]; exact zLadJ hq5.2.2.2.2.2.2.1 rfl (by omega))
          exact tG_cut (zW_mono zTt G dp) (Or.inr ⟨rfl, rfl, h6, n + 1, z + 1, _, rfl, F6, hz1, by omega, hq6, rfl⟩)
        · try dsimp only [tvI_i, tvJ_j, tvR_r] at q1070
          have q1070i := zeqi rfl q1070
          refine tw_aload rfl rfl ?_
          refine tw_getS rfl (hs_111_65 hF.1) ?_
          refine tw_iload rfl rfl ?_
          refine tw_iald rfl (fun f1075 => ?_)
          refine tw_iload rfl rfl ?_
          refine tw_ic_gt rfl (fun q1076 => ?_) (fun q1076 => ?_)
          · try dsimp only [tvI_i, tvJ_j, tvR_r] at q1076
            refine tw_push rfl ?_
            refine tw_istore rfl ?_
            refine tw_aload rfl rfl ?_
            refine tw_getS rfl (hs_111_48 hF.1) ?_
            refine tw_push rfl ?_
            refine tw_dup2 rfl ?_
            refine tw_lald rfl (fun f1077 => ?_)
            refine tw_iload rfl rfl ?_
            refine tw_if_eq rfl (fun _ => ?_) (fun z => absurd z (by decide))
            refine tw_push rfl ?_
            refine tw_ladd rfl ?_
            refine tw_last rfl (fun f1078 => ?_)
            refine tG_lst f1078 hF.1 (fun h5 a5 => ?_)
            try dsimp only [tvI_i, tvJ_j, tvR_r] at a5
            have F5 := wFr_s hF a5
            refine tw_aload rfl rfl ?_
            refine tw_getS rfl (hs_111_48 F5.1) ?_
            refine tw_push rfl ?_
            refine tw_dup2 rfl ?_
            refine tw_lald rfl (fun f1079 => ?_)
            refine tw_iload rfl rfl ?_
            refine tw_if_eq rfl (fun _ => ?_) (fun z => absurd z (by decide))
            refine tw_push rfl ?_
            refine tw_ladd rfl ?_
            refine tw_last rfl (fun f1080 => ?_)
            refine tG_lst f1080 F5.1 (fun h6 a6 => ?_)
            try dsimp only [tvI_i, tvJ_j, tvR_r] at a6
            have F6 := wFr_s F5 a6
            refine tw_iinc rfl rfl ?_
            refine tw_goto rfl ?_
            rw [zn, e121, e152] at q1070
            rw [zn, e157] at q1076
            have hq5 : qS (tJ h5 143) m.toInt64 k.toInt64 (tA h 114 k.toNatClampNeg).toInt64 y.toInt64 (bN (mK9 h k m) (tK9 h) (tvI (tF h 111 5)).toNatClampNeg m.toInt) (bN (mF9 h k) (mT9 h) (n + 1) m.toInt) (bN (mD9 h k) (mT9 h) n m.toInt) := by
              rw [mJs_g a5 rfl]
              exact qS_5 hQ (by rw [(bN_n (fun y => absurd (show (tA h 157 n).toInt ≤ m.toInt from y) (by omega))).trans (Int.add_zero _).symm]; exact zLadJ hQ.2.2.2.2.2.1 rfl (by omega))
            have hq6 : qS (tJ h6 143) m.toInt64 k.toInt64 (tA h 114 k.toNatClampNeg).toInt64 y.toInt64 (bN (mK9 h k m) (tK9 h) (tvI (tF h 111 5)).toNatClampNeg m.toInt) (bN (mF9 h k) (mT9 h) (n + 1) m.toInt) (bN (mD9 h k) (mT9 h) (n + 1) m.toInt) := by
              rw [mJs_g a6 rfl]
              exact qS_6 hq5 (by rw [(bN_n (fun y => absurd (show (tA h 157 n).toInt ≤ m.toInt from y) (by omega))).trans (Int.add_zero _).symm]; exact zLadJ hq5.2.2.2.2.2.2.1 rfl (by omega))
            exact tG_cut (zW_mono zTt G dp) (Or.inr ⟨rfl, rfl, h6, n + 1, z + 1, _, rfl, F6, hz1, by omega, hq6, rfl⟩)
          · try dsimp only [tvI_i, tvJ_j, tvR_r] at q1076
            refine tw_aload rfl rfl ?_
            refine tw_getS rfl (hs_111_66 hF.1) ?_
            refine tw_iload rfl rfl ?_
            refine tw_bald rfl (fun f1081 => ?_)
            refine tw_if_eq rfl (fun q1082 => ?_) (fun q1082 => ?_)
            · try dsimp only [tvI_i, tvJ_j, tvR_r] at q1082
              have q1082i := zeqi (Y := 0) (by decide) q1082
              refine tw_push rfl ?_
              refine tw_istore rfl ?_
              refine tw_aload rfl rfl ?_
              refine tw_getS rfl (hs_111_48 hF.1) ?_
              refine tw_push rfl ?_
              refine tw_dup2 rfl ?_
              refine tw_lald rfl (fun f1083 => ?_)
              refine tw_iload rfl rfl ?_
              refine tw_if_eq rfl (fun _ => ?_) (fun z => absurd z (by decide))
              refine tw_push rfl ?_
              refine tw_ladd rfl ?_
              refine tw_last rfl (fun f1084 => ?_)
              refine tG_lst f1084 hF.1 (fun h5 a5 => ?_)
              try dsimp only [tvI_i, tvJ_j, tvR_r] at a5
              have F5 := wFr_s hF a5
              refine tw_aload rfl rfl ?_
              refine tw_getS rfl (hs_111_48 F5.1) ?_
              refine tw_push rfl ?_
              refine tw_dup2 rfl ?_
              refine tw_lald rfl (fun f1085 => ?_)
              refine tw_iload rfl rfl ?_
              refine tw_if_eq rfl (fun _ => ?_) (fun z => absurd z (by decide))
              refine tw_push rfl ?_
              refine tw_ladd rfl ?_
              refine tw_last rfl (fun f1086 => ?_)
              refine tG_lst f1086 F5.1 (fun h6 a6 => ?_)
              try dsimp only [tvI_i, tvJ_j, tvR_r] at a6
              have F6 := wFr_s F5 a6
              refine tw_iinc rfl rfl ?_
              refine tw_goto rfl ?_
              rw [zn, e121, e152] at q1070
              rw [zn, e157] at q1076
              rw [zn, e158] at q1082
              have hq5 : qS (tJ h5 143) m.toInt64 k.toInt64 (tA h 114 k.toNatClampNeg).toInt64 y.toInt64 (bN (mK9 h k m) (tK9 h) (tvI (tF h 111 5)).toNatClampNeg m.toInt) (bN (mF9 h k) (mT9 h) (n + 1) m.toInt) (bN (mD9 h k) (mT9 h) n m.toInt) := by
                rw [mJs_g a5 rfl]
                exact qS_5 hQ (by rw [(bN_n (fun _ => if_neg (fun y => y.2 q1082))).trans (Int.add_zero _).symm]; exact zLadJ hQ.2.2.2.2.2.1 rfl (by omega))
              have hq6 : qS (tJ h6 143) m.toInt64 k.toInt64 (tA h 114 k.toNatClampNeg).toInt64 y.toInt64 (bN (mK9 h k m) (tK9 h) (tvI (tF h 111 5)).toNatClampNeg m.toInt) (bN (mF9 h k) (mT9 h) (n + 1) m.toInt) (bN (mD9 h k) (mT9 h) (n + 1) m.toInt) := by
                rw [mJs_g a6 rfl]
                exact qS_6 hq5 (by rw [(bN_n (fun _ => if_neg (fun y => y.2 q1082))).trans (Int.add_zero _).symm]; exact zLadJ hq5.2.2.2.2.2.2.1 rfl (by omega))
              exact tG_cut (zW_mono zTt G dp) (Or.inr ⟨rfl, rfl, h6, n + 1, z + 1, _, rfl, F6, hz1, by omega, hq6, rfl⟩)
            · try dsimp only [tvI_i, tvJ_j, tvR_r] at q1082
              have q1082i := zneq (Y := 0) (by decide) q1082
              refine tw_push rfl ?_
              refine tw_goto rfl ?_
              refine tw_istore rfl ?_
              refine tw_aload rfl rfl ?_
              refine tw_getS rfl (hs_111_48 hF.1) ?_
              refine tw_push rfl ?_
              refine tw_dup2 rfl ?_
              refine tw_lald rfl (fun f1087 => ?_)
              refine tw_iload rfl rfl ?_
              refine tw_if_eq rfl (fun z => absurd z (by decide)) (fun _ => ?_)
              refine tw_push rfl ?_
              refine tw_goto rfl ?_
              refine tw_ladd rfl ?_
              refine tw_last rfl (fun f1088 => ?_)
              refine tG_lst f1088 hF.1 (fun h5 a5 => ?_)
              try dsimp only [tvI_i, tvJ_j, tvR_r] at a5
              have F5 := wFr_s hF a5
              refine tw_aload rfl rfl ?_
              refine tw_getS rfl (hs_111_48 F5.1) ?_
              refine tw_push rfl ?_
              refine tw_dup2 rfl ?_
              refine tw_lald rfl (fun f1089 => ?_)
              refine tw_iload rfl rfl ?_
              refine tw_if_eq rfl (fun z => absurd z (by decide)) (fun _ => ?_)
              refine tw_aload rfl rfl ?_
              refine tw_getS rfl (hs_111_64 F5.1) ?_
              refine tw_iload rfl rfl ?_
              refine tw_iald rfl (fun f1090 => ?_)
              refine tw_i2l rfl ?_
              refine tw_goto rfl ?_
              refine tw_ladd rfl ?_
              refine tw_last rfl (fun f1091 => ?_)
              refine tG_lst f1091 F5.1 (fun h6 a6 => ?_)
              try dsimp only [tvI_i, tvJ_j, tvR_r] at a6
              have F6 := wFr_s F5 a6
              refine tw_iinc rfl rfl ?_
              refine tw_goto rfl ?_
              rw [zn, e121, e152] at q1070
              rw [zn, e157] at q1076
              rw [zn, e158] at q1082
              rw [zn, show tA h5 156 = tA h 156 from congrFun F5.2.2.1 156] at a6
              have hq5 : qS (tJ h5 143) m.toInt64 k.toInt64 (tA h 114 k.toNatClampNeg).toInt64 y.toInt64 (bN (mK9 h k m) (tK9 h) (tvI (tF h 111 5)).toNatClampNeg m.toInt) (bN (mF9 h k) (mT9 h) (n + 1) m.toInt) (bN (mD9 h k) (mT9 h) n m.toInt) := by
                rw [mJs_g a5 rfl]
                exact qS_5 hQ (by rw [bN_y (show mT9 h n ≤ m.toInt from q1076) (x := 1) (if_pos ⟨q1070, q1082⟩)]; exact zLadJ hQ.2.2.2.2.2.1 rfl (by omega))
              have hq6 : qS (tJ h6 143) m.toInt64 k.toInt64 (tA h 114 k.toNatClampNeg).toInt64 y.toInt64 (bN (mK9 h k m) (tK9 h) (tvI (tF h 111 5)).toNatClampNeg m.toInt) (bN (mF9 h k) (mT9 h) (n + 1) m.toInt) (bN (mD9 h k) (mT9 h) (n + 1) m.toInt) := by
                rw [mJs_g a6 rfl]
                exact qS_6 hq5 (by rw [bN_y (show mT9 h n ≤ m.toInt from q1076) (x := (tA h 156 n).toInt) (if_pos ⟨q1070, q1082⟩)]; exact zLadJ hq5.2.2.2.2.2.2.1 (Int32.toInt_toInt64 _) (by omega))
              exact tG_cut (zW_mono zTt G dp) (Or.inr ⟨rfl, rfl, h6, n + 1, z + 1, _, rfl, F6, hz1, by omega, hq6, rfl⟩)
    · try dsimp only [tvI_i, tvJ_j, tvR_r] at q1066
      have zn := zof_cl hz
      have hz1 : (z + 1).toInt = ((n + 1 : Nat) : Int) := zincN hz (by omega)
      have e121 : tA h1 121 n = tA h 121 n := congrFun (congrFun hF.2.2.1 121) n
      have e122 : tA h1 122 n = tA h 122 n := congrFun (congrFun hF.2.2.1 122) n
      have e123 : tA h1 123 n = tA h 123 n := congrFun (congrFun hF.2.2.1 123) n
      have b4 := bN_b (w := mK9 h k m) (B := 1) (tl := tK9 h) (n := n) (fun i hi => (wIte ⟨by decide, by decide⟩ : 0 ≤ mK9 h k m i ∧ mK9 h k m i ≤ 1)) (by decide) m.toInt
      refine tw_aload rfl rfl ?_
      refine tw_getS rfl (hs_111_48 hF.1) ?_
      refine tw_push rfl ?_
      refine tw_dup2 rfl ?_
      refine tw_lald rfl (fun f1092 => ?_)
      refine tw_aload rfl rfl ?_
      refine tw_getS rfl (hs_111_16 hF.1) ?_
      refine tw_iload rfl rfl ?_
      refine tw_iald rfl (fun f1093 => ?_)
      refine tw_iload rfl rfl ?_
      refine tw_ic_ne rfl (fun q1094 => ?_) (fun q1094 => ?_)
      · try dsimp only [tvI_i, tvJ_j, tvR_r] at q1094
        have q1094i := zneq rfl q1094
        refine tw_push rfl ?_
        refine tw_ladd rfl ?_
        refine tw_last rfl (fun f1095 => ?_)
        refine tG_lst f1095 hF.1 (fun h2 a2 => ?_)
        try dsimp only [tvI_i, tvJ_j, tvR_r] at a2
        have F2 := wFr_s hF a2
        refine tw_iinc rfl rfl ?_
        refine tw_goto rfl ?_
        rw [zn, e121] at q1094
        have hq2 : qS (tJ h2 143) m.toInt64 k.toInt64 (tA h 114 k.toNatClampNeg).toInt64 y.toInt64 (bN (mK9 h k m) (tK9 h) (n + 1) m.toInt) 0 0 := by
          rw [mJs_g a2 rfl]
          exact qS_4 hQ (by rw [(bN_n (fun _ => if_neg (fun y => q1094 y.1))).trans (Int.add_zero _).symm]; exact zLadJ hQ.2.2.2.2.1 rfl (by omega))
        exact tG_cut (zW_mono zTt G dp) (Or.inr ⟨rfl, rfl, h2, n + 1, z + 1, _, rfl, F2, hz1, by omega, hq2, rfl⟩)
      · try dsimp only [tvI_i, tvJ_j, tvR_r] at q1094
        have q1094i := zeqi rfl q1094
        refine tw_aload rfl rfl ?_
        refine tw_getS rfl (hs_111_17 hF.1) ?_
        refine tw_iload rfl rfl ?_
        refine tw_iald rfl (fun f1096 => ?_)
        refine tw_iload rfl rfl ?_
        refine tw_ic_gt rfl (fun q1097 => ?_) (fun q1097 => ?_)
        · try dsimp only [tvI_i, tvJ_j, tvR_r] at q1097
          refine tw_push rfl ?_
          refine tw_ladd rfl ?_
          refine tw_last rfl (fun f1098 => ?_)
          refine tG_lst f1098 hF.1 (fun h2 a2 => ?_)
          try dsimp only [tvI_i, tvJ_j, tvR_r] at a2
          have F2 := wFr_s hF a2
          refine tw_iinc rfl rfl ?_
          refine tw_goto rfl ?_
          rw [zn, e121] at q1094
          rw [zn, e122] at q1097
          have hq2 : qS (tJ h2 143) m.toInt64 k.toInt64 (tA h 114 k.toNatClampNeg).toInt64 y.toInt64 (bN (mK9 h k m) (tK9 h) (n + 1) m.toInt) 0 0 := by
            rw [mJs_g a2 rfl]
            exact qS_4 hQ (by rw [(bN_n (fun _ => if_neg (fun y => absurd y.2 (by omega)))).trans (Int.add_zero _).symm]; exact zLadJ hQ.2.2.2.2.1 rfl (by omega))
          exact tG_cut (zW_mono zTt G dp) (Or.inr ⟨rfl, rfl, h2, n + 1, z + 1, _, rfl, F2, hz1, by omega, hq2, rfl⟩)
        · try dsimp only [tvI_i, tvJ_j, tvR_r] at q1097
          refine tw_aload rfl rfl ?_
          refine tw_getS rfl (hs_111_18 hF.1) ?_
          refine tw_iload rfl rfl ?_
          refine tw_iald rfl (fun f1099 => ?_)
          refine tw_iload rfl rfl ?_
          refine tw_ic_gt rfl (fun q1100 => ?_) (fun q1100 => ?_)
          · try dsimp only [tvI_i, tvJ_j, tvR_r] at q1100
            refine tw_push rfl ?_
            refine tw_ladd rfl ?_
            refine tw_last rfl (fun f1101 => ?_)
            refine tG_lst f1101 hF.1 (fun h2 a2 => ?_)
            try dsimp only [tvI_i, tvJ_j, tvR_r] at a2
            have F2 := wFr_s hF a2
            refine tw_iinc rfl rfl ?_
            refine tw_goto rfl ?_
            rw [zn, e121] at q1094
            rw [zn, e122] at q1097
            rw [zn, e123] at q1100
            have hq2 : qS (tJ h2 143) m.toInt64 k.toInt64 (tA h 114 k.toNatClampNeg).toInt64 y.toInt64 (bN (mK9 h k m) (tK9 h) (n + 1) m.toInt) 0 0 := by
              rw [mJs_g a2 rfl]
              exact qS_4 hQ (by rw [(bN_n (fun y => absurd (show (tA h 123 n).toInt ≤ m.toInt from y) (by omega))).trans (Int.add_zero _).symm]; exact zLadJ hQ.2.2.2.2.1 rfl (by omega))
            exact tG_cut (zW_mono zTt G dp) (Or.inr ⟨rfl, rfl, h2, n + 1, z + 1, _, rfl, F2, hz1, by omega, hq2, rfl⟩)
          · try dsimp only [tvI_i, tvJ_j, tvR_r] at q1100
            refine tw_push rfl ?_
            refine tw_goto rfl ?_
            refine tw_ladd rfl ?_
            refine tw_last rfl (fun f1102 => ?_)
            refine tG_lst f1102 hF.1 (fun h2 a2 => ?_)
            try dsimp only [tvI_i, tvJ_j, tvR_r] at a2
            have F2 := wFr_s hF a2
            refine tw_iinc rfl rfl ?_
            refine tw_goto rfl ?_
            rw [zn, e121] at q1094
            rw [zn, e122] at q1097
            rw [zn, e123] at q1100
            have hq2 : qS (tJ h2 143) m.toInt64 k.toInt64 (tA h 114 k.toNatClampNeg).toInt64 y.toInt64 (bN (mK9 h k m) (tK9 h) (n + 1) m.toInt) 0 0 := by
              rw [mJs_g a2 rfl]
              exact qS_4 hQ (by rw [bN_y (show tK9 h n ≤ m.toInt from q1100) (x := 1) (if_pos ⟨q1094, q1097⟩)]; exact zLadJ hQ.2.2.2.2.1 rfl (by omega))
            exact tG_cut (zW_mono zTt G dp) (Or.inr ⟨rfl, rfl, h2, n + 1, z + 1, _, rfl, F2, hz1, by omega, hq2, rfl⟩)
  · try dsimp only [tvI_i, tvJ_j, tvR_r] at q1060
    refine tw_aload rfl rfl ?_
    refine tw_getS rfl (hs_111_48 hF.1) ?_
    refine tw_iload rfl rfl ?_
    refine tw_push rfl ?_
    refine tw_last rfl (fun f1103 => ?_)
    refine tG_lst f1103 hF.1 (fun h1 a1 => ?_)
    try dsimp only [tvI_i, tvJ_j, tvR_r] at a1
    have F1 := wFr_s hF a1
    refine tw_iinc rfl rfl ?_
    refine tw_goto rfl ?_
    have hz1 : (z + 1).toInt = ((n + 1 : Nat) : Int) := zincN hz (by omega)
    rw [zof_cl hz] at a1
    have ea := mJs_g a1 rfl
    exact tG_cut (zW_mono zTt G dp) (Or.inr ⟨rfl, rfl, _, n + 1, z + 1, _, rfl, F1, hz1, by omega, fun t ht => (congrFun ea t).trans ((Classical.em (t = n)).elim (fun y => if_pos y) (fun y => (if_neg y).trans (hall t (by omega)))), rfl⟩)
theorem thc_0 {s : Nat} (h : s < 12) : thc 0 s = s := by
  unfold thc
  rw [if_pos ⟨rfl, h⟩]
theorem thc_k {k : Nat} (h : k ≠ 0) : thc k 0 = 12 + k := by
  unfold thc
  rw [if_neg (fun z => h z.1), Nat.mul_zero, Nat.add_zero]
theorem clI_0 {S : Int64} (h : S.toInt < 0) : (0 : Int32).toInt = clI S.toInt := by
  unfold clI
  rw [if_pos h]
  rfl
theorem clI_2 {S : Int64} (h : ¬ S.toInt < 0) (h2 : 200 < S.toInt) : (200 : Int32).toInt = clI S.toInt := by
  unfold clI
  rw [if_neg h, if_pos h2]
  rfl
theorem clI_m {S : Int64} (h : ¬ S.toInt < 0) (h2 : ¬ 200 < S.toInt) : S.toInt32.toInt = clI S.toInt := by
  unfold clI
  rw [if_neg h, if_neg h2]
  exact zl2i (by omega)
theorem g_mustOf {G : zG} (hG : G.1 = zProg) {h : zH} {k s m : Int32} {K th : Nat} {cs : List Nat} {cl : Nat → rCt} (hs : tSh h) (hn : 0 ≤ (tvI (tF h 111 30)).toInt) (D : rIm h (sRI (tA h 141) m (tvI (tF h 111 30)).toNatClampNeg) K cs cl) (hth : s.toInt = th) (hth2 : th ≤ 2) (h5 : 0 ≤ (tvI (tF h 111 5)).toInt ∧ (tvI (tF h 111 5)).toInt ≤ 300) (h59 : 0 ≤ (tvI (tF h 111 59)).toInt ∧ (tvI (tF h 111 59)).toInt ≤ 200) (h156 : ∀ i, i < 200 → 0 ≤ (tA h 156 i).toInt ∧ (tA h 156 i).toInt ≤ 9) (h133 : ∀ i, i < 5000 → 0 ≤ (tA h 133 i).toInt ∧ (tA h 133 i).toInt ≤ 14) (h134 : ∀ i, i < 5000 → 0 ≤ (tA h 134 i).toInt ∧ (tA h 134 i).toInt ≤ 99999) (h135 : ∀ i, i < 120 → 0 ≤ (tA h 135 i).toInt ∧ (tA h 135 i).toInt ≤ 3) (h136 : ∀ i, i < 120 → 0 ≤ (tA h 136 i).toInt ∧ (tA h 136 i).toInt ≤ 99999) (h137 : ∀ i, i < 120 → 0 ≤ (tA h 137 i).toInt ∧ (tA h 137 i).toInt ≤ 410) (h138 : ∀ i, i < 120 → 0 ≤ (tA h 138 i).toInt ∧ (tA h 138 i).toInt ≤ 410) (h139 : ∀ i, i < 120 → 0 ≤ (tA h 139 i).toInt ∧ (tA h 139 i).toInt ≤ 410) : tC zTt G 233 [.ref 111, .int k, .int s, .int m] h (fun w h2 => lFr h h2 ∧ ∃ r : Int32, w = some (.int r) ∧ ((K = 0 ∧ r = -1) ∨ ∃ W, qS W m.toInt64 k.toInt64 (tA h 114 k.toNatClampNeg).toInt64 m.toInt64 (bN (mK9 h k m) (tK9 h) (tvI (tF h 111 5)).toNatClampNeg m.toInt) (bN (mF9 h k) (mT9 h) (tvI (tF h 111 59)).toNatClampNeg m.toInt) (bN (mD9 h k) (mT9 h) (tvI (tF h 111 59)).toNatClampNeg m.toInt) ∧ muO W cs cl K th r)) := by
  refine tC_in (by rw [hG]; rfl) (fun dp => ?_)
  have h15 : th ≠ 15 := by omega
  refine tw_aload rfl rfl ?_
  refine tw_iload rfl rfl ?_
  refine tw_virt1 rfl (g_inForceIn hG hs hn) (fun w9 h9 p1104 => ?_)
  obtain ⟨rfl, e9⟩ := p1104
  obtain rfl := e9.symm
  refine tw_istore rfl ?_
  refine tw_iload rfl rfl ?_
  refine tw_push rfl ?_
  refine tw_ic_ne rfl (fun q1105 => ?_) (fun q1105 => ?_)
  · try dsimp only [tvI_i, tvJ_j, tvR_r] at q1105
    have q1105i := zneq (Y := (-1)) (by decide) q1105
    obtain ⟨q9, d1, d2, d3⟩ := D.resolve_left (fun z => q1105 z.1)
    refine tw_aload rfl rfl ?_
    refine tw_iload rfl rfl ?_
    refine tw_iload rfl rfl ?_
    refine tw_iload rfl rfl ?_
    refine tw_virt3 rfl (g_asks hG hs h5 h59 h156) (fun wp1106 hp1106 p1106 => ?_)
    obtain ⟨rfl, FA, hQ⟩ := p1106
    have LA := lFr_w FA
    have eA := FA.2.2.1
    refine tw_aload rfl rfl ?_
    refine tw_iload rfl rfl ?_
    refine tw_push rfl ?_
    refine tw_iload rfl rfl ?_
    refine tw_virt3 rfl (g_tells hG FA.1 (d3.frame FA) d1 d2 (kd := 0) rfl (by decide) hth (by rw [eA]; exact h133) (by rw [eA]; exact h134) (by rw [eA]; exact h135) (by rw [eA]; exact h136) (by rw [eA]; exact h138) (by rw [eA]; exact h139)) (fun w9 hp1107 p1107 => ?_)
    obtain ⟨FB, ⟨rfl, hno⟩ | ⟨i, hi, hit1, hfst, x9, rfl, hx9⟩⟩ := p1107
    · rw [thc_0 (by omega)] at hno
      refine tw_istore rfl ?_
      refine tw_iload rfl rfl ?_
      refine tw_push rfl ?_
      refine tw_ic_ne rfl (fun z => absurd z (by decide)) (fun _ => ?_)
      refine tw_push rfl ?_
      exact tw_iret rfl ⟨lFr_t LA (lFr_w FB), -1, rfl, Or.inr ⟨_, hQ, Or.inl ⟨rfl, hno⟩⟩⟩
    · rw [thc_0 (by omega)] at hit1 hfst
      have LB := lFr_t LA (lFr_w FB)
      have eB := LB.2.2.1
      have x9n := zof_cl hx9
      obtain ⟨s1, s2, s3, s4, p, qq, s5, s6⟩ := rOk_s (d3.ok i hi) d3.nv (fun z => h15 (hit1.1.symm.trans z))
      have hK12 := d3.few
      have c3 : ((cl i).1, (cl i).2.1, (cl i).2.2.1, (cl i).2.2.2) = (thc (tA h 135 (12 * q9 + i)).toNatClampNeg (tA h 136 (12 * q9 + i)).toNatClampNeg, (tA h 137 (12 * q9 + i)).toNatClampNeg, (tA h 138 (12 * q9 + i)).toNatClampNeg, (tA h 139 (12 * q9 + i)).toNatClampNeg) := by rw [← d3.row i hi]; rfl
      have c5 := congrArg (fun z : rCt => z.2.1) c3
      have c6 := congrArg (fun z : rCt => z.2.2.1) c3
      dsimp only at c5 c6
      have v1 : (tA hp1107 137 x9.toNatClampNeg).toInt = ((cl i).2.1 : Int) := by rw [eB, x9n, c5]; exact (zclx (h137 (12 * q9 + i) (by omega)).1).symm
      have v2 : (tA hp1107 138 x9.toNatClampNeg).toInt = ((cl i).2.2.1 : Int) := by rw [eB, x9n, c6]; exact (zclx (h138 (12 * q9 + i) (by omega)).1).symm
      refine tw_istore rfl ?_
      refine tw_iload rfl rfl ?_
      refine tw_push rfl ?_
      refine tw_ic_ne rfl (fun q1108 => ?_) (fun q1108 => ?_)
      · try dsimp only [tvI_i, tvJ_j, tvR_r] at q1108
        have q1108i := zneq (Y := (-1)) (by decide) q1108
        refine tw_aload rfl rfl ?_
        refine tw_iload rfl rfl ?_
        refine tw_aload rfl rfl ?_
        refine tw_getS rfl (hs_111_40 FB.1) ?_
        refine tw_iload rfl rfl ?_
        refine tw_iald rfl (fun f1109 => ?_)
        refine tw_aload rfl rfl ?_
        refine tw_getS rfl (hs_111_41 FB.1) ?_
        refine tw_iload rfl rfl ?_
        refine tw_iald rfl (fun f1110 => ?_)
        refine tw_virt3 rfl (g_answer hG FB.1 d1 d2 v1 (e := slc cs (cl i).2.1 (cl i).2.2.1) (t := false) (v2.trans (congrArg Nat.cast s1)) (by rw [← s1]; have := d3.big; omega) (by rw [eB]; exact h133) (by rw [eB]; exact h134) (by rw [eB]; exact cdAt_h s5 s6 d3.cod) s3 s4) (fun wp1111 hp1111 p1111 => ?_)
        obtain ⟨rfl, FC⟩ := p1111
        rw [FB.2.2.2.2.2 143 (by decide)]
        have k200 : (200 : Int64).toInt = 200 := by decide
        have k0 : (0 : Int64).toInt = 0 := by decide
        refine tw_lstore rfl ?_
        refine tw_lload rfl rfl ?_
        refine tw_push rfl ?_
        refine tw_lc_ge rfl rfl (fun q1112 => ?_) (fun q1112 => ?_)
        · try dsimp only [tvI_i, tvJ_j, tvR_r] at q1112
          refine tw_lload rfl rfl ?_
          refine tw_push rfl ?_
          refine tw_lc_le rfl rfl (fun q1113 => ?_) (fun q1113 => ?_)
          · try dsimp only [tvI_i, tvJ_j, tvR_r] at q1113
            refine tw_lload rfl rfl ?_
            refine tw_l2i rfl ?_
            exact tw_iret rfl ⟨lFr_t LB (lFr_w FC), _, rfl, Or.inr ⟨_, hQ, Or.inr ⟨i, hi, hit1, hfst, clI_m (S := wv _ (slc cs (cl i).2.1 (cl i).2.2.1)) (by omega) (by omega)⟩⟩⟩
          · try dsimp only [tvI_i, tvJ_j, tvR_r] at q1113
            refine tw_push rfl ?_
            refine tw_goto rfl ?_
            exact tw_iret rfl ⟨lFr_t LB (lFr_w FC), _, rfl, Or.inr ⟨_, hQ, Or.inr ⟨i, hi, hit1, hfst, clI_2 (S := wv _ (slc cs (cl i).2.1 (cl i).2.2.1)) (by omega) (by omega)⟩⟩⟩
        · try dsimp only [tvI_i, tvJ_j, tvR_r] at q1112
          refine tw_push rfl ?_
          refine tw_goto rfl ?_
          exact tw_iret rfl ⟨lFr_t LB (lFr_w FC), _, rfl, Or.inr ⟨_, hQ, Or.inr ⟨i, hi, hit1, hfst, clI_0 q1112⟩⟩⟩
      · try dsimp only [tvI_i, tvJ_j, tvR_r] at q1108
        have q1108i := zeqi (Y := (-1)) (by decide) q1108
        exfalso
        have k9 : (-1 : Int32).toInt = -1 := rfl
        omega
  · try dsimp only [tvI_i, tvJ_j, tvR_r] at q1105
    have q1105i := zeqi (Y := (-1)) (by decide) q1105
    refine tw_push rfl ?_
    exact tw_iret rfl ⟨⟨hs, rfl, rfl, rfl, rfl⟩, -1, rfl, Or.inl ⟨(D.resolve_right (fun z => by obtain ⟨q9, z1, -⟩ := z; rw [q1105] at z1; have k9 : (-1 : Int32).toInt = -1 := rfl; omega)).2, rfl⟩⟩
/-- the rule in force as both hold it: how many clauses, the codes, the clauses -/
noncomputable def rKn (h : zH) (y : Int32) : Nat := if y = -1 then 0 else (tA h 140 y.toNatClampNeg).toNatClampNeg
noncomputable def rCn (h : zH) (y : Int32) : List Nat := cArr h ((tO h 50 y.toNatClampNeg).getD 0)
noncomputable def rLn (h : zH) (y : Int32) (i : Nat) : rCt := mRow h (12 * y.toNatClampNeg + i)
theorem sRI_r {fm : Nat → Int32} {m : Int32} {n : Nat} (hn : n ≤ 10) : sRI fm m n = -1 ∨ ∃ q : Nat, q < n ∧ (sRI fm m n).toInt = (q : Int) := by
  induction n with
  | zero => exact Or.inl rfl
  | succ n ih =>
    rw [sRI_u]
    by_cases c : (fm n).toInt ≤ m.toInt ∧ (sRI fm m n = -1 ∨ (fm (sRI fm m n).toNatClampNeg).toInt ≤ (fm n).toInt)
    · rw [if_pos c]
      exact Or.inr ⟨n, Nat.lt_succ_self _, yofN (by omega)⟩
    · rw [if_neg c]
      rcases ih (by omega) with z | ⟨q, z1, z2⟩
      · exact Or.inl z
      · exact Or.inr ⟨q, by omega, z2⟩
theorem rIn_D {xs : Nat → Int32} {τ : List Nat} {h : zH} {m : Int32} (hB : zBs xs τ h) (hR : R_rcd h) : rIc h (sRI (tA h 49) m (tvI (tF h 48 3)).toNatClampNeg) (rKn h (sRI (tA h 49) m (tvI (tF h 48 3)).toNatClampNeg)) (rCn h (sRI (tA h 49) m (tvI (tF h 48 3)).toNatClampNeg)) (rLn h (sRI (tA h 49) m (tvI (tF h 48 3)).toNatClampNeg)) ∧ rIm h (sRI (tA h 49) m (tvI (tF h 48 3)).toNatClampNeg) (rKn h (sRI (tA h 49) m (tvI (tF h 48 3)).toNatClampNeg)) (rCn h (sRI (tA h 49) m (tvI (tF h 48 3)).toNatClampNeg)) (rLn h (sRI (tA h 49) m (tvI (tF h 48 3)).toNatClampNeg)) := by
  have b := kb_48_3 hB
  have hc : (((tvI (tF h 48 3)).toNatClampNeg : Nat) : Int) = (tvI (tF h 48 3)).toInt := zclx b.1
  generalize hy : sRI (tA h 49) m (tvI (tF h 48 3)).toNatClampNeg = y
  have z := sRI_r (fm := tA h 49) (m := m) (n := (tvI (tF h 48 3)).toNatClampNeg) (by omega)
  rw [hy] at z
  rcases z with z | ⟨q, z1, z2⟩
  · have k0 : rKn h y = 0 := if_pos z
    exact ⟨Or.inl ⟨z, k0⟩, Or.inl ⟨z, k0⟩⟩
  · have zn : y.toNatClampNeg = q := zof_cl z2
    have hne : ¬ y = -1 := fun w => by
      have k9 : (-1 : Int32).toInt = -1 := rfl
      rw [w] at z2
      omega
    obtain ⟨a, a1, a2, a3, k⟩ := hR q (by omega) (by omega)
    have D := rCd_D hB (by omega) a2 a3 k
    have e1 : rKn h y = (tA h 140 q).toNatClampNeg := by unfold rKn; rw [if_neg hne, zn]
    have e2 : rCn h y = cArr h a := by unfold rCn; rw [zn, a2]; rfl
    have e3 : rLn h y = fun i => mRow h (12 * q + i) := by funext i; unfold rLn; rw [zn]
    rw [e1, e2, e3]
    exact ⟨Or.inr ⟨q, a, a + 1, z2, by omega, a2, a3, ⟨a1, by omega⟩, D.1⟩, Or.inr ⟨q, z2, by omega, D.2⟩⟩
theorem rIm_fr {h h2 : zH} {y : Int32} {K : Nat} {cs : List Nat} {cl : Nat → rCt} (D : rIm h y K cs cl) (o : ∀ p, 133 ≤ p → p ≤ 140 → tA h2 p = tA h p) : rIm h2 y K cs cl := by
  rcases D with D | ⟨q, z1, z2, h1, h2, h3, h4, h5, h6, h7⟩
  · exact Or.inl D
  · refine Or.inr ⟨q, z1, z2, ?_, h2, ?_, h4, fun i hi => ?_, h6, h7⟩
    · rw [o 133 (by decide) (by decide), o 134 (by decide) (by decide)]; exact h1
    · rw [o 140 (by decide) (by decide)]; exact h3
    · rw [← h5 i hi]
      exact mRow_e (fun p p1 p2 => congrFun (o p (by omega) (by omega)) _)
theorem rIc_ok {h : zH} {y : Int32} {K : Nat} {cs : List Nat} {cl : Nat → rCt} (D : rIc h y K cs cl) : (K = 0 ∨ nVl cs ≤ 80) ∧ ∀ i, i < K → rOk cs (cl i) := by
  rcases D with ⟨-, k0⟩ | ⟨q, a, b, -, -, -, -, -, d⟩
  · exact ⟨Or.inl k0, fun i hi => by omega⟩
  · exact ⟨Or.inr d.nv, d.ok⟩
theorem qS_u {g1 g2 : Nat → Int64} {a b c d : Int64} {e f i : Int} (k1 : qS g1 a b c d e f i) (k2 : qS g2 a b c d e f i) : ∀ t, t < 12 → g1 t = g2 t := by
  intro t ht
  obtain ⟨k0, k1, k2', k3, k4, k5, k6, k7⟩ := k1
  obtain ⟨l0, l1, l2, l3, l4, l5, l6, l7⟩ := k2
  rcases (by omega : t = 0 ∨ t = 1 ∨ t = 2 ∨ t = 3 ∨ t = 4 ∨ t = 5 ∨ t = 6 ∨ (7 ≤ t ∧ t < 12)) with rfl | rfl | rfl | rfl | rfl | rfl | rfl | h7
  · rw [k0, l0]
  · rw [k1, l1]
  · rw [k2', l2]
  · rw [k3, l3]
  · exact Int64.toInt_inj.mp (k4.trans l4.symm)
  · exact Int64.toInt_inj.mp (k5.trans l5.symm)
  · exact Int64.toInt_inj.mp (k6.trans l6.symm)
  · rw [k7 t h7.1 h7.2, l7 t h7.1 h7.2]
theorem qS_of {W : Nat → Int64} {a b c d e3 f3 i3 : Int64} {e f i : Int} (k : ∀ t, t < 12 → W t = qW a b c d e3 f3 i3 t) (h4 : e3.toInt = e) (h5 : f3.toInt = f) (h6 : i3.toInt = i) : qS W a b c d e f i := by
  refine ⟨k 0 (by decide), k 1 (by decide), k 2 (by decide), k 3 (by decide), ?_, ?_, ?_, fun t h1 h2 => ?_⟩
  · rw [k 4 (by decide)]; exact h4
  · rw [k 5 (by decide)]; exact h5
  · rw [k 6 (by decide)]; exact h6
  · rw [k t h2]
    rcases (by omega : t = 7 ∨ t = 8 ∨ t = 9 ∨ t = 10 ∨ t = 11) with rfl | rfl | rfl | rfl | rfl <;> rfl
/-- the two's counts agree -/
theorem cnt_K {h h2 : zH} {k m : Int32} {n : Nat} (e1 : tA h2 121 = tA h 121) (e2 : tA h2 122 = tA h 122) (e3 : tA h2 123 = tA h 123) (hm : ∀ i, i < n → (tA h 122 i).toInt ≤ (tA h 123 i).toInt) : bN (wK h k) (tK9 h) n m.toInt = bN (mK9 h2 k m) (tK9 h2) n m.toInt := by
  refine bN_e2 (fun i hi => ⟨?_, fun hle => ?_⟩)
  · unfold tK9; rw [e3]
  · unfold wK mK9
    rw [e1, e2]
    have hle : (tA h 123 i).toInt ≤ m.toInt := hle
    have hm := hm i hi
    by_cases z : tA h 121 i = k
    · rw [if_pos z, if_pos ⟨z, by omega⟩]
    · rw [if_neg z, if_neg (fun y => z y.1)]
theorem cnt_F {h h2 : zH} {k : Int32} {t : Int} {n : Nat} (e1 : ∀ i, i < n → tA h 65 i = tA h2 121 (tA h2 152 i).toNatClampNeg) (e2 : tA h2 158 = tA h 71) (e3 : tA h2 157 = tA h 67) (e4 : tA h2 156 = tA h 70) : bN (wF h k) (tF9 h) n t = bN (mF9 h2 k) (mT9 h2) n t ∧ bN (wD h k) (tF9 h) n t = bN (mD9 h2 k) (mT9 h2) n t := by
  have et : ∀ i, tF9 h i = mT9 h2 i := fun i => by unfold tF9 mT9; rw [e3]
  constructor
  · refine bN_e (fun i hi => ⟨?_, et i⟩)
    unfold wF mF9
    rw [e1 i hi, e2]
  · refine bN_e (fun i hi => ⟨?_, et i⟩)
    unfold wD mD9
    rw [e1 i hi, e2, e4]
/-- what is counted and said has changed, nothing else -/
noncomputable def qFr (h h2 : zH) : Prop := tSh h2 ∧ tF h2 = tF h ∧ tO h2 = tO h ∧ tN h2 = tN h ∧ ∀ p, ¬ (p = 107 ∨ p = 108 ∨ p = 109) → tA h2 p = tA h p
theorem qFr_r {h : zH} (hs : tSh h) : qFr h h := ⟨hs, rfl, rfl, rfl, fun _ _ => rfl⟩
theorem qFr_of {h h1 h2 : zH} (a : aFr (fun r => r = 107 ∨ r = 108 ∨ r = 109) h h1) (l : lFr h1 h2) : qFr h h2 := ⟨l.1, l.2.1.trans a.2.1, l.2.2.2.1.trans a.2.2.2.1, l.2.2.2.2.trans a.2.2.2.2.1, fun p hp => (congrFun l.2.2.1 p).trans (a.2.2.2.2.2 p hp)⟩
theorem muO_b {W : Nat → Int64} {cs : List Nat} {cl : Nat → rCt} {K th : Nat} {r : Int32} (h : muO W cs cl K th r) : r = -1 ∨ (0 ≤ r.toInt ∧ r.toInt ≤ 200) := by
  rcases h with ⟨h, -⟩ | ⟨i, -, -, -, h⟩
  · exact Or.inl h
  · right
    unfold clI at h
    split at h
    · omega
    · split at h <;> omega
section TN9
variable {xs : Nat → Int32} {τ : List Nat} {h : zH}
theorem tn_107 (hB : zBs xs τ h) : tN h 107 = 600 := by
  obtain ⟨a, b, -⟩ := tkd_a hB (p := 107) (t := 75) rfl rfl
  omega
theorem tn_108 (hB : zBs xs τ h) : tN h 108 = 600 := by
  obtain ⟨a, b, -⟩ := tkd_a hB (p := 108) (t := 75) rfl rfl
  omega
theorem tn_109 (hB : zBs xs τ h) : tN h 109 = 600 := by
  obtain ⟨a, b, -⟩ := tkd_a hB (p := 109) (t := 75) rfl rfl
  omega
theorem tn_52 (hB : zBs xs τ h) : tN h 52 = 12 := by
  obtain ⟨a, b⟩ := tkd_j hB (p := 52) (t := 28) rfl rfl
  omega
theorem tn_53 (hB : zBs xs τ h) : tN h 53 = 80 := by
  obtain ⟨a, b⟩ := tkd_j hB (p := 53) (t := 29) rfl rfl
  omega
end TN9
theorem g_isMonth {G : zG} (hG : G.1 = zProg) {h : zH} {n : Int32} : tC zTt G 172 [.int n] h (fun w h2 => tBo (0 ≤ n.toInt ∧ n.toInt ≤ 599) w ∧ h2 = h) := by
  refine tC_in (by rw [hG]; rfl) (fun dp => ?_)
  refine tw_iload rfl rfl ?_
  refine tw_i2l rfl ?_
  refine tw_push rfl ?_
  refine tw_push rfl ?_
  refine tw_stat3 rfl (f_in hG  (LO := 0) (HI := 599) (Int32.toInt_toInt64 _) (by decide) (by decide)) (fun w9 h9 p1114 => ?_)
  obtain ⟨⟨p1114, rfl⟩ | ⟨p1114, rfl⟩, rfl⟩ := p1114
  · try dsimp only [tvI_i, tvJ_j, tvR_r] at p1114
    exact tw_iret rfl ⟨Or.inl ⟨p1114, rfl⟩, rfl⟩
  · try dsimp only [tvI_i, tvJ_j, tvR_r] at p1114
    exact tw_iret rfl ⟨Or.inr ⟨p1114, rfl⟩, rfl⟩
theorem f_must {G : zG} (hG : G.1 = zProg) {h : zH} {k s m : Int32} {K : Nat} {cs : List Nat} {cl : Nat → rCt} (hs : tSh h) (hL : R_cl h) (hg : ∀ i r : Nat, (i : Int) < (tvI (tF h 36 4)).toInt → tO h 39 i = some r → 182 ≤ r) (hK : R_ckind h) (hT : R_ctl h) (hn107 : tN h 107 = 600) (hn108 : tN h 108 = 600) (hn109 : tN h 109 = 600) (h123 : ∀ i, i < 300 → 0 ≤ (tA h 123 i).toInt ∧ (tA h 123 i).toInt ≤ 599) (h36 : 0 ≤ (tvI (tF h 36 4)).toInt ∧ (tvI (tF h 36 4)).toInt ≤ 300) (h67 : ∀ i, i < 200 → 0 ≤ (tA h 67 i).toInt ∧ (tA h 67 i).toInt ≤ 599) (h70 : ∀ i, i < 200 → 0 ≤ (tA h 70 i).toInt ∧ (tA h 70 i).toInt ≤ 9) (h63 : 0 ≤ (tvI (tF h 63 8)).toInt ∧ (tvI (tF h 63 8)).toInt ≤ 200) (hn : 0 ≤ (tvI (tF h 48 3)).toInt) (h52 : tN h 52 = 12) (h53 : tN h 53 = 80) (D : rIc h (sRI (tA h 49) m (tvI (tF h 48 3)).toNatClampNeg) K cs cl) : tC zTt G 126 [.ref 0, .int k, .int s, .int m] h (fun w h2 => qFr h h2 ∧ ((((0 ≤ k.toInt ∧ k.toInt < (tvI (tF h 1 6)).toInt) ∧ (0 ≤ s.toInt ∧ s.toInt ≤ 2) ∧ (0 ≤ m.toInt ∧ m.toInt ≤ 599)) ∧ ∃ r W, w = some (.int r) ∧ qS W m.toInt64 k.toInt64 (tA h 3 k.toNatClampNeg).toInt64 m.toInt64 (bN (wK h k) (tK9 h) (tvI (tF h 36 4)).toNatClampNeg m.toInt) (bN (wF h k) (tF9 h) (tvI (tF h 63 8)).toNatClampNeg m.toInt) (bN (wD h k) (tF9 h) (tvI (tF h 63 8)).toNatClampNeg m.toInt) ∧ muO W cs cl K s.toNatClampNeg r) ∨ (¬ ((0 ≤ k.toInt ∧ k.toInt < (tvI (tF h 1 6)).toInt) ∧ (0 ≤ s.toInt ∧ s.toInt ≤ 2) ∧ (0 ≤ m.toInt ∧ m.toInt ≤ 599)) ∧ w = some (.int (-2))))) := by
  refine tC_in (by rw [hG]; rfl) (fun dp => ?_)
  refine tw_aload rfl rfl ?_
  refine tw_getS rfl (hs_0_0 hs) ?_
  refine tw_iload rfl rfl ?_
  refine tw_virt1 rfl (f_hasKind hG hs) (fun w9 h9 p1115 => ?_)
  obtain ⟨⟨p1115, rfl⟩ | ⟨p1115, rfl⟩, e9⟩ := p1115
  · try dsimp only [tvI_i, tvJ_j, tvR_r] at p1115
    obtain rfl := e9.symm
    refine tw_if_eq rfl (fun z => absurd z (by decide)) (fun _ => ?_)
    refine tw_iload rfl rfl ?_
    refine tw_stat1 rfl (f_isSort hG) (fun w9 h9 p1116 => ?_)
    obtain ⟨⟨p1116, rfl⟩ | ⟨p1116, rfl⟩, e9⟩ := p1116
    · try dsimp only [tvI_i, tvJ_j, tvR_r] at p1116
      obtain rfl := e9.symm
      refine tw_if_eq rfl (fun z => absurd z (by decide)) (fun _ => ?_)
      refine tw_iload rfl rfl ?_
      refine tw_stat1 rfl (f_isMonth hG) (fun w9 h9 p1117 => ?_)
      obtain ⟨⟨p1117, rfl⟩ | ⟨p1117, rfl⟩, e9⟩ := p1117
      · try dsimp only [tvI_i, tvJ_j, tvR_r] at p1117
        obtain rfl := e9.symm
        refine tw_if_ne rfl (fun _ => ?_) (fun z => absurd z (by decide))
        refine tw_aload rfl rfl ?_
        refine tw_iload rfl rfl ?_
        refine tw_virt1 rfl (f_tally hG hs hL hg hK hT hn107 hn108 hn109 h123 h36 h67 h70 h63) (fun wp1118 hp1118 p1118 => ?_)
        obtain ⟨rfl, FT, T7, T8, T9⟩ := p1118
        have eA : ∀ p, (p = 3 ∨ p = 49) → tA hp1118 p = tA h p := fun p hp => FT.2.2.2.2.2 p (fun z => by omega)
        have eF : tF hp1118 = tF h := FT.2.1
        refine tw_aload rfl rfl ?_
        refine tw_iload rfl rfl ?_
        refine tw_iload rfl rfl ?_
        refine tw_iload rfl rfl ?_
        refine tw_virt3 rfl (f_mustOf hG FT.1 (by rw [eF]; exact hn) (by rw [FT.2.2.2.2.1]; exact h52) (by rw [FT.2.2.2.2.1]; exact h53) (K := K) (cs := cs) (cl := cl) (th := s.toNatClampNeg) (by rw [eA 49 (Or.inr rfl), eF]; exact rIc_af D FT (fun q z => by omega)) (zclx (by omega)).symm (by rw [zclE]; omega)) (fun wp1119 hp1119 p1119 => ?_)
        obtain ⟨LM, r, W, rfl, hW, hm⟩ := p1119
        rw [eA 3 (Or.inl rfl)] at hW
        have hmc : ((m.toNatClampNeg : Nat) : Int) = m.toInt := zclx (by omega)
        have hmn : m.toNatClampNeg < 600 := by omega
        have u7 := T7 m.toNatClampNeg hmn
        have u8 := T8 m.toNatClampNeg hmn
        have u9 := T9 m.toNatClampNeg hmn
        rw [hmc] at u7 u8 u9
        have hQ : qS W m.toInt64 k.toInt64 (tA h 3 k.toNatClampNeg).toInt64 m.toInt64 (bN (wK h k) (tK9 h) (tvI (tF h 36 4)).toNatClampNeg m.toInt) (bN (wF h k) (tF9 h) (tvI (tF h 63 8)).toNatClampNeg m.toInt) (bN (wD h k) (tF9 h) (tvI (tF h 63 8)).toNatClampNeg m.toInt) := qS_of hW ((Int32.toInt_toInt64 _).trans u7) ((Int32.toInt_toInt64 _).trans u8) ((Int32.toInt_toInt64 _).trans u9)
        exact tw_iret rfl ⟨qFr_of FT LM, Or.inl ⟨by omega, r, W, rfl, hQ, hm⟩⟩
      · try dsimp only [tvI_i, tvJ_j, tvR_r] at p1117
        obtain rfl := e9.symm
        refine tw_if_ne rfl (fun z => absurd z (by decide)) (fun _ => ?_)
        refine tw_push rfl ?_
        exact tw_iret rfl ⟨qFr_r hs, Or.inr ⟨by omega, rfl⟩⟩
    · try dsimp only [tvI_i, tvJ_j, tvR_r] at p1116
      obtain rfl := e9.symm
      refine tw_if_eq rfl (fun _ => ?_) (fun z => absurd z (by decide))
      refine tw_push rfl ?_
      exact tw_iret rfl ⟨qFr_r hs, Or.inr ⟨by omega, rfl⟩⟩
  · try dsimp only [tvI_i, tvJ_j, tvR_r] at p1115
    obtain rfl := e9.symm
    refine tw_if_eq rfl (fun _ => ?_) (fun z => absurd z (by decide))
    refine tw_push rfl ?_
    exact tw_iret rfl ⟨qFr_r hs, Or.inr ⟨by omega, rfl⟩⟩
theorem g_isAsked {G : zG} (hG : G.1 = zProg) {h : zH} {k s m : Int32} (hs : tSh h) (hk3 : 0 ≤ (tvI (tF h 111 3)).toInt) : tC zTt G 234 [.ref 111, .int k, .int s, .int m] h (fun w h2 => tBo ((0 ≤ k.toInt ∧ k.toInt < (tvI (tF h 111 3)).toInt) ∧ (0 ≤ s.toInt ∧ s.toInt ≤ 2) ∧ (0 ≤ m.toInt ∧ m.toInt ≤ 599)) w ∧ h2 = h) := by
  refine tC_in (by rw [hG]; rfl) (fun dp => ?_)
  refine tw_aload rfl rfl ?_
  refine tw_iload rfl rfl ?_
  refine tw_virt1 rfl (g_isKind hG hs hk3) (fun w9 h9 p1120 => ?_)
  obtain ⟨⟨p1120, rfl⟩ | ⟨p1120, rfl⟩, e9⟩ := p1120
  · try dsimp only [tvI_i, tvJ_j, tvR_r] at p1120
    obtain rfl := e9.symm
    refine tw_if_eq rfl (fun z => absurd z (by decide)) (fun _ => ?_)
    refine tw_iload rfl rfl ?_
    refine tw_stat1 rfl (g_isSort hG) (fun w9 h9 p1121 => ?_)
    obtain ⟨⟨p1121, rfl⟩ | ⟨p1121, rfl⟩, e9⟩ := p1121
    · try dsimp only [tvI_i, tvJ_j, tvR_r] at p1121
      obtain rfl := e9.symm
      refine tw_if_eq rfl (fun z => absurd z (by decide)) (fun _ => ?_)
      refine tw_iload rfl rfl ?_
      refine tw_stat1 rfl (g_isMonth hG) (fun w9 h9 p1122 => ?_)
      obtain ⟨⟨p1122, rfl⟩ | ⟨p1122, rfl⟩, e9⟩ := p1122
      · try dsimp only [tvI_i, tvJ_j, tvR_r] at p1122
        obtain rfl := e9.symm
        refine tw_if_eq rfl (fun z => absurd z (by decide)) (fun _ => ?_)
        refine tw_push rfl ?_
        refine tw_goto rfl ?_
        exact tw_iret rfl ⟨Or.inl ⟨by omega, rfl⟩, rfl⟩
      · try dsimp only [tvI_i, tvJ_j, tvR_r] at p1122
        obtain rfl := e9.symm
        refine tw_if_eq rfl (fun _ => ?_) (fun z => absurd z (by decide))
        refine tw_push rfl ?_
        exact tw_iret rfl ⟨Or.inr ⟨by omega, rfl⟩, rfl⟩
    · try dsimp only [tvI_i, tvJ_j, tvR_r] at p1121
      obtain rfl := e9.symm
      refine tw_if_eq rfl (fun _ => ?_) (fun z => absurd z (by decide))
      refine tw_push rfl ?_
      exact tw_iret rfl ⟨Or.inr ⟨by omega, rfl⟩, rfl⟩
  · try dsimp only [tvI_i, tvJ_j, tvR_r] at p1120
    obtain rfl := e9.symm
    refine tw_if_eq rfl (fun _ => ?_) (fun z => absurd z (by decide))
    refine tw_push rfl ?_
    exact tw_iret rfl ⟨Or.inr ⟨by omega, rfl⟩, rfl⟩
theorem g_must {G : zG} (hG : G.1 = zProg) {h : zH} {k s m : Int32} {K : Nat} {cs : List Nat} {cl : Nat → rCt} (hs : tSh h) (hk3 : 0 ≤ (tvI (tF h 111 3)).toInt) (hn : 0 ≤ (tvI (tF h 111 30)).toInt) (D : rIm h (sRI (tA h 141) m (tvI (tF h 111 30)).toNatClampNeg) K cs cl) (h5 : 0 ≤ (tvI (tF h 111 5)).toInt ∧ (tvI (tF h 111 5)).toInt ≤ 300) (h59 : 0 ≤ (tvI (tF h 111 59)).toInt ∧ (tvI (tF h 111 59)).toInt ≤ 200) (h156 : ∀ i, i < 200 → 0 ≤ (tA h 156 i).toInt ∧ (tA h 156 i).toInt ≤ 9) (h133 : ∀ i, i < 5000 → 0 ≤ (tA h 133 i).toInt ∧ (tA h 133 i).toInt ≤ 14) (h134 : ∀ i, i < 5000 → 0 ≤ (tA h 134 i).toInt ∧ (tA h 134 i).toInt ≤ 99999) (h135 : ∀ i, i < 120 → 0 ≤ (tA h 135 i).toInt ∧ (tA h 135 i).toInt ≤ 3) (h136 : ∀ i, i < 120 → 0 ≤ (tA h 136 i).toInt ∧ (tA h 136 i).toInt ≤ 99999) (h137 : ∀ i, i < 120 → 0 ≤ (tA h 137 i).toInt ∧ (tA h 137 i).toInt ≤ 410) (h138 : ∀ i, i < 120 → 0 ≤ (tA h 138 i).toInt ∧ (tA h 138 i).toInt ≤ 410) (h139 : ∀ i, i < 120 → 0 ≤ (tA h 139 i).toInt ∧ (tA h 139 i).toInt ≤ 410) : tC zTt G 235 [.ref 111, .int k, .int s, .int m] h (fun w h2 => (((0 ≤ k.toInt ∧ k.toInt < (tvI (tF h 111 3)).toInt) ∧ (0 ≤ s.toInt ∧ s.toInt ≤ 2) ∧ (0 ≤ m.toInt ∧ m.toInt ≤ 599)) ∧ ∃ r, w = some (.int r) ∧ ((K = 0 ∧ r = -1) ∨ ∃ W, qS W m.toInt64 k.toInt64 (tA h 114 k.toNatClampNeg).toInt64 m.toInt64 (bN (mK9 h k m) (tK9 h) (tvI (tF h 111 5)).toNatClampNeg m.toInt) (bN (mF9 h k) (mT9 h) (tvI (tF h 111 59)).toNatClampNeg m.toInt) (bN (mD9 h k) (mT9 h) (tvI (tF h 111 59)).toNatClampNeg m.toInt) ∧ muO W cs cl K s.toNatClampNeg r)) ∨ (¬ ((0 ≤ k.toInt ∧ k.toInt < (tvI (tF h 111 3)).toInt) ∧ (0 ≤ s.toInt ∧ s.toInt ≤ 2) ∧ (0 ≤ m.toInt ∧ m.toInt ≤ 599)) ∧ w = some (.int (-2)))) := by
  refine tC_in (by rw [hG]; rfl) (fun dp => ?_)
  refine tw_aload rfl rfl ?_
  refine tw_iload rfl rfl ?_
  refine tw_iload rfl rfl ?_
  refine tw_iload rfl rfl ?_
  refine tw_virt3 rfl (g_isAsked hG hs hk3) (fun w9 h9 p1123 => ?_)
  obtain ⟨⟨p1123, rfl⟩ | ⟨p1123, rfl⟩, e9⟩ := p1123
  · try dsimp only [tvI_i, tvJ_j, tvR_r] at p1123
    obtain rfl := e9.symm
    refine tw_if_eq rfl (fun z => absurd z (by decide)) (fun _ => ?_)
    refine tw_aload rfl rfl ?_
    refine tw_iload rfl rfl ?_
    refine tw_iload rfl rfl ?_
    refine tw_iload rfl rfl ?_
    refine tw_virt3 rfl (g_mustOf hG hs hn D (zclx (by omega)).symm (by rw [zclE]; omega) h5 h59 h156 h133 h134 h135 h136 h137 h138 h139) (fun wp1124 hp1124 p1124 => ?_)
    obtain ⟨LM, r, rfl, hm⟩ := p1124
    refine tw_goto rfl ?_
    exact tw_iret rfl (Or.inl ⟨by omega, r, rfl, hm⟩)
  · try dsimp only [tvI_i, tvJ_j, tvR_r] at p1123
    obtain rfl := e9.symm
    refine tw_if_eq rfl (fun _ => ?_) (fun z => absurd z (by decide))
    refine tw_push rfl ?_
    exact tw_iret rfl (Or.inr ⟨by omega, rfl⟩)
noncomputable def ph_muc (k s m : Int32) (h : zH) (w : Option Value) (_h2 : zH) : Prop := ((((0 ≤ k.toInt ∧ k.toInt < (tvI (tF h 1 6)).toInt) ∧ (0 ≤ s.toInt ∧ s.toInt ≤ 2) ∧ (0 ≤ m.toInt ∧ m.toInt ≤ 599)) ∧ ∃ r W, w = some (.int r) ∧ qS W m.toInt64 k.toInt64 (tA h 3 k.toNatClampNeg).toInt64 m.toInt64 (bN (wK h k) (tK9 h) (tvI (tF h 36 4)).toNatClampNeg m.toInt) (bN (wF h k) (tF9 h) (tvI (tF h 63 8)).toNatClampNeg m.toInt) (bN (wD h k) (tF9 h) (tvI (tF h 63 8)).toNatClampNeg m.toInt) ∧ muO W (rCn h (sRI (tA h 49) m (tvI (tF h 48 3)).toNatClampNeg)) (rLn h (sRI (tA h 49) m (tvI (tF h 48 3)).toNatClampNeg)) (rKn h (sRI (tA h 49) m (tvI (tF h 48 3)).toNatClampNeg)) s.toNatClampNeg r) ∨ (¬ ((0 ≤ k.toInt ∧ k.toInt < (tvI (tF h 1 6)).toInt) ∧ (0 ≤ s.toInt ∧ s.toInt ≤ 2) ∧ (0 ≤ m.toInt ∧ m.toInt ≤ 599)) ∧ w = some (.int (-2))))
noncomputable def ph_mum (k s m : Int32) (h : zH) (_w : Option Value) (h2 : zH) (w : Option Value) (_h3 : zH) : Prop := (((0 ≤ k.toInt ∧ k.toInt < (tvI (tF h2 111 3)).toInt) ∧ (0 ≤ s.toInt ∧ s.toInt ≤ 2) ∧ (0 ≤ m.toInt ∧ m.toInt ≤ 599)) ∧ ∃ r, w = some (.int r) ∧ ((rKn h (sRI (tA h 49) m (tvI (tF h 48 3)).toNatClampNeg) = 0 ∧ r = -1) ∨ ∃ W, qS W m.toInt64 k.toInt64 (tA h2 114 k.toNatClampNeg).toInt64 m.toInt64 (bN (mK9 h2 k m) (tK9 h2) (tvI (tF h2 111 5)).toNatClampNeg m.toInt) (bN (mF9 h2 k) (mT9 h2) (tvI (tF h2 111 59)).toNatClampNeg m.toInt) (bN (mD9 h2 k) (mT9 h2) (tvI (tF h2 111 59)).toNatClampNeg m.toInt) ∧ muO W (rCn h (sRI (tA h 49) m (tvI (tF h 48 3)).toNatClampNeg)) (rLn h (sRI (tA h 49) m (tvI (tF h 48 3)).toNatClampNeg)) (rKn h (sRI (tA h 49) m (tvI (tF h 48 3)).toNatClampNeg)) s.toNatClampNeg r)) ∨ (¬ ((0 ≤ k.toInt ∧ k.toInt < (tvI (tF h2 111 3)).toInt) ∧ (0 ≤ s.toInt ∧ s.toInt ≤ 2) ∧ (0 ≤ m.toInt ∧ m.toInt ≤ 599)) ∧ w = some (.int (-2)))
theorem g_mustD {G : zG} (hG : G.1 = zProg) {k s m : Int32} {τ τ2 : List Nat} {h h2 : zH} {w : Option Value} (hB : zBs G.2.2.2 τ h) (hB2 : zBs G.2.2.2 τ2 h2) (hR : R_rcd h) (hN : R_rules h) (hF : R_froms h) (e30 : tF h2 111 30 = tF h 111 30) (e141 : tA h2 141 = tA h 141) (o133 : ∀ p, 133 ≤ p → p ≤ 140 → tA h2 p = tA h p) : tC zTt G 235 [.ref 111, .int k, .int s, .int m] h2 (fun w2 h3 => ph_mum k s m h w h2 w2 h3) := by
  unfold R_rules at hN
  unfold R_froms at hF
  have D := rIm_fr (rIn_D (m := m) hB hR).2 o133
  have ey : sRI (tA h2 141) m (tvI (tF h2 111 30)).toNatClampNeg = (sRI (tA h 49) m (tvI (tF h 48 3)).toNatClampNeg) := by rw [e30, e141, ← hN, ← hF]
  rw [← ey] at D
  refine (g_must hG (zBs_sh hB2) (kb_111_3 hB2).1 (kb_111_30 hB2).1 D (kb_111_5 hB2) (kb_111_59 hB2) (ka_156 hB2).2 (ka_133 hB2).2 (ka_134 hB2).2 (ka_135 hB2).2 (ka_136 hB2).2 (ka_137 hB2).2 (ka_138 hB2).2 (ka_139 hB2).2).mono (fun w2 h3 z => ?_)
  unfold ph_mum
  rw [← ey]
  exact z
theorem a_must {xs : Nat → Int32} {τ : List Nat} {k s m : Int32} {h h2 h3 : zH} {w w2 : Option Value} (hB : zBs xs τ h) (hR : R_rcd h) (hK : R_kinds h) (hC : R_cars h) (hX : R_crashes h) (hf : R_kfirm h) (hM : R_cmt h) (h2k : R_ck2 h) (hct : R_ctold h) (hcd : R_cdead h) (hcb : R_cburn h) (e3 : tF h2 111 3 = tF h 111 3) (e5 : tF h2 111 5 = tF h 111 5) (e59 : tF h2 111 59 = tF h 111 59) (o114 : tA h2 114 = tA h 114) (o121 : tA h2 121 = tA h 121) (o122 : tA h2 122 = tA h 122) (o123 : tA h2 123 = tA h 123) (o152 : tA h2 152 = tA h 152) (o156 : tA h2 156 = tA h 156) (o157 : tA h2 157 = tA h 157) (o158 : tA h2 158 = tA h 158) (k1 : ph_muc k s m h w h2) (k2 : ph_mum k s m h w h2 w2 h3) : w2 = w := by
  unfold R_kinds at hK
  unfold R_cars at hC
  unfold R_crashes at hX
  unfold R_kfirm at hf
  unfold R_ctold at hct
  unfold R_cdead at hcd
  unfold R_cburn at hcb
  unfold ph_mum at k2
  rw [e3, e5, e59, o114, ← hK, ← hC, ← hX, ← hf] at k2
  have b4 := kb_36_4 hB
  have b8 := kb_63_8 hB
  have c1 := cnt_K (h := h) (h2 := h2) (k := k) (m := m) (n := (tvI (tF h 36 4)).toNatClampNeg) o121 o122 o123 (fun i hi => hM i (by rw [← hC]; rw [zclE] at hi; omega))
  have c2 := cnt_F (h := h) (h2 := h2) (k := k) (t := m.toInt) (n := (tvI (tF h 63 8)).toNatClampNeg) (fun i hi => by rw [o121, o152]; exact (h2k i (by rw [← hX]; rw [zclE] at hi; omega)).1) (o158.trans hcb.symm) (o157.trans hct.symm) (o156.trans hcd.symm)
  rw [← c1, ← c2.1, ← c2.2] at k2
  have D := (rIn_D (m := m) hB hR).1
  rcases k1 with ⟨a1, r, W, rfl, a2, a3⟩ | ⟨a1, rfl⟩ <;> rcases k2 with ⟨d1, r2, rfl, d2⟩ | ⟨d1, rfl⟩
  · have e : r2 = r := by
      rcases d2 with ⟨k0, d2⟩ | ⟨W2, d2, d3⟩
      · rcases a3 with ⟨a3, -⟩ | ⟨i, hi, -⟩
        · rw [d2, a3]
        · omega
      · by_cases k0 : rKn h (sRI (tA h 49) m (tvI (tF h 48 3)).toNatClampNeg) = 0
        · rcases a3 with ⟨a3, -⟩ | ⟨i, hi, -⟩
          · rcases d3 with ⟨d3, -⟩ | ⟨j, hj, -⟩
            · rw [d3, a3]
            · omega
          · omega
        · exact muO_u (qS_u a2 d2) (rIc_ok D).2 ((rIc_ok D).1.resolve_left k0) (by rw [zclE]; omega) a3 d3
    rw [e]
  · exact absurd a1 d1
  · exact absurd d1 a1
  · rfl
/-- the best speed that the first n readings tell -/
noncomputable def sK (rt rb ri tk ts tp tb : Nat → Int32) (p k s m z : Int32) : Nat → Int32
  | 0 => -1
  | n + 1 => if (rb n = p ∧ (ri n).toInt ≤ m.toInt ∧ tk (rt n).toNatClampNeg = k ∧ ts (rt n).toNatClampNeg = s ∧ tb (rt n).toNatClampNeg = z) ∧ (sK rt rb ri tk ts tp tb p k s m z n = -1 ∨ (if z = 0 then sK rt rb ri tk ts tp tb p k s m z n < tp (rt n).toNatClampNeg else tp (rt n).toNatClampNeg < sK rt rb ri tk ts tp tb p k s m z n)) then tp (rt n).toNatClampNeg else sK rt rb ri tk ts tp tb p k s m z n
section SK
variable {rt rb ri tk ts tp tb : Nat → Int32} {p k s m z x : Int32} {n N : Nat}
noncomputable abbrev sKc (rt rb ri tk ts tb : Nat → Int32) (p k s m z x : Int32) : Prop := rb x.toNatClampNeg = p ∧ (ri x.toNatClampNeg).toInt ≤ m.toInt ∧ tk (rt x.toNatClampNeg).toNatClampNeg = k ∧ ts (rt x.toNatClampNeg).toNatClampNeg = s ∧ tb (rt x.toNatClampNeg).toNatClampNeg = z
theorem sK_S (hx : x.toNatClampNeg = n) : sK rt rb ri tk ts tp tb p k s m z (n + 1) = if sKc rt rb ri tk ts tb p k s m z x ∧ (sK rt rb ri tk ts tp tb p k s m z n = -1 ∨ (if z = 0 then sK rt rb ri tk ts tp tb p k s m z n < tp (rt x.toNatClampNeg).toNatClampNeg else tp (rt x.toNatClampNeg).toNatClampNeg < sK rt rb ri tk ts tp tb p k s m z n)) then tp (rt x.toNatClampNeg).toNatClampNeg else sK rt rb ri tk ts tp tb p k s m z n := by
  subst hx
  rfl
theorem sK_no (hx : x.toNatClampNeg = n) (h : ¬ sKc rt rb ri tk ts tb p k s m z x) : sK rt rb ri tk ts tp tb p k s m z (n + 1) = sK rt rb ri tk ts tp tb p k s m z n := by
  rw [sK_S hx, if_neg (fun q => h q.1)]
theorem sK_y0 (hx : x.toNatClampNeg = n) (h : sKc rt rb ri tk ts tb p k s m z x) (hb : sK rt rb ri tk ts tp tb p k s m z n = -1) : sK rt rb ri tk ts tp tb p k s m z (n + 1) = tp (rt x.toNatClampNeg).toNatClampNeg := by
  rw [sK_S hx, if_pos ⟨h, Or.inl hb⟩]
theorem sK_mn (hx : x.toNatClampNeg = n) (h : sKc rt rb ri tk ts tb p k s m z x) (hb : ¬ sK rt rb ri tk ts tp tb p k s m z n = -1) (hz : ¬ z = 0) : sK rt rb ri tk ts tp tb p k s m z (n + 1) = if tp (rt x.toNatClampNeg).toNatClampNeg < sK rt rb ri tk ts tp tb p k s m z n then tp (rt x.toNatClampNeg).toNatClampNeg else sK rt rb ri tk ts tp tb p k s m z n := by
  rw [sK_S hx]
  by_cases q : tp (rt x.toNatClampNeg).toNatClampNeg < sK rt rb ri tk ts tp tb p k s m z n
  · rw [if_pos ⟨h, Or.inr (by rw [if_neg hz]; exact q)⟩, if_pos q]
  · rw [if_neg q, if_neg]
    rintro ⟨-, q2 | q2⟩
    · exact hb q2
    · rw [if_neg hz] at q2
      exact q q2
theorem sK_mx (hx : x.toNatClampNeg = n) (h : sKc rt rb ri tk ts tb p k s m z x) (hp : 0 ≤ (tp (rt x.toNatClampNeg).toNatClampNeg).toInt) (hz : z = 0) : sK rt rb ri tk ts tp tb p k s m z (n + 1) = if sK rt rb ri tk ts tp tb p k s m z n < tp (rt x.toNatClampNeg).toNatClampNeg then tp (rt x.toNatClampNeg).toNatClampNeg else sK rt rb ri tk ts tp tb p k s m z n := by
  rw [sK_S hx]
  by_cases q : sK rt rb ri tk ts tp tb p k s m z n < tp (rt x.toNatClampNeg).toNatClampNeg
  · rw [if_pos ⟨h, Or.inr (by rw [if_pos hz]; exact q)⟩, if_pos q]
  · rw [if_neg q, if_neg]
    rintro ⟨-, q2 | q2⟩
    · rw [q2] at q
      refine q (Int32.lt_iff_toInt_lt.mpr ?_)
      have : (-1 : Int32).toInt = -1 := by decide
      omega
    · rw [if_pos hz] at q2
      exact q q2
theorem sK_l1 (hx : x.toNatClampNeg = n) (h : sKc rt rb ri tk ts tb p k s m z x) (hz : ¬ z = 0) (hb : ¬ sK rt rb ri tk ts tp tb p k s m z n = -1) : ((tp (rt x.toNatClampNeg).toNatClampNeg).toInt < (sK rt rb ri tk ts tp tb p k s m z n).toInt → sK rt rb ri tk ts tp tb p k s m z (n + 1) = tp (rt x.toNatClampNeg).toNatClampNeg) ∧ ((sK rt rb ri tk ts tp tb p k s m z n).toInt ≤ (tp (rt x.toNatClampNeg).toNatClampNeg).toInt → sK rt rb ri tk ts tp tb p k s m z (n + 1) = sK rt rb ri tk ts tp tb p k s m z n) := by
  rw [sK_mn hx h hb hz]
  exact ⟨fun q => if_pos (Int32.lt_iff_toInt_lt.mpr q), fun q => if_neg (fun r => by have := Int32.lt_iff_toInt_lt.mp r; omega)⟩
theorem sK_l0 (hx : x.toNatClampNeg = n) (h : sKc rt rb ri tk ts tb p k s m z x) (hz : z = 0) (hb : ¬ sK rt rb ri tk ts tp tb p k s m z n = -1) : ((sK rt rb ri tk ts tp tb p k s m z n).toInt < (tp (rt x.toNatClampNeg).toNatClampNeg).toInt → sK rt rb ri tk ts tp tb p k s m z (n + 1) = tp (rt x.toNatClampNeg).toNatClampNeg) ∧ ((tp (rt x.toNatClampNeg).toNatClampNeg).toInt ≤ (sK rt rb ri tk ts tp tb p k s m z n).toInt → sK rt rb ri tk ts tp tb p k s m z (n + 1) = sK rt rb ri tk ts tp tb p k s m z n) := by
  rw [sK_S hx]
  refine ⟨fun q => if_pos ⟨h, Or.inr (by rw [if_pos hz]; exact Int32.lt_iff_toInt_lt.mpr q)⟩, fun q => if_neg ?_⟩
  rintro ⟨-, q2 | q2⟩
  · exact hb q2
  · rw [if_pos hz] at q2
    have := Int32.lt_iff_toInt_lt.mp q2
    omega
theorem sK_stop (hx : x.toNatClampNeg = n) (hn : n ≤ N) (hS : ∀ i j, i ≤ j → j < N → (ri i).toInt ≤ (ri j).toInt) (q : m.toInt < (ri x.toNatClampNeg).toInt) : sK rt rb ri tk ts tp tb p k s m z n = sK rt rb ri tk ts tp tb p k s m z N := by
  obtain ⟨d, rfl⟩ : ∃ d, N = n + d := ⟨N - n, by omega⟩
  induction d with
  | zero => rfl
  | succ d ih =>
    rw [ih (by omega) (fun i j a b => hS i j a (by omega))]
    show _ = sK rt rb ri tk ts tp tb p k s m z ((n + d) + 1)
    conv => rhs; unfold sK
    rw [if_neg]
    rintro ⟨⟨-, r, -⟩, -⟩
    have := hS n (n + d) (by omega) (by omega)
    rw [hx] at q
    omega
end SK
theorem zone {y : Int32} (h : 0 ≤ y.toInt ∧ y.toInt ≤ 1) (q : ¬ y = 0) : y = 1 := by
  refine Int32.toInt_inj.mp ?_
  have : y.toInt ≠ 0 := fun z => q (Int32.toInt_inj.mp z)
  have e : (1 : Int32).toInt = 1 := by decide
  omega
theorem f_isOf {G : zG} (hG : G.1 = zProg) {h : zH} {t k s : Int32} (hs : tSh h) : tC zTt G 105 [.ref 54, .int t, .int k, .int s] h (fun w h2 => tBo (tA h 55 t.toNatClampNeg = k ∧ tA h 56 t.toNatClampNeg = s) w ∧ h2 = h) := by
  refine tC_in (by rw [hG]; rfl) (fun dp => ?_)
  refine tw_aload rfl rfl ?_
  refine tw_getS rfl (hs_54_0 hs) ?_
  refine tw_iload rfl rfl ?_
  refine tw_iald rfl (fun f1125 => ?_)
  refine tw_iload rfl rfl ?_
  refine tw_ic_ne rfl (fun q1126 => ?_) (fun q1126 => ?_)
  · try dsimp only [tvI_i, tvJ_j, tvR_r] at q1126
    have q1126i := zneq rfl q1126
    refine tw_push rfl ?_
    exact tw_iret rfl ⟨Or.inr ⟨fun z => q1126 z.1, rfl⟩, rfl⟩
  · try dsimp only [tvI_i, tvJ_j, tvR_r] at q1126
    have q1126i := zeqi rfl q1126
    refine tw_aload rfl rfl ?_
    refine tw_getS rfl (hs_54_1 hs) ?_
    refine tw_iload rfl rfl ?_
    refine tw_iald rfl (fun f1127 => ?_)
    refine tw_iload rfl rfl ?_
    refine tw_ic_ne rfl (fun q1128 => ?_) (fun q1128 => ?_)
    · try dsimp only [tvI_i, tvJ_j, tvR_r] at q1128
      have q1128i := zneq rfl q1128
      refine tw_push rfl ?_
      exact tw_iret rfl ⟨Or.inr ⟨fun z => q1128 z.2, rfl⟩, rfl⟩
    · try dsimp only [tvI_i, tvJ_j, tvR_r] at q1128
      have q1128i := zeqi rfl q1128
      refine tw_push rfl ?_
      refine tw_goto rfl ?_
      exact tw_iret rfl ⟨Or.inl ⟨⟨q1126, q1128⟩, rfl⟩, rfl⟩
theorem f_leastBurned {G : zG} (hG : G.1 = zProg) {h : zH} {p k s m : Int32} (hs : tSh h) (h0 : 0 ≤ (tvI (tF h 54 9)).toInt) (hS : ∀ i j, i ≤ j → j < (tvI (tF h 54 9)).toNatClampNeg → (tA h 62 i).toInt ≤ (tA h 62 j).toInt) (hZ : ∀ x : Int32, (0 ≤ x.toInt ∧ x.toInt < (tvI (tF h 54 9)).toInt) → (0 ≤ (tA h 58 (tA h 60 x.toNatClampNeg).toNatClampNeg).toInt ∧ (tA h 58 (tA h 60 x.toNatClampNeg).toNatClampNeg).toInt ≤ 1) ∧ 0 ≤ (tA h 57 (tA h 60 x.toNatClampNeg).toNatClampNeg).toInt) : tC zTt G 106 [.ref 54, .int p, .int k, .int s, .int m] h (fun w h2 => w = some (.int (sK (tA h 60) (tA h 61) (tA h 62) (tA h 55) (tA h 56) (tA h 57) (tA h 58) p k s m 1 (tvI (tF h 54 9)).toNatClampNeg)) ∧ h2 = h) := by
  refine tC_in (by rw [hG]; rfl) (fun dp => ?_)
  refine tw_push rfl ?_
  refine tw_istore rfl ?_
  refine tw_push rfl ?_
  refine tw_istore rfl ?_
  refine tG_loop (zW_mono zTt G dp) (zW_conj zTt G dp) (V := fun pc L st h9 _ _ => pc = 6 ∧ st = [] ∧ h = h9 ∧ ∃ (n : Nat) (x y : Int32) (l7 : Option Value), x.toInt = n ∧ (n : Int) ≤ (tvI (tF h 54 9)).toInt ∧ y = sK (tA h 60) (tA h 61) (tA h 62) (tA h 55) (tA h 56) (tA h 57) (tA h 58) p k s m 1 n ∧ L = [some (.ref 54), some (.int p), some (.int k), some (.int s), some (.int m), some (.int y), some (.int x), l7]) ?_ (⟨rfl, rfl, rfl, 0, 0, _, none, rfl, h0, rfl, rfl⟩)
  rintro _ _ _ _ _ _ ⟨rfl, rfl, rfl, n, x, _, l7, hx, hn, rfl, rfl⟩
  refine tw_iload rfl rfl ?_
  refine tw_aload rfl rfl ?_
  refine tw_getS rfl (hi_54_9 hs) ?_
  refine tw_ic_ge rfl (fun q1129 => ?_) (fun q1129 => ?_)
  · try dsimp only [tvI_i, tvJ_j, tvR_r] at q1129
    refine tw_iload rfl rfl ?_
    have en := zen hx hn q1129
    subst en
    exact tw_iret rfl ⟨rfl, rfl⟩
  · try dsimp only [tvI_i, tvJ_j, tvR_r] at q1129
    refine tw_aload rfl rfl ?_
    refine tw_getS rfl (hs_54_8 hs) ?_
    refine tw_iload rfl rfl ?_
    refine tw_iald rfl (fun f1130 => ?_)
    refine tw_iload rfl rfl ?_
    refine tw_ic_gt rfl (fun q1131 => ?_) (fun q1131 => ?_)
    · try dsimp only [tvI_i, tvJ_j, tvR_r] at q1131
      refine tw_iload rfl rfl ?_
      exact tw_iret rfl ⟨congrArg (fun z => some (Value.int z)) (sK_stop (rt := tA _ 60) (rb := tA _ 61) (ri := tA _ 62) (tk := tA _ 55) (ts := tA _ 56) (tp := tA _ 57) (tb := tA _ 58) (p := p) (k := k) (s := s) (m := m) (z := 1) (x := x) (zof_cl hx) (by rw [zclE]; omega) hS (by omega)), rfl⟩
    · try dsimp only [tvI_i, tvJ_j, tvR_r] at q1131
      refine tw_aload rfl rfl ?_
      refine tw_getS rfl (hs_54_6 hs) ?_
      refine tw_iload rfl rfl ?_
      refine tw_iald rfl (fun f1132 => ?_)
      refine tw_istore rfl ?_
      refine tw_aload rfl rfl ?_
      refine tw_getS rfl (hs_54_7 hs) ?_
      refine tw_iload rfl rfl ?_
      refine tw_iald rfl (fun f1133 => ?_)
      refine tw_iload rfl rfl ?_
      refine tw_ic_ne rfl (fun q1134 => ?_) (fun q1134 => ?_)
      · try dsimp only [tvI_i, tvJ_j, tvR_r] at q1134
        have q1134i := zneq rfl q1134
        refine tw_iinc rfl rfl ?_
        refine tw_goto rfl ?_
        exact tG_cut (zW_mono zTt G dp) (Or.inr ⟨rfl, rfl, rfl, n + 1, _, _, _, zincL hx q1129, by omega, (sK_no (rt := tA _ 60) (rb := tA _ 61) (ri := tA _ 62) (tk := tA _ 55) (ts := tA _ 56) (tp := tA _ 57) (tb := tA _ 58) (p := p) (k := k) (s := s) (m := m) (z := 1) (x := x) (zof_cl hx) (fun z => q1134 z.1)).symm, rfl⟩)
      · try dsimp only [tvI_i, tvJ_j, tvR_r] at q1134
        have q1134i := zeqi rfl q1134
        refine tw_aload rfl rfl ?_
        refine tw_iload rfl rfl ?_
        refine tw_iload rfl rfl ?_
        refine tw_iload rfl rfl ?_
        refine tw_virt3 rfl (f_isOf hG hs) (fun w9 h9 p1135 => ?_)
        obtain ⟨⟨p1135, rfl⟩ | ⟨p1135, rfl⟩, rfl⟩ := p1135
        · try dsimp only [tvI_i, tvJ_j, tvR_r] at p1135
          refine tw_if_eq rfl (fun z => absurd z (by decide)) (fun _ => ?_)
          refine tw_aload rfl rfl ?_
          refine tw_getS rfl (hs_54_3 hs) ?_
          refine tw_iload rfl rfl ?_
          refine tw_bald rfl (fun f1136 => ?_)
          refine tw_if_eq rfl (fun q1137 => ?_) (fun q1137 => ?_)
          · try dsimp only [tvI_i, tvJ_j, tvR_r] at q1137
            have q1137i := zeqi (Y := 0) (by decide) q1137
            refine tw_iinc rfl rfl ?_
            refine tw_goto rfl ?_
            exact tG_cut (zW_mono zTt G dp) (Or.inr ⟨rfl, rfl, rfl, n + 1, _, _, _, zincL hx q1129, by omega, (sK_no (rt := tA _ 60) (rb := tA _ 61) (ri := tA _ 62) (tk := tA _ 55) (ts := tA _ 56) (tp := tA _ 57) (tb := tA _ 58) (p := p) (k := k) (s := s) (m := m) (z := 1) (x := x) (zof_cl hx) (fun z => absurd (z.2.2.2.2.symm.trans q1137) (by decide))).symm, rfl⟩)
          · try dsimp only [tvI_i, tvJ_j, tvR_r] at q1137
            have q1137i := zneq (Y := 0) (by decide) q1137
            refine tw_iload rfl rfl ?_
            refine tw_push rfl ?_
            refine tw_ic_ne rfl (fun q1138 => ?_) (fun q1138 => ?_)
            · try dsimp only [tvI_i, tvJ_j, tvR_r] at q1138
              have q1138i := zneq (Y := (-1)) (by decide) q1138
              refine tw_iload rfl rfl ?_
              refine tw_aload rfl rfl ?_
              refine tw_getS rfl (hs_54_2 hs) ?_
              refine tw_iload rfl rfl ?_
              refine tw_iald rfl (fun f1139 => ?_)
              refine tw_imin rfl ?_
              refine tw_istore rfl ?_
              refine tw_iinc rfl rfl ?_
              refine tw_goto rfl ?_
              exact tG_cut (zW_mono zTt G dp) (Or.inr ⟨rfl, rfl, rfl, n + 1, _, _, _, zincL hx q1129, by omega, (sK_mn (rt := tA _ 60) (rb := tA _ 61) (ri := tA _ 62) (tk := tA _ 55) (ts := tA _ 56) (tp := tA _ 57) (tb := tA _ 58) (p := p) (k := k) (s := s) (m := m) (z := 1) (x := x) (zof_cl hx) ⟨q1134, by omega, p1135.1, p1135.2, zone (hZ x (by omega)).1 q1137⟩ q1138 (by decide)).symm, rfl⟩)
            · try dsimp only [tvI_i, tvJ_j, tvR_r] at q1138
              have q1138i := zeqi (Y := (-1)) (by decide) q1138
              refine tw_aload rfl rfl ?_
              refine tw_getS rfl (hs_54_2 hs) ?_
              refine tw_iload rfl rfl ?_
              refine tw_iald rfl (fun f1140 => ?_)
              refine tw_goto rfl ?_
              refine tw_istore rfl ?_
              refine tw_iinc rfl rfl ?_
              refine tw_goto rfl ?_
              exact tG_cut (zW_mono zTt G dp) (Or.inr ⟨rfl, rfl, rfl, n + 1, _, _, _, zincL hx q1129, by omega, (sK_y0 (rt := tA _ 60) (rb := tA _ 61) (ri := tA _ 62) (tk := tA _ 55) (ts := tA _ 56) (tp := tA _ 57) (tb := tA _ 58) (p := p) (k := k) (s := s) (m := m) (z := 1) (x := x) (zof_cl hx) ⟨q1134, by omega, p1135.1, p1135.2, zone (hZ x (by omega)).1 q1137⟩ q1138).symm, rfl⟩)
        · try dsimp only [tvI_i, tvJ_j, tvR_r] at p1135
          refine tw_if_eq rfl (fun _ => ?_) (fun z => absurd z (by decide))
          refine tw_iinc rfl rfl ?_
          refine tw_goto rfl ?_
          exact tG_cut (zW_mono zTt G dp) (Or.inr ⟨rfl, rfl, rfl, n + 1, _, _, _, zincL hx q1129, by omega, (sK_no (rt := tA _ 60) (rb := tA _ 61) (ri := tA _ 62) (tk := tA _ 55) (ts := tA _ 56) (tp := tA _ 57) (tb := tA _ 58) (p := p) (k := k) (s := s) (m := m) (z := 1) (x := x) (zof_cl hx) (fun z => p1135 ⟨z.2.2.1, z.2.2.2.1⟩)).symm, rfl⟩)
theorem f_greatestUnburned {G : zG} (hG : G.1 = zProg) {h : zH} {p k s m : Int32} (hs : tSh h) (h0 : 0 ≤ (tvI (tF h 54 9)).toInt) (hS : ∀ i j, i ≤ j → j < (tvI (tF h 54 9)).toNatClampNeg → (tA h 62 i).toInt ≤ (tA h 62 j).toInt) (hZ : ∀ x : Int32, (0 ≤ x.toInt ∧ x.toInt < (tvI (tF h 54 9)).toInt) → (0 ≤ (tA h 58 (tA h 60 x.toNatClampNeg).toNatClampNeg).toInt ∧ (tA h 58 (tA h 60 x.toNatClampNeg).toNatClampNeg).toInt ≤ 1) ∧ 0 ≤ (tA h 57 (tA h 60 x.toNatClampNeg).toNatClampNeg).toInt) : tC zTt G 107 [.ref 54, .int p, .int k, .int s, .int m] h (fun w h2 => w = some (.int (sK (tA h 60) (tA h 61) (tA h 62) (tA h 55) (tA h 56) (tA h 57) (tA h 58) p k s m 0 (tvI (tF h 54 9)).toNatClampNeg)) ∧ h2 = h) := by
  refine tC_in (by rw [hG]; rfl) (fun dp => ?_)
  refine tw_push rfl ?_
  refine tw_istore rfl ?_
  refine tw_push rfl ?_
  refine tw_istore rfl ?_
  refine tG_loop (zW_mono zTt G dp) (zW_conj zTt G dp) (V := fun pc L st h9 _ _ => pc = 6 ∧ st = [] ∧ h = h9 ∧ ∃ (n : Nat) (x y : Int32) (l7 : Option Value), x.toInt = n ∧ (n : Int) ≤ (tvI (tF h 54 9)).toInt ∧ y = sK (tA h 60) (tA h 61) (tA h 62) (tA h 55) (tA h 56) (tA h 57) (tA h 58) p k s m 0 n ∧ L = [some (.ref 54), some (.int p), some (.int k), some (.int s), some (.int m), some (.int y), some (.int x), l7]) ?_ (⟨rfl, rfl, rfl, 0, 0, _, none, rfl, h0, rfl, rfl⟩)
  rintro _ _ _ _ _ _ ⟨rfl, rfl, rfl, n, x, _, l7, hx, hn, rfl, rfl⟩
  refine tw_iload rfl rfl ?_
  refine tw_aload rfl rfl ?_
  refine tw_getS rfl (hi_54_9 hs) ?_
  refine tw_ic_ge rfl (fun q1141 => ?_) (fun q1141 => ?_)
  · try dsimp only [tvI_i, tvJ_j, tvR_r] at q1141
    refine tw_iload rfl rfl ?_
    have en := zen hx hn q1141
    subst en
    exact tw_iret rfl ⟨rfl, rfl⟩
  · try dsimp only [tvI_i, tvJ_j, tvR_r] at q1141
    refine tw_aload rfl rfl ?_
    refine tw_getS rfl (hs_54_8 hs) ?_
    refine tw_iload rfl rfl ?_
    refine tw_iald rfl (fun f1142 => ?_)
    refine tw_iload rfl rfl ?_
    refine tw_ic_gt rfl (fun q1143 => ?_) (fun q1143 => ?_)
    · try dsimp only [tvI_i, tvJ_j, tvR_r] at q1143
      refine tw_iload rfl rfl ?_
      exact tw_iret rfl ⟨congrArg (fun z => some (Value.int z)) (sK_stop (rt := tA _ 60) (rb := tA _ 61) (ri := tA _ 62) (tk := tA _ 55) (ts := tA _ 56) (tp := tA _ 57) (tb := tA _ 58) (p := p) (k := k) (s := s) (m := m) (z := 0) (x := x) (zof_cl hx) (by rw [zclE]; omega) hS (by omega)), rfl⟩
    · try dsimp only [tvI_i, tvJ_j, tvR_r] at q1143
      refine tw_aload rfl rfl ?_
      refine tw_getS rfl (hs_54_6 hs) ?_
      refine tw_iload rfl rfl ?_
      refine tw_iald rfl (fun f1144 => ?_)
      refine tw_istore rfl ?_
      refine tw_aload rfl rfl ?_
      refine tw_getS rfl (hs_54_7 hs) ?_
      refine tw_iload rfl rfl ?_
      refine tw_iald rfl (fun f1145 => ?_)
      refine tw_iload rfl rfl ?_
      refine tw_ic_ne rfl (fun q1146 => ?_) (fun q1146 => ?_)
      · try dsimp only [tvI_i, tvJ_j, tvR_r] at q1146
        have q1146i := zneq rfl q1146
        refine tw_iinc rfl rfl ?_
        refine tw_goto rfl ?_
        exact tG_cut (zW_mono zTt G dp) (Or.inr ⟨rfl, rfl, rfl, n + 1, _, _, _, zincL hx q1141, by omega, (sK_no (rt := tA _ 60) (rb := tA _ 61) (ri := tA _ 62) (tk := tA _ 55) (ts := tA _ 56) (tp := tA _ 57) (tb := tA _ 58) (p := p) (k := k) (s := s) (m := m) (z := 0) (x := x) (zof_cl hx) (fun z => q1146 z.1)).symm, rfl⟩)
      · try dsimp only [tvI_i, tvJ_j, tvR_r] at q1146
        have q1146i := zeqi rfl q1146
        refine tw_aload rfl rfl ?_
        refine tw_iload rfl rfl ?_
        refine tw_iload rfl rfl ?_
        refine tw_iload rfl rfl ?_
        refine tw_virt3 rfl (f_isOf hG hs) (fun w9 h9 p1147 => ?_)
        obtain ⟨⟨p1147, rfl⟩ | ⟨p1147, rfl⟩, rfl⟩ := p1147
        · try dsimp only [tvI_i, tvJ_j, tvR_r] at p1147
          refine tw_if_eq rfl (fun z => absurd z (by decide)) (fun _ => ?_)
          refine tw_aload rfl rfl ?_
          refine tw_getS rfl (hs_54_3 hs) ?_
          refine tw_iload rfl rfl ?_
          refine tw_bald rfl (fun f1148 => ?_)
          refine tw_if_ne rfl (fun q1149 => ?_) (fun q1149 => ?_)
          · try dsimp only [tvI_i, tvJ_j, tvR_r] at q1149
            have q1149i := zneq (Y := 0) (by decide) q1149
            refine tw_iinc rfl rfl ?_
            refine tw_goto rfl ?_
            exact tG_cut (zW_mono zTt G dp) (Or.inr ⟨rfl, rfl, rfl, n + 1, _, _, _, zincL hx q1141, by omega, (sK_no (rt := tA _ 60) (rb := tA _ 61) (ri := tA _ 62) (tk := tA _ 55) (ts := tA _ 56) (tp := tA _ 57) (tb := tA _ 58) (p := p) (k := k) (s := s) (m := m) (z := 0) (x := x) (zof_cl hx) (fun z => q1149 z.2.2.2.2)).symm, rfl⟩)
          · try dsimp only [tvI_i, tvJ_j, tvR_r] at q1149
            have q1149i := zeqi (Y := 0) (by decide) q1149
            refine tw_iload rfl rfl ?_
            refine tw_aload rfl rfl ?_
            refine tw_getS rfl (hs_54_2 hs) ?_
            refine tw_iload rfl rfl ?_
            refine tw_iald rfl (fun f1150 => ?_)
            refine tw_imax rfl ?_
            refine tw_istore rfl ?_
            refine tw_iinc rfl rfl ?_
            refine tw_goto rfl ?_
            exact tG_cut (zW_mono zTt G dp) (Or.inr ⟨rfl, rfl, rfl, n + 1, _, _, _, zincL hx q1141, by omega, (sK_mx (rt := tA _ 60) (rb := tA _ 61) (ri := tA _ 62) (tk := tA _ 55) (ts := tA _ 56) (tp := tA _ 57) (tb := tA _ 58) (p := p) (k := k) (s := s) (m := m) (z := 0) (x := x) (zof_cl hx) ⟨q1146, by omega, p1147.1, p1147.2, q1149⟩ (hZ x (by omega)).2 rfl).symm, rfl⟩)
        · try dsimp only [tvI_i, tvJ_j, tvR_r] at p1147
          refine tw_if_eq rfl (fun _ => ?_) (fun z => absurd z (by decide))
          refine tw_iinc rfl rfl ?_
          refine tw_goto rfl ?_
          exact tG_cut (zW_mono zTt G dp) (Or.inr ⟨rfl, rfl, rfl, n + 1, _, _, _, zincL hx q1141, by omega, (sK_no (rt := tA _ 60) (rb := tA _ 61) (ri := tA _ 62) (tk := tA _ 55) (ts := tA _ 56) (tp := tA _ 57) (tb := tA _ 58) (p := p) (k := k) (s := s) (m := m) (z := 0) (x := x) (zof_cl hx) (fun z => p1147 ⟨z.2.2.1, z.2.2.2.1⟩)).symm, rfl⟩)
theorem g_knewOf {G : zG} (hG : G.1 = zProg) {h : zH} {p k s m z : Int32} (hs : tSh h) (h0 : 0 ≤ (tvI (tF h 111 51)).toInt) : tC zTt G 240 [.ref 111, .int p, .int k, .int s, .int m, .int z] h (fun w h2 => w = some (.int (sK (tA h 148) (tA h 149) (tA h 150) (tA h 145) (tA h 146) (tA h 147) (tA h 151) p k s m z (tvI (tF h 111 51)).toNatClampNeg)) ∧ h2 = h) := by
  refine tC_in (by rw [hG]; rfl) (fun dp => ?_)
  refine tw_push rfl ?_
  refine tw_istore rfl ?_
  refine tw_push rfl ?_
  refine tw_istore rfl ?_
  refine tG_loop (zW_mono zTt G dp) (zW_conj zTt G dp) (V := fun pc L st h9 _ _ => pc = 6 ∧ st = [] ∧ h = h9 ∧ ∃ (n : Nat) (x y : Int32) (l8 l9 : Option Value), x.toInt = n ∧ (n : Int) ≤ (tvI (tF h 111 51)).toInt ∧ y = sK (tA h 148) (tA h 149) (tA h 150) (tA h 145) (tA h 146) (tA h 147) (tA h 151) p k s m z n ∧ L = [some (.ref 111), some (.int p), some (.int k), some (.int s), some (.int m), some (.int z), some (.int y), some (.int x), l8, l9]) ?_ (⟨rfl, rfl, rfl, 0, 0, _, none, none, rfl, h0, rfl, rfl⟩)
  rintro _ _ _ _ _ _ ⟨rfl, rfl, rfl, n, x, _, l8, l9, hx, hn, rfl, rfl⟩
  refine tw_iload rfl rfl ?_
  refine tw_aload rfl rfl ?_
  refine tw_getS rfl (hi_111_51 hs) ?_
  refine tw_ic_ge rfl (fun q1151 => ?_) (fun q1151 => ?_)
  · try dsimp only [tvI_i, tvJ_j, tvR_r] at q1151
    refine tw_iload rfl rfl ?_
    have en := zen hx hn q1151
    subst en
    exact tw_iret rfl ⟨rfl, rfl⟩
  · try dsimp only [tvI_i, tvJ_j, tvR_r] at q1151
    refine tw_aload rfl rfl ?_
    refine tw_getS rfl (hs_111_55 hs) ?_
    refine tw_iload rfl rfl ?_
    refine tw_iald rfl (fun f1152 => ?_)
    refine tw_istore rfl ?_
    refine tw_aload rfl rfl ?_
    refine tw_getS rfl (hs_111_56 hs) ?_
    refine tw_iload rfl rfl ?_
    refine tw_iald rfl (fun f1153 => ?_)
    refine tw_iload rfl rfl ?_
    refine tw_ic_ne rfl (fun q1154 => ?_) (fun q1154 => ?_)
    · try dsimp only [tvI_i, tvJ_j, tvR_r] at q1154
      have q1154i := zneq rfl q1154
      refine tw_push rfl ?_
      refine tw_istore rfl ?_
      refine tw_iload rfl rfl ?_
      refine tw_if_eq rfl (fun _ => ?_) (fun z => absurd z (by decide))
      refine tw_iload rfl rfl ?_
      refine tw_istore rfl ?_
      refine tw_iinc rfl rfl ?_
      refine tw_goto rfl ?_
      exact tG_cut (zW_mono zTt G dp) (Or.inr ⟨rfl, rfl, rfl, n + 1, _, _, _, _, zincL hx q1151, by omega, (sK_no (rt := tA _ 148) (rb := tA _ 149) (ri := tA _ 150) (tk := tA _ 145) (ts := tA _ 146) (tp := tA _ 147) (tb := tA _ 151) (p := p) (k := k) (s := s) (m := m) (z := z) (x := x) (zof_cl hx) (fun z => q1154 z.1)).symm, rfl⟩)
    · try dsimp only [tvI_i, tvJ_j, tvR_r] at q1154
      have q1154i := zeqi rfl q1154
      refine tw_aload rfl rfl ?_
      refine tw_getS rfl (hs_111_57 hs) ?_
      refine tw_iload rfl rfl ?_
      refine tw_iald rfl (fun f1155 => ?_)
      refine tw_iload rfl rfl ?_
      refine tw_ic_gt rfl (fun q1156 => ?_) (fun q1156 => ?_)
      · try dsimp only [tvI_i, tvJ_j, tvR_r] at q1156
        refine tw_push rfl ?_
        refine tw_istore rfl ?_
        refine tw_iload rfl rfl ?_
        refine tw_if_eq rfl (fun _ => ?_) (fun z => absurd z (by decide))
        refine tw_iload rfl rfl ?_
        refine tw_istore rfl ?_
        refine tw_iinc rfl rfl ?_
        refine tw_goto rfl ?_
        exact tG_cut (zW_mono zTt G dp) (Or.inr ⟨rfl, rfl, rfl, n + 1, _, _, _, _, zincL hx q1151, by omega, (sK_no (rt := tA _ 148) (rb := tA _ 149) (ri := tA _ 150) (tk := tA _ 145) (ts := tA _ 146) (tp := tA _ 147) (tb := tA _ 151) (p := p) (k := k) (s := s) (m := m) (z := z) (x := x) (zof_cl hx) (fun z => absurd z.2.1 (by omega))).symm, rfl⟩)
      · try dsimp only [tvI_i, tvJ_j, tvR_r] at q1156
        refine tw_aload rfl rfl ?_
        refine tw_getS rfl (hs_111_52 hs) ?_
        refine tw_iload rfl rfl ?_
        refine tw_iald rfl (fun f1157 => ?_)
        refine tw_iload rfl rfl ?_
        refine tw_ic_ne rfl (fun q1158 => ?_) (fun q1158 => ?_)
        · try dsimp only [tvI_i, tvJ_j, tvR_r] at q1158
          have q1158i := zneq rfl q1158
          refine tw_push rfl ?_
          refine tw_istore rfl ?_
          refine tw_iload rfl rfl ?_
          refine tw_if_eq rfl (fun _ => ?_) (fun z => absurd z (by decide))
          refine tw_iload rfl rfl ?_
          refine tw_istore rfl ?_
          refine tw_iinc rfl rfl ?_
          refine tw_goto rfl ?_
          exact tG_cut (zW_mono zTt G dp) (Or.inr ⟨rfl, rfl, rfl, n + 1, _, _, _, _, zincL hx q1151, by omega, (sK_no (rt := tA _ 148) (rb := tA _ 149) (ri := tA _ 150) (tk := tA _ 145) (ts := tA _ 146) (tp := tA _ 147) (tb := tA _ 151) (p := p) (k := k) (s := s) (m := m) (z := z) (x := x) (zof_cl hx) (fun z => q1158 z.2.2.1)).symm, rfl⟩)
        · try dsimp only [tvI_i, tvJ_j, tvR_r] at q1158
          have q1158i := zeqi rfl q1158
          refine tw_aload rfl rfl ?_
          refine tw_getS rfl (hs_111_53 hs) ?_
          refine tw_iload rfl rfl ?_
          refine tw_iald rfl (fun f1159 => ?_)
          refine tw_iload rfl rfl ?_
          refine tw_ic_ne rfl (fun q1160 => ?_) (fun q1160 => ?_)
          · try dsimp only [tvI_i, tvJ_j, tvR_r] at q1160
            have q1160i := zneq rfl q1160
            refine tw_push rfl ?_
            refine tw_istore rfl ?_
            refine tw_iload rfl rfl ?_
            refine tw_if_eq rfl (fun _ => ?_) (fun z => absurd z (by decide))
            refine tw_iload rfl rfl ?_
            refine tw_istore rfl ?_
            refine tw_iinc rfl rfl ?_
            refine tw_goto rfl ?_
            exact tG_cut (zW_mono zTt G dp) (Or.inr ⟨rfl, rfl, rfl, n + 1, _, _, _, _, zincL hx q1151, by omega, (sK_no (rt := tA _ 148) (rb := tA _ 149) (ri := tA _ 150) (tk := tA _ 145) (ts := tA _ 146) (tp := tA _ 147) (tb := tA _ 151) (p := p) (k := k) (s := s) (m := m) (z := z) (x := x) (zof_cl hx) (fun z => q1160 z.2.2.2.1)).symm, rfl⟩)
          · try dsimp only [tvI_i, tvJ_j, tvR_r] at q1160
            have q1160i := zeqi rfl q1160
            refine tw_aload rfl rfl ?_
            refine tw_getS rfl (hs_111_58 hs) ?_
            refine tw_iload rfl rfl ?_
            refine tw_bald rfl (fun f1161 => ?_)
            refine tw_iload rfl rfl ?_
            refine tw_ic_ne rfl (fun q1162 => ?_) (fun q1162 => ?_)
            · try dsimp only [tvI_i, tvJ_j, tvR_r] at q1162
              have q1162i := zneq rfl q1162
              refine tw_push rfl ?_
              refine tw_istore rfl ?_
              refine tw_iload rfl rfl ?_
              refine tw_if_eq rfl (fun _ => ?_) (fun z => absurd z (by decide))
              refine tw_iload rfl rfl ?_
              refine tw_istore rfl ?_
              refine tw_iinc rfl rfl ?_
              refine tw_goto rfl ?_
              exact tG_cut (zW_mono zTt G dp) (Or.inr ⟨rfl, rfl, rfl, n + 1, _, _, _, _, zincL hx q1151, by omega, (sK_no (rt := tA _ 148) (rb := tA _ 149) (ri := tA _ 150) (tk := tA _ 145) (ts := tA _ 146) (tp := tA _ 147) (tb := tA _ 151) (p := p) (k := k) (s := s) (m := m) (z := z) (x := x) (zof_cl hx) (fun z => q1162 z.2.2.2.2)).symm, rfl⟩)
            · try dsimp only [tvI_i, tvJ_j, tvR_r] at q1162
              have q1162i := zeqi rfl q1162
              refine tw_push rfl ?_
              refine tw_goto rfl ?_
              refine tw_istore rfl ?_
              refine tw_iload rfl rfl ?_
              refine tw_if_eq rfl (fun z => absurd z (by decide)) (fun _ => ?_)
              refine tw_iload rfl rfl ?_
              refine tw_push rfl ?_
              refine tw_ic_eq rfl (fun q1163 => ?_) (fun q1163 => ?_)
              · try dsimp only [tvI_i, tvJ_j, tvR_r] at q1163
                have q1163i := zeqi (Y := (-1)) (by decide) q1163
                refine tw_aload rfl rfl ?_
                refine tw_getS rfl (hs_111_54 hs) ?_
                refine tw_iload rfl rfl ?_
                refine tw_iald rfl (fun f1164 => ?_)
                refine tw_goto rfl ?_
                refine tw_istore rfl ?_
                refine tw_iinc rfl rfl ?_
                refine tw_goto rfl ?_
                exact tG_cut (zW_mono zTt G dp) (Or.inr ⟨rfl, rfl, rfl, n + 1, _, _, _, _, zincL hx q1151, by omega, (sK_y0 (rt := tA _ 148) (rb := tA _ 149) (ri := tA _ 150) (tk := tA _ 145) (ts := tA _ 146) (tp := tA _ 147) (tb := tA _ 151) (p := p) (k := k) (s := s) (m := m) (z := z) (x := x) (zof_cl hx) ⟨q1154, by omega, q1158, q1160, q1162⟩ q1163).symm, rfl⟩)
              · try dsimp only [tvI_i, tvJ_j, tvR_r] at q1163
                have q1163i := zneq (Y := (-1)) (by decide) q1163
                refine tw_iload rfl rfl ?_
                refine tw_if_eq rfl (fun q1165 => ?_) (fun q1165 => ?_)
                · try dsimp only [tvI_i, tvJ_j, tvR_r] at q1165
                  have q1165i := zeqi (Y := 0) (by decide) q1165
                  refine tw_aload rfl rfl ?_
                  refine tw_getS rfl (hs_111_54 hs) ?_
                  refine tw_iload rfl rfl ?_
                  refine tw_iald rfl (fun f1166 => ?_)
                  refine tw_iload rfl rfl ?_
                  refine tw_ic_le rfl (fun q1167 => ?_) (fun q1167 => ?_)
                  · try dsimp only [tvI_i, tvJ_j, tvR_r] at q1167
                    refine tw_iload rfl rfl ?_
                    refine tw_istore rfl ?_
                    refine tw_iinc rfl rfl ?_
                    refine tw_goto rfl ?_
                    exact tG_cut (zW_mono zTt G dp) (Or.inr ⟨rfl, rfl, rfl, n + 1, _, _, _, _, zincL hx q1151, by omega, ((sK_l0 (rt := tA _ 148) (rb := tA _ 149) (ri := tA _ 150) (tk := tA _ 145) (ts := tA _ 146) (tp := tA _ 147) (tb := tA _ 151) (p := p) (k := k) (s := s) (m := m) (z := z) (x := x) (zof_cl hx) ⟨q1154, by omega, q1158, q1160, q1162⟩ q1165 q1163).2 (by omega)).symm, rfl⟩)
                  · try dsimp only [tvI_i, tvJ_j, tvR_r] at q1167
                    refine tw_aload rfl rfl ?_
                    refine tw_getS rfl (hs_111_54 hs) ?_
                    refine tw_iload rfl rfl ?_
                    refine tw_iald rfl (fun f1168 => ?_)
                    refine tw_goto rfl ?_
                    refine tw_istore rfl ?_
                    refine tw_iinc rfl rfl ?_
                    refine tw_goto rfl ?_
                    exact tG_cut (zW_mono zTt G dp) (Or.inr ⟨rfl, rfl, rfl, n + 1, _, _, _, _, zincL hx q1151, by omega, ((sK_l0 (rt := tA _ 148) (rb := tA _ 149) (ri := tA _ 150) (tk := tA _ 145) (ts := tA _ 146) (tp := tA _ 147) (tb := tA _ 151) (p := p) (k := k) (s := s) (m := m) (z := z) (x := x) (zof_cl hx) ⟨q1154, by omega, q1158, q1160, q1162⟩ q1165 q1163).1 (by omega)).symm, rfl⟩)
                · try dsimp only [tvI_i, tvJ_j, tvR_r] at q1165
                  have q1165i := zneq (Y := 0) (by decide) q1165
                  refine tw_aload rfl rfl ?_
                  refine tw_getS rfl (hs_111_54 hs) ?_
                  refine tw_iload rfl rfl ?_
                  refine tw_iald rfl (fun f1169 => ?_)
                  refine tw_iload rfl rfl ?_
                  refine tw_ic_ge rfl (fun q1170 => ?_) (fun q1170 => ?_)
                  · try dsimp only [tvI_i, tvJ_j, tvR_r] at q1170
                    refine tw_iload rfl rfl ?_
                    refine tw_istore rfl ?_
                    refine tw_iinc rfl rfl ?_
                    refine tw_goto rfl ?_
                    exact tG_cut (zW_mono zTt G dp) (Or.inr ⟨rfl, rfl, rfl, n + 1, _, _, _, _, zincL hx q1151, by omega, ((sK_l1 (rt := tA _ 148) (rb := tA _ 149) (ri := tA _ 150) (tk := tA _ 145) (ts := tA _ 146) (tp := tA _ 147) (tb := tA _ 151) (p := p) (k := k) (s := s) (m := m) (z := z) (x := x) (zof_cl hx) ⟨q1154, by omega, q1158, q1160, q1162⟩ q1165 q1163).2 (by omega)).symm, rfl⟩)
                  · try dsimp only [tvI_i, tvJ_j, tvR_r] at q1170
                    refine tw_goto rfl ?_
                    refine tw_aload rfl rfl ?_
                    refine tw_getS rfl (hs_111_54 hs) ?_
                    refine tw_iload rfl rfl ?_
                    refine tw_iald rfl (fun f1171 => ?_)
                    refine tw_goto rfl ?_
                    refine tw_istore rfl ?_
                    refine tw_iinc rfl rfl ?_
                    refine tw_goto rfl ?_
                    exact tG_cut (zW_mono zTt G dp) (Or.inr ⟨rfl, rfl, rfl, n + 1, _, _, _, _, zincL hx q1151, by omega, ((sK_l1 (rt := tA _ 148) (rb := tA _ 149) (ri := tA _ 150) (tk := tA _ 145) (ts := tA _ 146) (tp := tA _ 147) (tb := tA _ 151) (p := p) (k := k) (s := s) (m := m) (z := z) (x := x) (zof_cl hx) ⟨q1154, by omega, q1158, q1160, q1162⟩ q1165 q1163).1 (by omega)).symm, rfl⟩)
/-! the least by months -/
noncomputable def mn2 (x y : Int) : Int := if x < y then x else y
noncomputable def mnC (P : Nat → Bool) (tl sp : Nat → Int) : Nat → Nat → Int
  | 0, _ => 201
  | n + 1, t => if P n = true ∧ tl n = (t : Int) then mn2 (sp n) (mnC P tl sp n t) else mnC P tl sp n t
noncomputable def mnB (P : Nat → Bool) (tl sp : Nat → Int) : Nat → Int → Int
  | 0, _ => 201
  | n + 1, t => if P n = true ∧ tl n ≤ t then mn2 (sp n) (mnB P tl sp n t) else mnB P tl sp n t
noncomputable def pM (f : Nat → Int) : Nat → Int
  | 0 => f 0
  | t + 1 => mn2 (pM f t) (f (t + 1))
section MNL
variable {P : Nat → Bool} {tl sp : Nat → Int} {n t : Nat} {f : Nat → Int} {c x : Int}
theorem mnC_y (h : P n = true) (h2 : tl n = (t : Int)) : mnC P tl sp (n + 1) t = mn2 (sp n) (mnC P tl sp n t) := if_pos ⟨h, h2⟩
theorem mnC_n (h : ¬ (P n = true ∧ tl n = (t : Int))) : mnC P tl sp (n + 1) t = mnC P tl sp n t := if_neg h
theorem pM_c (m : Nat) : pM (fun _ => 201) m = 201 := by
  induction m with
  | zero => rfl
  | succ m ih =>
    show mn2 (pM (fun _ => 201) m) 201 = 201
    rw [ih]
    rfl
theorem pM_ite (hc : 0 ≤ c) (m : Nat) : pM (fun t => if c = (t : Int) then mn2 x (f t) else f t) m = if c ≤ (m : Int) then mn2 x (pM f m) else pM f m := by
  induction m with
  | zero =>
    show (if c = ((0 : Nat) : Int) then mn2 x (f 0) else f 0) = if c ≤ ((0 : Nat) : Int) then mn2 x (f 0) else f 0
    by_cases h : c = ((0 : Nat) : Int)
    · rw [if_pos h, if_pos (by omega)]
    · rw [if_neg h, if_neg (by omega)]
  | succ m ih =>
    show mn2 (pM (fun t => if c = (t : Int) then mn2 x (f t) else f t) m) (if c = ((m + 1 : Nat) : Int) then mn2 x (f (m + 1)) else f (m + 1)) = if c ≤ ((m + 1 : Nat) : Int) then mn2 x (mn2 (pM f m) (f (m + 1))) else mn2 (pM f m) (f (m + 1))
    rw [ih]
    by_cases h : c ≤ (m : Int)
    · rw [if_pos h, if_neg (by omega), if_pos (by omega)]
      unfold mn2
      repeat' split
      all_goals omega
    · rw [if_neg h]
      by_cases h2 : c = ((m + 1 : Nat) : Int)
      · rw [if_pos h2, if_pos (by omega)]
        unfold mn2
        repeat' split
        all_goals omega
      · rw [if_neg h2, if_neg (by omega)]
theorem pM_mnC (h : ∀ i, i < n → 0 ≤ tl i) (m : Nat) : pM (mnC P tl sp n) m = mnB P tl sp n (m : Int) := by
  induction n with
  | zero => exact pM_c m
  | succ n ih =>
    have ih := ih (fun i hi => h i (by omega))
    by_cases hP : P n = true
    · have e : mnC P tl sp (n + 1) = fun (t : Nat) => if tl n = (t : Int) then mn2 (sp n) (mnC P tl sp n t) else mnC P tl sp n t := by
        funext t
        by_cases z : tl n = (t : Int)
        · rw [mnC_y hP z, if_pos z]
        · rw [mnC_n (fun y => z y.2), if_neg z]
      rw [e, pM_ite (h n (by omega)), ih]
      show _ = if P n = true ∧ tl n ≤ (m : Int) then mn2 (sp n) (mnB P tl sp n m) else mnB P tl sp n m
      by_cases z : tl n ≤ (m : Int)
      · rw [if_pos z, if_pos ⟨hP, z⟩]
      · rw [if_neg z, if_neg (fun y => z y.2)]
    · have e : mnC P tl sp (n + 1) = mnC P tl sp n := by
        funext t
        exact mnC_n (fun y => hP y.1)
      rw [e, ih]
      exact (if_neg (fun y => hP y.1)).symm
theorem mnB_b (h : ∀ i, i < n → 0 ≤ sp i ∧ sp i ≤ 200) (m : Int) : 0 ≤ mnB P tl sp n m ∧ mnB P tl sp n m ≤ 201 := by
  induction n with
  | zero => exact ⟨show (0 : Int) ≤ 201 by decide, show (201 : Int) ≤ 201 by decide⟩
  | succ n ih =>
    have ih := ih (fun i hi => h i (by omega))
    have z := h n (by omega)
    show 0 ≤ (if P n = true ∧ tl n ≤ m then mn2 (sp n) (mnB P tl sp n m) else mnB P tl sp n m) ∧ (if P n = true ∧ tl n ≤ m then mn2 (sp n) (mnB P tl sp n m) else mnB P tl sp n m) ≤ 201
    unfold mn2
    repeat' split
    all_goals omega
end MNL
theorem mn2_i {x y : Int32} : (if x < y then x else y).toInt = mn2 x.toInt y.toInt := by
  unfold mn2
  by_cases h : x < y
  · rw [if_pos h, if_pos (Int32.lt_iff_toInt_lt.mp h)]
  · rw [if_neg h, if_neg (fun z => h (Int32.lt_iff_toInt_lt.mpr z))]
/-- what the reference's fold finds is the least by the month -/
theorem sK_mnB {rt rb ri tk ts tp tb : Nat → Int32} {p k s m : Int32} {P : Nat → Bool} {tl sp : Nat → Int} {n : Nat} (hP : ∀ i, i < n → (P i = true ↔ rb i = p ∧ tk (rt i).toNatClampNeg = k ∧ ts (rt i).toNatClampNeg = s ∧ tb (rt i).toNatClampNeg = 1)) (ht : ∀ i, i < n → tl i = (ri i).toInt) (hs : ∀ i, i < n → sp i = (tp (rt i).toNatClampNeg).toInt ∧ 0 ≤ sp i ∧ sp i ≤ 200) : (sK rt rb ri tk ts tp tb p k s m 1 n = -1 ∧ mnB P tl sp n m.toInt = 201) ∨ (0 ≤ (sK rt rb ri tk ts tp tb p k s m 1 n).toInt ∧ (sK rt rb ri tk ts tp tb p k s m 1 n).toInt ≤ 200 ∧ mnB P tl sp n m.toInt = (sK rt rb ri tk ts tp tb p k s m 1 n).toInt) := by
  have em : (-1 : Int32).toInt = -1 := rfl
  induction n with
  | zero => exact Or.inl ⟨rfl, rfl⟩
  | succ n ih =>
    have ih := ih (fun i hi => hP i (by omega)) (fun i hi => ht i (by omega)) (fun i hi => hs i (by omega))
    have hP := hP n (by omega)
    have ht := ht n (by omega)
    have hs := hs n (by omega)
    have e : sK rt rb ri tk ts tp tb p k s m 1 (n + 1) = if (rb n = p ∧ (ri n).toInt ≤ m.toInt ∧ tk (rt n).toNatClampNeg = k ∧ ts (rt n).toNatClampNeg = s ∧ tb (rt n).toNatClampNeg = 1) ∧ (sK rt rb ri tk ts tp tb p k s m 1 n = -1 ∨ tp (rt n).toNatClampNeg < sK rt rb ri tk ts tp tb p k s m 1 n) then tp (rt n).toNatClampNeg else sK rt rb ri tk ts tp tb p k s m 1 n := by
      have h10 : ¬ ((1 : Int32) = 0) := by decide
      show ite _ _ _ = _
      by_cases z : (rb n = p ∧ (ri n).toInt ≤ m.toInt ∧ tk (rt n).toNatClampNeg = k ∧ ts (rt n).toNatClampNeg = s ∧ tb (rt n).toNatClampNeg = 1) ∧ (sK rt rb ri tk ts tp tb p k s m 1 n = -1 ∨ tp (rt n).toNatClampNeg < sK rt rb ri tk ts tp tb p k s m 1 n)
      · rw [if_pos z]
        exact if_pos ⟨z.1, z.2.imp id (fun w => Eq.mpr (if_neg h10) w)⟩
      · rw [if_neg z]
        exact if_neg (fun y => z ⟨y.1, y.2.imp id (fun w => Eq.mp (if_neg h10) w)⟩)
    have e2 : mnB P tl sp (n + 1) m.toInt = if P n = true ∧ tl n ≤ m.toInt then mn2 (sp n) (mnB P tl sp n m.toInt) else mnB P tl sp n m.toInt := rfl
    rw [e, e2]
    by_cases z : P n = true ∧ tl n ≤ m.toInt
    · have z1 := hP.mp z.1
      have c : rb n = p ∧ (ri n).toInt ≤ m.toInt ∧ tk (rt n).toNatClampNeg = k ∧ ts (rt n).toNatClampNeg = s ∧ tb (rt n).toNatClampNeg = 1 := ⟨z1.1, by rw [← ht]; exact z.2, z1.2⟩
      rw [if_pos z]
      rcases ih with ⟨i1, i2⟩ | ⟨i1, i2, i3⟩
      · rw [if_pos ⟨c, Or.inl i1⟩, i2]
        right
        unfold mn2
        rw [if_pos (by omega)]
        omega
      · have hne : ¬ sK rt rb ri tk ts tp tb p k s m 1 n = -1 := fun y => by rw [y] at i1; omega
        right
        rw [i3]
        unfold mn2
        by_cases y : tp (rt n).toNatClampNeg < sK rt rb ri tk ts tp tb p k s m 1 n
        · have y2 := Int32.lt_iff_toInt_lt.mp y
          rw [if_pos ⟨c, Or.inr y⟩, if_pos (by omega)]
          omega
        · have y2 : ¬ (tp (rt n).toNatClampNeg).toInt < (sK rt rb ri tk ts tp tb p k s m 1 n).toInt := fun w => y (Int32.lt_iff_toInt_lt.mpr w)
          rw [if_neg (fun w => w.2.elim hne y), if_neg (by omega)]
          omega
    · rw [if_neg z, if_neg (fun w => z ⟨hP.mpr ⟨w.1.1, w.1.2.2⟩, by rw [ht]; exact w.1.2.1⟩)]
      exact ih
theorem zor0 (y : Int64) : (0 : Int64) ||| y = y := by
  rw [← Int64.toBitVec_inj]
  show (0#64 ||| y.toBitVec) = y.toBitVec
  simp
theorem tB_one {p q : Int32} (hp : 0 ≤ p.toInt ∧ p.toInt < 64) (hq : 0 ≤ q.toInt ∧ q.toInt < 64) : tB ((1 : Int64) <<< (p.toInt64 &&& 63)) q ↔ q = p := by
  have z := tB_or (x := 0) (p := q) (q := p) hq hp
  rw [zor0] at z
  rw [z]
  exact ⟨fun y => y.resolve_left (tB_0 hq), Or.inr⟩
/-- which readings tell: of the readers' tests, of this kind and sort, that burned -/
noncomputable abbrev rdP (h : zH) (P : Int64) (k s : Int32) (i : Nat) : Bool := decide (((P >>> ((tA h 61 i).toInt64 &&& 63)) &&& 1 = 1) ∧ (tA h 55 (tA h 60 i).toNatClampNeg = k ∧ tA h 56 (tA h 60 i).toNatClampNeg = s) ∧ ¬ tA h 58 (tA h 60 i).toNatClampNeg = 0)
noncomputable def rdT (h : zH) (i : Nat) : Int := (tA h 62 i).toInt
noncomputable def rdS (h : zH) (i : Nat) : Int := (tA h 57 (tA h 60 i).toNatClampNeg).toInt
/-- what MUST is of a month, in words that the class counted -/
noncomputable def MUc (h : zH) (k : Int32) (e7 e8 e9 : Nat → Int) (K : Int32 → Nat) (cs : Int32 → List Nat) (cl : Int32 → Nat → rCt) (th : Nat) (j : Nat) (r : Int32) : Prop := ∃ W, qS W (Int32.ofNat j).toInt64 k.toInt64 (tA h 3 k.toNatClampNeg).toInt64 (Int32.ofNat j).toInt64 (e7 j) (e8 j) (e9 j) ∧ muO W (cs (Int32.ofNat j)) (cl (Int32.ofNat j)) (K (Int32.ofNat j)) th r
/-- the first month, up to one, in which something is so; or -1 -/
noncomputable def fMo (yes no : Nat → Prop) (now : Int) (w : Option Value) : Prop := (w = some (.int (-1)) ∧ ∀ j : Nat, (j : Int) ≤ now → no j) ∨ ∃ j : Nat, (j : Int) ≤ now ∧ yes j ∧ (∀ i, i < j → no i) ∧ w = some (.int (Int32.ofNat j))
theorem fMo_u {y1 n1 y2 n2 : Nat → Prop} {now : Int} {w w2 : Option Value} (h1 : fMo y1 n1 now w) (h2 : fMo y2 n2 now w2) (a : ∀ j : Nat, (j : Int) ≤ now → y1 j → n2 j → False) (b : ∀ j : Nat, (j : Int) ≤ now → y2 j → n1 j → False) : w2 = w := by
  rcases h1 with ⟨rfl, h1⟩ | ⟨j, h1, h3, h4, rfl⟩ <;> rcases h2 with ⟨rfl, h2⟩ | ⟨i, h2, h5, h6, rfl⟩
  · rfl
  · exact (b i h2 h5 (h1 i h2)).elim
  · exact (a j h1 h3 (h2 j h1)).elim
  · have e : i = j := by
      rcases Nat.lt_trichotomy i j with z | z | z
      · exact (b i h2 h5 (h4 i z)).elim
      · exact z
      · exact (a j h1 h3 (h6 j z)).elim
    rw [e]
theorem pM_i (f : Nat → Int) (t : Nat) : f t = if t ≤ 0 then pM f t else f t := by
  by_cases h : t ≤ 0
  · rw [if_pos h]
    obtain rfl : t = 0 := by omega
    rfl
  · rw [if_neg h]
theorem f_learn {G : zG} (hG : G.1 = zProg) {h : zH} {P : Int64} {k s : Int32} (hs : tSh h) (hn : tN h 110 = 600) (h62 : ∀ i, i < 600 → 0 ≤ (tA h 62 i).toInt ∧ (tA h 62 i).toInt ≤ 599) (h9 : 0 ≤ (tvI (tF h 54 9)).toInt ∧ (tvI (tF h 54 9)).toInt ≤ 600) : tC zTt G 108 [.ref 54, .long P, .int k, .int s, .ref 110] h (fun w h2 => w = none ∧ aFr (fun r => r = 110) h h2 ∧ ∀ t : Nat, t < 600 → (tA h2 110 t).toInt = mnB (rdP h P k s) (rdT h) (rdS h) (tvI (tF h 54 9)).toNatClampNeg t) := by
  refine tC_in (by rw [hG]; rfl) (fun dp => ?_)
  refine tw_aload rfl rfl ?_
  refine tw_push rfl ?_
  refine tw_stat2 rfl (f_fillI hG hs (by rw [hn]; decide)) (fun wp1172 hp1172 p1172 => ?_)
  obtain ⟨rfl, Fp1172, Zp1172⟩ := p1172
  rw [hn] at Zp1172
  refine tw_push rfl ?_
  refine tw_istore rfl ?_
  refine tG_loop (zW_mono zTt G dp) (zW_conj zTt G dp) (V := fun pc L st h9 _ _ => pc = 11 ∧ st = [] ∧ ∃ (h1 : zH) (n : Nat) (z : Int32) (l7 l8 : Option Value), h1 = h9 ∧ aFr (fun r => r = 110) h h1 ∧ z.toInt = (n : Int) ∧ (n : Int) ≤ (tvI (tF h 54 9)).toInt ∧ (∀ t, t < 600 → (tA h1 110 t).toInt = mnC (rdP h P k s) (rdT h) (rdS h) n t) ∧ L = [some (.ref 54), some (.long P), none, some (.int k), some (.int s), some (.ref 110), some (.int z), l7, l8]) ?_ (⟨rfl, rfl, _, 0, 0, _, _, rfl, Fp1172, rfl, h9.1, fun t ht => by rw [Zp1172 t ht]; rfl, rfl⟩)
  rintro _ _ _ _ _ _ ⟨rfl, rfl, h1, n, z, l7, l8, rfl, hF, hz, hnn, hall, rfl⟩
  have e9 : (tvI (tF h1 54 9)).toInt = (tvI (tF h 54 9)).toInt := by rw [hF.2.1]
  refine tw_iload rfl rfl ?_
  refine tw_aload rfl rfl ?_
  refine tw_getS rfl (hi_54_9 hF.1) ?_
  refine tw_ic_ge rfl (fun q1173 => ?_) (fun q1173 => ?_)
  · try dsimp only [tvI_i, tvJ_j, tvR_r] at q1173
    have nN : n = (tvI (tF h 54 9)).toNatClampNeg := by rw [zclE]; omega
    rw [nN] at hall
    refine tw_push rfl ?_
    refine tw_istore rfl ?_
    refine tG_loop (zW_mono zTt G dp) (zW_conj zTt G dp) (V := fun pc L st h9 _ _ => pc = 105 ∧ st = [] ∧ ∃ (h1 : zH) (j : Nat) (z : Int32) (l7 l8 : Option Value), h1 = h9 ∧ aFr (fun r => r = 110) h h1 ∧ z.toInt = ((j + 1 : Nat) : Int) ∧ (∀ t, t < 600 → (tA h1 110 t).toInt = if t ≤ j then pM (mnC (rdP h P k s) (rdT h) (rdS h) (tvI (tF h 54 9)).toNatClampNeg) t else mnC (rdP h P k s) (rdT h) (rdS h) (tvI (tF h 54 9)).toNatClampNeg t) ∧ L = [some (.ref 54), some (.long P), none, some (.int k), some (.int s), some (.ref 110), some (.int z), l7, l8]) ?_ (⟨rfl, rfl, _, 0, 1, _, _, rfl, hF, rfl, fun t ht => (hall t ht).trans (pM_i _ t), rfl⟩)
    rintro _ _ _ _ _ _ ⟨rfl, rfl, h1, j, z, l7, l8, rfl, hF, hz, hall, rfl⟩
    have hl : (Int32.ofNat (tN h1 110)).toInt = 600 := by rw [hF.2.2.2.2.1, hn]; rfl
    refine tw_iload rfl rfl ?_
    refine tw_aload rfl rfl ?_
    refine tw_alen rfl ?_
    refine tw_ic_ge rfl (fun q1174 => ?_) (fun q1174 => ?_)
    · try dsimp only [tvI_i, tvJ_j, tvR_r] at q1174
      refine tw_vret rfl ⟨rfl, hF, fun t ht => ?_⟩
      rw [hall t ht, if_pos (by omega), pM_mnC (P := rdP h P k s) (tl := rdT h) (sp := rdS h) (n := (tvI (tF h 54 9)).toNatClampNeg) (fun i hi => (h62 i (by rw [zclE] at hi; omega)).1)]
    · try dsimp only [tvI_i, tvJ_j, tvR_r] at q1174
      have hj : j + 1 < 600 := by omega
      have zn := zof_cl hz
      have zm : (z - 1).toNatClampNeg = j := zof_cl ((zsbM (b := 1) hz rfl (by omega) (by decide)).trans (by omega))
      have hz1 : (z + 1).toInt = ((j + 1 + 1 : Nat) : Int) := zincN hz (by omega)
      have u0 := hall (j + 1) hj
      rw [if_neg (by omega)] at u0
      have u1 := hall j (by omega)
      rw [if_pos (Nat.le_refl _)] at u1
      refine tw_aload rfl rfl ?_
      refine tw_iload rfl rfl ?_
      refine tw_aload rfl rfl ?_
      refine tw_iload rfl rfl ?_
      refine tw_iald rfl (fun f1175 => ?_)
      refine tw_aload rfl rfl ?_
      refine tw_iload rfl rfl ?_
      refine tw_push rfl ?_
      refine tw_isub rfl ?_
      refine tw_iald rfl (fun f1176 => ?_)
      refine tw_imin rfl ?_
      refine tw_iast rfl (fun f1177 => ?_)
      refine tG_lsi f1177 hF.1 (fun h3 a3 => ?_)
      try dsimp only [tvI_i, tvJ_j, tvR_r] at a3
      have hF3 := aFr_s hF a3 rfl
      refine tw_iinc rfl rfl ?_
      refine tw_goto rfl ?_
      have hx8 : tA h3 110 z.toNatClampNeg = if tA h1 110 (z - 1).toNatClampNeg < tA h1 110 z.toNatClampNeg then tA h1 110 (z - 1).toNatClampNeg else tA h1 110 z.toNatClampNeg := mIs_x a3
      rw [zn, zm] at hx8
      have hx9 : (tA h3 110 (j + 1)).toInt = pM (mnC (rdP h P k s) (rdT h) (rdS h) (tvI (tF h 54 9)).toNatClampNeg) (j + 1) := by rw [hx8, mn2_i, u0, u1]; rfl
      refine tG_cut (zW_mono zTt G dp) (Or.inr ⟨rfl, rfl, h3, j + 1, z + 1, _, _, rfl, hF3, hz1, fun t ht => ?_, rfl⟩)
      by_cases y : t = j + 1
      · rw [y, hx9, if_pos (Nat.le_refl _)]
      · rw [mIs_o a3 (Or.inr (by rw [zn]; exact y)), hall t ht]
        by_cases y2 : t ≤ j
        · rw [if_pos y2, if_pos (by omega)]
        · rw [if_neg y2, if_neg (by omega)]
  · try dsimp only [tvI_i, tvJ_j, tvR_r] at q1173
    have zn := zof_cl hz
    have hz1 : (z + 1).toInt = ((n + 1 : Nat) : Int) := zincN hz (by omega)
    have e55 : tA h1 55 = tA h 55 := hF.2.2.2.2.2 55 (by decide)
    have e56 : tA h1 56 = tA h 56 := hF.2.2.2.2.2 56 (by decide)
    have e57 : tA h1 57 = tA h 57 := hF.2.2.2.2.2 57 (by decide)
    have e58 : tA h1 58 = tA h 58 := hF.2.2.2.2.2 58 (by decide)
    have e60 : tA h1 60 = tA h 60 := hF.2.2.2.2.2 60 (by decide)
    have e61 : tA h1 61 = tA h 61 := hF.2.2.2.2.2 61 (by decide)
    have e62 : tA h1 62 = tA h 62 := hF.2.2.2.2.2 62 (by decide)
    refine tw_aload rfl rfl ?_
    refine tw_getS rfl (hs_54_6 hF.1) ?_
    refine tw_iload rfl rfl ?_
    refine tw_iald rfl (fun f1178 => ?_)
    refine tw_istore rfl ?_
    refine tw_aload rfl rfl ?_
    refine tw_getS rfl (hs_54_8 hF.1) ?_
    refine tw_iload rfl rfl ?_
    refine tw_iald rfl (fun f1179 => ?_)
    refine tw_istore rfl ?_
    refine tw_lload rfl rfl ?_
    refine tw_aload rfl rfl ?_
    refine tw_getS rfl (hs_54_7 hF.1) ?_
    refine tw_iload rfl rfl ?_
    refine tw_iald rfl (fun f1180 => ?_)
    refine tw_lshr rfl ?_
    refine tw_push rfl ?_
    refine tw_land rfl ?_
    refine tw_push rfl ?_
    refine tw_lc_ne rfl rfl (fun q1181 => ?_) (fun q1181 => ?_)
    · try dsimp only [tvI_i, tvJ_j, tvR_r] at q1181
      refine tw_iinc rfl rfl ?_
      refine tw_goto rfl ?_
      rw [zn, e61] at q1181
      refine tG_cut (zW_mono zTt G dp) (Or.inr ⟨rfl, rfl, h1, n + 1, z + 1, _, _, rfl, hF, hz1, by omega, fun t ht => ?_, rfl⟩)
      rw [hall t ht, mnC_n (fun w => q1181 (of_decide_eq_true w.1).1)]
    · try dsimp only [tvI_i, tvJ_j, tvR_r] at q1181
      refine tw_aload rfl rfl ?_
      refine tw_iload rfl rfl ?_
      refine tw_iload rfl rfl ?_
      refine tw_iload rfl rfl ?_
      refine tw_virt3 rfl (f_isOf hG hF.1) (fun w9 h9 p1182 => ?_)
      obtain ⟨⟨p1182, rfl⟩ | ⟨p1182, rfl⟩, e9⟩ := p1182
      · try dsimp only [tvI_i, tvJ_j, tvR_r] at p1182
        obtain rfl := e9.symm
        refine tw_if_eq rfl (fun z => absurd z (by decide)) (fun _ => ?_)
        refine tw_aload rfl rfl ?_
        refine tw_getS rfl (hs_54_3 hF.1) ?_
        refine tw_iload rfl rfl ?_
        refine tw_bald rfl (fun f1183 => ?_)
        refine tw_if_eq rfl (fun q1184 => ?_) (fun q1184 => ?_)
        · try dsimp only [tvI_i, tvJ_j, tvR_r] at q1184
          have q1184i := zeqi (Y := 0) (by decide) q1184
          refine tw_iinc rfl rfl ?_
          refine tw_goto rfl ?_
          rw [zn, e61] at q1181
          rw [zn, e60, e55, e56] at p1182
          rw [zn, e60, e58] at q1184
          refine tG_cut (zW_mono zTt G dp) (Or.inr ⟨rfl, rfl, h1, n + 1, z + 1, _, _, rfl, hF, hz1, by omega, fun t ht => ?_, rfl⟩)
          rw [hall t ht, mnC_n (fun w => (of_decide_eq_true w.1).2.2 q1184)]
        · try dsimp only [tvI_i, tvJ_j, tvR_r] at q1184
          have q1184i := zneq (Y := 0) (by decide) q1184
          refine tw_aload rfl rfl ?_
          refine tw_iload rfl rfl ?_
          refine tw_aload rfl rfl ?_
          refine tw_iload rfl rfl ?_
          refine tw_iald rfl (fun f1185 => ?_)
          refine tw_aload rfl rfl ?_
          refine tw_getS rfl (hs_54_2 hF.1) ?_
          refine tw_iload rfl rfl ?_
          refine tw_iald rfl (fun f1186 => ?_)
          refine tw_imin rfl ?_
          refine tw_iast rfl (fun f1187 => ?_)
          refine tG_lsi f1187 hF.1 (fun h3 a3 => ?_)
          try dsimp only [tvI_i, tvJ_j, tvR_r] at a3
          have hF3 := aFr_s hF a3 rfl
          refine tw_iinc rfl rfl ?_
          refine tw_goto rfl ?_
          rw [zn, e61] at q1181
          rw [zn, e60, e55, e56] at p1182
          rw [zn, e60, e58] at q1184
          have hP : rdP h P k s n = true := decide_eq_true ⟨q1181, p1182, q1184⟩
          have b9 := h62 n (by omega)
          have t9 : rdT h n = (((tA h 62 n).toNatClampNeg : Nat) : Int) := (zclx b9.1).symm
          have p3 : (tA h1 62 z.toNatClampNeg).toNatClampNeg = (tA h 62 n).toNatClampNeg := by rw [zn, e62]
          have x3 : tA h3 110 (tA h1 62 z.toNatClampNeg).toNatClampNeg = if tA h1 57 (tA h1 60 z.toNatClampNeg).toNatClampNeg < tA h1 110 (tA h1 62 z.toNatClampNeg).toNatClampNeg then tA h1 57 (tA h1 60 z.toNatClampNeg).toNatClampNeg else tA h1 110 (tA h1 62 z.toNatClampNeg).toNatClampNeg := mIs_x a3
          rw [zn, e60, e62, e57] at x3
          refine tG_cut (zW_mono zTt G dp) (Or.inr ⟨rfl, rfl, h3, n + 1, z + 1, _, _, rfl, hF3, hz1, by omega, fun t ht => ?_, rfl⟩)
          by_cases y : t = (tA h 62 n).toNatClampNeg
          · rw [y, x3, mnC_y hP t9, mn2_i, hall _ (by omega)]
            rfl
          · rw [mIs_o a3 (Or.inr (by rw [p3]; exact y)), hall t ht, mnC_n (fun w => y (by have := w.2; omega))]
      · try dsimp only [tvI_i, tvJ_j, tvR_r] at p1182
        obtain rfl := e9.symm
        refine tw_if_eq rfl (fun _ => ?_) (fun z => absurd z (by decide))
        refine tw_iinc rfl rfl ?_
        refine tw_goto rfl ?_
        rw [zn, e61] at q1181
        rw [zn, e60, e55, e56] at p1182
        refine tG_cut (zW_mono zTt G dp) (Or.inr ⟨rfl, rfl, h1, n + 1, z + 1, _, _, rfl, hF, hz1, by omega, fun t ht => ?_, rfl⟩)
        rw [hall t ht, mnC_n (fun w => p1182 (of_decide_eq_true w.1).2.1)]
/-- the class finds that it fails, or does not -/
noncomputable def kfY (h : zH) (P : Int64) (k s : Int32) (e7 e8 e9 : Nat → Int) (K : Int32 → Nat) (cs : Int32 → List Nat) (cl : Int32 → Nat → rCt) (j : Nat) : Prop := (mnB (rdP h P k s) (rdT h) (rdS h) (tvI (tF h 54 9)).toNatClampNeg (j : Int) ≤ 200 ∧ ∃ r : Int32, MUc h k e7 e8 e9 K cs cl s.toNatClampNeg j r ∧ mnB (rdP h P k s) (rdT h) (rdS h) (tvI (tF h 54 9)).toNatClampNeg (j : Int) ≤ r.toInt)
noncomputable def kfN (h : zH) (P : Int64) (k s : Int32) (e7 e8 e9 : Nat → Int) (K : Int32 → Nat) (cs : Int32 → List Nat) (cl : Int32 → Nat → rCt) (j : Nat) : Prop := (¬ mnB (rdP h P k s) (rdT h) (rdS h) (tvI (tF h 54 9)).toNatClampNeg (j : Int) ≤ 200 ∨ ∃ r : Int32, MUc h k e7 e8 e9 K cs cl s.toNatClampNeg j r ∧ ¬ mnB (rdP h P k s) (rdT h) (rdS h) (tvI (tF h 54 9)).toNatClampNeg (j : Int) ≤ r.toInt)
noncomputable def kFr (h h2 : zH) : Prop := tSh h2 ∧ tF h2 = tF h ∧ tO h2 = tO h ∧ tN h2 = tN h ∧ ∀ p, ¬ p = 110 → tA h2 p = tA h p
theorem kFr_of {h h1 h2 : zH} (a : aFr (fun r => r = 110) h h1) (l : lFr h1 h2) : kFr h h2 := ⟨l.1, l.2.1.trans a.2.1, l.2.2.2.1.trans a.2.2.2.1, l.2.2.2.2.trans a.2.2.2.2.1, fun p hp => (congrFun l.2.2.1 p).trans (a.2.2.2.2.2 p hp)⟩
theorem f_firstKF {G : zG} (hG : G.1 = zProg) {h : zH} {P : Int64} {k s : Int32} {e7 e8 e9 : Nat → Int} {K : Int32 → Nat} {cs : Int32 → List Nat} {cl : Int32 → Nat → rCt} (hs : tSh h) (hn110 : tN h 110 = 600) (h62 : ∀ i, i < 600 → 0 ≤ (tA h 62 i).toInt ∧ (tA h 62 i).toInt ≤ 599) (h9 : 0 ≤ (tvI (tF h 54 9)).toInt ∧ (tvI (tF h 54 9)).toInt ≤ 600) (hnow : 0 ≤ (tvI (tF h 0 14)).toInt ∧ (tvI (tF h 0 14)).toInt ≤ 599) (hn : 0 ≤ (tvI (tF h 48 3)).toInt) (h52 : tN h 52 = 12) (h53 : tN h 53 = 80) (hss : 0 ≤ s.toInt ∧ s.toInt ≤ 2) (h107 : ∀ t : Nat, t < 600 → (tA h 107 t).toInt = e7 t) (h108 : ∀ t : Nat, t < 600 → (tA h 108 t).toInt = e8 t) (h109 : ∀ t : Nat, t < 600 → (tA h 109 t).toInt = e9 t) (D : ∀ m : Int32, rIc h (sRI (tA h 49) m (tvI (tF h 48 3)).toNatClampNeg) (K m) (cs m) (cl m)) : tC zTt G 168 [.ref 0, .long P, .int k, .int s] h (fun w h2 => kFr h h2 ∧ fMo (kfY h P k s e7 e8 e9 K cs cl) (kfN h P k s e7 e8 e9 K cs cl) (tvI (tF h 0 14)).toInt w) := by
  refine tC_in (by rw [hG]; rfl) (fun dp => ?_)
  refine tw_aload rfl rfl ?_
  refine tw_getS rfl (hs_0_4 hs) ?_
  refine tw_lload rfl rfl ?_
  refine tw_iload rfl rfl ?_
  refine tw_iload rfl rfl ?_
  refine tw_aload rfl rfl ?_
  refine tw_getS rfl (hs_0_13 hs) ?_
  refine tw_virt4 rfl (f_learn hG hs hn110 h62 h9) (fun wp1188 hp1188 p1188 => ?_)
  obtain ⟨rfl, FL, ZL⟩ := p1188
  refine tw_push rfl ?_
  refine tw_istore rfl ?_
  refine tG_loop (zW_mono zTt G dp) (zW_conj zTt G dp) (V := fun pc L st h9 _ _ => pc = 18 ∧ st = [] ∧ ∃ (h1 : zH) (j : Nat) (z : Int32), h1 = h9 ∧ lFr hp1188 h1 ∧ z.toInt = (j : Int) ∧ (j : Int) ≤ (tvI (tF h 0 14)).toInt + 1 ∧ (∀ i, i < j → kfN h P k s e7 e8 e9 K cs cl i) ∧ L = [some (.ref 0), some (.long P), none, some (.int k), some (.int s), some (.int z)]) ?_ (⟨rfl, rfl, _, 0, 0, rfl, ⟨FL.1, rfl, rfl, rfl, rfl⟩, rfl, by show (0 : Int) ≤ _; omega, fun i hi => absurd hi (Nat.not_lt_zero _), rfl⟩)
  rintro _ _ _ _ _ _ ⟨rfl, rfl, h1, j, z, rfl, hF, hz, hjn, hall, rfl⟩
  have e14 : (tvI (tF h1 0 14)).toInt = (tvI (tF h 0 14)).toInt := by rw [hF.2.1, FL.2.1]
  refine tw_iload rfl rfl ?_
  refine tw_aload rfl rfl ?_
  refine tw_getS rfl (hi_0_14 hF.1) ?_
  refine tw_ic_gt rfl (fun q1189 => ?_) (fun q1189 => ?_)
  · try dsimp only [tvI_i, tvJ_j, tvR_r] at q1189
    refine tw_push rfl ?_
    exact tw_iret rfl ⟨kFr_of FL hF, Or.inl ⟨rfl, fun i hi => hall i (by omega)⟩⟩
  · try dsimp only [tvI_i, tvJ_j, tvR_r] at q1189
    have zo : z = Int32.ofNat j := zof hz
    have zn := zof_cl hz
    have hj6 : j < 600 := by omega
    have hz1 : (z + 1).toInt = ((j + 1 : Nat) : Int) := zincN hz (by omega)
    have eb : tA h1 = tA hp1188 := hF.2.2.1
    have eF9 : tF h1 = tF h := hF.2.1.trans FL.2.1
    have u0 : (tA h1 110 z.toNatClampNeg).toInt = mnB (rdP h P k s) (rdT h) (rdS h) (tvI (tF h 54 9)).toNatClampNeg (j : Int) := by rw [zn, eb]; exact ZL j hj6
    have e49 : tA h1 49 = tA h 49 := by rw [eb]; exact FL.2.2.2.2.2 49 (by decide)
    have e3 : tA h1 3 = tA h 3 := by rw [eb]; exact FL.2.2.2.2.2 3 (by decide)
    have e107 : tA h1 107 = tA h 107 := by rw [eb]; exact FL.2.2.2.2.2 107 (by decide)
    have e108 : tA h1 108 = tA h 108 := by rw [eb]; exact FL.2.2.2.2.2 108 (by decide)
    have e109 : tA h1 109 = tA h 109 := by rw [eb]; exact FL.2.2.2.2.2 109 (by decide)
    have hn2 : 0 ≤ (tvI (tF h1 48 3)).toInt := by rw [eF9]; exact hn
    have eN9 : tN h1 = tN h := hF.2.2.2.2.trans FL.2.2.2.2.1
    have k200 : (200 : Int32).toInt = 200 := rfl
    refine tw_aload rfl rfl ?_
    refine tw_getS rfl (hs_0_13 hF.1) ?_
    refine tw_iload rfl rfl ?_
    refine tw_iald rfl (fun f1190 => ?_)
    refine tw_push rfl ?_
    refine tw_ic_gt rfl (fun q1191 => ?_) (fun q1191 => ?_)
    · try dsimp only [tvI_i, tvJ_j, tvR_r] at q1191
      refine tw_iinc rfl rfl ?_
      refine tw_goto rfl ?_
      have hno : kfN h P k s e7 e8 e9 K cs cl j := Or.inl (by omega)
      exact tG_cut (zW_mono zTt G dp) (Or.inr ⟨rfl, rfl, _, j + 1, z + 1, rfl, hF, hz1, by omega, fun i hi => (Classical.em (i = j)).elim (fun w => by rw [w]; exact hno) (fun w => hall i (by omega)), rfl⟩)
    · try dsimp only [tvI_i, tvJ_j, tvR_r] at q1191
      refine tw_aload rfl rfl ?_
      refine tw_getS rfl (hs_0_13 hF.1) ?_
      refine tw_iload rfl rfl ?_
      refine tw_iald rfl (fun f1192 => ?_)
      refine tw_aload rfl rfl ?_
      refine tw_iload rfl rfl ?_
      refine tw_iload rfl rfl ?_
      refine tw_iload rfl rfl ?_
      refine tw_virt3 rfl (f_mustOf hG hF.1 hn2 (by rw [eN9]; exact h52) (by rw [eN9]; exact h53) (K := K z) (cs := cs z) (cl := cl z) (th := s.toNatClampNeg) (by rw [e49, eF9]; exact (rIc_af (D z) FL (fun q w => by omega)).fr hF) (zclx (by omega)).symm (by rw [zclE]; omega)) (fun wp1193 hp1193 p1193 => ?_)
      obtain ⟨LM, r, W, rfl, hW, hm⟩ := p1193
      rw [e3, e107, e108, e109, zn, zo] at hW
      rw [zo] at hm
      have hF2 := lFr_t hF LM
      have hMU : MUc h k e7 e8 e9 K cs cl s.toNatClampNeg j r := ⟨W, qS_of hW ((Int32.toInt_toInt64 _).trans (h107 j hj6)) ((Int32.toInt_toInt64 _).trans (h108 j hj6)) ((Int32.toInt_toInt64 _).trans (h109 j hj6)), hm⟩
      refine tw_ic_gt rfl (fun q1194 => ?_) (fun q1194 => ?_)
      · try dsimp only [tvI_i, tvJ_j, tvR_r] at q1194
        refine tw_iinc rfl rfl ?_
        refine tw_goto rfl ?_
        have hno : kfN h P k s e7 e8 e9 K cs cl j := Or.inr ⟨r, hMU, by omega⟩
        exact tG_cut (zW_mono zTt G dp) (Or.inr ⟨rfl, rfl, _, j + 1, z + 1, rfl, hF2, hz1, by omega, fun i hi => (Classical.em (i = j)).elim (fun w => by rw [w]; exact hno) (fun w => hall i (by omega)), rfl⟩)
      · try dsimp only [tvI_i, tvJ_j, tvR_r] at q1194
        refine tw_iload rfl rfl ?_
        exact tw_iret rfl ⟨kFr_of FL hF2, Or.inr ⟨j, by omega, ⟨by omega, r, hMU, by omega⟩, hall, congrArg (fun x => some (Value.int x)) zo⟩⟩
theorem rd_e {a h : zH} (e : ∀ p, p < 107 → tA a p = tA h p) : rdP a = rdP h ∧ rdT a = rdT h ∧ rdS a = rdS h := by
  refine ⟨?_, ?_, ?_⟩
  · funext P k s i
    unfold rdP
    rw [e 61 (by decide), e 60 (by decide), e 55 (by decide), e 56 (by decide), e 58 (by decide)]
  · funext i
    unfold rdT
    rw [e 62 (by decide)]
  · funext i
    unfold rdS
    rw [e 57 (by decide), e 60 (by decide)]
theorem kf_e {a h : zH} (e : ∀ p, p < 107 → tA a p = tA h p) (eF : tF a = tF h) : kfY a = kfY h ∧ kfN a = kfN h := by
  obtain ⟨r1, r2, r3⟩ := rd_e e
  constructor
  · funext P k s e7 e8 e9 K cs cl j
    unfold kfY MUc
    rw [r1, r2, r3, eF, e 3 (by decide)]
  · funext P k s e7 e8 e9 K cs cl j
    unfold kfN MUc
    rw [r1, r2, r3, eF, e 3 (by decide)]
theorem f_knewFails {G : zG} (hG : G.1 = zProg) {h : zH} {p k s : Int32} {K : Int32 → Nat} {cs : Int32 → List Nat} {cl : Int32 → Nat → rCt} (hs : tSh h) (hL : R_cl h) (hg : ∀ i r : Nat, (i : Int) < (tvI (tF h 36 4)).toInt → tO h 39 i = some r → 182 ≤ r) (hK : R_ckind h) (hT : R_ctl h) (hn107 : tN h 107 = 600) (hn108 : tN h 108 = 600) (hn109 : tN h 109 = 600) (h123 : ∀ i, i < 300 → 0 ≤ (tA h 123 i).toInt ∧ (tA h 123 i).toInt ≤ 599) (h36 : 0 ≤ (tvI (tF h 36 4)).toInt ∧ (tvI (tF h 36 4)).toInt ≤ 300) (h67 : ∀ i, i < 200 → 0 ≤ (tA h 67 i).toInt ∧ (tA h 67 i).toInt ≤ 599) (h70 : ∀ i, i < 200 → 0 ≤ (tA h 70 i).toInt ∧ (tA h 70 i).toInt ≤ 9) (h63 : 0 ≤ (tvI (tF h 63 8)).toInt ∧ (tvI (tF h 63 8)).toInt ≤ 200) (hn110 : tN h 110 = 600) (h62 : ∀ i, i < 600 → 0 ≤ (tA h 62 i).toInt ∧ (tA h 62 i).toInt ≤ 599) (h9 : 0 ≤ (tvI (tF h 54 9)).toInt ∧ (tvI (tF h 54 9)).toInt ≤ 600) (hnow : 0 ≤ (tvI (tF h 0 14)).toInt ∧ (tvI (tF h 0 14)).toInt ≤ 599) (hn : 0 ≤ (tvI (tF h 48 3)).toInt) (h52 : tN h 52 = 12) (h53 : tN h 53 = 80) (D : ∀ m : Int32, rIc h (sRI (tA h 49) m (tvI (tF h 48 3)).toNatClampNeg) (K m) (cs m) (cl m)) : tC zTt G 132 [.ref 0, .int p, .int k, .int s] h (fun w h2 => (((0 ≤ p.toInt ∧ p.toInt < (tvI (tF h 36 2)).toInt) ∧ (0 ≤ k.toInt ∧ k.toInt < (tvI (tF h 1 6)).toInt) ∧ (0 ≤ s.toInt ∧ s.toInt ≤ 2)) ∧ fMo (kfY h ((1 : Int64) <<< (p.toInt64 &&& 63)) k s (fun j => bN (wK h k) (tK9 h) (tvI (tF h 36 4)).toNatClampNeg (j : Int)) (fun j => bN (wF h k) (tF9 h) (tvI (tF h 63 8)).toNatClampNeg (j : Int)) (fun j => bN (wD h k) (tF9 h) (tvI (tF h 63 8)).toNatClampNeg (j : Int)) K cs cl) (kfN h ((1 : Int64) <<< (p.toInt64 &&& 63)) k s (fun j => bN (wK h k) (tK9 h) (tvI (tF h 36 4)).toNatClampNeg (j : Int)) (fun j => bN (wF h k) (tF9 h) (tvI (tF h 63 8)).toNatClampNeg (j : Int)) (fun j => bN (wD h k) (tF9 h) (tvI (tF h 63 8)).toNatClampNeg (j : Int)) K cs cl) (tvI (tF h 0 14)).toInt w) ∨ (¬ ((0 ≤ p.toInt ∧ p.toInt < (tvI (tF h 36 2)).toInt) ∧ (0 ≤ k.toInt ∧ k.toInt < (tvI (tF h 1 6)).toInt) ∧ (0 ≤ s.toInt ∧ s.toInt ≤ 2)) ∧ w = some (.int (-2)))) := by
  refine tC_in (by rw [hG]; rfl) (fun dp => ?_)
  refine tw_aload rfl rfl ?_
  refine tw_getS rfl (hs_0_1 hs) ?_
  refine tw_iload rfl rfl ?_
  refine tw_virt1 rfl (f_hasPerson hG hs) (fun w9 h9 p1195 => ?_)
  obtain ⟨⟨p1195, rfl⟩ | ⟨p1195, rfl⟩, e9⟩ := p1195
  · try dsimp only [tvI_i, tvJ_j, tvR_r] at p1195
    obtain rfl := e9.symm
    refine tw_if_eq rfl (fun z => absurd z (by decide)) (fun _ => ?_)
    refine tw_aload rfl rfl ?_
    refine tw_getS rfl (hs_0_0 hs) ?_
    refine tw_iload rfl rfl ?_
    refine tw_virt1 rfl (f_hasKind hG hs) (fun w9 h9 p1196 => ?_)
    obtain ⟨⟨p1196, rfl⟩ | ⟨p1196, rfl⟩, e9⟩ := p1196
    · try dsimp only [tvI_i, tvJ_j, tvR_r] at p1196
      obtain rfl := e9.symm
      refine tw_if_eq rfl (fun z => absurd z (by decide)) (fun _ => ?_)
      refine tw_iload rfl rfl ?_
      refine tw_stat1 rfl (f_isSort hG) (fun w9 h9 p1197 => ?_)
      obtain ⟨⟨p1197, rfl⟩ | ⟨p1197, rfl⟩, e9⟩ := p1197
      · try dsimp only [tvI_i, tvJ_j, tvR_r] at p1197
        obtain rfl := e9.symm
        refine tw_if_ne rfl (fun _ => ?_) (fun z => absurd z (by decide))
        refine tw_aload rfl rfl ?_
        refine tw_iload rfl rfl ?_
        refine tw_virt1 rfl (f_tally hG hs hL hg hK hT hn107 hn108 hn109 h123 h36 h67 h70 h63) (fun wp1198 hp1198 p1198 => ?_)
        obtain ⟨rfl, FT, T7, T8, T9⟩ := p1198
        have eA : ∀ p, p < 107 → tA hp1198 p = tA h p := fun p hp => FT.2.2.2.2.2 p (fun z => by omega)
        have eF : tF hp1198 = tF h := FT.2.1
        have eN : tN hp1198 = tN h := FT.2.2.2.2.1
        refine tw_aload rfl rfl ?_
        refine tw_push rfl ?_
        refine tw_iload rfl rfl ?_
        refine tw_lshl rfl ?_
        refine tw_iload rfl rfl ?_
        refine tw_iload rfl rfl ?_
        refine tw_virt3 rfl (f_firstKF hG FT.1 (e7 := (fun j => bN (wK h k) (tK9 h) (tvI (tF h 36 4)).toNatClampNeg (j : Int))) (e8 := (fun j => bN (wF h k) (tF9 h) (tvI (tF h 63 8)).toNatClampNeg (j : Int))) (e9 := (fun j => bN (wD h k) (tF9 h) (tvI (tF h 63 8)).toNatClampNeg (j : Int))) (K := K) (cs := cs) (cl := cl) (by rw [eN]; exact hn110) (by rw [eA 62 (by decide)]; exact h62) (by rw [eF]; exact h9) (by rw [eF]; exact hnow) (by rw [eF]; exact hn) (by rw [eN]; exact h52) (by rw [eN]; exact h53) (by omega) T7 T8 T9 (fun m => by rw [eA 49 (by decide), eF]; exact rIc_af (D m) FT (fun q z => by omega))) (fun wp1199 hp1199 p1199 => ?_)
        obtain ⟨KF, hw⟩ := p1199
        rw [(kf_e eA eF).1, (kf_e eA eF).2, eF] at hw
        obtain ⟨x9, rfl⟩ : ∃ x9, wp1199 = some (.int x9) := by rcases hw with ⟨z, -⟩ | ⟨j, -, -, -, z⟩ <;> exact ⟨_, z⟩
        exact tw_iret rfl (Or.inl ⟨by omega, hw⟩)
      · try dsimp only [tvI_i, tvJ_j, tvR_r] at p1197
        obtain rfl := e9.symm
        refine tw_if_ne rfl (fun z => absurd z (by decide)) (fun _ => ?_)
        refine tw_push rfl ?_
        exact tw_iret rfl (Or.inr ⟨by omega, rfl⟩)
    · try dsimp only [tvI_i, tvJ_j, tvR_r] at p1196
      obtain rfl := e9.symm
      refine tw_if_eq rfl (fun _ => ?_) (fun z => absurd z (by decide))
      refine tw_push rfl ?_
      exact tw_iret rfl (Or.inr ⟨by omega, rfl⟩)
  · try dsimp only [tvI_i, tvJ_j, tvR_r] at p1195
    obtain rfl := e9.symm
    refine tw_if_eq rfl (fun _ => ?_) (fun z => absurd z (by decide))
    refine tw_push rfl ?_
    exact tw_iret rfl (Or.inr ⟨by omega, rfl⟩)
noncomputable def MUm (h : zH) (k : Int32) (K : Int32 → Nat) (cs : Int32 → List Nat) (cl : Int32 → Nat → rCt) (th j : Nat) (r : Int32) : Prop := (K (Int32.ofNat j) = 0 ∧ r = -1) ∨ ∃ W, qS W (Int32.ofNat j).toInt64 k.toInt64 (tA h 114 k.toNatClampNeg).toInt64 (Int32.ofNat j).toInt64 (bN (mK9 h k (Int32.ofNat j)) (tK9 h) (tvI (tF h 111 5)).toNatClampNeg (Int32.ofNat j).toInt) (bN (mF9 h k) (mT9 h) (tvI (tF h 111 59)).toNatClampNeg (Int32.ofNat j).toInt) (bN (mD9 h k) (mT9 h) (tvI (tF h 111 59)).toNatClampNeg (Int32.ofNat j).toInt) ∧ muO W (cs (Int32.ofNat j)) (cl (Int32.ofNat j)) (K (Int32.ofNat j)) th r
noncomputable def kmY (h : zH) (p k s : Int32) (K : Int32 → Nat) (cs : Int32 → List Nat) (cl : Int32 → Nat → rCt) (j : Nat) : Prop := ¬ sK (tA h 148) (tA h 149) (tA h 150) (tA h 145) (tA h 146) (tA h 147) (tA h 151) p k s (Int32.ofNat j) 1 (tvI (tF h 111 51)).toNatClampNeg = -1 ∧ ∃ r : Int32, MUm h k K cs cl s.toNatClampNeg j r ∧ (sK (tA h 148) (tA h 149) (tA h 150) (tA h 145) (tA h 146) (tA h 147) (tA h 151) p k s (Int32.ofNat j) 1 (tvI (tF h 111 51)).toNatClampNeg).toInt ≤ r.toInt
noncomputable def kmN (h : zH) (p k s : Int32) (K : Int32 → Nat) (cs : Int32 → List Nat) (cl : Int32 → Nat → rCt) (j : Nat) : Prop := sK (tA h 148) (tA h 149) (tA h 150) (tA h 145) (tA h 146) (tA h 147) (tA h 151) p k s (Int32.ofNat j) 1 (tvI (tF h 111 51)).toNatClampNeg = -1 ∨ ∃ r : Int32, MUm h k K cs cl s.toNatClampNeg j r ∧ ¬ (sK (tA h 148) (tA h 149) (tA h 150) (tA h 145) (tA h 146) (tA h 147) (tA h 151) p k s (Int32.ofNat j) 1 (tvI (tF h 111 51)).toNatClampNeg).toInt ≤ r.toInt
theorem rIm.fr {h h2 : zH} {y : Int32} {K : Nat} {cs : List Nat} {cl : Nat → rCt} (D : rIm h y K cs cl) (k : lFr h h2) : rIm h2 y K cs cl := rIm_fr D (fun p _ _ => congrFun k.2.2.1 p)
theorem MU_fr {h h1 : zH} {k : Int32} (e1 : tA h1 = tA h) (e2 : tF h1 = tF h) : mK9 h1 = mK9 h ∧ tK9 h1 = tK9 h ∧ mF9 h1 = mF9 h ∧ mD9 h1 = mD9 h ∧ mT9 h1 = mT9 h := by
  refine ⟨?_, ?_, ?_, ?_, ?_⟩ <;> funext
  · unfold mK9; rw [e1]
  · unfold tK9; rw [e1]
  · unfold mF9; rw [e1]
  · unfold mD9; rw [e1]
  · unfold mT9; rw [e1]
theorem g_knewThat {G : zG} (hG : G.1 = zProg) {h : zH} {p k s : Int32} {K : Int32 → Nat} {cs : Int32 → List Nat} {cl : Int32 → Nat → rCt} (hs : tSh h) (hss : 0 ≤ s.toInt ∧ s.toInt ≤ 2) (h1n : 0 ≤ (tvI (tF h 111 1)).toInt ∧ (tvI (tF h 111 1)).toInt ≤ 599) (h51 : 0 ≤ (tvI (tF h 111 51)).toInt) (hn : 0 ≤ (tvI (tF h 111 30)).toInt) (h5 : 0 ≤ (tvI (tF h 111 5)).toInt ∧ (tvI (tF h 111 5)).toInt ≤ 300) (h59 : 0 ≤ (tvI (tF h 111 59)).toInt ∧ (tvI (tF h 111 59)).toInt ≤ 200) (h156 : ∀ i, i < 200 → 0 ≤ (tA h 156 i).toInt ∧ (tA h 156 i).toInt ≤ 9) (h133 : ∀ i, i < 5000 → 0 ≤ (tA h 133 i).toInt ∧ (tA h 133 i).toInt ≤ 14) (h134 : ∀ i, i < 5000 → 0 ≤ (tA h 134 i).toInt ∧ (tA h 134 i).toInt ≤ 99999) (h135 : ∀ i, i < 120 → 0 ≤ (tA h 135 i).toInt ∧ (tA h 135 i).toInt ≤ 3) (h136 : ∀ i, i < 120 → 0 ≤ (tA h 136 i).toInt ∧ (tA h 136 i).toInt ≤ 99999) (h137 : ∀ i, i < 120 → 0 ≤ (tA h 137 i).toInt ∧ (tA h 137 i).toInt ≤ 410) (h138 : ∀ i, i < 120 → 0 ≤ (tA h 138 i).toInt ∧ (tA h 138 i).toInt ≤ 410) (h139 : ∀ i, i < 120 → 0 ≤ (tA h 139 i).toInt ∧ (tA h 139 i).toInt ≤ 410) (D : ∀ m : Int32, rIm h (sRI (tA h 141) m (tvI (tF h 111 30)).toNatClampNeg) (K m) (cs m) (cl m)) : tC zTt G 242 [.ref 111, .int p, .int k, .int s] h (fun w h2 => lFr h h2 ∧ fMo (kmY h p k s K cs cl) (kmN h p k s K cs cl) (tvI (tF h 111 1)).toInt w) := by
  refine tC_in (by rw [hG]; rfl) (fun dp => ?_)
  refine tw_push rfl ?_
  refine tw_istore rfl ?_
  refine tG_loop (zW_mono zTt G dp) (zW_conj zTt G dp) (V := fun pc L st h9 _ _ => pc = 3 ∧ st = [] ∧ ∃ (h1 : zH) (j : Nat) (z : Int32) (l5 : Option Value), h1 = h9 ∧ lFr h h1 ∧ z.toInt = (j : Int) ∧ (j : Int) ≤ (tvI (tF h 111 1)).toInt + 1 ∧ (∀ i, i < j → kmN h p k s K cs cl i) ∧ L = [some (.ref 111), some (.int p), some (.int k), some (.int s), some (.int z), l5]) ?_ (⟨rfl, rfl, h, 0, 0, _, rfl, ⟨hs, rfl, rfl, rfl, rfl⟩, rfl, by show (0 : Int) ≤ _; omega, fun i hi => absurd hi (Nat.not_lt_zero _), rfl⟩)
  rintro _ _ _ _ _ _ ⟨rfl, rfl, h1, j, z, l5, rfl, hF, hz, hjn, hall, rfl⟩
  have e14 : (tvI (tF h1 111 1)).toInt = (tvI (tF h 111 1)).toInt := by rw [hF.2.1]
  refine tw_iload rfl rfl ?_
  refine tw_aload rfl rfl ?_
  refine tw_getS rfl (hi_111_1 hF.1) ?_
  refine tw_ic_gt rfl (fun q1200 => ?_) (fun q1200 => ?_)
  · try dsimp only [tvI_i, tvJ_j, tvR_r] at q1200
    refine tw_push rfl ?_
    exact tw_iret rfl ⟨hF, Or.inl ⟨rfl, fun i hi => hall i (by omega)⟩⟩
  · try dsimp only [tvI_i, tvJ_j, tvR_r] at q1200
    have zo : z = Int32.ofNat j := zof hz
    have hj6 : j < 600 := by omega
    have hz1 : (z + 1).toInt = ((j + 1 : Nat) : Int) := zincN hz (by omega)
    have eA := hF.2.2.1
    have eF := hF.2.1
    have hr0 : 0 ≤ (tvI (tF h1 111 51)).toInt := by rw [eF]; exact h51
    refine tw_aload rfl rfl ?_
    refine tw_iload rfl rfl ?_
    refine tw_iload rfl rfl ?_
    refine tw_iload rfl rfl ?_
    refine tw_iload rfl rfl ?_
    refine tw_push rfl ?_
    refine tw_virt5 rfl (g_knewOf hG hF.1 hr0) (fun wp1201 hp1201 p1201 => ?_)
    obtain ⟨rfl, e9⟩ := p1201
    obtain rfl := e9.symm
    rw [eA, eF]
    refine tw_istore rfl ?_
    refine tw_iload rfl rfl ?_
    refine tw_push rfl ?_
    refine tw_ic_eq rfl (fun q1202 => ?_) (fun q1202 => ?_)
    · try dsimp only [tvI_i, tvJ_j, tvR_r] at q1202
      have q1202i := zeqi (Y := (-1)) (by decide) q1202
      refine tw_iinc rfl rfl ?_
      refine tw_goto rfl ?_
      have hno : kmN h p k s K cs cl j := Or.inl (by rw [← zo]; exact q1202)
      exact tG_cut (zW_mono zTt G dp) (Or.inr ⟨rfl, rfl, _, j + 1, z + 1, _, rfl, hF, hz1, by omega, fun i hi => (Classical.em (i = j)).elim (fun w => by rw [w]; exact hno) (fun w => hall i (by omega)), rfl⟩)
    · try dsimp only [tvI_i, tvJ_j, tvR_r] at q1202
      have q1202i := zneq (Y := (-1)) (by decide) q1202
      refine tw_iload rfl rfl ?_
      refine tw_aload rfl rfl ?_
      refine tw_iload rfl rfl ?_
      refine tw_iload rfl rfl ?_
      refine tw_iload rfl rfl ?_
      refine tw_virt3 rfl (g_mustOf hG hF.1 (K := K z) (cs := cs z) (cl := cl z) (th := s.toNatClampNeg) (by rw [eF]; exact hn) (by rw [eA, eF]; exact (D z).fr hF) (zclx (by omega)).symm (by rw [zclE]; omega) (by rw [eF]; exact h5) (by rw [eF]; exact h59) (by rw [eA]; exact h156) (by rw [eA]; exact h133) (by rw [eA]; exact h134) (by rw [eA]; exact h135) (by rw [eA]; exact h136) (by rw [eA]; exact h137) (by rw [eA]; exact h138) (by rw [eA]; exact h139)) (fun wp1203 hp1203 p1203 => ?_)
      obtain ⟨LM, r, rfl, hm⟩ := p1203
      have hF2 := lFr_t hF LM
      obtain ⟨f1, f2, f3, f4, f5⟩ := MU_fr (k := k) eA eF
      rw [f1, f2, f3, f4, f5, eA, eF, zo] at hm
      have hMU : MUm h k K cs cl s.toNatClampNeg j r := hm
      refine tw_ic_gt rfl (fun q1204 => ?_) (fun q1204 => ?_)
      · try dsimp only [tvI_i, tvJ_j, tvR_r] at q1204
        refine tw_iinc rfl rfl ?_
        refine tw_goto rfl ?_
        have hno : kmN h p k s K cs cl j := Or.inr ⟨r, hMU, by rw [← zo]; omega⟩
        exact tG_cut (zW_mono zTt G dp) (Or.inr ⟨rfl, rfl, _, j + 1, z + 1, _, rfl, hF2, hz1, by omega, fun i hi => (Classical.em (i = j)).elim (fun w => by rw [w]; exact hno) (fun w => hall i (by omega)), rfl⟩)
      · try dsimp only [tvI_i, tvJ_j, tvR_r] at q1204
        refine tw_iload rfl rfl ?_
        exact tw_iret rfl ⟨hF2, Or.inr ⟨j, by omega, ⟨by rw [← zo]; exact q1202, r, hMU, by rw [← zo]; omega⟩, hall, congrArg (fun x => some (Value.int x)) zo⟩⟩
theorem g_knewFails {G : zG} (hG : G.1 = zProg) {h : zH} {p k s : Int32} {K : Int32 → Nat} {cs : Int32 → List Nat} {cl : Int32 → Nat → rCt} (hs : tSh h) (hk2 : 0 ≤ (tvI (tF h 111 2)).toInt) (hk3 : 0 ≤ (tvI (tF h 111 3)).toInt) (h1n : 0 ≤ (tvI (tF h 111 1)).toInt ∧ (tvI (tF h 111 1)).toInt ≤ 599) (h51 : 0 ≤ (tvI (tF h 111 51)).toInt) (hn : 0 ≤ (tvI (tF h 111 30)).toInt) (h5 : 0 ≤ (tvI (tF h 111 5)).toInt ∧ (tvI (tF h 111 5)).toInt ≤ 300) (h59 : 0 ≤ (tvI (tF h 111 59)).toInt ∧ (tvI (tF h 111 59)).toInt ≤ 200) (h156 : ∀ i, i < 200 → 0 ≤ (tA h 156 i).toInt ∧ (tA h 156 i).toInt ≤ 9) (h133 : ∀ i, i < 5000 → 0 ≤ (tA h 133 i).toInt ∧ (tA h 133 i).toInt ≤ 14) (h134 : ∀ i, i < 5000 → 0 ≤ (tA h 134 i).toInt ∧ (tA h 134 i).toInt ≤ 99999) (h135 : ∀ i, i < 120 → 0 ≤ (tA h 135 i).toInt ∧ (tA h 135 i).toInt ≤ 3) (h136 : ∀ i, i < 120 → 0 ≤ (tA h 136 i).toInt ∧ (tA h 136 i).toInt ≤ 99999) (h137 : ∀ i, i < 120 → 0 ≤ (tA h 137 i).toInt ∧ (tA h 137 i).toInt ≤ 410) (h138 : ∀ i, i < 120 → 0 ≤ (tA h 138 i).toInt ∧ (tA h 138 i).toInt ≤ 410) (h139 : ∀ i, i < 120 → 0 ≤ (tA h 139 i).toInt ∧ (tA h 139 i).toInt ≤ 410) (D : ∀ m : Int32, rIm h (sRI (tA h 141) m (tvI (tF h 111 30)).toNatClampNeg) (K m) (cs m) (cl m)) : tC zTt G 243 [.ref 111, .int p, .int k, .int s] h (fun w h2 => (((0 ≤ p.toInt ∧ p.toInt < (tvI (tF h 111 2)).toInt) ∧ (0 ≤ k.toInt ∧ k.toInt < (tvI (tF h 111 3)).toInt) ∧ (0 ≤ s.toInt ∧ s.toInt ≤ 2)) ∧ fMo (kmY h p k s K cs cl) (kmN h p k s K cs cl) (tvI (tF h 111 1)).toInt w) ∨ (¬ ((0 ≤ p.toInt ∧ p.toInt < (tvI (tF h 111 2)).toInt) ∧ (0 ≤ k.toInt ∧ k.toInt < (tvI (tF h 111 3)).toInt) ∧ (0 ≤ s.toInt ∧ s.toInt ≤ 2)) ∧ w = some (.int (-2)))) := by
  refine tC_in (by rw [hG]; rfl) (fun dp => ?_)
  refine tw_aload rfl rfl ?_
  refine tw_iload rfl rfl ?_
  refine tw_virt1 rfl (g_isPerson hG hs hk2) (fun w9 h9 p1205 => ?_)
  obtain ⟨⟨p1205, rfl⟩ | ⟨p1205, rfl⟩, e9⟩ := p1205
  · try dsimp only [tvI_i, tvJ_j, tvR_r] at p1205
    obtain rfl := e9.symm
    refine tw_if_eq rfl (fun z => absurd z (by decide)) (fun _ => ?_)
    refine tw_aload rfl rfl ?_
    refine tw_iload rfl rfl ?_
    refine tw_virt1 rfl (g_isKind hG hs hk3) (fun w9 h9 p1206 => ?_)
    obtain ⟨⟨p1206, rfl⟩ | ⟨p1206, rfl⟩, e9⟩ := p1206
    · try dsimp only [tvI_i, tvJ_j, tvR_r] at p1206
      obtain rfl := e9.symm
      refine tw_if_eq rfl (fun z => absurd z (by decide)) (fun _ => ?_)
      refine tw_iload rfl rfl ?_
      refine tw_stat1 rfl (g_isSort hG) (fun w9 h9 p1207 => ?_)
      obtain ⟨⟨p1207, rfl⟩ | ⟨p1207, rfl⟩, e9⟩ := p1207
      · try dsimp only [tvI_i, tvJ_j, tvR_r] at p1207
        obtain rfl := e9.symm
        refine tw_if_eq rfl (fun z => absurd z (by decide)) (fun _ => ?_)
        refine tw_aload rfl rfl ?_
        refine tw_iload rfl rfl ?_
        refine tw_iload rfl rfl ?_
        refine tw_iload rfl rfl ?_
        refine tw_virt3 rfl (g_knewThat hG hs (by omega) h1n h51 hn h5 h59 h156 h133 h134 h135 h136 h137 h138 h139 D) (fun wp1208 hp1208 p1208 => ?_)
        obtain ⟨-, p1208⟩ := p1208
        obtain ⟨x9, rfl⟩ : ∃ x9, wp1208 = some (.int x9) := by rcases p1208 with ⟨z, -⟩ | ⟨j, -, -, -, z⟩ <;> exact ⟨_, z⟩
        refine tw_goto rfl ?_
        exact tw_iret rfl (Or.inl ⟨by omega, p1208⟩)
      · try dsimp only [tvI_i, tvJ_j, tvR_r] at p1207
        obtain rfl := e9.symm
        refine tw_if_eq rfl (fun _ => ?_) (fun z => absurd z (by decide))
        refine tw_push rfl ?_
        exact tw_iret rfl (Or.inr ⟨by omega, rfl⟩)
    · try dsimp only [tvI_i, tvJ_j, tvR_r] at p1206
      obtain rfl := e9.symm
      refine tw_if_eq rfl (fun _ => ?_) (fun z => absurd z (by decide))
      refine tw_push rfl ?_
      exact tw_iret rfl (Or.inr ⟨by omega, rfl⟩)
  · try dsimp only [tvI_i, tvJ_j, tvR_r] at p1205
    obtain rfl := e9.symm
    refine tw_if_eq rfl (fun _ => ?_) (fun z => absurd z (by decide))
    refine tw_push rfl ?_
    exact tw_iret rfl (Or.inr ⟨by omega, rfl⟩)
noncomputable def ph_kfc (p k s : Int32) (h : zH) (w : Option Value) (_h2 : zH) : Prop := (((0 ≤ p.toInt ∧ p.toInt < (tvI (tF h 36 2)).toInt) ∧ (0 ≤ k.toInt ∧ k.toInt < (tvI (tF h 1 6)).toInt) ∧ (0 ≤ s.toInt ∧ s.toInt ≤ 2)) ∧ fMo (kfY h ((1 : Int64) <<< (p.toInt64 &&& 63)) k s (fun j => bN (wK h k) (tK9 h) (tvI (tF h 36 4)).toNatClampNeg (j : Int)) (fun j => bN (wF h k) (tF9 h) (tvI (tF h 63 8)).toNatClampNeg (j : Int)) (fun j => bN (wD h k) (tF9 h) (tvI (tF h 63 8)).toNatClampNeg (j : Int)) (fun m => rKn h (sRI (tA h 49) m (tvI (tF h 48 3)).toNatClampNeg)) (fun m => rCn h (sRI (tA h 49) m (tvI (tF h 48 3)).toNatClampNeg)) (fun m => rLn h (sRI (tA h 49) m (tvI (tF h 48 3)).toNatClampNeg))) (kfN h ((1 : Int64) <<< (p.toInt64 &&& 63)) k s (fun j => bN (wK h k) (tK9 h) (tvI (tF h 36 4)).toNatClampNeg (j : Int)) (fun j => bN (wF h k) (tF9 h) (tvI (tF h 63 8)).toNatClampNeg (j : Int)) (fun j => bN (wD h k) (tF9 h) (tvI (tF h 63 8)).toNatClampNeg (j : Int)) (fun m => rKn h (sRI (tA h 49) m (tvI (tF h 48 3)).toNatClampNeg)) (fun m => rCn h (sRI (tA h 49) m (tvI (tF h 48 3)).toNatClampNeg)) (fun m => rLn h (sRI (tA h 49) m (tvI (tF h 48 3)).toNatClampNeg))) (tvI (tF h 0 14)).toInt w) ∨ (¬ ((0 ≤ p.toInt ∧ p.toInt < (tvI (tF h 36 2)).toInt) ∧ (0 ≤ k.toInt ∧ k.toInt < (tvI (tF h 1 6)).toInt) ∧ (0 ≤ s.toInt ∧ s.toInt ≤ 2)) ∧ w = some (.int (-2)))
noncomputable def ph_kfm (p k s : Int32) (h : zH) (_w : Option Value) (h2 : zH) (w : Option Value) (_h3 : zH) : Prop := (((0 ≤ p.toInt ∧ p.toInt < (tvI (tF h2 111 2)).toInt) ∧ (0 ≤ k.toInt ∧ k.toInt < (tvI (tF h2 111 3)).toInt) ∧ (0 ≤ s.toInt ∧ s.toInt ≤ 2)) ∧ fMo (kmY h2 p k s (fun m => rKn h (sRI (tA h 49) m (tvI (tF h 48 3)).toNatClampNeg)) (fun m => rCn h (sRI (tA h 49) m (tvI (tF h 48 3)).toNatClampNeg)) (fun m => rLn h (sRI (tA h 49) m (tvI (tF h 48 3)).toNatClampNeg))) (kmN h2 p k s (fun m => rKn h (sRI (tA h 49) m (tvI (tF h 48 3)).toNatClampNeg)) (fun m => rCn h (sRI (tA h 49) m (tvI (tF h 48 3)).toNatClampNeg)) (fun m => rLn h (sRI (tA h 49) m (tvI (tF h 48 3)).toNatClampNeg))) (tvI (tF h2 111 1)).toInt w) ∨ (¬ ((0 ≤ p.toInt ∧ p.toInt < (tvI (tF h2 111 2)).toInt) ∧ (0 ≤ k.toInt ∧ k.toInt < (tvI (tF h2 111 3)).toInt) ∧ (0 ≤ s.toInt ∧ s.toInt ≤ 2)) ∧ w = some (.int (-2)))
theorem g_knewFD {G : zG} (hG : G.1 = zProg) {p k s : Int32} {τ τ2 : List Nat} {h h2 : zH} {w : Option Value} (hB : zBs G.2.2.2 τ h) (hB2 : zBs G.2.2.2 τ2 h2) (hR : R_rcd h) (hN : R_rules h) (hF : R_froms h) (e30 : tF h2 111 30 = tF h 111 30) (e141 : tA h2 141 = tA h 141) (o133 : ∀ p, 133 ≤ p → p ≤ 140 → tA h2 p = tA h p) : tC zTt G 243 [.ref 111, .int p, .int k, .int s] h2 (fun w2 h3 => ph_kfm p k s h w h2 w2 h3) := by
  unfold R_rules at hN
  unfold R_froms at hF
  refine (g_knewFails hG (zBs_sh hB2) (kb_111_2 hB2).1 (kb_111_3 hB2).1 (kb_111_1 hB2) (kb_111_51 hB2).1 (kb_111_30 hB2).1 (kb_111_5 hB2) (kb_111_59 hB2) (ka_156 hB2).2 (ka_133 hB2).2 (ka_134 hB2).2 (ka_135 hB2).2 (ka_136 hB2).2 (ka_137 hB2).2 (ka_138 hB2).2 (ka_139 hB2).2 (K := fun m => rKn h (sRI (tA h 49) m (tvI (tF h 48 3)).toNatClampNeg)) (cs := fun m => rCn h (sRI (tA h 49) m (tvI (tF h 48 3)).toNatClampNeg)) (cl := fun m => rLn h (sRI (tA h 49) m (tvI (tF h 48 3)).toNatClampNeg)) (fun m => ?_)).mono (fun w2 h3 z => z)
  have ey : sRI (tA h2 141) m (tvI (tF h2 111 30)).toNatClampNeg = (sRI (tA h 49) m (tvI (tF h 48 3)).toNatClampNeg) := by rw [e30, e141, ← hN, ← hF]
  rw [ey]
  exact rIm_fr (rIn_D (m := m) hB hR).2 o133
theorem a_knewF {xs : Nat → Int32} {τ : List Nat} {p k s : Int32} {h h2 h3 : zH} {w w2 : Option Value} (hB : zBs xs τ h) (hR : R_rcd h) (hPe : R_people h) (hK : R_kinds h) (hC : R_cars h) (hX : R_crashes h) (hNo : R_now h) (hRe : R_readings h) (hf : R_kfirm h) (hM : R_cmt h) (h2k : R_ck2 h) (hct : R_ctold h) (hcd : R_cdead h) (hcb : R_cburn h) (q1 : R_rtest h) (q2 : R_rby h) (q3 : R_rin h) (q4 : R_tkind h) (q5 : R_tsort h) (q6 : R_tspeed h) (q7 : R_tburn h) (e1 : tF h2 111 1 = tF h 111 1) (e2 : tF h2 111 2 = tF h 111 2) (e3 : tF h2 111 3 = tF h 111 3) (e5 : tF h2 111 5 = tF h 111 5) (e51 : tF h2 111 51 = tF h 111 51) (e59 : tF h2 111 59 = tF h 111 59) (o114 : tA h2 114 = tA h 114) (o121 : tA h2 121 = tA h 121) (o122 : tA h2 122 = tA h 122) (o123 : tA h2 123 = tA h 123) (o145 : tA h2 145 = tA h 145) (o146 : tA h2 146 = tA h 146) (o147 : tA h2 147 = tA h 147) (o148 : tA h2 148 = tA h 148) (o149 : tA h2 149 = tA h 149) (o150 : tA h2 150 = tA h 150) (o151 : tA h2 151 = tA h 151) (o152 : tA h2 152 = tA h 152) (o156 : tA h2 156 = tA h 156) (o157 : tA h2 157 = tA h 157) (o158 : tA h2 158 = tA h 158) (k1 : ph_kfc p k s h w h2) (k2 : ph_kfm p k s h w h2 w2 h3) : w2 = w := by
  unfold R_people at hPe
  unfold R_kinds at hK
  unfold R_cars at hC
  unfold R_crashes at hX
  unfold R_now at hNo
  unfold R_readings at hRe
  unfold R_kfirm at hf
  unfold R_ctold at hct
  unfold R_cdead at hcd
  unfold R_cburn at hcb
  unfold R_rtest at q1
  unfold R_rby at q2
  unfold R_rin at q3
  unfold R_tkind at q4
  unfold R_tsort at q5
  unfold R_tspeed at q6
  unfold R_tburn at q7
  have b4 := kb_36_4 hB
  have b8 := kb_63_8 hB
  have b14 := kb_0_14 hB
  have b54 := kb_54_9 hB
  have b362 := kb_36_2 hB
  unfold ph_kfm at k2
  rw [e1, e2, e3, ← hPe, ← hK, ← hNo] at k2
  rcases k1 with ⟨a1, k1⟩ | ⟨a1, rfl⟩ <;> rcases k2 with ⟨d1, k2⟩ | ⟨d1, rfl⟩
  · -- the same number for a month
    have uq : ∀ (j : Nat) (r r2 : Int32), (j : Int) ≤ (tvI (tF h 0 14)).toInt → MUc h k (fun j => bN (wK h k) (tK9 h) (tvI (tF h 36 4)).toNatClampNeg (j : Int)) (fun j => bN (wF h k) (tF9 h) (tvI (tF h 63 8)).toNatClampNeg (j : Int)) (fun j => bN (wD h k) (tF9 h) (tvI (tF h 63 8)).toNatClampNeg (j : Int)) (fun m => rKn h (sRI (tA h 49) m (tvI (tF h 48 3)).toNatClampNeg)) (fun m => rCn h (sRI (tA h 49) m (tvI (tF h 48 3)).toNatClampNeg)) (fun m => rLn h (sRI (tA h 49) m (tvI (tF h 48 3)).toNatClampNeg)) s.toNatClampNeg j r → MUm h2 k (fun m => rKn h (sRI (tA h 49) m (tvI (tF h 48 3)).toNatClampNeg)) (fun m => rCn h (sRI (tA h 49) m (tvI (tF h 48 3)).toNatClampNeg)) (fun m => rLn h (sRI (tA h 49) m (tvI (tF h 48 3)).toNatClampNeg)) s.toNatClampNeg j r2 → r2 = r := by
      intro j r r2 hj m1 m2
      have hjo : (Int32.ofNat j).toInt = (j : Int) := yofN (by omega)
      obtain ⟨W, a2, a3⟩ := m1
      have c1 := cnt_K (h := h) (h2 := h2) (k := k) (m := Int32.ofNat j) (n := (tvI (tF h 36 4)).toNatClampNeg) o121 o122 o123 (fun i hi => hM i (by rw [← hC]; rw [zclE] at hi; omega))
      have c2 := cnt_F (h := h) (h2 := h2) (k := k) (t := (Int32.ofNat j).toInt) (n := (tvI (tF h 63 8)).toNatClampNeg) (fun i hi => by rw [o121, o152]; exact (h2k i (by rw [← hX]; rw [zclE] at hi; omega)).1) (o158.trans hcb.symm) (o157.trans hct.symm) (o156.trans hcd.symm)
      have D := (rIn_D (m := Int32.ofNat j) hB hR).1
      unfold MUm at m2
      rw [e5, e59, o114, ← hC, ← hX, ← hf, ← c1, ← c2.1, ← c2.2, hjo] at m2
      dsimp only at a2 a3 m2
      rcases m2 with ⟨k0, d2⟩ | ⟨W2, d2, d3⟩
      · rcases a3 with ⟨a3, -⟩ | ⟨i, hi, -⟩
        · rw [d2, a3]
        · omega
      · by_cases k0 : rKn h (sRI (tA h 49) (Int32.ofNat j) (tvI (tF h 48 3)).toNatClampNeg) = 0
        · rcases a3 with ⟨a3, -⟩ | ⟨i, hi, -⟩
          · rcases d3 with ⟨d3, -⟩ | ⟨i, hi, -⟩
            · rw [d3, a3]
            · omega
          · omega
        · exact muO_u (qS_u a2 d2) (rIc_ok D).2 ((rIc_ok D).1.resolve_left k0) (by rw [zclE]; omega) a3 d3
    -- the least of the readings
    have ls : ∀ j : Nat, (j : Int) ≤ (tvI (tF h 0 14)).toInt → (sK (tA h2 148) (tA h2 149) (tA h2 150) (tA h2 145) (tA h2 146) (tA h2 147) (tA h2 151) p k s (Int32.ofNat j) 1 (tvI (tF h2 111 51)).toNatClampNeg = -1 ∧ mnB (rdP h ((1 : Int64) <<< (p.toInt64 &&& 63)) k s) (rdT h) (rdS h) (tvI (tF h 54 9)).toNatClampNeg (j : Int) = 201) ∨ (0 ≤ (sK (tA h2 148) (tA h2 149) (tA h2 150) (tA h2 145) (tA h2 146) (tA h2 147) (tA h2 151) p k s (Int32.ofNat j) 1 (tvI (tF h2 111 51)).toNatClampNeg).toInt ∧ (sK (tA h2 148) (tA h2 149) (tA h2 150) (tA h2 145) (tA h2 146) (tA h2 147) (tA h2 151) p k s (Int32.ofNat j) 1 (tvI (tF h2 111 51)).toNatClampNeg).toInt ≤ 200 ∧ mnB (rdP h ((1 : Int64) <<< (p.toInt64 &&& 63)) k s) (rdT h) (rdS h) (tvI (tF h 54 9)).toNatClampNeg (j : Int) = (sK (tA h2 148) (tA h2 149) (tA h2 150) (tA h2 145) (tA h2 146) (tA h2 147) (tA h2 151) p k s (Int32.ofNat j) 1 (tvI (tF h2 111 51)).toNatClampNeg).toInt) := by
      intro j hj
      have hjo : (Int32.ofNat j).toInt = (j : Int) := yofN (by omega)
      rw [e51, o145, o146, o147, o148, o149, o150, o151, ← hRe, ← q1, ← q2, ← q3, ← q4, ← q5, ← q6, ← q7, ← hjo]
      refine sK_mnB (fun i hi => ?_) (fun i _ => rfl) (fun i hi => ?_)
      · have hi : i < 600 := by rw [zclE] at hi; omega
        have r61 := (ka_61 hB).2 i hi
        have r60 := (ka_60 hB).2 i hi
        have r58 := (ka_58 hB).2 (tA h 60 i).toNatClampNeg (by rw [zclE]; omega)
        have tb := tB_one (p := p) (q := tA h 61 i) (by omega) (by omega)
        unfold tB at tb
        rw [decide_eq_true_eq, tb]
        constructor
        · rintro ⟨u1, ⟨u2, u3⟩, u4⟩
          exact ⟨u1, u2, u3, zone r58 u4⟩
        · rintro ⟨u1, u2, u3, u4⟩
          exact ⟨u1, ⟨u2, u3⟩, by rw [u4]; decide⟩
      · have hi : i < 600 := by rw [zclE] at hi; omega
        have r60 := (ka_60 hB).2 i hi
        exact ⟨rfl, (ka_57 hB).2 _ (by rw [zclE]; omega)⟩
    refine fMo_u k1 k2 (fun j hj y1 n2 => ?_) (fun j hj y2 n1 => ?_)
    · obtain ⟨y1, r, y2, y3⟩ := y1
      rcases n2 with n2 | ⟨r2, n2, n3⟩
      · rcases ls j hj with ⟨-, l2⟩ | ⟨l1, -, -⟩
        · omega
        · rw [n2] at l1
          exact absurd l1 (by decide)
      · have e := uq j r r2 hj y2 n2
        subst e
        rcases ls j hj with ⟨l1, l2⟩ | ⟨-, -, l3⟩ <;> omega
    · obtain ⟨y1, r2, y2, y3⟩ := y2
      rcases n1 with n1 | ⟨r, n2, n3⟩
      · rcases ls j hj with ⟨l1, -⟩ | ⟨-, l2, l3⟩
        · exact y1 l1
        · omega
      · have e := uq j r r2 hj n2 y2
        subst e
        rcases ls j hj with ⟨l1, -⟩ | ⟨-, -, l3⟩
        · exact y1 l1
        · omega
  · exact absurd a1 d1
  · exact absurd d1 a1
  · rfl
theorem tn_110 {xs : Nat → Int32} {τ : List Nat} {h : zH} (hB : zBs xs τ h) : tN h 110 = 600 := by
  obtain ⟨a, b, -⟩ := tkd_a hB (p := 110) (t := 78) rfl rfl
  omega
theorem f_put {G : zG} (hG : G.1 = zProg) {h : zH} {x : Int32} (hs : tSh h) (hk : tK h 45 = 2) (hl : 0 ≤ (tvI (tF h 44 1)).toInt ∧ (tvI (tF h 44 1)).toInt ≤ 396) : tC zTt G 73 [.ref 44, .int x] h (fun w h2 => w = none ∧ tSh h2 ∧ tF h2 44 1 = .int (z4 (tvI (tF h 44 1))) ∧ tA h2 45 = f4 (tA h 45) (tvI (tF h 44 1)) x ∧ tK h2 45 = 2) := by
  refine tC_in (by rw [hG]; rfl) (fun dp => ?_)
  have e0 : (tvI (tF h 44 1)).toInt = (tvI (tF h 44 1)).toInt := rfl
  have e1 := zi1n e0 (by omega)
  have e2 := zi1n e1 (by omega)
  have e3 := zi1n e2 (by omega)
  have h4 : (400 : Int32).toInt = 400 := rfl
  refine tw_push rfl ?_
  refine tw_istore rfl ?_
  refine tw_iload rfl rfl ?_
  refine tw_if_lt rfl (fun z => absurd z (by decide)) (fun _ => ?_)
  refine tw_aload rfl rfl ?_
  refine tw_getS rfl (hi_44_1 hs) ?_
  refine tw_push rfl ?_
  refine tw_ic_ge rfl (fun q1209 => ?_) (fun q1209 => ?_)
  · try dsimp only [tvI_i, tvJ_j, tvR_r] at q1209
    exact absurd q1209 (by omega)
  · try dsimp only [tvI_i, tvJ_j, tvR_r] at q1209
    refine tw_aload rfl rfl ?_
    refine tw_getS rfl (hs_44_0 hs) ?_
    refine tw_aload rfl rfl ?_
    refine tw_getS rfl (hi_44_1 hs) ?_
    refine tw_iload rfl rfl ?_
    refine tw_iload rfl rfl ?_
    refine tw_ishr rfl ?_
    refine tw_i2b rfl ?_
    refine tw_bast rfl (fun kf1210 zf1210 f1210 => ?_)
    rw [bst_k hk f1210]
    refine tw_aload rfl rfl ?_
    refine tw_dup rfl ?_
    refine tw_getS rfl (tF_a (hi_44_1 hs)) ?_
    refine tw_push rfl ?_
    refine tw_iadd rfl ?_
    refine tw_put rfl (fun f1211 => ?_)
    refine tw_iinc rfl rfl ?_
    refine tw_goto rfl ?_
    refine tw_iload rfl rfl ?_
    refine tw_if_lt rfl (fun z => absurd z (by decide)) (fun _ => ?_)
    refine tw_aload rfl rfl ?_
    refine tw_getS rfl (tF_same f1211) ?_
    refine tw_push rfl ?_
    refine tw_ic_ge rfl (fun q1212 => ?_) (fun q1212 => ?_)
    · try dsimp only [tvI_i, tvJ_j, tvR_r] at q1212
      exact absurd q1212 (by omega)
    · try dsimp only [tvI_i, tvJ_j, tvR_r] at q1212
      refine tw_aload rfl rfl ?_
      refine tw_getS rfl (hs_44_0 (hw_44_1 f1211 (tSh_SA hs))) ?_
      refine tw_aload rfl rfl ?_
      refine tw_getS rfl (tF_same f1211) ?_
      refine tw_iload rfl rfl ?_
      refine tw_iload rfl rfl ?_
      refine tw_ishr rfl ?_
      refine tw_i2b rfl ?_
      refine tw_bast rfl (fun kf1213 zf1213 f1213 => ?_)
      rw [bst_k (by rw [tK_tSF]; exact (by rw [tK_tSA]; exact hk)) f1213]
      refine tw_aload rfl rfl ?_
      refine tw_dup rfl ?_
      refine tw_getS rfl (tF_a (tF_same f1211)) ?_
      refine tw_push rfl ?_
      refine tw_iadd rfl ?_
      refine tw_put rfl (fun f1214 => ?_)
      refine tw_iinc rfl rfl ?_
      refine tw_goto rfl ?_
      refine tw_iload rfl rfl ?_
      refine tw_if_lt rfl (fun z => absurd z (by decide)) (fun _ => ?_)
      refine tw_aload rfl rfl ?_
      refine tw_getS rfl (tF_same f1214) ?_
      refine tw_push rfl ?_
      refine tw_ic_ge rfl (fun q1215 => ?_) (fun q1215 => ?_)
      · try dsimp only [tvI_i, tvJ_j, tvR_r] at q1215
        exact absurd q1215 (by omega)
      · try dsimp only [tvI_i, tvJ_j, tvR_r] at q1215
        refine tw_aload rfl rfl ?_
        refine tw_getS rfl (hs_44_0 (hw_44_1 f1214 (tSh_SA (hw_44_1 f1211 (tSh_SA hs))))) ?_
        refine tw_aload rfl rfl ?_
        refine tw_getS rfl (tF_same f1214) ?_
        refine tw_iload rfl rfl ?_
        refine tw_iload rfl rfl ?_
        refine tw_ishr rfl ?_
        refine tw_i2b rfl ?_
        refine tw_bast rfl (fun kf1216 zf1216 f1216 => ?_)
        rw [bst_k (by rw [tK_tSF]; exact (by rw [tK_tSA]; exact (by rw [tK_tSF]; exact (by rw [tK_tSA]; exact hk)))) f1216]
        refine tw_aload rfl rfl ?_
        refine tw_dup rfl ?_
        refine tw_getS rfl (tF_a (tF_same f1214)) ?_
        refine tw_push rfl ?_
        refine tw_iadd rfl ?_
        refine tw_put rfl (fun f1217 => ?_)
        refine tw_iinc rfl rfl ?_
        refine tw_goto rfl ?_
        refine tw_iload rfl rfl ?_
        refine tw_if_lt rfl (fun z => absurd z (by decide)) (fun _ => ?_)
        refine tw_aload rfl rfl ?_
        refine tw_getS rfl (tF_same f1217) ?_
        refine tw_push rfl ?_
        refine tw_ic_ge rfl (fun q1218 => ?_) (fun q1218 => ?_)
        · try dsimp only [tvI_i, tvJ_j, tvR_r] at q1218
          exact absurd q1218 (by omega)
        · try dsimp only [tvI_i, tvJ_j, tvR_r] at q1218
          refine tw_aload rfl rfl ?_
          refine tw_getS rfl (hs_44_0 (hw_44_1 f1217 (tSh_SA (hw_44_1 f1214 (tSh_SA (hw_44_1 f1211 (tSh_SA hs))))))) ?_
          refine tw_aload rfl rfl ?_
          refine tw_getS rfl (tF_same f1217) ?_
          refine tw_iload rfl rfl ?_
          refine tw_iload rfl rfl ?_
          refine tw_ishr rfl ?_
          refine tw_i2b rfl ?_
          refine tw_bast rfl (fun kf1219 zf1219 f1219 => ?_)
          rw [bst_k (by rw [tK_tSF]; exact (by rw [tK_tSA]; exact (by rw [tK_tSF]; exact (by rw [tK_tSA]; exact (by rw [tK_tSF]; exact (by rw [tK_tSA]; exact hk)))))) f1219]
          refine tw_aload rfl rfl ?_
          refine tw_dup rfl ?_
          refine tw_getS rfl (tF_a (tF_same f1217)) ?_
          refine tw_push rfl ?_
          refine tw_iadd rfl ?_
          refine tw_put rfl (fun f1220 => ?_)
          refine tw_iinc rfl rfl ?_
          refine tw_goto rfl ?_
          refine tw_iload rfl rfl ?_
          refine tw_if_lt rfl (fun _ => ?_) (fun z => absurd z (by decide))
          exact tw_vret rfl ⟨rfl, (hw_44_1 f1220 (tSh_SA (hw_44_1 f1217 (tSh_SA (hw_44_1 f1214 (tSh_SA (hw_44_1 f1211 (tSh_SA hs)))))))), (tF_same f1220), (tA_ff (tA_st f1219 (tA_ff (tA_st f1216 (tA_ff (tA_st f1213 (tA_ff (tA_st f1210 rfl)))))))), (by rw [tK_tSF]; exact (by rw [tK_tSA]; exact (by rw [tK_tSF]; exact (by rw [tK_tSA]; exact (by rw [tK_tSF]; exact (by rw [tK_tSA]; exact (by rw [tK_tSF]; exact (by rw [tK_tSA]; exact hk))))))))⟩
theorem g_put {G : zG} (hG : G.1 = zProg) {h : zH} {x : Int32} (hs : tSh h) (hk : tK h 132 = 2) (hl : 0 ≤ (tvI (tF h 111 27)).toInt ∧ (tvI (tF h 111 27)).toInt ≤ 396) : tC zTt G 197 [.ref 111, .int x] h (fun w h2 => w = none ∧ tSh h2 ∧ tF h2 111 27 = .int (z4 (tvI (tF h 111 27))) ∧ tA h2 132 = f4 (tA h 132) (tvI (tF h 111 27)) x ∧ tK h2 132 = 2) := by
  refine tC_in (by rw [hG]; rfl) (fun dp => ?_)
  have e0 : (tvI (tF h 111 27)).toInt = (tvI (tF h 111 27)).toInt := rfl
  have e1 := zi1n e0 (by omega)
  have e2 := zi1n e1 (by omega)
  have e3 := zi1n e2 (by omega)
  have h4 : (400 : Int32).toInt = 400 := rfl
  refine tw_push rfl ?_
  refine tw_istore rfl ?_
  refine tw_iload rfl rfl ?_
  refine tw_if_lt rfl (fun z => absurd z (by decide)) (fun _ => ?_)
  refine tw_aload rfl rfl ?_
  refine tw_getS rfl (hs_111_35 hs) ?_
  refine tw_aload rfl rfl ?_
  refine tw_getS rfl (hi_111_27 hs) ?_
  refine tw_iload rfl rfl ?_
  refine tw_iload rfl rfl ?_
  refine tw_ishr rfl ?_
  refine tw_i2b rfl ?_
  refine tw_bast rfl (fun kf1221 zf1221 f1221 => ?_)
  rw [bst_k hk f1221]
  refine tw_aload rfl rfl ?_
  refine tw_dup rfl ?_
  refine tw_getS rfl (tF_a (hi_111_27 hs)) ?_
  refine tw_push rfl ?_
  refine tw_iadd rfl ?_
  refine tw_put rfl (fun f1222 => ?_)
  refine tw_iinc rfl rfl ?_
  refine tw_goto rfl ?_
  refine tw_iload rfl rfl ?_
  refine tw_if_lt rfl (fun z => absurd z (by decide)) (fun _ => ?_)
  refine tw_aload rfl rfl ?_
  refine tw_getS rfl (hs_111_35 (hw_111_27 f1222 (tSh_SA hs))) ?_
  refine tw_aload rfl rfl ?_
  refine tw_getS rfl (tF_same f1222) ?_
  refine tw_iload rfl rfl ?_
  refine tw_iload rfl rfl ?_
  refine tw_ishr rfl ?_
  refine tw_i2b rfl ?_
  refine tw_bast rfl (fun kf1223 zf1223 f1223 => ?_)
  rw [bst_k (by rw [tK_tSF]; exact (by rw [tK_tSA]; exact hk)) f1223]
  refine tw_aload rfl rfl ?_
  refine tw_dup rfl ?_
  refine tw_getS rfl (tF_a (tF_same f1222)) ?_
  refine tw_push rfl ?_
  refine tw_iadd rfl ?_
  refine tw_put rfl (fun f1224 => ?_)
  refine tw_iinc rfl rfl ?_
  refine tw_goto rfl ?_
  refine tw_iload rfl rfl ?_
  refine tw_if_lt rfl (fun z => absurd z (by decide)) (fun _ => ?_)
  refine tw_aload rfl rfl ?_
  refine tw_getS rfl (hs_111_35 (hw_111_27 f1224 (tSh_SA (hw_111_27 f1222 (tSh_SA hs))))) ?_
  refine tw_aload rfl rfl ?_
  refine tw_getS rfl (tF_same f1224) ?_
  refine tw_iload rfl rfl ?_
  refine tw_iload rfl rfl ?_
  refine tw_ishr rfl ?_
  refine tw_i2b rfl ?_
  refine tw_bast rfl (fun kf1225 zf1225 f1225 => ?_)
  rw [bst_k (by rw [tK_tSF]; exact (by rw [tK_tSA]; exact (by rw [tK_tSF]; exact (by rw [tK_tSA]; exact hk)))) f1225]
  refine tw_aload rfl rfl ?_
  refine tw_dup rfl ?_
  refine tw_getS rfl (tF_a (tF_same f1224)) ?_
  refine tw_push rfl ?_
  refine tw_iadd rfl ?_
  refine tw_put rfl (fun f1226 => ?_)
  refine tw_iinc rfl rfl ?_
  refine tw_goto rfl ?_
  refine tw_iload rfl rfl ?_
  refine tw_if_lt rfl (fun z => absurd z (by decide)) (fun _ => ?_)
  refine tw_aload rfl rfl ?_
  refine tw_getS rfl (hs_111_35 (hw_111_27 f1226 (tSh_SA (hw_111_27 f1224 (tSh_SA (hw_111_27 f1222 (tSh_SA hs))))))) ?_
  refine tw_aload rfl rfl ?_
  refine tw_getS rfl (tF_same f1226) ?_
  refine tw_iload rfl rfl ?_
  refine tw_iload rfl rfl ?_
  refine tw_ishr rfl ?_
  refine tw_i2b rfl ?_
  refine tw_bast rfl (fun kf1227 zf1227 f1227 => ?_)
  rw [bst_k (by rw [tK_tSF]; exact (by rw [tK_tSA]; exact (by rw [tK_tSF]; exact (by rw [tK_tSA]; exact (by rw [tK_tSF]; exact (by rw [tK_tSA]; exact hk)))))) f1227]
  refine tw_aload rfl rfl ?_
  refine tw_dup rfl ?_
  refine tw_getS rfl (tF_a (tF_same f1226)) ?_
  refine tw_push rfl ?_
  refine tw_iadd rfl ?_
  refine tw_put rfl (fun f1228 => ?_)
  refine tw_iinc rfl rfl ?_
  refine tw_goto rfl ?_
  refine tw_iload rfl rfl ?_
  refine tw_if_lt rfl (fun _ => ?_) (fun z => absurd z (by decide))
  exact tw_vret rfl ⟨rfl, (hw_111_27 f1228 (tSh_SA (hw_111_27 f1226 (tSh_SA (hw_111_27 f1224 (tSh_SA (hw_111_27 f1222 (tSh_SA hs)))))))), (tF_same f1228), (tA_ff (tA_st f1227 (tA_ff (tA_st f1225 (tA_ff (tA_st f1223 (tA_ff (tA_st f1221 rfl)))))))), (by rw [tK_tSF]; exact (by rw [tK_tSA]; exact (by rw [tK_tSF]; exact (by rw [tK_tSA]; exact (by rw [tK_tSF]; exact (by rw [tK_tSA]; exact (by rw [tK_tSF]; exact (by rw [tK_tSA]; exact hk))))))))⟩
theorem f_hasRoom {G : zG} (hG : G.1 = zProg) {h : zH} {n : Int32} (hs : tSh h) : tC zTt G 72 [.ref 44, .int n] h (fun w h2 => tBo ((tvI (tF h 44 1) + n).toInt ≤ 400) w ∧ h2 = h) := by
  refine tC_in (by rw [hG]; rfl) (fun dp => ?_)
  have h4 : (400 : Int32).toInt = 400 := rfl
  refine tw_aload rfl rfl ?_
  refine tw_getS rfl (hi_44_1 hs) ?_
  refine tw_iload rfl rfl ?_
  refine tw_iadd rfl ?_
  refine tw_push rfl ?_
  refine tw_ic_gt rfl (fun q1229 => ?_) (fun q1229 => ?_)
  · try dsimp only [tvI_i, tvJ_j, tvR_r] at q1229
    refine tw_push rfl ?_
    exact tw_iret rfl ⟨Or.inr ⟨by omega, rfl⟩, rfl⟩
  · try dsimp only [tvI_i, tvJ_j, tvR_r] at q1229
    refine tw_push rfl ?_
    refine tw_goto rfl ?_
    exact tw_iret rfl ⟨Or.inl ⟨by omega, rfl⟩, rfl⟩
theorem f_feed {G : zG} (hG : G.1 = zProg) {h : zH} {a b c d e : Int32} (hs : tSh h) (hk : tK h 45 = 2) (hl : 0 ≤ (tvI (tF h 44 1)).toInt ∧ (tvI (tF h 44 1)).toInt ≤ 400) : tC zTt G 122 [.ref 0, .int a, .int b, .int c, .int d, .int e] h (fun w h2 => ((tvI (tF h 44 1)).toInt ≤ 380 ∧ w = some (.int (z20 (tvI (tF h 44 1)))) ∧ tF h2 44 1 = .int (z20 (tvI (tF h 44 1))) ∧ tA h2 45 = f20 (tA h 45) (tvI (tF h 44 1)) a b c d e) ∨ (¬ (tvI (tF h 44 1)).toInt ≤ 380 ∧ w = some (.int (-1)) ∧ h2 = h)) := by
  refine tC_in (by rw [hG]; rfl) (fun dp => ?_)
  have n0 : (tvI (tF h 44 1)).toInt = (tvI (tF h 44 1)).toInt := rfl
  have n20 := z20n (x := tvI (tF h 44 1)) (by omega)
  have h4 : (400 : Int32).toInt = 400 := rfl
  have n1 : (tvI (tF h 44 1)).toInt ≤ 380 → (z4 (tvI (tF h 44 1))).toInt = (tvI (tF h 44 1)).toInt + 4 := fun z => z4n n0 (by omega)
  have n2 : (tvI (tF h 44 1)).toInt ≤ 380 → (z4 (z4 (tvI (tF h 44 1)))).toInt = (tvI (tF h 44 1)).toInt + 8 := fun z => (z4n (n1 z) (by omega)).trans (by omega)
  have n3 : (tvI (tF h 44 1)).toInt ≤ 380 → (z4 (z4 (z4 (tvI (tF h 44 1))))).toInt = (tvI (tF h 44 1)).toInt + 12 := fun z => (z4n (n2 z) (by omega)).trans (by omega)
  have n4 : (tvI (tF h 44 1)).toInt ≤ 380 → (z4 (z4 (z4 (z4 (tvI (tF h 44 1)))))).toInt = (tvI (tF h 44 1)).toInt + 16 := fun z => (z4n (n3 z) (by omega)).trans (by omega)
  have n5 : (tvI (tF h 44 1)).toInt ≤ 380 → (z4 (z4 (z4 (z4 (z4 (tvI (tF h 44 1))))))).toInt = (tvI (tF h 44 1)).toInt + 20 := fun z => (z4n (n4 z) (by omega)).trans (by omega)
  refine tw_aload rfl rfl ?_
  refine tw_getS rfl (hs_0_2 hs) ?_
  refine tw_push rfl ?_
  refine tw_virt1 rfl (f_hasRoom hG hs) (fun w9 h9 p1230 => ?_)
  obtain ⟨⟨p1230, rfl⟩ | ⟨p1230, rfl⟩, rfl⟩ := p1230
  · try dsimp only [tvI_i, tvJ_j, tvR_r] at p1230
    refine tw_if_ne rfl (fun _ => ?_) (fun z => absurd z (by decide))
    refine tw_aload rfl rfl ?_
    refine tw_getS rfl (hs_0_2 hs) ?_
    refine tw_iload rfl rfl ?_
    refine tw_virt1 rfl (f_put hG hs hk (by omega)) (fun wp1231 hp1231 p1231 => ?_)
    obtain ⟨rfl, sp1231, lp1231, tp1231, kp1231⟩ := p1231
    refine tw_aload rfl rfl ?_
    refine tw_getS rfl (hs_0_2 sp1231) ?_
    refine tw_iload rfl rfl ?_
    refine tw_virt1 rfl (f_put hG sp1231 kp1231 (by rw [lp1231, tvI_i, n1 (by omega)]; omega)) (fun wp1232 hp1232 p1232 => ?_)
    obtain ⟨rfl, sp1232, lp1232, tp1232, kp1232⟩ := p1232
    rw [lp1231, tp1231] at tp1232
    rw [lp1231] at lp1232
    rw [tvI_i] at lp1232 tp1232
    refine tw_aload rfl rfl ?_
    refine tw_getS rfl (hs_0_2 sp1232) ?_
    refine tw_iload rfl rfl ?_
    refine tw_virt1 rfl (f_put hG sp1232 kp1232 (by rw [lp1232, tvI_i, n2 (by omega)]; omega)) (fun wp1233 hp1233 p1233 => ?_)
    obtain ⟨rfl, sp1233, lp1233, tp1233, kp1233⟩ := p1233
    rw [lp1232, tp1232] at tp1233
    rw [lp1232] at lp1233
    rw [tvI_i] at lp1233 tp1233
    refine tw_aload rfl rfl ?_
    refine tw_getS rfl (hs_0_2 sp1233) ?_
    refine tw_iload rfl rfl ?_
    refine tw_virt1 rfl (f_put hG sp1233 kp1233 (by rw [lp1233, tvI_i, n3 (by omega)]; omega)) (fun wp1234 hp1234 p1234 => ?_)
    obtain ⟨rfl, sp1234, lp1234, tp1234, kp1234⟩ := p1234
    rw [lp1233, tp1233] at tp1234
    rw [lp1233] at lp1234
    rw [tvI_i] at lp1234 tp1234
    refine tw_aload rfl rfl ?_
    refine tw_getS rfl (hs_0_2 sp1234) ?_
    refine tw_iload rfl rfl ?_
    refine tw_virt1 rfl (f_put hG sp1234 kp1234 (by rw [lp1234, tvI_i, n4 (by omega)]; omega)) (fun wp1235 hp1235 p1235 => ?_)
    obtain ⟨rfl, sp1235, lp1235, tp1235, kp1235⟩ := p1235
    rw [lp1234, tp1234] at tp1235
    rw [lp1234] at lp1235
    rw [tvI_i] at lp1235 tp1235
    refine tw_aload rfl rfl ?_
    refine tw_getS rfl (hs_0_2 sp1235) ?_
    refine tw_getS rfl (hi_44_1 sp1235) ?_
    exact tw_iret rfl (Or.inl ⟨by omega, by rw [lp1235]; rfl, lp1235, tp1235⟩)
  · try dsimp only [tvI_i, tvJ_j, tvR_r] at p1230
    refine tw_if_ne rfl (fun z => absurd z (by decide)) (fun _ => ?_)
    refine tw_push rfl ?_
    exact tw_iret rfl (Or.inr ⟨by omega, rfl, rfl⟩)
theorem g_feed {G : zG} (hG : G.1 = zProg) {h : zH} {a b c d e : Int32} (hs : tSh h) (hk : tK h 132 = 2) (hl : 0 ≤ (tvI (tF h 111 27)).toInt ∧ (tvI (tF h 111 27)).toInt ≤ 400) : tC zTt G 196 [.ref 111, .int a, .int b, .int c, .int d, .int e] h (fun w h2 => ((tvI (tF h 111 27)).toInt ≤ 380 ∧ w = some (.int (z20 (tvI (tF h 111 27)))) ∧ tF h2 111 27 = .int (z20 (tvI (tF h 111 27))) ∧ tA h2 132 = f20 (tA h 132) (tvI (tF h 111 27)) a b c d e) ∨ (¬ (tvI (tF h 111 27)).toInt ≤ 380 ∧ w = some (.int (-1)) ∧ h2 = h)) := by
  refine tC_in (by rw [hG]; rfl) (fun dp => ?_)
  have n0 : (tvI (tF h 111 27)).toInt = (tvI (tF h 111 27)).toInt := rfl
  have n20 := z20n (x := tvI (tF h 111 27)) (by omega)
  have h4 : (400 : Int32).toInt = 400 := rfl
  have n1 : (tvI (tF h 111 27)).toInt ≤ 380 → (z4 (tvI (tF h 111 27))).toInt = (tvI (tF h 111 27)).toInt + 4 := fun z => z4n n0 (by omega)
  have n2 : (tvI (tF h 111 27)).toInt ≤ 380 → (z4 (z4 (tvI (tF h 111 27)))).toInt = (tvI (tF h 111 27)).toInt + 8 := fun z => (z4n (n1 z) (by omega)).trans (by omega)
  have n3 : (tvI (tF h 111 27)).toInt ≤ 380 → (z4 (z4 (z4 (tvI (tF h 111 27))))).toInt = (tvI (tF h 111 27)).toInt + 12 := fun z => (z4n (n2 z) (by omega)).trans (by omega)
  have n4 : (tvI (tF h 111 27)).toInt ≤ 380 → (z4 (z4 (z4 (z4 (tvI (tF h 111 27)))))).toInt = (tvI (tF h 111 27)).toInt + 16 := fun z => (z4n (n3 z) (by omega)).trans (by omega)
  have n5 : (tvI (tF h 111 27)).toInt ≤ 380 → (z4 (z4 (z4 (z4 (z4 (tvI (tF h 111 27))))))).toInt = (tvI (tF h 111 27)).toInt + 20 := fun z => (z4n (n4 z) (by omega)).trans (by omega)
  refine tw_aload rfl rfl ?_
  refine tw_getS rfl (hi_111_27 hs) ?_
  refine tw_push rfl ?_
  refine tw_iadd rfl ?_
  refine tw_push rfl ?_
  refine tw_ic_le rfl (fun q1236 => ?_) (fun q1236 => ?_)
  · try dsimp only [tvI_i, tvJ_j, tvR_r] at q1236
    refine tw_aload rfl rfl ?_
    refine tw_iload rfl rfl ?_
    refine tw_virt1 rfl (g_put hG hs hk (by omega)) (fun wp1237 hp1237 p1237 => ?_)
    obtain ⟨rfl, sp1237, lp1237, tp1237, kp1237⟩ := p1237
    refine tw_aload rfl rfl ?_
    refine tw_iload rfl rfl ?_
    refine tw_virt1 rfl (g_put hG sp1237 kp1237 (by rw [lp1237, tvI_i, n1 (by omega)]; omega)) (fun wp1238 hp1238 p1238 => ?_)
    obtain ⟨rfl, sp1238, lp1238, tp1238, kp1238⟩ := p1238
    rw [lp1237, tp1237] at tp1238
    rw [lp1237] at lp1238
    rw [tvI_i] at lp1238 tp1238
    refine tw_aload rfl rfl ?_
    refine tw_iload rfl rfl ?_
    refine tw_virt1 rfl (g_put hG sp1238 kp1238 (by rw [lp1238, tvI_i, n2 (by omega)]; omega)) (fun wp1239 hp1239 p1239 => ?_)
    obtain ⟨rfl, sp1239, lp1239, tp1239, kp1239⟩ := p1239
    rw [lp1238, tp1238] at tp1239
    rw [lp1238] at lp1239
    rw [tvI_i] at lp1239 tp1239
    refine tw_aload rfl rfl ?_
    refine tw_iload rfl rfl ?_
    refine tw_virt1 rfl (g_put hG sp1239 kp1239 (by rw [lp1239, tvI_i, n3 (by omega)]; omega)) (fun wp1240 hp1240 p1240 => ?_)
    obtain ⟨rfl, sp1240, lp1240, tp1240, kp1240⟩ := p1240
    rw [lp1239, tp1239] at tp1240
    rw [lp1239] at lp1240
    rw [tvI_i] at lp1240 tp1240
    refine tw_aload rfl rfl ?_
    refine tw_iload rfl rfl ?_
    refine tw_virt1 rfl (g_put hG sp1240 kp1240 (by rw [lp1240, tvI_i, n4 (by omega)]; omega)) (fun wp1241 hp1241 p1241 => ?_)
    obtain ⟨rfl, sp1241, lp1241, tp1241, kp1241⟩ := p1241
    rw [lp1240, tp1240] at tp1241
    rw [lp1240] at lp1241
    rw [tvI_i] at lp1241 tp1241
    refine tw_aload rfl rfl ?_
    refine tw_getS rfl (hi_111_27 sp1241) ?_
    exact tw_iret rfl (Or.inl ⟨by omega, by rw [lp1241]; rfl, lp1241, tp1241⟩)
  · try dsimp only [tvI_i, tvJ_j, tvR_r] at q1236
    refine tw_push rfl ?_
    exact tw_iret rfl (Or.inr ⟨by omega, rfl, rfl⟩)
theorem a_feed {a b c d e : Int32} {h h2 h3 : zH} {w w2 : Option Value} (hL : R_tlen h) (hT : R_tape h) (e1 : tF h2 111 27 = tF h 111 27) (o1 : tA h2 132 = tA h 132) (e2 : tF h3 44 1 = tF h2 44 1) (t1 : tA h3 45 = tA h2 45) (k1 : (fun a b c d e h w h2 => ((tvI (tF h 44 1)).toInt ≤ 380 ∧ w = some (.int (z20 (tvI (tF h 44 1)))) ∧ tF h2 44 1 = .int (z20 (tvI (tF h 44 1))) ∧ tA h2 45 = f20 (tA h 45) (tvI (tF h 44 1)) a b c d e) ∨ (¬ (tvI (tF h 44 1)).toInt ≤ 380 ∧ w = some (.int (-1)) ∧ h2 = h)) a b c d e h w h2) (k2 : (fun a b c d e h w h2 => ((tvI (tF h 111 27)).toInt ≤ 380 ∧ w = some (.int (z20 (tvI (tF h 111 27)))) ∧ tF h2 111 27 = .int (z20 (tvI (tF h 111 27))) ∧ tA h2 132 = f20 (tA h 132) (tvI (tF h 111 27)) a b c d e) ∨ (¬ (tvI (tF h 111 27)).toInt ≤ 380 ∧ w = some (.int (-1)) ∧ h2 = h)) a b c d e h2 w2 h3) : w2 = w ∧ R_tlen h3 ∧ R_tape h3 := by
  try dsimp only at k1 k2
  unfold R_tlen R_tape at *
  rw [e1, o1, ← hL, ← hT] at k2
  rcases k1 with ⟨c1, rfl, f1, g1⟩ | ⟨c1, rfl, rfl⟩ <;> rcases k2 with ⟨c2, rfl, f2, g2⟩ | ⟨c2, rfl, rfl⟩
  · exact ⟨rfl, by rw [e2, f1, f2], by rw [t1, g1, g2]⟩
  · exact absurd c1 c2
  · exact absurd c2 c1
  · exact ⟨rfl, hL, hT⟩
theorem f_cutTo {G : zG} (hG : G.1 = zProg) {h : zH} {n : Int32} (hs : tSh h) : tC zTt G 74 [.ref 44, .int n] h (fun w h2 => w = some (.int n) ∧ tF h2 44 1 = .int n) := by
  refine tC_in (by rw [hG]; rfl) (fun dp => ?_)
  refine tw_aload rfl rfl ?_
  refine tw_iload rfl rfl ?_
  refine tw_put rfl (fun f1242 => ?_)
  refine tw_iload rfl rfl ?_
  exact tw_iret rfl ⟨rfl, (tF_same f1242)⟩
theorem f_end {G : zG} (hG : G.1 = zProg) {h : zH} {n : Int32} (hs : tSh h) : tC zTt G 123 [.ref 0, .int n] h (fun w h2 => (fun n h w h2 => ((0 ≤ n.toInt ∧ n.toInt ≤ (tvI (tF h 44 1)).toInt) ∧ w = some (.int n) ∧ tF h2 44 1 = .int n) ∨ (¬ (0 ≤ n.toInt ∧ n.toInt ≤ (tvI (tF h 44 1)).toInt) ∧ w = some (.int (-1)) ∧ h2 = h)) n h w h2) := by
  refine tC_in (by rw [hG]; rfl) (fun dp => ?_)
  refine tw_iload rfl rfl ?_
  refine tw_push rfl ?_
  refine tw_aload rfl rfl ?_
  refine tw_getS rfl (hs_0_2 hs) ?_
  refine tw_getS rfl (hi_44_1 hs) ?_
  refine tw_stat3 rfl (f_isWithin hG (LO := 0)  (by decide) rfl) (fun w9 h9 p1243 => ?_)
  obtain ⟨⟨p1243, rfl⟩ | ⟨p1243, rfl⟩, rfl⟩ := p1243
  · try dsimp only [tvI_i, tvJ_j, tvR_r] at p1243
    refine tw_if_eq rfl (fun z => absurd z (by decide)) (fun _ => ?_)
    refine tw_aload rfl rfl ?_
    refine tw_getS rfl (hs_0_2 hs) ?_
    refine tw_iload rfl rfl ?_
    refine tw_virt1 rfl (f_cutTo hG hs) (fun wp1244 hp1244 p1244 => ?_)
    obtain ⟨rfl, lp1244⟩ := p1244
    refine tw_goto rfl ?_
    exact tw_iret rfl (Or.inl ⟨by omega, rfl, lp1244⟩)
  · try dsimp only [tvI_i, tvJ_j, tvR_r] at p1243
    refine tw_if_eq rfl (fun _ => ?_) (fun z => absurd z (by decide))
    refine tw_push rfl ?_
    exact tw_iret rfl (Or.inr ⟨by omega, rfl, rfl⟩)
theorem g_end {G : zG} (hG : G.1 = zProg) {h : zH} {n : Int32} (hs : tSh h) : tC zTt G 198 [.ref 111, .int n] h (fun w h2 => (fun n h w h2 => ((0 ≤ n.toInt ∧ n.toInt ≤ (tvI (tF h 111 27)).toInt) ∧ w = some (.int n) ∧ tF h2 111 27 = .int n) ∨ (¬ (0 ≤ n.toInt ∧ n.toInt ≤ (tvI (tF h 111 27)).toInt) ∧ w = some (.int (-1)) ∧ h2 = h)) n h w h2) := by
  refine tC_in (by rw [hG]; rfl) (fun dp => ?_)
  refine tw_iload rfl rfl ?_
  refine tw_if_lt rfl (fun q1245 => ?_) (fun q1245 => ?_)
  · try dsimp only [tvI_i, tvJ_j, tvR_r] at q1245
    refine tw_push rfl ?_
    exact tw_iret rfl (Or.inr ⟨by omega, rfl, rfl⟩)
  · try dsimp only [tvI_i, tvJ_j, tvR_r] at q1245
    refine tw_iload rfl rfl ?_
    refine tw_aload rfl rfl ?_
    refine tw_getS rfl (hi_111_27 hs) ?_
    refine tw_ic_le rfl (fun q1246 => ?_) (fun q1246 => ?_)
    · try dsimp only [tvI_i, tvJ_j, tvR_r] at q1246
      refine tw_aload rfl rfl ?_
      refine tw_iload rfl rfl ?_
      refine tw_put rfl (fun f1247 => ?_)
      refine tw_iload rfl rfl ?_
      exact tw_iret rfl (Or.inl ⟨by omega, rfl, (tF_same f1247)⟩)
    · try dsimp only [tvI_i, tvJ_j, tvR_r] at q1246
      refine tw_push rfl ?_
      exact tw_iret rfl (Or.inr ⟨by omega, rfl, rfl⟩)
theorem a_end {n : Int32} {h h2 h3 : zH} {w w2 : Option Value} (hL : R_tlen h) (e1 : tF h2 111 27 = tF h 111 27) (e2 : tF h3 44 1 = tF h2 44 1) (k1 : (fun n h w h2 => ((0 ≤ n.toInt ∧ n.toInt ≤ (tvI (tF h 44 1)).toInt) ∧ w = some (.int n) ∧ tF h2 44 1 = .int n) ∨ (¬ (0 ≤ n.toInt ∧ n.toInt ≤ (tvI (tF h 44 1)).toInt) ∧ w = some (.int (-1)) ∧ h2 = h)) n h w h2) (k2 : (fun n h w h2 => ((0 ≤ n.toInt ∧ n.toInt ≤ (tvI (tF h 111 27)).toInt) ∧ w = some (.int n) ∧ tF h2 111 27 = .int n) ∨ (¬ (0 ≤ n.toInt ∧ n.toInt ≤ (tvI (tF h 111 27)).toInt) ∧ w = some (.int (-1)) ∧ h2 = h)) n h2 w2 h3) : w2 = w ∧ R_tlen h3 := by
  try dsimp only at k1 k2
  unfold R_tlen at *
  rw [e1, ← hL] at k2
  rcases k1 with ⟨c1, rfl, f1⟩ | ⟨c1, rfl, rfl⟩ <;> rcases k2 with ⟨c2, rfl, f2⟩ | ⟨c2, rfl, rfl⟩
  · exact ⟨rfl, by rw [e2, f1, f2]⟩
  · exact absurd c1 c2
  · exact absurd c2 c1
  · exact ⟨rfl, hL⟩
