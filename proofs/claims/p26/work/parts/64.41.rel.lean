theorem cmp_mend {xs : Nat → Int32} {τ : List Nat} {c x : Int32} {h h2 h3 : zH} {w w2 : Option Value} (hB : zBs xs τ h) (hQ : R_calls h) (hC : R_cars h) (hN : R_now h) (hL : R_cl h) (h1 : R_qkind h) (h4 : R_qfrom h) (h5 : R_qto h) (h6 : R_qpart h) (hrc : R_crc h) (hR : R_cmp h) (hz : R_cmz h)
  (e1 : tF h2 111 83 = tF h 111 83) (e2 : tF h2 111 5 = tF h 111 5) (e3 : tF h2 111 1 = tF h 111 1) (o1 : tA h2 173 = tA h 173) (o2 : tA h2 174 = tA h 174) (o3 : tA h2 175 = tA h 175) (o4 : tA h2 121 = tA h 121) (o5 : tA h2 122 = tA h 122) (o6 : tA h2 120 = tA h 120) (o7 : tA h2 177 = tA h 177) (o8 : tA h2 178 = tA h 178)
  (t1 : tF h3 36 4 = tF h2 36 4) (t2 : tO h3 39 = tO h2 39) (t4 : tF h2 36 4 = tF h 36 4) (t5 : tO h2 39 = tO h 39) (t3 : ∀ i r f : Nat, (i : Int) < (tvI (tF h2 36 4)).toInt → tO h2 39 i = some r → tF h3 r f = tF h2 r f) (t6 : ∀ i r : Nat, (i : Int) < (tvI (tF h2 36 4)).toInt → tO h2 39 i = some r → tF h2 r 10 = .ref (r + 1) → tA h3 (r + 1) = tA h2 (r + 1)) (t7 : tF h3 111 83 = tF h 111 83) (t8 : tA h3 176 = tA h 176) (k1 : ph_mec c x h w h2) (k2 : ph_mem c x h2 w2 h3) : R_cmp h3 ∧ R_cmz h3 := by
  have hn5 := kb_111_5 hB
  have hn83 := kb_111_83 hB
  have hn1 := kb_111_1 hB
  have hc9 := mend_c (c := c) (x := x) hQ hC h1 h4 h5 hrc hn5.2 hn83.2
  unfold ph_mem at k2
  unfold lfM at k2 hc9
  rw [e1, e2, e3, o1, o2, o3, o4, o5, o6, o7, o8] at k2
  have hC0 := hC
  unfold R_cars at hC0
  have hQ0 := hQ
  unfold R_calls at hQ0
  unfold R_qpart at h6
  unfold R_now at hN
  rcases k1 with ⟨c1, rfl, r0, g1, g2, g3, g4, g5, g6, g7⟩ | ⟨c1, rfl, rfl⟩ <;> rcases k2 with ⟨c2, rfl, f2⟩ | ⟨c2, rfl, rfl⟩
  · have hcN : c.toNatClampNeg < 20 := by rw [zclE]; omega
    have hxN : x.toNatClampNeg < 300 := by rw [zclE]; omega
    have hnow1 : (tvI (tF h 111 1) + 1).toInt = (tvI (tF h 111 1)).toInt + 1 := (zincN (n := (tvI (tF h 111 1)).toInt.toNat) (by omega) (by omega)).trans (by omega)
    have hx2 : ((x.toNatClampNeg : Nat) : Int) < (tvI (tF h 36 4)).toInt := by rw [zclE]; omega
    have hx0 : tA h 177 (300 * c.toNatClampNeg + x.toNatClampNeg) = 0 := c1.2.2.2.2
    rw [← h6] at t8
    rw [hN] at g7
    refine ⟨fun i r hi hr => ?_, fun i d hi hd => ?_⟩
    · rw [t1, t4] at hi
      rw [t2, t5] at hr
      have hib : i < 300 := by rw [hC0] at hi; omega
      obtain ⟨b1, b2⟩ := hR i r hi hr
      have hi3 : (i : Int) < (tvI (tF h2 36 4)).toInt := by rw [t4]; exact hi
      have hr3 : tO h2 39 i = some r := by rw [t5]; exact hr
      have d1 : tF h2 r 10 = .ref (r + 1) := (g4 r 10 (fun z => by omega)).trans b1
      refine ⟨(t3 i r 10 hi3 hr3).trans d1, fun p hp m hm => ?_⟩
      rw [t6 i r hi3 hr3 d1, t7, t8, f2]
      by_cases q : r = r0
      · subst q
        have hix : i = x.toNatClampNeg := hL.2 i _ hi hx2 (by rw [hr, g1])
        subst hix
        rw [g7]
        have hpp : (tA h 93 c.toNatClampNeg).toNatClampNeg = p ∨ (tA h 93 c.toNatClampNeg).toNatClampNeg ≠ p := by omega
        have hb := b2 p hp m hm
        rw [← h6] at hb
        show (if p = (tA h 93 c.toNatClampNeg).toNatClampNeg then (if tvI (tF h 111 1) < tA h (r + 1) (tA h 93 c.toNatClampNeg).toNatClampNeg then tvI (tF h 111 1) else tA h (r + 1) (tA h 93 c.toNatClampNeg).toNatClampNeg) else tA h (r + 1) p).toInt ≤ m ↔ ∃ d : Nat, (d : Int) < (tvI (tF h 111 83)).toInt ∧ 0 < (if 300 * d + x.toNatClampNeg = 300 * c.toNatClampNeg + x.toNatClampNeg then tvI (tF h 111 1) + 1 else tA h 177 (300 * d + x.toNatClampNeg)).toInt ∧ (if 300 * d + x.toNatClampNeg = 300 * c.toNatClampNeg + x.toNatClampNeg then tvI (tF h 111 1) + 1 else tA h 177 (300 * d + x.toNatClampNeg)).toInt - 1 ≤ m ∧ (tA h 93 d).toNatClampNeg = p
        have hother : (∃ d : Nat, (d : Int) < (tvI (tF h 111 83)).toInt ∧ 0 < (if 300 * d + x.toNatClampNeg = 300 * c.toNatClampNeg + x.toNatClampNeg then tvI (tF h 111 1) + 1 else tA h 177 (300 * d + x.toNatClampNeg)).toInt ∧ (if 300 * d + x.toNatClampNeg = 300 * c.toNatClampNeg + x.toNatClampNeg then tvI (tF h 111 1) + 1 else tA h 177 (300 * d + x.toNatClampNeg)).toInt - 1 ≤ m ∧ (tA h 93 d).toNatClampNeg = p) ↔ ((tA h 93 c.toNatClampNeg).toNatClampNeg = p ∧ (tvI (tF h 111 1)).toInt ≤ m) ∨ (tA h (r + 1) p).toInt ≤ m := by
          rw [hb]
          constructor
          · rintro ⟨d, d1, d2, d3, d4⟩
            by_cases e : d = c.toNatClampNeg
            · rw [if_pos (by omega), hnow1] at d3
              subst e
              exact Or.inl ⟨d4, by omega⟩
            · rw [if_neg (by omega)] at d2 d3
              exact Or.inr ⟨d, d1, d2, d3, d4⟩
          · rintro (⟨d1, d2⟩ | ⟨d, d1, d2, d3, d4⟩)
            · refine ⟨c.toNatClampNeg, by rw [zclE]; rw [← hQ0]; omega, ?_, ?_, d1⟩
              · rw [if_pos rfl, hnow1]; omega
              · rw [if_pos rfl, hnow1]; omega
            · by_cases e : d = c.toNatClampNeg
              · subst e
                rw [hx0] at d2
                exact absurd d2 (by decide)
              · refine ⟨d, d1, ?_, ?_, d4⟩
                · rw [if_neg (by omega)]; exact d2
                · rw [if_neg (by omega)]; exact d3
        rw [hother]
        rcases hpp with e | e
        · rw [if_pos e.symm, e]
          by_cases l : tvI (tF h 111 1) < tA h (r + 1) p
          · rw [if_pos l]
            have := Int32.lt_iff_toInt_lt.mp l
            constructor
            · intro z; exact Or.inl ⟨rfl, z⟩
            · rintro (z | z)
              · exact z.2
              · omega
          · rw [if_neg l]
            have : ¬ (tvI (tF h 111 1)).toInt < (tA h (r + 1) p).toInt := fun z => l (Int32.lt_iff_toInt_lt.mpr z)
            constructor
            · intro z; exact Or.inr z
            · rintro (z | z)
              · have := z.2; omega
              · exact z
        · rw [if_neg (fun z => e z.symm)]
          exact ⟨Or.inr, fun z => z.resolve_left (fun y => e y.1)⟩
      · have hix : i ≠ x.toNatClampNeg := fun z => q (by rw [z, g1] at hr; exact (Option.some.inj hr).symm)
        have hne : r + 1 ≠ r0 + 1 := fun z => q (by omega)
        rw [g6 (r + 1) hne]
        have hb := b2 p hp m hm
        rw [← h6] at hb
        rw [hb]
        constructor
        · rintro ⟨d, d1, d2, d3, d4⟩
          refine ⟨d, d1, ?_, ?_, d4⟩
          · show 0 < (if 300 * d + i = 300 * c.toNatClampNeg + x.toNatClampNeg then tvI (tF h 111 1) + 1 else tA h 177 (300 * d + i)).toInt
            rw [if_neg (by omega)]; exact d2
          · show (if 300 * d + i = 300 * c.toNatClampNeg + x.toNatClampNeg then tvI (tF h 111 1) + 1 else tA h 177 (300 * d + i)).toInt - 1 ≤ m
            rw [if_neg (by omega)]; exact d3
        · rintro ⟨d, d1, d2, d3, d4⟩
          have d2 : 0 < (if 300 * d + i = 300 * c.toNatClampNeg + x.toNatClampNeg then tvI (tF h 111 1) + 1 else tA h 177 (300 * d + i)).toInt := d2
          have d3 : (if 300 * d + i = 300 * c.toNatClampNeg + x.toNatClampNeg then tvI (tF h 111 1) + 1 else tA h 177 (300 * d + i)).toInt - 1 ≤ m := d3
          rw [if_neg (by omega)] at d2 d3
          exact ⟨d, d1, d2, d3, d4⟩
    · rw [t7] at hd
      rw [f2]
      show (if 300 * d + i = 300 * c.toNatClampNeg + x.toNatClampNeg then tvI (tF h 111 1) + 1 else tA h 177 (300 * d + i)) = 0
      have : (c.toNatClampNeg : Int) < (tvI (tF h 111 83)).toInt := by rw [zclE]; rw [← hQ0]; omega
      rw [if_neg (by omega)]
      exact hz i d hi hd
  · exact absurd (hc9.mp c1) c2
  · exact absurd (hc9.mpr c2) c1
  · refine ⟨?_, ?_⟩
    · exact hR
    · exact hz
noncomputable def ph_moves (a b q : Nat) (p z : Int32) (h : zH) (w : Option Value) (h2 : zH) : Prop := (((0 ≤ p.toInt ∧ p.toInt < (tvI (tF h a b)).toInt) ∧ ¬ tA h q p.toNatClampNeg = z) ∧ w = some (.int 1) ∧ h2 = tSA h q p.toNatClampNeg z ∧ (∃ kd, tIn h q kd p)) ∨ (¬ ((0 ≤ p.toInt ∧ p.toInt < (tvI (tF h a b)).toInt) ∧ ¬ tA h q p.toNatClampNeg = z) ∧ w = some (.int 0) ∧ h2 = h)
theorem f_setMoved {G : zG} (hG : G.1 = zProg) {h : zH} {p z : Int32} (bz : 0 ≤ z.toInt ∧ z.toInt ≤ 1) (hs : tSh h) : tC zTt G 17 [.ref 36, .int p, .int z] h (fun w h2 => ((¬ tA h 38 p.toNatClampNeg = z) ∧ w = some (.int 1) ∧ h2 = tSA h 38 p.toNatClampNeg z ∧ (∃ kd, tIn h 38 kd p)) ∨ (¬ (¬ tA h 38 p.toNatClampNeg = z) ∧ w = some (.int 0) ∧ h2 = h)) := by
  refine tC_in (by rw [hG]; rfl) (fun dp => ?_)
  refine tw_aload rfl rfl ?_
  refine tw_getS rfl (hs_36_1 hs) ?_
  refine tw_iload rfl rfl ?_
  refine tw_bald rfl (fun f366 => ?_)
  refine tw_iload rfl rfl ?_
  refine tw_ic_ne rfl (fun q367 => ?_) (fun q367 => ?_)
  · try dsimp only [tvI_i, tvJ_j, tvR_r] at q367
    have q367i := zneq rfl q367
    refine tw_aload rfl rfl ?_
    refine tw_getS rfl (hs_36_1 hs) ?_
    refine tw_iload rfl rfl ?_
    refine tw_iload rfl rfl ?_
    refine tw_bastZ bz rfl (fun kf368 f368 => ?_)
    refine tw_push rfl ?_
    exact tw_iret rfl (Or.inl ⟨q367, rfl, rfl, ⟨_, f368⟩⟩)
  · try dsimp only [tvI_i, tvJ_j, tvR_r] at q367
    have q367i := zeqi rfl q367
    refine tw_push rfl ?_
    exact tw_iret rfl (Or.inr ⟨fun z => z q367, rfl, rfl⟩)
theorem f_moves {G : zG} (hG : G.1 = zProg) {h : zH} {p z : Int32} (bz : 0 ≤ z.toInt ∧ z.toInt ≤ 1) (hs : tSh h) : tC zTt G 151 [.ref 0, .int p, .int z] h (ph_moves 36 2 38 p z h) := by
  refine tC_in (by rw [hG]; rfl) (fun dp => ?_)
  refine tw_aload rfl rfl ?_
  refine tw_getS rfl (hs_0_1 hs) ?_
  refine tw_iload rfl rfl ?_
  refine tw_virt1 rfl (f_hasPerson hG hs) (fun w9 h9 p369 => ?_)
  obtain ⟨⟨p369, rfl⟩ | ⟨p369, rfl⟩, rfl⟩ := p369
  · try dsimp only [tvI_i, tvJ_j, tvR_r] at p369
    refine tw_if_eq rfl (fun z => absurd z (by decide)) (fun _ => ?_)
    refine tw_aload rfl rfl ?_
    refine tw_getS rfl (hs_0_1 hs) ?_
    refine tw_iload rfl rfl ?_
    refine tw_iload rfl rfl ?_
    refine tw_virt2 rfl (f_setMoved hG bz hs) (fun w9 h9 p370 => ?_)
    rcases p370 with ⟨p370, rfl, rfl, p370f⟩ | ⟨p370, rfl, rfl⟩
    · refine tw_if_eq rfl (fun z => absurd z (by decide)) (fun _ => ?_)
      refine tw_push rfl ?_
      refine tw_goto rfl ?_
      exact tw_iret rfl (Or.inl ⟨⟨p369, p370⟩, rfl, rfl, p370f⟩)
    · refine tw_if_eq rfl (fun _ => ?_) (fun z => absurd z (by decide))
      refine tw_push rfl ?_
      exact tw_iret rfl (Or.inr ⟨fun z => p370 z.2, rfl, rfl⟩)
  · try dsimp only [tvI_i, tvJ_j, tvR_r] at p369
    refine tw_if_eq rfl (fun _ => ?_) (fun z => absurd z (by decide))
    refine tw_push rfl ?_
    exact tw_iret rfl (Or.inr ⟨fun z => p369 z.1, rfl, rfl⟩)
theorem g_moves {G : zG} (hG : G.1 = zProg) {h : zH} {p z : Int32} (bz : 0 ≤ z.toInt ∧ z.toInt ≤ 1) (hs : tSh h) (hk2 : 0 ≤ (tvI (tF h 111 2)).toInt) : tC zTt G 273 [.ref 111, .int p, .int z] h (ph_moves 111 2 119 p z h) := by
  refine tC_in (by rw [hG]; rfl) (fun dp => ?_)
  refine tw_aload rfl rfl ?_
  refine tw_iload rfl rfl ?_
  refine tw_virt1 rfl (g_isPerson hG hs hk2) (fun w9 h9 p371 => ?_)
  obtain ⟨⟨p371, rfl⟩ | ⟨p371, rfl⟩, rfl⟩ := p371
  · try dsimp only [tvI_i, tvJ_j, tvR_r] at p371
    refine tw_if_eq rfl (fun z => absurd z (by decide)) (fun _ => ?_)
    refine tw_aload rfl rfl ?_
    refine tw_getS rfl (hs_111_14 hs) ?_
    refine tw_iload rfl rfl ?_
    refine tw_bald rfl (fun f372 => ?_)
    refine tw_iload rfl rfl ?_
    refine tw_ic_ne rfl (fun q373 => ?_) (fun q373 => ?_)
    · try dsimp only [tvI_i, tvJ_j, tvR_r] at q373
      have q373i := zneq rfl q373
      refine tw_aload rfl rfl ?_
      refine tw_getS rfl (hs_111_14 hs) ?_
      refine tw_iload rfl rfl ?_
      refine tw_iload rfl rfl ?_
      refine tw_bastZ bz rfl (fun kf374 f374 => ?_)
      refine tw_push rfl ?_
      exact tw_iret rfl (Or.inl ⟨⟨p371, q373⟩, rfl, rfl, ⟨_, f374⟩⟩)
    · try dsimp only [tvI_i, tvJ_j, tvR_r] at q373
      have q373i := zeqi rfl q373
      refine tw_push rfl ?_
      exact tw_iret rfl (Or.inr ⟨fun z => z.2 q373, rfl, rfl⟩)
  · try dsimp only [tvI_i, tvJ_j, tvR_r] at p371
    refine tw_if_eq rfl (fun _ => ?_) (fun z => absurd z (by decide))
    refine tw_push rfl ?_
    exact tw_iret rfl (Or.inr ⟨fun z => p371 z.1, rfl, rfl⟩)
theorem a_moves {p z : Int32} {h h2 h3 : zH} {w w2 : Option Value} (hP : R_people h) (hn : (tvI (tF h 36 2)).toInt ≤ 60) (hR : R_moved h) (k1 : ph_moves 36 2 38 p z h w h2) (k2 : ph_moves 111 2 119 p z h2 w2 h3) : w2 = w ∧ R_moved h3 := by
  unfold R_people at hP
  rcases k1 with ⟨c1, rfl, rfl, ⟨d1, f1⟩⟩ | ⟨c1, rfl, rfl⟩ <;> rcases k2 with ⟨c2, rfl, rfl, ⟨d2, f2⟩⟩ | ⟨c2, rfl, rfl⟩
  · refine ⟨rfl, fun i hi => ?_⟩
    rw [tA_tSA f2.cell, tA_tSA f1.cell]
    dsimp only
    by_cases e : i = p.toNatClampNeg
    · rw [if_neg (by omega), if_pos ⟨rfl, e⟩, if_pos ⟨rfl, e⟩]
    · rw [if_neg (by omega), if_neg (by omega), if_neg (by omega), if_neg (by omega)]
      exact hR i hi
  · refine absurd ?_ c2
    have hp : p.toNatClampNeg < 60 := by rw [zclE]; omega
    rw [tF_tSA, ← hP, tA_nz (by decide), ← hR _ hp]
    exact c1
  · refine absurd ?_ c1
    have hp : p.toNatClampNeg < 60 := by rw [zclE]; rw [← hP] at c2; omega
    rw [← hP, ← hR _ hp] at c2
    exact c2
  · exact ⟨rfl, hR⟩
theorem f_partsFitted {G : zG} (hG : G.1 = zProg) {h : zH} {k m : Int32} (hs : tSh h) (hr : tRw h) (hp : 0 ≤ (tvI (tF h 1 7)).toInt) : tC zTt G 32 [.ref 1, .int k, .int m] h (fun w h2 => w = some (.int (sPB (tA h (28 + k.toNatClampNeg)) m (tvI (tF h 1 7)).toNatClampNeg)) ∧ h2 = h) := by
  refine tC_in (by rw [hG]; rfl) (fun dp => ?_)
  refine tw_push rfl ?_
  refine tw_istore rfl ?_
  refine tw_push rfl ?_
  refine tw_istore rfl ?_
  refine tG_loop (zW_mono zTt G dp) (zW_conj zTt G dp) (V := fun pc L st h9 _ _ => pc = 5 ∧ st = [] ∧ h = h9 ∧ ∃ (n : Nat) (x y : Int32), x.toInt = n ∧ (n : Int) ≤ (tvI (tF h 1 7)).toInt ∧ y = sPB (tA h (28 + k.toNatClampNeg)) m n ∧ L = [some (.ref 1), some (.int k), some (.int m), some (.int y), some (.int x)]) ?_ (⟨rfl, rfl, rfl, 0, 0, 0, rfl, hp, rfl, rfl⟩)
  rintro _ _ _ _ _ _ ⟨rfl, rfl, rfl, n, x, y, hx, hn, hy, rfl⟩
  refine tw_iload rfl rfl ?_
  refine tw_aload rfl rfl ?_
  refine tw_getS rfl (hi_1_7 hs) ?_
  refine tw_ic_ge rfl (fun q375 => ?_) (fun q375 => ?_)
  · try dsimp only [tvI_i, tvJ_j, tvR_r] at q375
    refine tw_iload rfl rfl ?_
    exact tw_iret rfl ⟨(by rw [show n = (tvI (tF h 1 7)).toNatClampNeg from by rw [zclE]; omega] at hy; exact congrArg (fun z => some (Value.int z)) hy), rfl⟩
  · try dsimp only [tvI_i, tvJ_j, tvR_r] at q375
    refine tw_aload rfl rfl ?_
    refine tw_getS rfl (hs_1_5 hs) ?_
    refine tw_iload rfl rfl ?_
    refine tw_aaldS rfl (fun z => tRw_at hr (p := 27) (q := 28) (by decide) z) ?_
    refine tw_iload rfl rfl ?_
    refine tw_iald rfl (fun f377 => ?_)
    refine tw_iload rfl rfl ?_
    refine tw_ic_gt rfl (fun q378 => ?_) (fun q378 => ?_)
    · try dsimp only [tvI_i, tvJ_j, tvR_r] at q378
      refine tw_iinc rfl rfl ?_
      refine tw_goto rfl ?_
      rw [zof_cl hx] at q378
      exact tG_cut (zW_mono zTt G dp) (Or.inr ⟨rfl, rfl, rfl, n + 1, x + 1, _, zincL hx q375, by omega, sPB_n hy q378, rfl⟩)
    · try dsimp only [tvI_i, tvJ_j, tvR_r] at q378
      refine tw_iload rfl rfl ?_
      refine tw_push rfl ?_
      refine tw_iload rfl rfl ?_
      refine tw_ishl rfl ?_
      refine tw_ior rfl ?_
      refine tw_istore rfl ?_
      refine tw_iinc rfl rfl ?_
      refine tw_goto rfl ?_
      rw [zof_cl hx] at q378
      exact tG_cut (zW_mono zTt G dp) (Or.inr ⟨rfl, rfl, rfl, n + 1, x + 1, _, zincL hx q375, by omega, sPB_y hx hy q378, rfl⟩)
theorem g_partsOf {G : zG} (hG : G.1 = zProg) {h : zH} {k m : Int32} (hs : tSh h) (hm4 : 0 ≤ (tvI (tF h 111 4)).toInt ∧ (tvI (tF h 111 4)).toInt ≤ 12) (hk : 0 ≤ k.toInt ∧ k.toInt ≤ 7) : tC zTt G 188 [.ref 111, .int k, .int m] h (fun w h2 => w = some (.int (sPB (fun p => tA h 118 (12 * k.toNatClampNeg + p)) m (tvI (tF h 111 4)).toNatClampNeg)) ∧ h2 = h) := by
  refine tC_in (by rw [hG]; rfl) (fun dp => ?_)
  refine tw_push rfl ?_
  refine tw_istore rfl ?_
  refine tw_push rfl ?_
  refine tw_istore rfl ?_
  refine tG_loop (zW_mono zTt G dp) (zW_conj zTt G dp) (V := fun pc L st h9 _ _ => pc = 5 ∧ st = [] ∧ h = h9 ∧ ∃ (n : Nat) (x y : Int32), x.toInt = n ∧ (n : Int) ≤ (tvI (tF h 111 4)).toInt ∧ y = sPB (fun p => tA h 118 (12 * k.toNatClampNeg + p)) m n ∧ L = [some (.ref 111), some (.int k), some (.int m), some (.int y), some (.int x)]) ?_ (⟨rfl, rfl, rfl, 0, 0, 0, rfl, hm4.1, rfl, rfl⟩)
  rintro _ _ _ _ _ _ ⟨rfl, rfl, rfl, n, x, y, hx, hn, hy, rfl⟩
  refine tw_iload rfl rfl ?_
  refine tw_aload rfl rfl ?_
  refine tw_getS rfl (hi_111_4 hs) ?_
  refine tw_ic_ge rfl (fun q379 => ?_) (fun q379 => ?_)
  · try dsimp only [tvI_i, tvJ_j, tvR_r] at q379
    refine tw_iload rfl rfl ?_
    exact tw_iret rfl ⟨(by rw [show n = (tvI (tF h 111 4)).toNatClampNeg from by rw [zclE]; omega] at hy; exact congrArg (fun z => some (Value.int z)) hy), rfl⟩
  · try dsimp only [tvI_i, tvJ_j, tvR_r] at q379
    refine tw_iload rfl rfl ?_
    refine tw_aload rfl rfl ?_
    refine tw_getS rfl (hs_111_13 hs) ?_
    refine tw_push rfl ?_
    refine tw_iload rfl rfl ?_
    refine tw_imul rfl ?_
    refine tw_iload rfl rfl ?_
    refine tw_iadd rfl ?_
    refine tw_iald rfl (fun f380 => ?_)
    refine tw_iload rfl rfl ?_
    refine tw_ic_gt rfl (fun q381 => ?_) (fun q381 => ?_)
    · try dsimp only [tvI_i, tvJ_j, tvR_r] at q381
      refine tw_push rfl ?_
      refine tw_ior rfl ?_
      refine tw_istore rfl ?_
      refine tw_iinc rfl rfl ?_
      refine tw_goto rfl ?_
      have e9 := (zmulc (c := 12) (K := 12) (k := k) (p := x) rfl (by decide) (by omega) (by omega)).1
      rw [zof_cl hx] at e9
      rw [e9] at q381
      exact tG_cut (zW_mono zTt G dp) (Or.inr ⟨rfl, rfl, rfl, n + 1, x + 1, _, zincL hx q379, by omega, sPB_0 hy q381, rfl⟩)
    · try dsimp only [tvI_i, tvJ_j, tvR_r] at q381
      refine tw_push rfl ?_
      refine tw_iload rfl rfl ?_
      refine tw_ishl rfl ?_
      refine tw_goto rfl ?_
      refine tw_ior rfl ?_
      refine tw_istore rfl ?_
      refine tw_iinc rfl rfl ?_
      refine tw_goto rfl ?_
      have e9 := (zmulc (c := 12) (K := 12) (k := k) (p := x) rfl (by decide) (by omega) (by omega)).1
      rw [zof_cl hx] at e9
      rw [e9] at q381
      exact tG_cut (zW_mono zTt G dp) (Or.inr ⟨rfl, rfl, rfl, n + 1, x + 1, _, zincL hx q379, by omega, sPB_y hx hy q381, rfl⟩)
theorem f_partsMended {G : zG} (hG : G.1 = zProg) {h : zH} {r q : Nat} {m : Int32} (h10 : tF h r 10 = .ref q) : tC zTt G 1 [.ref r, .int m] h (fun w h2 => w = some (.int (sPB (tA h q) m 12)) ∧ h2 = h) := by
  refine tC_in (by rw [hG]; rfl) (fun dp => ?_)
  have h12 : (12 : Int32).toInt = 12 := rfl
  refine tw_push rfl ?_
  refine tw_istore rfl ?_
  refine tw_push rfl ?_
  refine tw_istore rfl ?_
  refine tG_loop (zW_mono zTt G dp) (zW_conj zTt G dp) (V := fun pc L st h9 _ _ => pc = 4 ∧ st = [] ∧ h = h9 ∧ ∃ (n : Nat) (x y : Int32), x.toInt = n ∧ (n : Int) ≤ 12 ∧ y = sPB (tA h q) m n ∧ L = [some (.ref r), some (.int m), some (.int y), some (.int x)]) ?_ (⟨rfl, rfl, rfl, 0, 0, 0, rfl, by decide, rfl, rfl⟩)
  rintro _ _ _ _ _ _ ⟨rfl, rfl, rfl, n, x, y, hx, hn, hy, rfl⟩
  refine tw_iload rfl rfl ?_
  refine tw_push rfl ?_
  refine tw_ic_ge rfl (fun q382 => ?_) (fun q382 => ?_)
  · try dsimp only [tvI_i, tvJ_j, tvR_r] at q382
    refine tw_iload rfl rfl ?_
    exact tw_iret rfl ⟨(by rw [show n = 12 from by omega] at hy; exact congrArg (fun z => some (Value.int z)) hy), rfl⟩
  · try dsimp only [tvI_i, tvJ_j, tvR_r] at q382
    refine tw_aload rfl rfl ?_
    refine tw_getS rfl h10 ?_
    refine tw_iload rfl rfl ?_
    refine tw_iald rfl (fun f383 => ?_)
    refine tw_iload rfl rfl ?_
    refine tw_ic_gt rfl (fun q384 => ?_) (fun q384 => ?_)
    · try dsimp only [tvI_i, tvJ_j, tvR_r] at q384
      refine tw_iinc rfl rfl ?_
      refine tw_goto rfl ?_
      rw [zof_cl hx] at q384
      exact tG_cut (zW_mono zTt G dp) (Or.inr ⟨rfl, rfl, rfl, n + 1, x + 1, _, zincL hx q382, by omega, sPB_n hy q384, rfl⟩)
    · try dsimp only [tvI_i, tvJ_j, tvR_r] at q384
      refine tw_iload rfl rfl ?_
      refine tw_push rfl ?_
      refine tw_iload rfl rfl ?_
      refine tw_ishl rfl ?_
      refine tw_ior rfl ?_
      refine tw_istore rfl ?_
      refine tw_iinc rfl rfl ?_
      refine tw_goto rfl ?_
      rw [zof_cl hx] at q384
      exact tG_cut (zW_mono zTt G dp) (Or.inr ⟨rfl, rfl, rfl, n + 1, x + 1, _, zincL hx q382, by omega, sPB_y hx hy q384, rfl⟩)
theorem f_partsOf {G : zG} (hG : G.1 = zProg) {h : zH} {r q : Nat} {k md m : Int32} (hs : tSh h) (hr : tRw h) (hp : 0 ≤ (tvI (tF h 1 7)).toInt) (h0 : tF h r 0 = .int k) (h1 : tF h r 1 = .int md) (h10 : tF h r 10 = .ref q) : tC zTt G 163 [.ref 0, .ref r, .int m] h (fun w h2 => w = some (.int (sPB (tA h (28 + (k).toNatClampNeg)) (md) (tvI (tF h 1 7)).toNatClampNeg ||| sPB (tA h (q)) (m) 12)) ∧ h2 = h) := by
  refine tC_in (by rw [hG]; rfl) (fun dp => ?_)
  refine tw_aload rfl rfl ?_
  refine tw_getS rfl (hs_0_0 hs) ?_
  refine tw_aload rfl rfl ?_
  refine tw_getS rfl h0 ?_
  refine tw_aload rfl rfl ?_
  refine tw_getS rfl h1 ?_
  refine tw_virt2 rfl (f_partsFitted hG hs hr hp) (fun w9 h9 p385 => ?_)
  obtain ⟨rfl, e9⟩ := p385
  obtain rfl := e9.symm
  refine tw_aload rfl rfl ?_
  refine tw_iload rfl rfl ?_
  refine tw_virt1 rfl (f_partsMended hG h10) (fun w9 h9 p386 => ?_)
  obtain ⟨rfl, e9⟩ := p386
  obtain rfl := e9.symm
  refine tw_ior rfl ?_
  exact tw_iret rfl ⟨rfl, rfl⟩
theorem g_partsOfCar {G : zG} (hG : G.1 = zProg) {h : zH} {c m : Int32} (hs : tSh h) (hm4 : 0 ≤ (tvI (tF h 111 4)).toInt ∧ (tvI (tF h 111 4)).toInt ≤ 12) (h83 : 0 ≤ (tvI (tF h 111 83)).toInt ∧ (tvI (tF h 111 83)).toInt ≤ 20) (hc : 0 ≤ c.toInt ∧ c.toInt < 300) (hK : 0 ≤ (tA h 121 c.toNatClampNeg).toInt ∧ (tA h 121 c.toNatClampNeg).toInt ≤ 7) : tC zTt G 189 [.ref 111, .int c, .int m] h (fun w h2 => w = some (.int (sPM (tA h 177) (tA h 176) (c).toNatClampNeg (m) (sPB (fun p => tA h 118 (12 * (tA h 121 (c).toNatClampNeg).toNatClampNeg + p)) (tA h 122 (c).toNatClampNeg) (tvI (tF h 111 4)).toNatClampNeg) (tvI (tF h 111 83)).toNatClampNeg)) ∧ h2 = h) := by
  refine tC_in (by rw [hG]; rfl) (fun dp => ?_)
  refine tw_aload rfl rfl ?_
  refine tw_aload rfl rfl ?_
  refine tw_getS rfl (hs_111_16 hs) ?_
  refine tw_iload rfl rfl ?_
  refine tw_iald rfl (fun f387 => ?_)
  refine tw_aload rfl rfl ?_
  refine tw_getS rfl (hs_111_17 hs) ?_
  refine tw_iload rfl rfl ?_
  refine tw_iald rfl (fun f388 => ?_)
  refine tw_virt2 rfl (g_partsOf hG hs hm4 hK) (fun w9 h9 p389 => ?_)
  obtain ⟨rfl, e9⟩ := p389
  obtain rfl := e9.symm
  refine tw_istore rfl ?_
  refine tw_push rfl ?_
  refine tw_istore rfl ?_
  refine tG_loop (zW_mono zTt G dp) (zW_conj zTt G dp) (V := fun pc L st h9 _ _ => pc = 20 ∧ st = [] ∧ h = h9 ∧ ∃ (n : Nat) (x y : Int32), x.toInt = n ∧ (n : Int) ≤ (tvI (tF h 111 83)).toInt ∧ y = sPM (tA h 177) (tA h 176) c.toNatClampNeg m (sPB (fun p => tA h 118 (12 * (tA h 121 c.toNatClampNeg).toNatClampNeg + p)) (tA h 122 c.toNatClampNeg) (tvI (tF h 111 4)).toNatClampNeg) n ∧ L = [some (.ref 111), some (.int c), some (.int m), some (.int y), some (.int x)]) ?_ (⟨rfl, rfl, rfl, 0, 0, _, rfl, h83.1, rfl, rfl⟩)
  rintro _ _ _ _ _ _ ⟨rfl, rfl, rfl, n, x, y, hx, hn, hy, rfl⟩
  refine tw_iload rfl rfl ?_
  refine tw_aload rfl rfl ?_
  refine tw_getS rfl (hi_111_83 hs) ?_
  refine tw_ic_ge rfl (fun q390 => ?_) (fun q390 => ?_)
  · try dsimp only [tvI_i, tvJ_j, tvR_r] at q390
    refine tw_iload rfl rfl ?_
    exact tw_iret rfl ⟨(by rw [show n = (tvI (tF h 111 83)).toNatClampNeg from by rw [zclE]; omega] at hy; exact congrArg (fun z => some (Value.int z)) hy), rfl⟩
  · try dsimp only [tvI_i, tvJ_j, tvR_r] at q390
    refine tw_iload rfl rfl ?_
    refine tw_aload rfl rfl ?_
    refine tw_getS rfl (hs_111_88 hs) ?_
    refine tw_push rfl ?_
    refine tw_iload rfl rfl ?_
    refine tw_imul rfl ?_
    refine tw_iload rfl rfl ?_
    refine tw_iadd rfl ?_
    refine tw_iald rfl (fun f391 => ?_)
    refine tw_if_le rfl (fun q392 => ?_) (fun q392 => ?_)
    · try dsimp only [tvI_i, tvJ_j, tvR_r] at q392
      refine tw_push rfl ?_
      refine tw_ior rfl ?_
      refine tw_istore rfl ?_
      refine tw_iinc rfl rfl ?_
      refine tw_goto rfl ?_
      have e9 : (300 * x + c).toNatClampNeg = 300 * n + c.toNatClampNeg := by rw [zmul3 (by omega) (by omega), zof_cl hx]
      rw [e9] at q392
      exact tG_cut (zW_mono zTt G dp) (Or.inr ⟨rfl, rfl, rfl, n + 1, x + 1, _, zincL hx q390, by omega, sPM_n hy (fun z => absurd z.1 (by omega)), rfl⟩)
    · try dsimp only [tvI_i, tvJ_j, tvR_r] at q392
      refine tw_aload rfl rfl ?_
      refine tw_getS rfl (hs_111_88 hs) ?_
      refine tw_push rfl ?_
      refine tw_iload rfl rfl ?_
      refine tw_imul rfl ?_
      refine tw_iload rfl rfl ?_
      refine tw_iadd rfl ?_
      refine tw_iald rfl (fun f393 => ?_)
      refine tw_push rfl ?_
      refine tw_isub rfl ?_
      refine tw_iload rfl rfl ?_
      refine tw_ic_gt rfl (fun q394 => ?_) (fun q394 => ?_)
      · try dsimp only [tvI_i, tvJ_j, tvR_r] at q394
        refine tw_push rfl ?_
        refine tw_ior rfl ?_
        refine tw_istore rfl ?_
        refine tw_iinc rfl rfl ?_
        refine tw_goto rfl ?_
        have e9 : (300 * x + c).toNatClampNeg = 300 * n + c.toNatClampNeg := by rw [zmul3 (by omega) (by omega), zof_cl hx]
        rw [e9] at q392
        rw [e9] at q394
        exact tG_cut (zW_mono zTt G dp) (Or.inr ⟨rfl, rfl, rfl, n + 1, x + 1, _, zincL hx q390, by omega, sPM_n hy (fun z => absurd z.2 (by omega)), rfl⟩)
      · try dsimp only [tvI_i, tvJ_j, tvR_r] at q394
        refine tw_push rfl ?_
        refine tw_aload rfl rfl ?_
        refine tw_getS rfl (hs_111_87 hs) ?_
        refine tw_iload rfl rfl ?_
        refine tw_iald rfl (fun f395 => ?_)
        refine tw_ishl rfl ?_
        refine tw_goto rfl ?_
        refine tw_ior rfl ?_
        refine tw_istore rfl ?_
        refine tw_iinc rfl rfl ?_
        refine tw_goto rfl ?_
        have e9 : (300 * x + c).toNatClampNeg = 300 * n + c.toNatClampNeg := by rw [zmul3 (by omega) (by omega), zof_cl hx]
        rw [e9] at q392
        rw [e9] at q394
        exact tG_cut (zW_mono zTt G dp) (Or.inr ⟨rfl, rfl, rfl, n + 1, x + 1, _, zincL hx q390, by omega, sPM_y hx hy q392 q394, rfl⟩)
/-- the parts of a car, the class's and the reference's -/
theorem car_parts {xs : Nat → Int32} {τ : List Nat} {h : zH} {c m : Int32} {r : Nat} (hB : zBs xs τ h) (hC : R_cars h) (hP : R_parts h) (hF : R_fitted h) (hcmp : R_cmp h) (hc : 0 ≤ c.toInt ∧ c.toInt < (tvI (tF h 36 4)).toInt) (hr : tO h 39 c.toNatClampNeg = some r) (hm : m.toInt ≤ 599) : (sPB (tA h (28 + (tA h 121 c.toNatClampNeg).toNatClampNeg)) (tA h 122 c.toNatClampNeg) (tvI (tF h 1 7)).toNatClampNeg ||| sPB (tA h (r + 1)) (m) 12) = (sPM (tA h 177) (tA h 176) (c).toNatClampNeg (m) (sPB (fun p => tA h 118 (12 * (tA h 121 (c).toNatClampNeg).toNatClampNeg + p)) (tA h 122 (c).toNatClampNeg) (tvI (tF h 111 4)).toNatClampNeg) (tvI (tF h 111 83)).toNatClampNeg) := by
  have hn := kb_36_4 hB
  have h7 := kb_1_7 hB
  have h83 := kb_111_83 hB
  have hci : c.toNatClampNeg < 300 := by rw [zclE]; omega
  have a1 := (ka_121 hB).2 c.toNatClampNeg hci
  have a2 := (ka_122 hB).2 c.toNatClampNeg hci
  have hci2 : ((c.toNatClampNeg : Nat) : Int) < (tvI (tF h 36 4)).toInt := by rw [zclE]; omega
  unfold R_parts at hP
  rw [hP]
  have h4 := kb_111_4 hB
  refine parts_eq (by rw [zclE]; omega) (by rw [zclE]; omega) (fun p hp => hF _ (by rw [zclE]; omega) p hp) a2.2 hm (ka_176 hB).2 (fun p hp m2 hm2 => ?_)
  rw [show (((tvI (tF h 111 83)).toNatClampNeg : Nat) : Int) = (tvI (tF h 111 83)).toInt from zclx h83.1]
  exact (hcmp _ r hci2 hr).2 p hp m2 hm2
theorem f_forceAt {G : zG} (hG : G.1 = zProg) {h : zH} {s v : Int32} (hs : tSh h) : tC zTt G 33 [.ref 1, .int s, .int v] h (fun w h2 => w = some (.int (v * v * tA h 2 s.toNatClampNeg / 100)) ∧ h2 = h) := by
  refine tC_in (by rw [hG]; rfl) (fun dp => ?_)
  refine tw_iload rfl rfl ?_
  refine tw_iload rfl rfl ?_
  refine tw_imul rfl ?_
  refine tw_aload rfl rfl ?_
  refine tw_getS rfl (hs_1_0 hs) ?_
  refine tw_iload rfl rfl ?_
  refine tw_iald rfl (fun f396 => ?_)
  refine tw_imul rfl ?_
  refine tw_push rfl ?_
  refine tw_idiv rfl (fun _ => ?_)
  exact tw_iret rfl ⟨rfl, rfl⟩
theorem g_forceOf {G : zG} (hG : G.1 = zProg) {h : zH} {s v : Int32} (hs : tSh h) : tC zTt G 190 [.ref 111, .int s, .int v] h (fun w h2 => w = some (.int (v * v * tA h 113 s.toNatClampNeg / 100)) ∧ h2 = h) := by
  refine tC_in (by rw [hG]; rfl) (fun dp => ?_)
  refine tw_iload rfl rfl ?_
  refine tw_iload rfl rfl ?_
  refine tw_imul rfl ?_
  refine tw_aload rfl rfl ?_
  refine tw_getS rfl (hs_111_8 hs) ?_
  refine tw_iload rfl rfl ?_
  refine tw_iald rfl (fun f397 => ?_)
  refine tw_imul rfl ?_
  refine tw_push rfl ?_
  refine tw_idiv rfl (fun _ => ?_)
  exact tw_iret rfl ⟨rfl, rfl⟩
theorem f_burnsWith {G : zG} (hG : G.1 = zProg) {h : zH} {k b s v : Int32} (hs : tSh h) (hr : tRw h) (hp : 0 ≤ (tvI (tF h 1 7)).toInt) : tC zTt G 34 [.ref 1, .int k, .int b, .int s, .int v] h (fun w h2 => tBo ((sBn (fun p => tA h (15 + p) s.toNatClampNeg) b (tA h (5 + k.toNatClampNeg) s.toNatClampNeg) (tvI (tF h 1 7)).toNatClampNeg).toInt < (v * v * tA h 2 s.toNatClampNeg / 100).toInt) w ∧ h2 = h) := by
  refine tC_in (by rw [hG]; rfl) (fun dp => ?_)
  refine tw_aload rfl rfl ?_
  refine tw_getS rfl (hs_1_2 hs) ?_
  refine tw_iload rfl rfl ?_
  refine tw_aaldS rfl (fun z => tRw_at hr (p := 4) (q := 5) (by decide) z) ?_
  refine tw_iload rfl rfl ?_
  refine tw_iald rfl (fun f399 => ?_)
  refine tw_istore rfl ?_
  refine tw_push rfl ?_
  refine tw_istore rfl ?_
  refine tG_loop (zW_mono zTt G dp) (zW_conj zTt G dp) (V := fun pc L st h9 _ _ => pc = 13 ∧ st = [] ∧ h = h9 ∧ ∃ (n : Nat) (x y : Int32), x.toInt = n ∧ (n : Int) ≤ (tvI (tF h 1 7)).toInt ∧ y = sBn (fun p => tA h (15 + p) s.toNatClampNeg) b (tA h (5 + k.toNatClampNeg) s.toNatClampNeg) n ∧ L = [some (.ref 1), some (.int k), some (.int b), some (.int s), some (.int v), some (.int y), some (.int x)]) ?_ (⟨rfl, rfl, rfl, 0, 0, _, rfl, hp, rfl, rfl⟩)
  rintro _ _ _ _ _ _ ⟨rfl, rfl, rfl, n, x, y, hx, hn, hy, rfl⟩
  refine tw_iload rfl rfl ?_
  refine tw_aload rfl rfl ?_
  refine tw_getS rfl (hi_1_7 hs) ?_
  refine tw_ic_ge rfl (fun q400 => ?_) (fun q400 => ?_)
  · try dsimp only [tvI_i, tvJ_j, tvR_r] at q400
    refine tw_aload rfl rfl ?_
    refine tw_iload rfl rfl ?_
    refine tw_iload rfl rfl ?_
    refine tw_virt2 rfl (f_forceAt hG hs) (fun w9 h9 p401 => ?_)
    obtain ⟨rfl, e9⟩ := p401
    obtain rfl := e9.symm
    refine tw_iload rfl rfl ?_
    refine tw_ic_le rfl (fun q402 => ?_) (fun q402 => ?_)
    · try dsimp only [tvI_i, tvJ_j, tvR_r] at q402
      refine tw_push rfl ?_
      rw [show n = (tvI (tF h 1 7)).toNatClampNeg from by rw [zclE]; omega] at hy
      rw [hy] at q402
      exact tw_iret rfl ⟨Or.inr ⟨fun z => absurd z (by omega), rfl⟩, rfl⟩
    · try dsimp only [tvI_i, tvJ_j, tvR_r] at q402
      refine tw_push rfl ?_
      refine tw_goto rfl ?_
      rw [show n = (tvI (tF h 1 7)).toNatClampNeg from by rw [zclE]; omega] at hy
      rw [hy] at q402
      exact tw_iret rfl ⟨Or.inl ⟨q402, rfl⟩, rfl⟩
  · try dsimp only [tvI_i, tvJ_j, tvR_r] at q400
    refine tw_iload rfl rfl ?_
    refine tw_iload rfl rfl ?_
    refine tw_ishr rfl ?_
    refine tw_push rfl ?_
    refine tw_iand rfl ?_
    refine tw_push rfl ?_
    refine tw_ic_ne rfl (fun q403 => ?_) (fun q403 => ?_)
    · try dsimp only [tvI_i, tvJ_j, tvR_r] at q403
      have q403i := zneq (Y := 1) (by decide) q403
      refine tw_iinc rfl rfl ?_
      refine tw_goto rfl ?_
      exact tG_cut (zW_mono zTt G dp) (Or.inr ⟨rfl, rfl, rfl, n + 1, x + 1, _, zincL hx q400, by omega, sBn_n hx hy q403, rfl⟩)
    · try dsimp only [tvI_i, tvJ_j, tvR_r] at q403
      have q403i := zeqi (Y := 1) (by decide) q403
      refine tw_iload rfl rfl ?_
      refine tw_aload rfl rfl ?_
      refine tw_getS rfl (hs_1_4 hs) ?_
      refine tw_iload rfl rfl ?_
      refine tw_aaldS rfl (fun z => tRw_at hr (p := 14) (q := 15) (by decide) z) ?_
      refine tw_iload rfl rfl ?_
      refine tw_iald rfl (fun f405 => ?_)
      refine tw_iadd rfl ?_
      refine tw_istore rfl ?_
      refine tw_iinc rfl rfl ?_
      refine tw_goto rfl ?_
      exact tG_cut (zW_mono zTt G dp) (Or.inr ⟨rfl, rfl, rfl, n + 1, x + 1, _, zincL hx q400, by omega, sBn_y hx hy q403 (by show tA h (15 + x.toNatClampNeg) s.toNatClampNeg = _; rw [zof_cl hx]), rfl⟩)
theorem g_burnsWith {G : zG} (hG : G.1 = zProg) {h : zH} {k b s v : Int32} (hs : tSh h) (hm4 : 0 ≤ (tvI (tF h 111 4)).toInt ∧ (tvI (tF h 111 4)).toInt ≤ 12) (hk : 0 ≤ k.toInt ∧ k.toInt ≤ 7) (hS : 0 ≤ s.toInt ∧ s.toInt ≤ 2) : tC zTt G 191 [.ref 111, .int k, .int b, .int s, .int v] h (fun w h2 => tBo ((sBn (fun p => tA h 117 (3 * p + s.toNatClampNeg)) b (tA h 115 (3 * k.toNatClampNeg + s.toNatClampNeg)) (tvI (tF h 111 4)).toNatClampNeg).toInt < (v * v * tA h 113 s.toNatClampNeg / 100).toInt) w ∧ h2 = h) := by
  refine tC_in (by rw [hG]; rfl) (fun dp => ?_)
  refine tw_aload rfl rfl ?_
  refine tw_getS rfl (hs_111_10 hs) ?_
  refine tw_push rfl ?_
  refine tw_iload rfl rfl ?_
  refine tw_imul rfl ?_
  refine tw_iload rfl rfl ?_
  refine tw_iadd rfl ?_
  refine tw_iald rfl (fun f406 => ?_)
  refine tw_istore rfl ?_
  refine tw_push rfl ?_
  refine tw_istore rfl ?_
  refine tG_loop (zW_mono zTt G dp) (zW_conj zTt G dp) (V := fun pc L st h9 _ _ => pc = 15 ∧ st = [] ∧ h = h9 ∧ ∃ (n : Nat) (x y : Int32), x.toInt = n ∧ (n : Int) ≤ (tvI (tF h 111 4)).toInt ∧ y = sBn (fun p => tA h 117 (3 * p + s.toNatClampNeg)) b (tA h 115 (3 * k.toNatClampNeg + s.toNatClampNeg)) n ∧ L = [some (.ref 111), some (.int k), some (.int b), some (.int s), some (.int v), some (.int y), some (.int x)]) ?_ (⟨rfl, rfl, rfl, 0, 0, _, rfl, hm4.1, (by show tA h 115 (3 * k + s).toNatClampNeg = _; rw [(zmulc (c := 3) (K := 3) (k := k) (p := s) rfl (by decide) (by omega) (by omega)).1]; rfl), rfl⟩)
  rintro _ _ _ _ _ _ ⟨rfl, rfl, rfl, n, x, y, hx, hn, hy, rfl⟩
  refine tw_iload rfl rfl ?_
  refine tw_aload rfl rfl ?_
  refine tw_getS rfl (hi_111_4 hs) ?_
  refine tw_ic_ge rfl (fun q407 => ?_) (fun q407 => ?_)
  · try dsimp only [tvI_i, tvJ_j, tvR_r] at q407
    refine tw_aload rfl rfl ?_
    refine tw_iload rfl rfl ?_
    refine tw_iload rfl rfl ?_
    refine tw_virt2 rfl (g_forceOf hG hs) (fun w9 h9 p408 => ?_)
    obtain ⟨rfl, e9⟩ := p408
    obtain rfl := e9.symm
    refine tw_iload rfl rfl ?_
    refine tw_ic_le rfl (fun q409 => ?_) (fun q409 => ?_)
    · try dsimp only [tvI_i, tvJ_j, tvR_r] at q409
      refine tw_push rfl ?_
      rw [show n = (tvI (tF h 111 4)).toNatClampNeg from by rw [zclE]; omega] at hy
      rw [hy] at q409
      exact tw_iret rfl ⟨Or.inr ⟨fun z => absurd z (by omega), rfl⟩, rfl⟩
    · try dsimp only [tvI_i, tvJ_j, tvR_r] at q409
      refine tw_push rfl ?_
      refine tw_goto rfl ?_
      rw [show n = (tvI (tF h 111 4)).toNatClampNeg from by rw [zclE]; omega] at hy
      rw [hy] at q409
      exact tw_iret rfl ⟨Or.inl ⟨q409, rfl⟩, rfl⟩
  · try dsimp only [tvI_i, tvJ_j, tvR_r] at q407
    refine tw_iload rfl rfl ?_
    refine tw_iload rfl rfl ?_
    refine tw_iload rfl rfl ?_
    refine tw_ishr rfl ?_
    refine tw_push rfl ?_
    refine tw_iand rfl ?_
    refine tw_push rfl ?_
    refine tw_ic_ne rfl (fun q410 => ?_) (fun q410 => ?_)
    · try dsimp only [tvI_i, tvJ_j, tvR_r] at q410
      have q410i := zneq (Y := 1) (by decide) q410
      refine tw_push rfl ?_
      refine tw_iadd rfl ?_
      refine tw_istore rfl ?_
      refine tw_iinc rfl rfl ?_
      refine tw_goto rfl ?_
      exact tG_cut (zW_mono zTt G dp) (Or.inr ⟨rfl, rfl, rfl, n + 1, x + 1, _, zincL hx q407, by omega, sBn_0 hx hy q410, rfl⟩)
    · try dsimp only [tvI_i, tvJ_j, tvR_r] at q410
      have q410i := zeqi (Y := 1) (by decide) q410
      refine tw_aload rfl rfl ?_
      refine tw_getS rfl (hs_111_12 hs) ?_
      refine tw_push rfl ?_
      refine tw_iload rfl rfl ?_
      refine tw_imul rfl ?_
      refine tw_iload rfl rfl ?_
      refine tw_iadd rfl ?_
      refine tw_iald rfl (fun f411 => ?_)
      refine tw_goto rfl ?_
      refine tw_iadd rfl ?_
      refine tw_istore rfl ?_
      refine tw_iinc rfl rfl ?_
      refine tw_goto rfl ?_
      exact tG_cut (zW_mono zTt G dp) (Or.inr ⟨rfl, rfl, rfl, n + 1, x + 1, _, zincL hx q407, by omega, sBn_y hx hy q410 (by show tA h 117 (3 * x + s).toNatClampNeg = _; rw [(zmulc (c := 3) (K := 3) (k := x) (p := s) rfl (by decide) (by omega) (by omega)).1, zof_cl hx]), rfl⟩)
theorem burn_eq {xs : Nat → Int32} {τ : List Nat} {h : zH} {k s v b b2 : Int32} (hB : zBs xs τ h) (hP : R_parts h) (hE : R_bears h) (hA : R_adds h) (hF : R_factor h) (hk : 0 ≤ k.toInt ∧ k.toInt ≤ 7) (hs : 0 ≤ s.toInt ∧ s.toInt ≤ 2) (e : b = b2) : ((sBn (fun p => tA h (15 + p) s.toNatClampNeg) b (tA h (5 + k.toNatClampNeg) s.toNatClampNeg) (tvI (tF h 1 7)).toNatClampNeg).toInt < (v * v * tA h 2 s.toNatClampNeg / 100).toInt) ↔ ((sBn (fun p => tA h 117 (3 * p + s.toNatClampNeg)) b2 (tA h 115 (3 * k.toNatClampNeg + s.toNatClampNeg)) (tvI (tF h 111 4)).toNatClampNeg).toInt < (v * v * tA h 113 s.toNatClampNeg / 100).toInt) := by
  subst e
  have h7 := kb_1_7 hB
  have hs3 : s.toNatClampNeg < 3 := by rw [zclE]; omega
  unfold R_parts at hP
  rw [hE _ (by rw [zclE]; omega) _ hs3, hF _ hs3, hP, sBn_congr (ad := fun p => tA h (15 + p) s.toNatClampNeg) (ad2 := fun p => tA h 117 (3 * p + s.toNatClampNeg)) (fun i hi => by
    rw [← hP, zclE] at hi
    exact hA i (by omega) _ hs3)]
theorem g_burnsIn {G : zG} (hG : G.1 = zProg) {h : zH} {c m s v p : Int32} (hs : tSh h) (hm4 : 0 ≤ (tvI (tF h 111 4)).toInt ∧ (tvI (tF h 111 4)).toInt ≤ 12) (h83 : 0 ≤ (tvI (tF h 111 83)).toInt ∧ (tvI (tF h 111 83)).toInt ≤ 20) (hn5 : (tvI (tF h 111 5)).toInt ≤ 300) (hKK : ∀ i, i < 300 → 0 ≤ (tA h 121 i).toInt ∧ (tA h 121 i).toInt ≤ 7) (hc : 0 ≤ c.toInt ∧ c.toInt < 300) (hS : 0 ≤ s.toInt ∧ s.toInt ≤ 2) : tC zTt G 194 [.ref 111, .int c, .int m, .int s, .int v, .int p] h (fun w h2 => tBo ((sBn (fun p => tA h 117 (3 * p + (s).toNatClampNeg)) ((sPM (tA h 177) (tA h 176) (c).toNatClampNeg (m) (sPB (fun p => tA h 118 (12 * (tA h 121 (c).toNatClampNeg).toNatClampNeg + p)) (tA h 122 (c).toNatClampNeg) (tvI (tF h 111 4)).toNatClampNeg) (tvI (tF h 111 83)).toNatClampNeg) ||| exP p) (tA h 115 (3 * (tA h 121 c.toNatClampNeg).toNatClampNeg + (s).toNatClampNeg)) (tvI (tF h 111 4)).toNatClampNeg).toInt < ((v) * (v) * tA h 113 (s).toNatClampNeg / 100).toInt) w ∧ h2 = h) := by
  refine tC_in (by rw [hG]; rfl) (fun dp => ?_)
  have hK9 := hKK c.toNatClampNeg (by rw [zclE]; omega)
  refine tw_aload rfl rfl ?_
  refine tw_aload rfl rfl ?_
  refine tw_getS rfl (hs_111_16 hs) ?_
  refine tw_iload rfl rfl ?_
  refine tw_iald rfl (fun f412 => ?_)
  refine tw_aload rfl rfl ?_
  refine tw_iload rfl rfl ?_
  refine tw_iload rfl rfl ?_
  refine tw_virt2 rfl (g_partsOfCar hG hs hm4 h83 (by omega) (hKK _ (by rw [zclE]; omega))) (fun w9 h9 p413 => ?_)
  obtain ⟨rfl, e9⟩ := p413
  obtain rfl := e9.symm
  refine tw_iload rfl rfl ?_
  refine tw_push rfl ?_
  refine tw_ic_ne rfl (fun q414 => ?_) (fun q414 => ?_)
  · try dsimp only [tvI_i, tvJ_j, tvR_r] at q414
    have q414i := zneq (Y := (-1)) (by decide) q414
    refine tw_push rfl ?_
    refine tw_iload rfl rfl ?_
    refine tw_ishl rfl ?_
    refine tw_ior rfl ?_
    refine tw_iload rfl rfl ?_
    refine tw_iload rfl rfl ?_
    refine tw_virt4 rfl (g_burnsWith hG hs hm4 hK9 hS) (fun w9 h9 p415 => ?_)
    obtain ⟨⟨p415, rfl⟩ | ⟨p415, rfl⟩, e9⟩ := p415
    · try dsimp only [tvI_i, tvJ_j, tvR_r] at p415
      obtain rfl := e9.symm
      exact tw_iret rfl ⟨by rw [← exP_2 q414]; exact Or.inl ⟨p415, rfl⟩, rfl⟩
    · try dsimp only [tvI_i, tvJ_j, tvR_r] at p415
      obtain rfl := e9.symm
      exact tw_iret rfl ⟨by rw [← exP_2 q414]; exact Or.inr ⟨p415, rfl⟩, rfl⟩
  · try dsimp only [tvI_i, tvJ_j, tvR_r] at q414
    have q414i := zeqi (Y := (-1)) (by decide) q414
    refine tw_push rfl ?_
    refine tw_goto rfl ?_
    refine tw_ior rfl ?_
    refine tw_iload rfl rfl ?_
    refine tw_iload rfl rfl ?_
    refine tw_virt4 rfl (g_burnsWith hG hs hm4 hK9 hS) (fun w9 h9 p416 => ?_)
    obtain ⟨⟨p416, rfl⟩ | ⟨p416, rfl⟩, e9⟩ := p416
    · try dsimp only [tvI_i, tvJ_j, tvR_r] at p416
      obtain rfl := e9.symm
      exact tw_iret rfl ⟨by rw [← exP_1 q414]; exact Or.inl ⟨p416, rfl⟩, rfl⟩
    · try dsimp only [tvI_i, tvJ_j, tvR_r] at p416
      obtain rfl := e9.symm
      exact tw_iret rfl ⟨by rw [← exP_1 q414]; exact Or.inr ⟨p416, rfl⟩, rfl⟩
noncomputable def ph_odc (n : Int32) (h : zH) (w : Option Value) (h2 : zH) : Prop := (((0 ≤ n.toInt ∧ n.toInt < (tvI (tF h 63 8)).toInt) ∧ ∃ r, tO h 39 (tA h 64 n.toNatClampNeg).toNatClampNeg = some r ∧ ∃ u : Int32, tBo ((sBn (fun p => tA h (15 + p) (tA h 68 n.toNatClampNeg).toNatClampNeg) ((sPB (tA h (28 + (tA h 121 (tA h 64 n.toNatClampNeg).toNatClampNeg).toNatClampNeg)) (tA h 122 (tA h 64 n.toNatClampNeg).toNatClampNeg) (tvI (tF h 1 7)).toNatClampNeg ||| sPB (tA h (r + 1)) (tA h 66 n.toNatClampNeg) 12)) (tA h (5 + (tA h 121 (tA h 64 n.toNatClampNeg).toNatClampNeg).toNatClampNeg) (tA h 68 n.toNatClampNeg).toNatClampNeg) (tvI (tF h 1 7)).toNatClampNeg).toInt < ((tA h 69 n.toNatClampNeg) * (tA h 69 n.toNatClampNeg) * tA h 2 (tA h 68 n.toNatClampNeg).toNatClampNeg / 100).toInt) (some (.int u)) ∧ tBo (¬ u = tA h 71 n.toNatClampNeg) w) ∨ (¬ (0 ≤ n.toInt ∧ n.toInt < (tvI (tF h 63 8)).toInt) ∧ w = some (.int (-1)))) ∧ h2 = h
noncomputable def ph_odm (n : Int32) (h : zH) (w : Option Value) (h2 : zH) : Prop := (((0 ≤ n.toInt ∧ n.toInt < (tvI (tF h 111 59)).toInt) ∧ ∃ u : Int32, tBo ((sBn (fun p => tA h 117 (3 * p + (tA h 154 n.toNatClampNeg).toNatClampNeg)) ((sPM (tA h 177) (tA h 176) ((tA h 152 n.toNatClampNeg)).toNatClampNeg (tA h 153 n.toNatClampNeg) (sPB (fun p => tA h 118 (12 * (tA h 121 ((tA h 152 n.toNatClampNeg)).toNatClampNeg).toNatClampNeg + p)) (tA h 122 ((tA h 152 n.toNatClampNeg)).toNatClampNeg) (tvI (tF h 111 4)).toNatClampNeg) (tvI (tF h 111 83)).toNatClampNeg) ||| exP (-1)) (tA h 115 (3 * (tA h 121 (tA h 152 n.toNatClampNeg).toNatClampNeg).toNatClampNeg + (tA h 154 n.toNatClampNeg).toNatClampNeg)) (tvI (tF h 111 4)).toNatClampNeg).toInt < ((tA h 155 n.toNatClampNeg) * (tA h 155 n.toNatClampNeg) * tA h 113 (tA h 154 n.toNatClampNeg).toNatClampNeg / 100).toInt) (some (.int u)) ∧ tBo (¬ u = tA h 158 n.toNatClampNeg) w) ∨ (¬ (0 ≤ n.toInt ∧ n.toInt < (tvI (tF h 111 59)).toInt) ∧ w = some (.int (-1)))) ∧ h2 = h
theorem f_odd {G : zG} (hG : G.1 = zProg) {h : zH} {n : Int32} (hs : tSh h) (hL : R_cl h) (hg : ∀ i r : Nat, (i : Int) < (tvI (tF h 36 4)).toInt → tO h 39 i = some r → 182 ≤ r) (hK : R_ckind h) (hM : R_cmade h) (hPP : R_cmp h) (hr : tRw h) (hp : 0 ≤ (tvI (tF h 1 7)).toInt) (hCC : R_ccl h) (hA64 : ∀ i, i < 200 → 0 ≤ (tA h 64 i).toInt ∧ (tA h 64 i).toInt ≤ 299) (h200 : (tvI (tF h 63 8)).toInt ≤ 200) : tC zTt G 134 [.ref 0, .int n] h (ph_odc n h) := by
  refine tC_in (by rw [hG]; rfl) (fun dp => ?_)
  refine tw_aload rfl rfl ?_
  refine tw_getS rfl (hs_0_5 hs) ?_
  refine tw_iload rfl rfl ?_
  refine tw_virt1 rfl (f_hasCrash hG hs) (fun w9 h9 p417 => ?_)
  obtain ⟨⟨p417, rfl⟩ | ⟨p417, rfl⟩, e9⟩ := p417
  · try dsimp only [tvI_i, tvJ_j, tvR_r] at p417
    obtain rfl := e9.symm
    refine tw_if_ne rfl (fun _ => ?_) (fun z => absurd z (by decide))
    refine tw_aload rfl rfl ?_
    refine tw_getS rfl (hs_0_1 hs) ?_
    refine tw_aload rfl rfl ?_
    refine tw_getS rfl (hs_0_5 hs) ?_
    refine tw_getS rfl (hs_63_0 hs) ?_
    refine tw_iload rfl rfl ?_
    refine tw_iald rfl (fun f418 => ?_)
    refine tw_virt1 rfl (f_carAtR hG hs hL hg) (fun w9 h9 p419 => ?_)
    obtain ⟨⟨rp419, p419, p419r, p419g, rfl⟩ | ⟨p419, rfl⟩, e9⟩ := p419
    · obtain rfl := e9.symm
      refine tw_astore rfl ?_
      refine tw_aload rfl rfl ?_
      refine tw_ifnn rfl (fun z => by cases z) (fun _ _ => ?_)
      refine tw_aload rfl rfl ?_
      refine tw_aload rfl rfl ?_
      refine tw_aload rfl rfl ?_
      refine tw_getS rfl (hs_0_5 hs) ?_
      refine tw_getS rfl (hs_63_2 hs) ?_
      refine tw_iload rfl rfl ?_
      refine tw_iald rfl (fun f422 => ?_)
      refine tw_virt2 rfl (f_partsOf hG hs hr hp (hK _ _ p419.2 p419r) (hM _ _ p419.2 p419r) (hPP _ _ p419.2 p419r).1) (fun w9 h9 p423 => ?_)
      obtain ⟨rfl, e9⟩ := p423
      obtain rfl := e9.symm
      refine tw_istore rfl ?_
      refine tw_aload rfl rfl ?_
      refine tw_getS rfl (hs_0_0 hs) ?_
      refine tw_aload rfl rfl ?_
      refine tw_getS rfl (hK _ _ p419.2 p419r) ?_
      refine tw_iload rfl rfl ?_
      refine tw_aload rfl rfl ?_
      refine tw_getS rfl (hs_0_5 hs) ?_
      refine tw_getS rfl (hs_63_4 hs) ?_
      refine tw_iload rfl rfl ?_
      refine tw_iald rfl (fun f424 => ?_)
      refine tw_aload rfl rfl ?_
      refine tw_getS rfl (hs_0_5 hs) ?_
      refine tw_getS rfl (hs_63_5 hs) ?_
      refine tw_iload rfl rfl ?_
      refine tw_iald rfl (fun f425 => ?_)
      refine tw_virt4 rfl (f_burnsWith hG hs hr hp) (fun w9 h9 p426 => ?_)
      obtain ⟨⟨p426, rfl⟩ | ⟨p426, rfl⟩, e9⟩ := p426
      · try dsimp only [tvI_i, tvJ_j, tvR_r] at p426
        obtain rfl := e9.symm
        refine tw_istore rfl ?_
        refine tw_iload rfl rfl ?_
        refine tw_aload rfl rfl ?_
        refine tw_getS rfl (hs_0_5 hs) ?_
        refine tw_getS rfl (hs_63_7 hs) ?_
        refine tw_iload rfl rfl ?_
        refine tw_bald rfl (fun f427 => ?_)
        refine tw_ic_ne rfl (fun q428 => ?_) (fun q428 => ?_)
        · try dsimp only [tvI_i, tvJ_j, tvR_r] at q428
          have q428i := zneq rfl q428
          refine tw_push rfl ?_
          exact tw_iret rfl ⟨Or.inl ⟨p417, _, p419r, 1, Or.inl ⟨p426, rfl⟩, Or.inl ⟨q428, rfl⟩⟩, rfl⟩
        · try dsimp only [tvI_i, tvJ_j, tvR_r] at q428
          have q428i := zeqi rfl q428
          refine tw_push rfl ?_
          refine tw_goto rfl ?_
          exact tw_iret rfl ⟨Or.inl ⟨p417, _, p419r, 1, Or.inl ⟨p426, rfl⟩, Or.inr ⟨(fun z => z q428), rfl⟩⟩, rfl⟩
      · try dsimp only [tvI_i, tvJ_j, tvR_r] at p426
        obtain rfl := e9.symm
        refine tw_istore rfl ?_
        refine tw_iload rfl rfl ?_
        refine tw_aload rfl rfl ?_
        refine tw_getS rfl (hs_0_5 hs) ?_
        refine tw_getS rfl (hs_63_7 hs) ?_
        refine tw_iload rfl rfl ?_
        refine tw_bald rfl (fun f429 => ?_)
        refine tw_ic_ne rfl (fun q430 => ?_) (fun q430 => ?_)
        · try dsimp only [tvI_i, tvJ_j, tvR_r] at q430
          have q430i := zneq rfl q430
          refine tw_push rfl ?_
          exact tw_iret rfl ⟨Or.inl ⟨p417, _, p419r, 0, Or.inr ⟨p426, rfl⟩, Or.inl ⟨q430, rfl⟩⟩, rfl⟩
        · try dsimp only [tvI_i, tvJ_j, tvR_r] at q430
          have q430i := zeqi rfl q430
          refine tw_push rfl ?_
          refine tw_goto rfl ?_
          exact tw_iret rfl ⟨Or.inl ⟨p417, _, p419r, 0, Or.inr ⟨p426, rfl⟩, Or.inr ⟨(fun z => z q430), rfl⟩⟩, rfl⟩
    · obtain rfl := e9.symm
      refine tw_astoreN rfl ?_
      refine tw_aload rfl rfl ?_
      refine tw_ifnn rfl (fun _ => ?_) (fun _ z => by cases z)
      refine tw_push rfl ?_
      exact absurd ⟨(hA64 n.toNatClampNeg (by rw [zclE]; omega)).1, hCC n.toNatClampNeg (by rw [zclE]; omega)⟩ p419
  · try dsimp only [tvI_i, tvJ_j, tvR_r] at p417
    obtain rfl := e9.symm
    refine tw_if_ne rfl (fun z => absurd z (by decide)) (fun _ => ?_)
    refine tw_push rfl ?_
    exact tw_iret rfl ⟨Or.inr ⟨by omega, rfl⟩, rfl⟩
theorem g_odd {G : zG} (hG : G.1 = zProg) {h : zH} {n : Int32} (hs : tSh h) (hm4 : 0 ≤ (tvI (tF h 111 4)).toInt ∧ (tvI (tF h 111 4)).toInt ≤ 12) (h83 : 0 ≤ (tvI (tF h 111 83)).toInt ∧ (tvI (tF h 111 83)).toInt ≤ 20) (hn5 : (tvI (tF h 111 5)).toInt ≤ 300) (hKK : ∀ i, i < 300 → 0 ≤ (tA h 121 i).toInt ∧ (tA h 121 i).toInt ≤ 7) (hk59 : 0 ≤ (tvI (tF h 111 59)).toInt) (h200 : (tvI (tF h 111 59)).toInt ≤ 200) (hA152 : ∀ i, i < 200 → 0 ≤ (tA h 152 i).toInt ∧ (tA h 152 i).toInt ≤ 299) (hA154 : ∀ i, i < 200 → 0 ≤ (tA h 154 i).toInt ∧ (tA h 154 i).toInt ≤ 2) : tC zTt G 245 [.ref 111, .int n] h (ph_odm n h) := by
  refine tC_in (by rw [hG]; rfl) (fun dp => ?_)
  have e59 := zsub1 hk59
  refine tw_iload rfl rfl ?_
  refine tw_i2l rfl ?_
  refine tw_push rfl ?_
  refine tw_aload rfl rfl ?_
  refine tw_getS rfl (hi_111_59 hs) ?_
  refine tw_push rfl ?_
  refine tw_isub rfl ?_
  refine tw_i2l rfl ?_
  refine tw_stat3 rfl (f_in hG  (LO := 0)  (Int32.toInt_toInt64 _) (by decide) (Int32.toInt_toInt64 _)) (fun w9 h9 p433 => ?_)
  obtain ⟨⟨p433, rfl⟩ | ⟨p433, rfl⟩, e9⟩ := p433
  · try dsimp only [tvI_i, tvJ_j, tvR_r] at p433
    obtain rfl := e9.symm
    refine tw_if_ne rfl (fun _ => ?_) (fun z => absurd z (by decide))
    refine tw_aload rfl rfl ?_
    refine tw_aload rfl rfl ?_
    refine tw_getS rfl (hs_111_60 hs) ?_
    refine tw_iload rfl rfl ?_
    refine tw_iald rfl (fun f434 => ?_)
    refine tw_aload rfl rfl ?_
    refine tw_getS rfl (hs_111_61 hs) ?_
    refine tw_iload rfl rfl ?_
    refine tw_iald rfl (fun f435 => ?_)
    refine tw_aload rfl rfl ?_
    refine tw_getS rfl (hs_111_62 hs) ?_
    refine tw_iload rfl rfl ?_
    refine tw_iald rfl (fun f436 => ?_)
    refine tw_aload rfl rfl ?_
    refine tw_getS rfl (hs_111_63 hs) ?_
    refine tw_iload rfl rfl ?_
    refine tw_iald rfl (fun f437 => ?_)
    refine tw_push rfl ?_
    refine tw_virt5 rfl (g_burnsIn hG hs hm4 h83 hn5 hKK ⟨(hA152 n.toNatClampNeg (by rw [zclE]; omega)).1, Int.lt_of_le_of_lt (hA152 n.toNatClampNeg (by rw [zclE]; omega)).2 (by decide)⟩ (hA154 n.toNatClampNeg (by rw [zclE]; omega))) (fun w9 h9 p438 => ?_)
    obtain ⟨⟨p438, rfl⟩ | ⟨p438, rfl⟩, e9⟩ := p438
    · try dsimp only [tvI_i, tvJ_j, tvR_r] at p438
      obtain rfl := e9.symm
      refine tw_aload rfl rfl ?_
      refine tw_getS rfl (hs_111_66 hs) ?_
      refine tw_iload rfl rfl ?_
      refine tw_bald rfl (fun f439 => ?_)
      refine tw_ic_ne rfl (fun q440 => ?_) (fun q440 => ?_)
      · try dsimp only [tvI_i, tvJ_j, tvR_r] at q440
        have q440i := zneq rfl q440
        refine tw_push rfl ?_
        exact tw_iret rfl ⟨Or.inl ⟨by omega, 1, Or.inl ⟨p438, rfl⟩, Or.inl ⟨q440, rfl⟩⟩, rfl⟩
      · try dsimp only [tvI_i, tvJ_j, tvR_r] at q440
        have q440i := zeqi rfl q440
        refine tw_push rfl ?_
        refine tw_goto rfl ?_
        exact tw_iret rfl ⟨Or.inl ⟨by omega, 1, Or.inl ⟨p438, rfl⟩, Or.inr ⟨(fun z => z q440), rfl⟩⟩, rfl⟩
    · try dsimp only [tvI_i, tvJ_j, tvR_r] at p438
      obtain rfl := e9.symm
      refine tw_aload rfl rfl ?_
      refine tw_getS rfl (hs_111_66 hs) ?_
      refine tw_iload rfl rfl ?_
      refine tw_bald rfl (fun f441 => ?_)
      refine tw_ic_ne rfl (fun q442 => ?_) (fun q442 => ?_)
      · try dsimp only [tvI_i, tvJ_j, tvR_r] at q442
        have q442i := zneq rfl q442
        refine tw_push rfl ?_
        exact tw_iret rfl ⟨Or.inl ⟨by omega, 0, Or.inr ⟨p438, rfl⟩, Or.inl ⟨q442, rfl⟩⟩, rfl⟩
      · try dsimp only [tvI_i, tvJ_j, tvR_r] at q442
        have q442i := zeqi rfl q442
        refine tw_push rfl ?_
        refine tw_goto rfl ?_
        exact tw_iret rfl ⟨Or.inl ⟨by omega, 0, Or.inr ⟨p438, rfl⟩, Or.inr ⟨(fun z => z q442), rfl⟩⟩, rfl⟩
  · try dsimp only [tvI_i, tvJ_j, tvR_r] at p433
    obtain rfl := e9.symm
    refine tw_if_ne rfl (fun z => absurd z (by decide)) (fun _ => ?_)
    refine tw_push rfl ?_
    exact tw_iret rfl ⟨Or.inr ⟨by omega, rfl⟩, rfl⟩
theorem a_odd {xs : Nat → Int32} {τ : List Nat} {n : Int32} {h h2 h3 : zH} {w w2 : Option Value} (hB : zBs xs τ h) (hC : R_cars h) (hP : R_parts h) (hF : R_fitted h) (hcmp : R_cmp h) (hE : R_bears h) (hA : R_adds h) (hf : R_factor h) (hN : R_crashes h) (h1 : R_ccar h) (h4 : R_cmonth h) (h5 : R_csort h) (h6 : R_cspeed h) (h7 : R_cburn h) (hL : R_ccl h) (k1 : ph_odc n h w h2) (k2 : ph_odm n h2 w2 h3) : w2 = w := by
  obtain ⟨k1, rfl⟩ := k1
  obtain ⟨k2, -⟩ := k2
  have hN0 := hN
  unfold R_crashes at hN0
  unfold R_ccar at h1
  unfold R_cmonth at h4
  unfold R_csort at h5
  unfold R_cspeed at h6
  unfold R_cburn at h7
  have n5 := kb_36_4 hB
  have n8 := kb_63_8 hB
  rw [← hN0, ← h1, ← h4, ← h5, ← h6, ← h7] at k2
  rcases k1 with ⟨c1, r, hr, u, k1, k3⟩ | ⟨c1, rfl⟩ <;> rcases k2 with ⟨c2, u2, k2, k4⟩ | ⟨c2, rfl⟩
  · have hn : n.toNatClampNeg < 200 := by rw [zclE]; omega
    have a64 := (ka_64 hB).2 _ hn
    have l64 := hL n.toNatClampNeg (by rw [zclE]; omega)
    have a1 := (ka_121 hB).2 (tA h2 64 n.toNatClampNeg).toNatClampNeg (by rw [zclE]; omega)
    have a66 := (ka_66 hB).2 _ hn
    have a68 := (ka_68 hB).2 _ hn
    have e := tBo_u k1 k2 (burn_eq hB hP hE hA hf a1 a68 (by rw [car_parts hB hC hP hF hcmp ⟨a64.1, l64⟩ hr a66.2, ← exP_1 rfl, Int32.or_zero]))
    have e2 : u2 = u := by injection e with e; injection e
    subst e2
    exact tBo_u k3 k4 Iff.rfl
  · exact absurd c1 c2
  · exact absurd c2 c1
  · rfl
