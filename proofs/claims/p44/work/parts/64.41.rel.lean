noncomputable def ph_mem (c x : Int32) (h : zH) (w : Option Value) (h2 : zH) : Prop := (((0 ≤ c.toInt ∧ c.toInt < (tvI (tF h 111 83)).toInt) ∧ (0 ≤ x.toInt ∧ x.toInt < (tvI (tF h 111 5)).toInt) ∧ lfM h c.toNatClampNeg x.toNatClampNeg = true ∧ ¬ tA h 178 (300 * c.toNatClampNeg + x.toNatClampNeg) = 0) ∧ w = some (.int 1) ∧ tA h2 177 = fun j => if j = (300 * c.toNatClampNeg + x.toNatClampNeg) then tvI (tF h 111 1) + 1 else tA h 177 j) ∨ (¬ ((0 ≤ c.toInt ∧ c.toInt < (tvI (tF h 111 83)).toInt) ∧ (0 ≤ x.toInt ∧ x.toInt < (tvI (tF h 111 5)).toInt) ∧ lfM h c.toNatClampNeg x.toNatClampNeg = true ∧ ¬ tA h 178 (300 * c.toNatClampNeg + x.toNatClampNeg) = 0) ∧ w = some (.int 0) ∧ h2 = h)
theorem g_mend {G : zG} (hG : G.1 = zProg) {h : zH} {c x : Int32} (hs : tSh h) (hn5 : (tvI (tF h 111 5)).toInt ≤ 300) (hk20 : (tvI (tF h 111 83)).toInt ≤ 20) (hk83 : 0 ≤ (tvI (tF h 111 83)).toInt) (hk5 : 0 ≤ (tvI (tF h 111 5)).toInt) : tC zTt G 271 [.ref 111, .int c, .int x] h (ph_mem c x h) := by
  refine tC_in (by rw [hG]; rfl) (fun dp => ?_)
  refine tw_aload rfl rfl ?_
  refine tw_iload rfl rfl ?_
  refine tw_virt1 rfl (g_isCall hG hs hk83) (fun w9 h9 p360 => ?_)
  obtain ⟨⟨p360, rfl⟩ | ⟨p360, rfl⟩, e9⟩ := p360
  · try dsimp only [tvI_i, tvJ_j, tvR_r] at p360
    obtain rfl := e9.symm
    refine tw_if_eq rfl (fun z => absurd z (by decide)) (fun _ => ?_)
    refine tw_aload rfl rfl ?_
    refine tw_iload rfl rfl ?_
    refine tw_virt1 rfl (g_isCar hG hs hk5) (fun w9 h9 p361 => ?_)
    obtain ⟨⟨p361, rfl⟩ | ⟨p361, rfl⟩, e9⟩ := p361
    · try dsimp only [tvI_i, tvJ_j, tvR_r] at p361
      obtain rfl := e9.symm
      refine tw_if_eq rfl (fun z => absurd z (by decide)) (fun _ => ?_)
      refine tw_aload rfl rfl ?_
      refine tw_iload rfl rfl ?_
      refine tw_iload rfl rfl ?_
      refine tw_virt2 rfl (g_isLeft hG hs (by omega) (by omega)) (fun w9 h9 p362 => ?_)
      obtain ⟨⟨p362, rfl⟩ | ⟨p362, rfl⟩, e9⟩ := p362
      · try dsimp only [tvI_i, tvJ_j, tvR_r] at p362
        obtain rfl := e9.symm
        refine tw_if_eq rfl (fun z => absurd z (by decide)) (fun _ => ?_)
        refine tw_aload rfl rfl ?_
        refine tw_getS rfl (hs_111_89 hs) ?_
        refine tw_push rfl ?_
        refine tw_iload rfl rfl ?_
        refine tw_imul rfl ?_
        refine tw_iload rfl rfl ?_
        refine tw_iadd rfl ?_
        refine tw_bald rfl (fun f363 => ?_)
        refine tw_if_ne rfl (fun q364 => ?_) (fun q364 => ?_)
        · try dsimp only [tvI_i, tvJ_j, tvR_r] at q364
          have q364i := zneq (Y := 0) (by decide) q364
          refine tw_aload rfl rfl ?_
          refine tw_getS rfl (hs_111_88 hs) ?_
          refine tw_push rfl ?_
          refine tw_iload rfl rfl ?_
          refine tw_imul rfl ?_
          refine tw_iload rfl rfl ?_
          refine tw_iadd rfl ?_
          refine tw_aload rfl rfl ?_
          refine tw_getS rfl (hi_111_1 hs) ?_
          refine tw_push rfl ?_
          refine tw_iadd rfl ?_
          refine tw_iast rfl (fun f365 => ?_)
          refine tw_push rfl ?_
          exact tw_iret rfl (Or.inl ⟨⟨p360, p361, p362, fun z => q364 ((congrArg (tA _ 178) (zmul3 (k := c) (p := x) (by omega) (by omega))).trans z)⟩, rfl, (tA_st f365 rfl).trans (by rw [show (tvI (Value.int (tvI (Value.int (tvI (Value.int 300) * tvI (Value.int c))) + tvI (Value.int x)))).toNatClampNeg = (300 * c.toNatClampNeg + x.toNatClampNeg) from (zmul3 (k := c) (p := x) (by omega) (by omega))]; rfl)⟩)
        · try dsimp only [tvI_i, tvJ_j, tvR_r] at q364
          have q364i := zeqi (Y := 0) (by decide) q364
          refine tw_push rfl ?_
          exact tw_iret rfl (Or.inr ⟨fun z => z.2.2.2 ((congrArg (tA _ 178) (zmul3 (k := c) (p := x) (by omega) (by omega))).symm.trans q364), rfl, rfl⟩)
      · try dsimp only [tvI_i, tvJ_j, tvR_r] at p362
        obtain rfl := e9.symm
        refine tw_if_eq rfl (fun _ => ?_) (fun z => absurd z (by decide))
        refine tw_push rfl ?_
        exact tw_iret rfl (Or.inr ⟨fun z => p362 z.2.2.1, rfl, rfl⟩)
    · try dsimp only [tvI_i, tvJ_j, tvR_r] at p361
      obtain rfl := e9.symm
      refine tw_if_eq rfl (fun _ => ?_) (fun z => absurd z (by decide))
      refine tw_push rfl ?_
      exact tw_iret rfl (Or.inr ⟨fun z => p361 z.2.1, rfl, rfl⟩)
  · try dsimp only [tvI_i, tvJ_j, tvR_r] at p360
    obtain rfl := e9.symm
    refine tw_if_eq rfl (fun _ => ?_) (fun z => absurd z (by decide))
    refine tw_push rfl ?_
    exact tw_iret rfl (Or.inr ⟨fun z => p360 z.1, rfl, rfl⟩)
theorem mend_c {h : zH} {c x : Int32} (hQ : R_calls h) (hC : R_cars h) (h1 : R_qkind h) (h4 : R_qfrom h) (h5 : R_qto h) (hrc : R_crc h) (hn5 : (tvI (tF h 111 5)).toInt ≤ 300) (hk20 : (tvI (tF h 111 83)).toInt ≤ 20) : ((0 ≤ c.toInt ∧ c.toInt < (tvI (tF h 89 4)).toInt) ∧ (0 ≤ x.toInt ∧ x.toInt < (tvI (tF h 36 4)).toInt) ∧ ¬ tA h 178 (300 * c.toNatClampNeg + x.toNatClampNeg) = 0 ∧ (tA h 120 x.toNatClampNeg).toInt = 0 ∧ tA h 177 (300 * c.toNatClampNeg + x.toNatClampNeg) = 0) ↔ ((0 ≤ c.toInt ∧ c.toInt < (tvI (tF h 111 83)).toInt) ∧ (0 ≤ x.toInt ∧ x.toInt < (tvI (tF h 111 5)).toInt) ∧ lfM h c.toNatClampNeg x.toNatClampNeg = true ∧ ¬ tA h 178 (300 * c.toNatClampNeg + x.toNatClampNeg) = 0) := by
  unfold R_calls at hQ
  unfold R_cars at hC
  unfold R_qkind at h1
  unfold R_qfrom at h4
  unfold R_qto at h5
  rw [hQ, hC]
  unfold lfM lfB
  rw [decide_eq_true_iff]
  constructor
  · rintro ⟨a1, a2, a3, a4, a5⟩
    have := hrc x.toNatClampNeg c.toNatClampNeg (by rw [zclE]; omega) (by rw [zclE]; omega) a3
    exact ⟨a1, a2, ⟨this.2, a4, a5⟩, a3⟩
  · rintro ⟨a1, a2, a3, a4⟩
    exact ⟨a1, a2, a4, a3.2.1, a3.2.2⟩
theorem a_mend {xs : Nat → Int32} {τ : List Nat} {c x : Int32} {h h2 h3 : zH} {w w2 : Option Value} (hB : zBs xs τ h) (hQ : R_calls h) (hC : R_cars h) (hL : R_cl h) (h1 : R_qkind h) (h4 : R_qfrom h) (h5 : R_qto h) (hrc : R_crc h) (hb : R_cmb h) (hb0 : R_cm0 h)
  (e1 : tF h2 111 83 = tF h 111 83) (e2 : tF h2 111 5 = tF h 111 5) (e3 : tF h2 111 1 = tF h 111 1) (o1 : tA h2 173 = tA h 173) (o2 : tA h2 174 = tA h 174) (o3 : tA h2 175 = tA h 175) (o4 : tA h2 121 = tA h 121) (o5 : tA h2 122 = tA h 122) (o6 : tA h2 120 = tA h 120) (o7 : tA h2 177 = tA h 177) (o8 : tA h2 178 = tA h 178)
  (t1 : tF h3 36 4 = tF h2 36 4) (t2 : tO h3 39 = tO h2 39) (t4 : tF h2 36 4 = tF h 36 4) (t5 : tO h2 39 = tO h 39) (t3 : ∀ i r f : Nat, (i : Int) < (tvI (tF h2 36 4)).toInt → tO h2 39 i = some r → tF h3 r f = tF h2 r f) (k1 : ph_mec c x h w h2) (k2 : ph_mem c x h2 w2 h3) : w2 = w ∧ R_cmb h3 ∧ R_cm0 h3 := by
  have hn5 := kb_111_5 hB
  have hn83 := kb_111_83 hB
  have hn1 := kb_111_1 hB
  have hc9 := mend_c (c := c) (x := x) hQ hC h1 h4 h5 hrc hn5.2 hn83.2
  unfold ph_mem at k2
  unfold lfM at k2 hc9
  rw [e1, e2, e3, o1, o2, o3, o4, o5, o6, o7, o8] at k2
  have hC0 := hC
  unfold R_cars at hC0
  rcases k1 with ⟨c1, rfl, r0, g1, g2, g3, g4, -⟩ | ⟨c1, rfl, rfl⟩ <;> rcases k2 with ⟨c2, rfl, f2⟩ | ⟨c2, rfl, rfl⟩
  · have hcN : c.toNatClampNeg < 20 := by rw [zclE]; omega
    have hxN : x.toNatClampNeg < 300 := by rw [zclE]; omega
    have hnow : ¬ tvI (tF h 111 1) + 1 = 0 := by
      intro z
      have := zincN (x := tvI (tF h 111 1)) (n := (tvI (tF h 111 1)).toInt.toNat) (by omega) (by omega)
      rw [z] at this
      have z0 : (0 : Int32).toInt = 0 := rfl
      omega
    have hx2 : ((x.toNatClampNeg : Nat) : Int) < (tvI (tF h 36 4)).toInt := by rw [zclE]; omega
    refine ⟨rfl, fun i r hi hr => ?_, fun i c2 hi h6 h7 => ?_⟩
    · rw [t1, t4] at hi
      rw [t2, t5] at hr
      have e9 := t3 i r 9 (by rw [t4]; exact hi) (by rw [t5]; exact hr)
      obtain ⟨b1, b2⟩ := hb i r hi hr
      have hib : i < 300 := by rw [hC0] at hi; omega
      rw [e9, f2]
      by_cases q : r = r0
      · subst q
        have hix : i = x.toNatClampNeg := hL.2 i _ hi hx2 (by rw [hr, g1])
        subst hix
        rw [g3]
        refine ⟨rfl, fun c2 h7 => ?_⟩
        show bI (tvI (tF h r 9) ||| ((1 : Int32) <<< (c &&& 31))) c2 ↔ ¬ (if 300 * c2 + x.toNatClampNeg = 300 * c.toNatClampNeg + x.toNatClampNeg then tvI (tF h 111 1) + 1 else tA h 177 (300 * c2 + x.toNatClampNeg)) = 0
        have ec : c = Int32.ofNat c.toNatClampNeg := zof (by rw [zclE]; omega)
        have hor := bI_or (x := tvI (tF h r 9)) (n := c2) (m := c.toNatClampNeg) (by omega) (by omega)
        rw [← ec] at hor
        rw [hor]
        by_cases q2 : c2 = c.toNatClampNeg
        · rw [if_pos (by omega)]
          exact ⟨fun _ => hnow, fun _ => Or.inr q2⟩
        · rw [if_neg (by omega), ← b2 c2 h7]
          exact ⟨fun z => z.resolve_right q2, Or.inl⟩
      · have hix : i ≠ x.toNatClampNeg := fun z => q (by rw [z, g1] at hr; exact (Option.some.inj hr).symm)
        rw [g4 r 9 (fun z => q z.1)]
        refine ⟨b1, fun c2 h7 => ?_⟩
        show _ ↔ ¬ (if 300 * c2 + i = 300 * c.toNatClampNeg + x.toNatClampNeg then _ else tA h 177 (300 * c2 + i)) = 0
        rw [if_neg (by omega)]
        exact b2 c2 h7
    · rw [t1, t4] at hi
      rw [f2]
      show (if 300 * c2 + i = 300 * c.toNatClampNeg + x.toNatClampNeg then _ else tA h 177 (300 * c2 + i)) = 0
      rw [if_neg (by omega)]
      exact hb0 i c2 hi h6 h7
  · exact absurd (hc9.mp c1) c2
  · exact absurd (hc9.mpr c2) c1
  · exact ⟨rfl, hb, hb0⟩
theorem cmp_mend {xs : Nat → Int32} {τ : List Nat} {c x : Int32} {h h2 h3 : zH} {w w2 : Option Value} (hB : zBs xs τ h) (hQ : R_calls h) (hC : R_cars h) (hN : R_now h) (hL : R_cl h) (h1 : R_qkind h) (h4 : R_qfrom h) (h5 : R_qto h) (h6 : R_qpart h) (hrc : R_crc h) (hR : R_cmp h) (hz : R_cmz h)
  (e1 : tF h2 111 83 = tF h 111 83) (e2 : tF h2 111 5 = tF h 111 5) (e3 : tF h2 111 1 = tF h 111 1) (o1 : tA h2 173 = tA h 173) (o2 : tA h2 174 = tA h 174) (o3 : tA h2 175 = tA h 175) (o4 : tA h2 121 = tA h 121) (o5 : tA h2 122 = tA h 122) (o6 : tA h2 120 = tA h 120) (o7 : tA h2 177 = tA h 177) (o8 : tA h2 178 = tA h 178)
  (t1 : tF h3 36 4 = tF h2 36 4) (t2 : tO h3 39 = tO h2 39) (t4 : tF h2 36 4 = tF h 36 4) (t5 : tO h2 39 = tO h 39) (t3 : ∀ i r f : Nat, (i : Int) < (tvI (tF h2 36 4)).toInt → tO h2 39 i = some r → tF h3 r f = tF h2 r f) (t6 : ∀ i r : Nat, (i : Int) < (tvI (tF h2 36 4)).toInt → tO h2 39 i = some r → tF h2 r 10 = .ref (r + 1) → tA h3 (r + 1) = tA h2 (r + 1)) (t7 : tF h3 111 83 = tF h 111 83) (t8 : tA h3 176 = tA h 176) (k1 : ph_mec c x h w h2) (k2 : ph_mem c x h2 w2 h3) : R_cmp h3 ∧ R_cmz h3 := by
  have hn5 := kb_111_5 hB
  have hn83 := kb_111_83 hB
  have hn1 := kb_111_1 hB
  have hc9 := mend_c (c := c) (x := x) hQ hC h1 h4 h5 hrc hn5.2 hn83.2
  unfold ph_mem at k2
  unfold lfM at k2 hc9
  rw [e1, e2, e3, o1, o2, o3, o4, o5, o6, o7, o8] at k2
  have hC0 := hC
  unfold R_cars at hC0
  have hQ0 := hQ
  unfold R_calls at hQ0
  unfold R_qpart at h6
  unfold R_now at hN
  rcases k1 with ⟨c1, rfl, r0, g1, g2, g3, g4, g5, g6, g7⟩ | ⟨c1, rfl, rfl⟩ <;> rcases k2 with ⟨c2, rfl, f2⟩ | ⟨c2, rfl, rfl⟩
  · have hcN : c.toNatClampNeg < 20 := by rw [zclE]; omega
    have hxN : x.toNatClampNeg < 300 := by rw [zclE]; omega
    have hnow1 : (tvI (tF h 111 1) + 1).toInt = (tvI (tF h 111 1)).toInt + 1 := (zincN (n := (tvI (tF h 111 1)).toInt.toNat) (by omega) (by omega)).trans (by omega)
    have hx2 : ((x.toNatClampNeg : Nat) : Int) < (tvI (tF h 36 4)).toInt := by rw [zclE]; omega
    have hx0 : tA h 177 (300 * c.toNatClampNeg + x.toNatClampNeg) = 0 := c1.2.2.2.2
    rw [← h6] at t8
    rw [hN] at g7
    refine ⟨fun i r hi hr => ?_, fun i d hi hd => ?_⟩
    · rw [t1, t4] at hi
      rw [t2, t5] at hr
      have hib : i < 300 := by rw [hC0] at hi; omega
      obtain ⟨b1, b2⟩ := hR i r hi hr
      have hi3 : (i : Int) < (tvI (tF h2 36 4)).toInt := by rw [t4]; exact hi
      have hr3 : tO h2 39 i = some r := by rw [t5]; exact hr
      have d1 : tF h2 r 10 = .ref (r + 1) := (g4 r 10 (fun z => by omega)).trans b1
      refine ⟨(t3 i r 10 hi3 hr3).trans d1, fun p hp m hm => ?_⟩
      rw [t6 i r hi3 hr3 d1, t7, t8, f2]
      by_cases q : r = r0
      · subst q
        have hix : i = x.toNatClampNeg := hL.2 i _ hi hx2 (by rw [hr, g1])
        subst hix
        rw [g7]
        have hpp : (tA h 93 c.toNatClampNeg).toNatClampNeg = p ∨ (tA h 93 c.toNatClampNeg).toNatClampNeg ≠ p := by omega
        have hb := b2 p hp m hm
        rw [← h6] at hb
        show (if p = (tA h 93 c.toNatClampNeg).toNatClampNeg then (if tvI (tF h 111 1) < tA h (r + 1) (tA h 93 c.toNatClampNeg).toNatClampNeg then tvI (tF h 111 1) else tA h (r + 1) (tA h 93 c.toNatClampNeg).toNatClampNeg) else tA h (r + 1) p).toInt ≤ m ↔ ∃ d : Nat, (d : Int) < (tvI (tF h 111 83)).toInt ∧ 0 < (if 300 * d + x.toNatClampNeg = 300 * c.toNatClampNeg + x.toNatClampNeg then tvI (tF h 111 1) + 1 else tA h 177 (300 * d + x.toNatClampNeg)).toInt ∧ (if 300 * d + x.toNatClampNeg = 300 * c.toNatClampNeg + x.toNatClampNeg then tvI (tF h 111 1) + 1 else tA h 177 (300 * d + x.toNatClampNeg)).toInt - 1 ≤ m ∧ (tA h 93 d).toNatClampNeg = p
        have hother : (∃ d : Nat, (d : Int) < (tvI (tF h 111 83)).toInt ∧ 0 < (if 300 * d + x.toNatClampNeg = 300 * c.toNatClampNeg + x.toNatClampNeg then tvI (tF h 111 1) + 1 else tA h 177 (300 * d + x.toNatClampNeg)).toInt ∧ (if 300 * d + x.toNatClampNeg = 300 * c.toNatClampNeg + x.toNatClampNeg then tvI (tF h 111 1) + 1 else tA h 177 (300 * d + x.toNatClampNeg)).toInt - 1 ≤ m ∧ (tA h 93 d).toNatClampNeg = p) ↔ ((tA h 93 c.toNatClampNeg).toNatClampNeg = p ∧ (tvI (tF h 111 1)).toInt ≤ m) ∨ (tA h (r + 1) p).toInt ≤ m := by
          rw [hb]
          constructor
          · rintro ⟨d, d1, d2, d3, d4⟩
            by_cases e : d = c.toNatClampNeg
            · rw [if_pos (by omega), hnow1] at d3
              subst e
              exact Or.inl ⟨d4, by omega⟩
            · rw [if_neg (by omega)] at d2 d3
              exact Or.inr ⟨d, d1, d2, d3, d4⟩
          · rintro (⟨d1, d2⟩ | ⟨d, d1, d2, d3, d4⟩)
            · refine ⟨c.toNatClampNeg, by rw [zclE]; rw [← hQ0]; omega, ?_, ?_, d1⟩
              · rw [if_pos rfl, hnow1]; omega
              · rw [if_pos rfl, hnow1]; omega
            · by_cases e : d = c.toNatClampNeg
              · subst e
                rw [hx0] at d2
                exact absurd d2 (by decide)
              · refine ⟨d, d1, ?_, ?_, d4⟩
                · rw [if_neg (by omega)]; exact d2
                · rw [if_neg (by omega)]; exact d3
        rw [hother]
        rcases hpp with e | e
        · rw [if_pos e.symm, e]
          by_cases l : tvI (tF h 111 1) < tA h (r + 1) p
          · rw [if_pos l]
            have := Int32.lt_iff_toInt_lt.mp l
            constructor
            · intro z; exact Or.inl ⟨rfl, z⟩
            · rintro (z | z)
              · exact z.2
              · omega
          · rw [if_neg l]
            have : ¬ (tvI (tF h 111 1)).toInt < (tA h (r + 1) p).toInt := fun z => l (Int32.lt_iff_toInt_lt.mpr z)
            constructor
            · intro z; exact Or.inr z
            · rintro (z | z)
              · have := z.2; omega
              · exact z
        · rw [if_neg (fun z => e z.symm)]
          exact ⟨Or.inr, fun z => z.resolve_left (fun y => e y.1)⟩
      · have hix : i ≠ x.toNatClampNeg := fun z => q (by rw [z, g1] at hr; exact (Option.some.inj hr).symm)
        have hne : r + 1 ≠ r0 + 1 := fun z => q (by omega)
        rw [g6 (r + 1) hne]
        have hb := b2 p hp m hm
        rw [← h6] at hb
        rw [hb]
        constructor
        · rintro ⟨d, d1, d2, d3, d4⟩
          refine ⟨d, d1, ?_, ?_, d4⟩
          · show 0 < (if 300 * d + i = 300 * c.toNatClampNeg + x.toNatClampNeg then tvI (tF h 111 1) + 1 else tA h 177 (300 * d + i)).toInt
            rw [if_neg (by omega)]; exact d2
          · show (if 300 * d + i = 300 * c.toNatClampNeg + x.toNatClampNeg then tvI (tF h 111 1) + 1 else tA h 177 (300 * d + i)).toInt - 1 ≤ m
            rw [if_neg (by omega)]; exact d3
        · rintro ⟨d, d1, d2, d3, d4⟩
          have d2 : 0 < (if 300 * d + i = 300 * c.toNatClampNeg + x.toNatClampNeg then tvI (tF h 111 1) + 1 else tA h 177 (300 * d + i)).toInt := d2
          have d3 : (if 300 * d + i = 300 * c.toNatClampNeg + x.toNatClampNeg then tvI (tF h 111 1) + 1 else tA h 177 (300 * d + i)).toInt - 1 ≤ m := d3
          rw [if_neg (by omega)] at d2 d3
          exact ⟨d, d1, d2, d3, d4⟩
    · rw [t7] at hd
      rw [f2]
      show (if 300 * d + i = 300 * c.toNatClampNeg + x.toNatClampNeg then tvI (tF h 111 1) + 1 else tA h 177 (300 * d + i)) = 0
      have : (c.toNatClampNeg : Int) < (tvI (tF h 111 83)).toInt := by rw [zclE]; rw [← hQ0]; omega
      rw [if_neg (by omega)]
      exact hz i d hi hd
  · exact absurd (hc9.mp c1) c2
  · exact absurd (hc9.mpr c2) c1
  · refine ⟨?_, ?_⟩
    · exact hR
    · exact hz
noncomputable def ph_moves (a b q : Nat) (p z : Int32) (h : zH) (w : Option Value) (h2 : zH) : Prop := (((0 ≤ p.toInt ∧ p.toInt < (tvI (tF h a b)).toInt) ∧ ¬ tA h q p.toNatClampNeg = z) ∧ w = some (.int 1) ∧ h2 = tSA h q p.toNatClampNeg z ∧ (∃ kd, tIn h q kd p)) ∨ (¬ ((0 ≤ p.toInt ∧ p.toInt < (tvI (tF h a b)).toInt) ∧ ¬ tA h q p.toNatClampNeg = z) ∧ w = some (.int 0) ∧ h2 = h)
theorem f_setMoved {G : zG} (hG : G.1 = zProg) {h : zH} {p z : Int32} (bz : 0 ≤ z.toInt ∧ z.toInt ≤ 1) (hs : tSh h) : tC zTt G 17 [.ref 36, .int p, .int z] h (fun w h2 => ((¬ tA h 38 p.toNatClampNeg = z) ∧ w = some (.int 1) ∧ h2 = tSA h 38 p.toNatClampNeg z ∧ (∃ kd, tIn h 38 kd p)) ∨ (¬ (¬ tA h 38 p.toNatClampNeg = z) ∧ w = some (.int 0) ∧ h2 = h)) := by
  refine tC_in (by rw [hG]; rfl) (fun dp => ?_)
  refine tw_aload rfl rfl ?_
  refine tw_getS rfl (hs_36_1 hs) ?_
  refine tw_iload rfl rfl ?_
  refine tw_bald rfl (fun f366 => ?_)
  refine tw_iload rfl rfl ?_
  refine tw_ic_ne rfl (fun q367 => ?_) (fun q367 => ?_)
  · try dsimp only [tvI_i, tvJ_j, tvR_r] at q367
    have q367i := zneq rfl q367
    refine tw_aload rfl rfl ?_
    refine tw_getS rfl (hs_36_1 hs) ?_
    refine tw_iload rfl rfl ?_
    refine tw_iload rfl rfl ?_
    refine tw_bastZ bz rfl (fun kf368 f368 => ?_)
    refine tw_push rfl ?_
    exact tw_iret rfl (Or.inl ⟨q367, rfl, rfl, ⟨_, f368⟩⟩)
  · try dsimp only [tvI_i, tvJ_j, tvR_r] at q367
    have q367i := zeqi rfl q367
    refine tw_push rfl ?_
    exact tw_iret rfl (Or.inr ⟨fun z => z q367, rfl, rfl⟩)
theorem f_moves {G : zG} (hG : G.1 = zProg) {h : zH} {p z : Int32} (bz : 0 ≤ z.toInt ∧ z.toInt ≤ 1) (hs : tSh h) : tC zTt G 151 [.ref 0, .int p, .int z] h (ph_moves 36 2 38 p z h) := by
  refine tC_in (by rw [hG]; rfl) (fun dp => ?_)
  refine tw_aload rfl rfl ?_
  refine tw_getS rfl (hs_0_1 hs) ?_
  refine tw_iload rfl rfl ?_
  refine tw_virt1 rfl (f_hasPerson hG hs) (fun w9 h9 p369 => ?_)
  obtain ⟨⟨p369, rfl⟩ | ⟨p369, rfl⟩, rfl⟩ := p369
  · try dsimp only [tvI_i, tvJ_j, tvR_r] at p369
    refine tw_if_eq rfl (fun z => absurd z (by decide)) (fun _ => ?_)
    refine tw_aload rfl rfl ?_
    refine tw_getS rfl (hs_0_1 hs) ?_
    refine tw_iload rfl rfl ?_
    refine tw_iload rfl rfl ?_
    refine tw_virt2 rfl (f_setMoved hG bz hs) (fun w9 h9 p370 => ?_)
    rcases p370 with ⟨p370, rfl, rfl, p370f⟩ | ⟨p370, rfl, rfl⟩
    · refine tw_if_eq rfl (fun z => absurd z (by decide)) (fun _ => ?_)
      refine tw_push rfl ?_
      refine tw_goto rfl ?_
      exact tw_iret rfl (Or.inl ⟨⟨p369, p370⟩, rfl, rfl, p370f⟩)
    · refine tw_if_eq rfl (fun _ => ?_) (fun z => absurd z (by decide))
      refine tw_push rfl ?_
      exact tw_iret rfl (Or.inr ⟨fun z => p370 z.2, rfl, rfl⟩)
  · try dsimp only [tvI_i, tvJ_j, tvR_r] at p369
    refine tw_if_eq rfl (fun _ => ?_) (fun z => absurd z (by decide))
    refine tw_push rfl ?_
    exact tw_iret rfl (Or.inr ⟨fun z => p369 z.1, rfl, rfl⟩)
theorem g_moves {G : zG} (hG : G.1 = zProg) {h : zH} {p z : Int32} (bz : 0 ≤ z.toInt ∧ z.toInt ≤ 1) (hs : tSh h) (hk2 : 0 ≤ (tvI (tF h 111 2)).toInt) : tC zTt G 273 [.ref 111, .int p, .int z] h (ph_moves 111 2 119 p z h) := by
  refine tC_in (by rw [hG]; rfl) (fun dp => ?_)
  refine tw_aload rfl rfl ?_
  refine tw_iload rfl rfl ?_
  refine tw_virt1 rfl (g_isPerson hG hs hk2) (fun w9 h9 p371 => ?_)
  obtain ⟨⟨p371, rfl⟩ | ⟨p371, rfl⟩, rfl⟩ := p371
  · try dsimp only [tvI_i, tvJ_j, tvR_r] at p371
    refine tw_if_eq rfl (fun z => absurd z (by decide)) (fun _ => ?_)
    refine tw_aload rfl rfl ?_
    refine tw_getS rfl (hs_111_14 hs) ?_
    refine tw_iload rfl rfl ?_
    refine tw_bald rfl (fun f372 => ?_)
    refine tw_iload rfl rfl ?_
    refine tw_ic_ne rfl (fun q373 => ?_) (fun q373 => ?_)
    · try dsimp only [tvI_i, tvJ_j, tvR_r] at q373
      have q373i := zneq rfl q373
      refine tw_aload rfl rfl ?_
      refine tw_getS rfl (hs_111_14 hs) ?_
      refine tw_iload rfl rfl ?_
      refine tw_iload rfl rfl ?_
      refine tw_bastZ bz rfl (fun kf374 f374 => ?_)
      refine tw_push rfl ?_
      exact tw_iret rfl (Or.inl ⟨⟨p371, q373⟩, rfl, rfl, ⟨_, f374⟩⟩)
    · try dsimp only [tvI_i, tvJ_j, tvR_r] at q373
      have q373i := zeqi rfl q373
      refine tw_push rfl ?_
      exact tw_iret rfl (Or.inr ⟨fun z => z.2 q373, rfl, rfl⟩)
  · try dsimp only [tvI_i, tvJ_j, tvR_r] at p371
    refine tw_if_eq rfl (fun _ => ?_) (fun z => absurd z (by decide))
    refine tw_push rfl ?_
    exact tw_iret rfl (Or.inr ⟨fun z => p371 z.1, rfl, rfl⟩)
theorem a_moves {p z : Int32} {h h2 h3 : zH} {w w2 : Option Value} (hP : R_people h) (hn : (tvI (tF h 36 2)).toInt ≤ 60) (hR : R_moved h) (k1 : ph_moves 36 2 38 p z h w h2) (k2 : ph_moves 111 2 119 p z h2 w2 h3) : w2 = w ∧ R_moved h3 := by
  unfold R_people at hP
  rcases k1 with ⟨c1, rfl, rfl, ⟨d1, f1⟩⟩ | ⟨c1, rfl, rfl⟩ <;> rcases k2 with ⟨c2, rfl, rfl, ⟨d2, f2⟩⟩ | ⟨c2, rfl, rfl⟩
  · refine ⟨rfl, fun i hi => ?_⟩
    rw [tA_tSA f2.cell, tA_tSA f1.cell]
    dsimp only
    by_cases e : i = p.toNatClampNeg
    · rw [if_neg (by omega), if_pos ⟨rfl, e⟩, if_pos ⟨rfl, e⟩]
    · rw [if_neg (by omega), if_neg (by omega), if_neg (by omega), if_neg (by omega)]
      exact hR i hi
  · refine absurd ?_ c2
    have hp : p.toNatClampNeg < 60 := by rw [zclE]; omega
    rw [tF_tSA, ← hP, tA_nz (by decide), ← hR _ hp]
    exact c1
  · refine absurd ?_ c1
    have hp : p.toNatClampNeg < 60 := by rw [zclE]; rw [← hP] at c2; omega
    rw [← hP, ← hR _ hp] at c2
    exact c2
  · exact ⟨rfl, hR⟩
noncomputable def R_tests (h : zH) : Prop := tF h 54 5 = tF h 111 50
noncomputable def R_tkind (h : zH) : Prop := tA h 55 = tA h 145
noncomputable def R_tsort (h : zH) : Prop := tA h 56 = tA h 146
noncomputable def R_tspeed (h : zH) : Prop := tA h 57 = tA h 147
noncomputable def R_tburn (h : zH) : Prop := tA h 58 = tA h 151
theorem f_addTest {G : zG} (hG : G.1 = zProg) {h : zH} {k : Int32} {s : Int32} {v : Int32} {u : Int32} (bu : 0 ≤ u.toInt ∧ u.toInt ≤ 1) (hs : tSh h) : tC zTt G 103 [.ref 54, .int k, .int s, .int v, .int u] h (phA 54 5 ((tvI (tF h 54 5)).toInt ≠ 200) [(55, k), (56, s), (57, v), (58, u)] h) := by
  refine tC_in (by rw [hG]; rfl) (fun dp => ?_)
  refine tw_aload rfl rfl ?_
  refine tw_getS rfl (hi_54_5 hs) ?_
  refine tw_push rfl ?_
  refine tw_ic_ne rfl (fun q375 => ?_) (fun q375 => ?_)
  · try dsimp only [tvI_i, tvJ_j, tvR_r] at q375
    have q375i := zneq (Y := 200) (by decide) q375
    refine tw_aload rfl rfl ?_
    refine tw_getS rfl (hs_54_0 hs) ?_
    refine tw_aload rfl rfl ?_
    refine tw_getS rfl (hi_54_5 hs) ?_
    refine tw_iload rfl rfl ?_
    refine tw_iast rfl (fun f376 => ?_)
    refine tw_aload rfl rfl ?_
    refine tw_getS rfl (hs_54_1 (tSh_SA hs)) ?_
    refine tw_aload rfl rfl ?_
    refine tw_getS rfl (tF_a (hi_54_5 hs)) ?_
    refine tw_iload rfl rfl ?_
    refine tw_iast rfl (fun f377 => ?_)
    refine tw_aload rfl rfl ?_
    refine tw_getS rfl (hs_54_2 (tSh_SA (tSh_SA hs))) ?_
    refine tw_aload rfl rfl ?_
    refine tw_getS rfl (tF_a (tF_a (hi_54_5 hs))) ?_
    refine tw_iload rfl rfl ?_
    refine tw_iast rfl (fun f378 => ?_)
    refine tw_aload rfl rfl ?_
    refine tw_getS rfl (hs_54_3 (tSh_SA (tSh_SA (tSh_SA hs)))) ?_
    refine tw_aload rfl rfl ?_
    refine tw_getS rfl (tF_a (tF_a (tF_a (hi_54_5 hs)))) ?_
    refine tw_iload rfl rfl ?_
    refine tw_bastZ bu rfl (fun kf379 f379 => ?_)
    refine tw_aload rfl rfl ?_
    refine tw_dup rfl ?_
    refine tw_getS rfl (tF_a (tF_a (tF_a (tF_a (hi_54_5 hs))))) ?_
    refine tw_dup_x1 rfl ?_
    refine tw_push rfl ?_
    refine tw_iadd rfl ?_
    refine tw_put rfl (fun f380 => ?_)
    exact tw_iret rfl (Or.inl ⟨by omega, congrArg some (hi_54_5 hs).symm, (tF_same f380), (fun q hq => by rcases List.mem_cons.mp hq with rfl | hq; (show tA _ 55 = _; exact (tA_ff (tA_n (by decide) (tA_n (by decide) (tA_n (by decide) (tA_st f376 rfl)))))); rcases List.mem_cons.mp hq with rfl | hq; (show tA _ 56 = _; exact (tA_ff (tA_n (by decide) (tA_n (by decide) (tA_st f377 (tA_n (by decide) rfl)))))); rcases List.mem_cons.mp hq with rfl | hq; (show tA _ 57 = _; exact (tA_ff (tA_n (by decide) (tA_st f378 (tA_n (by decide) (tA_n (by decide) rfl)))))); rcases List.mem_cons.mp hq with rfl | hq; (show tA _ 58 = _; exact (tA_ff (tA_st f379 (tA_n (by decide) (tA_n (by decide) (tA_n (by decide) rfl)))))); cases hq)⟩)
  · try dsimp only [tvI_i, tvJ_j, tvR_r] at q375
    have q375i := zeqi (Y := 200) (by decide) q375
    refine tw_push rfl ?_
    exact tw_iret rfl (Or.inr ⟨by omega, rfl, rfl, fun _ _ => rfl⟩)
theorem f_test {G : zG} (hG : G.1 = zProg) {h : zH} {k : Int32} {s : Int32} {v : Int32} {u : Int32} (bu : 0 ≤ u.toInt ∧ u.toInt ≤ 1) (hs : tSh h) : tC zTt G 129 [.ref 0, .int k, .int s, .int v, .int u] h (phA 54 5 (((0 ≤ k.toInt ∧ k.toInt < (tvI (tF h 1 6)).toInt) ∧ (0 ≤ s.toInt ∧ s.toInt ≤ 2) ∧ (0 ≤ v.toInt ∧ v.toInt ≤ 200)) ∧ (tvI (tF h 54 5)).toInt ≠ 200) [(55, k), (56, s), (57, v), (58, u)] h) := by
  refine tC_in (by rw [hG]; rfl) (fun dp => ?_)
  refine tw_aload rfl rfl ?_
  refine tw_getS rfl (hs_0_0 hs) ?_
  refine tw_iload rfl rfl ?_
  refine tw_virt1 rfl (f_hasKind hG hs) (fun w9 h9 p381 => ?_)
  obtain ⟨⟨p381, rfl⟩ | ⟨p381, rfl⟩, rfl⟩ := p381
  · try dsimp only [tvI_i, tvJ_j, tvR_r] at p381
    refine tw_if_eq rfl (fun z => absurd z (by decide)) (fun _ => ?_)
    refine tw_iload rfl rfl ?_
    refine tw_stat1 rfl (f_isSort hG) (fun w9 h9 p382 => ?_)
    obtain ⟨⟨p382, rfl⟩ | ⟨p382, rfl⟩, rfl⟩ := p382
    · try dsimp only [tvI_i, tvJ_j, tvR_r] at p382
      refine tw_if_eq rfl (fun z => absurd z (by decide)) (fun _ => ?_)
      refine tw_iload rfl rfl ?_
      refine tw_stat1 rfl (f_isSpeed hG) (fun w9 h9 p383 => ?_)
      obtain ⟨⟨p383, rfl⟩ | ⟨p383, rfl⟩, rfl⟩ := p383
      · try dsimp only [tvI_i, tvJ_j, tvR_r] at p383
        refine tw_if_eq rfl (fun z => absurd z (by decide)) (fun _ => ?_)
        refine tw_push rfl ?_
        refine tw_goto rfl ?_
        refine tw_istore rfl ?_
        refine tw_iload rfl rfl ?_
        refine tw_if_eq rfl (fun z => absurd z (by decide)) (fun _ => ?_)
        refine tw_aload rfl rfl ?_
        refine tw_getS rfl (hs_0_4 hs) ?_
        refine tw_iload rfl rfl ?_
        refine tw_iload rfl rfl ?_
        refine tw_iload rfl rfl ?_
        refine tw_iload rfl rfl ?_
        refine tw_virt4 rfl (f_addTest hG bu hs) (fun w9 h9 p384 => ?_)
        rcases p384 with ⟨p384, rfl, p384e, p384g⟩ | ⟨p384, rfl, p384e, p384g⟩
        · refine tw_goto rfl ?_
          exact tw_iret rfl (Or.inl ⟨by omega, congrArg some (hi_54_5 hs).symm, p384e, p384g⟩)
        · refine tw_goto rfl ?_
          exact tw_iret rfl (Or.inr ⟨by omega, rfl, p384e, p384g⟩)
      · try dsimp only [tvI_i, tvJ_j, tvR_r] at p383
        refine tw_if_eq rfl (fun _ => ?_) (fun z => absurd z (by decide))
        refine tw_push rfl ?_
        refine tw_istore rfl ?_
        refine tw_iload rfl rfl ?_
        refine tw_if_eq rfl (fun _ => ?_) (fun z => absurd z (by decide))
        refine tw_push rfl ?_
        exact tw_iret rfl (Or.inr ⟨by omega, rfl, rfl, fun _ _ => rfl⟩)
    · try dsimp only [tvI_i, tvJ_j, tvR_r] at p382
      refine tw_if_eq rfl (fun _ => ?_) (fun z => absurd z (by decide))
      refine tw_push rfl ?_
      refine tw_istore rfl ?_
      refine tw_iload rfl rfl ?_
      refine tw_if_eq rfl (fun _ => ?_) (fun z => absurd z (by decide))
      refine tw_push rfl ?_
      exact tw_iret rfl (Or.inr ⟨by omega, rfl, rfl, fun _ _ => rfl⟩)
  · try dsimp only [tvI_i, tvJ_j, tvR_r] at p381
    refine tw_if_eq rfl (fun _ => ?_) (fun z => absurd z (by decide))
    refine tw_push rfl ?_
    refine tw_istore rfl ?_
    refine tw_iload rfl rfl ?_
    refine tw_if_eq rfl (fun _ => ?_) (fun z => absurd z (by decide))
    refine tw_push rfl ?_
    exact tw_iret rfl (Or.inr ⟨by omega, rfl, rfl, fun _ _ => rfl⟩)
theorem g_test {G : zG} (hG : G.1 = zProg) {h : zH} {k : Int32} {s : Int32} {v : Int32} {u : Int32} (bu : 0 ≤ u.toInt ∧ u.toInt ≤ 1) (hs : tSh h) (hk3 : 0 ≤ (tvI (tF h 111 3)).toInt) : tC zTt G 238 [.ref 111, .int k, .int s, .int v, .int u] h (phA 111 50 (((0 ≤ k.toInt ∧ k.toInt < (tvI (tF h 111 3)).toInt) ∧ (0 ≤ s.toInt ∧ s.toInt ≤ 2) ∧ (0 ≤ v.toInt ∧ v.toInt ≤ 200)) ∧ (tvI (tF h 111 50)).toInt ≠ 200) [(145, k), (146, s), (147, v), (151, u)] h) := by
  refine tC_in (by rw [hG]; rfl) (fun dp => ?_)
  refine tw_aload rfl rfl ?_
  refine tw_getS rfl (hi_111_50 hs) ?_
  refine tw_push rfl ?_
  refine tw_ic_eq rfl (fun q385 => ?_) (fun q385 => ?_)
  · try dsimp only [tvI_i, tvJ_j, tvR_r] at q385
    have q385i := zeqi (Y := 200) (by decide) q385
    refine tw_push rfl ?_
    exact tw_iret rfl (Or.inr ⟨by omega, rfl, rfl, fun _ _ => rfl⟩)
  · try dsimp only [tvI_i, tvJ_j, tvR_r] at q385
    have q385i := zneq (Y := 200) (by decide) q385
    refine tw_aload rfl rfl ?_
    refine tw_iload rfl rfl ?_
    refine tw_virt1 rfl (g_isKind hG hs hk3) (fun w9 h9 p386 => ?_)
    obtain ⟨⟨p386, rfl⟩ | ⟨p386, rfl⟩, rfl⟩ := p386
    · try dsimp only [tvI_i, tvJ_j, tvR_r] at p386
      refine tw_if_eq rfl (fun z => absurd z (by decide)) (fun _ => ?_)
      refine tw_iload rfl rfl ?_
      refine tw_stat1 rfl (g_isSort hG) (fun w9 h9 p387 => ?_)
      obtain ⟨⟨p387, rfl⟩ | ⟨p387, rfl⟩, rfl⟩ := p387
      · try dsimp only [tvI_i, tvJ_j, tvR_r] at p387
        refine tw_if_eq rfl (fun z => absurd z (by decide)) (fun _ => ?_)
        refine tw_iload rfl rfl ?_
        refine tw_i2l rfl ?_
        refine tw_push rfl ?_
        refine tw_push rfl ?_
        refine tw_stat3 rfl (f_in hG  (LO := 0) (HI := 200) (Int32.toInt_toInt64 _) (by decide) (by decide)) (fun w9 h9 p388 => ?_)
        obtain ⟨⟨p388, rfl⟩ | ⟨p388, rfl⟩, rfl⟩ := p388
        · try dsimp only [tvI_i, tvJ_j, tvR_r] at p388
          refine tw_if_ne rfl (fun _ => ?_) (fun z => absurd z (by decide))
          refine tw_aload rfl rfl ?_
          refine tw_getS rfl (hs_111_52 hs) ?_
          refine tw_aload rfl rfl ?_
          refine tw_getS rfl (hi_111_50 hs) ?_
          refine tw_iload rfl rfl ?_
          refine tw_iast rfl (fun f389 => ?_)
          refine tw_aload rfl rfl ?_
          refine tw_getS rfl (hs_111_53 (tSh_SA hs)) ?_
          refine tw_aload rfl rfl ?_
          refine tw_getS rfl (tF_a (hi_111_50 hs)) ?_
          refine tw_iload rfl rfl ?_
          refine tw_iast rfl (fun f390 => ?_)
          refine tw_aload rfl rfl ?_
          refine tw_getS rfl (hs_111_54 (tSh_SA (tSh_SA hs))) ?_
          refine tw_aload rfl rfl ?_
          refine tw_getS rfl (tF_a (tF_a (hi_111_50 hs))) ?_
          refine tw_iload rfl rfl ?_
          refine tw_iast rfl (fun f391 => ?_)
          refine tw_aload rfl rfl ?_
          refine tw_getS rfl (hs_111_58 (tSh_SA (tSh_SA (tSh_SA hs)))) ?_
          refine tw_aload rfl rfl ?_
          refine tw_getS rfl (tF_a (tF_a (tF_a (hi_111_50 hs)))) ?_
          refine tw_iload rfl rfl ?_
          refine tw_bastZ bu rfl (fun kf392 f392 => ?_)
          refine tw_aload rfl rfl ?_
          refine tw_dup rfl ?_
          refine tw_getS rfl (tF_a (tF_a (tF_a (tF_a (hi_111_50 hs))))) ?_
          refine tw_push rfl ?_
          refine tw_iadd rfl ?_
          refine tw_put rfl (fun f393 => ?_)
          refine tw_aload rfl rfl ?_
          refine tw_getS rfl (tF_same f393) ?_
          refine tw_push rfl ?_
          refine tw_isub rfl ?_
          exact tw_iret rfl (Or.inl ⟨by omega, wret1 (hi_111_50 hs), (tF_same f393), (fun q hq => by rcases List.mem_cons.mp hq with rfl | hq; (show tA _ 145 = _; exact (tA_ff (tA_n (by decide) (tA_n (by decide) (tA_n (by decide) (tA_st f389 rfl)))))); rcases List.mem_cons.mp hq with rfl | hq; (show tA _ 146 = _; exact (tA_ff (tA_n (by decide) (tA_n (by decide) (tA_st f390 (tA_n (by decide) rfl)))))); rcases List.mem_cons.mp hq with rfl | hq; (show tA _ 147 = _; exact (tA_ff (tA_n (by decide) (tA_st f391 (tA_n (by decide) (tA_n (by decide) rfl)))))); rcases List.mem_cons.mp hq with rfl | hq; (show tA _ 151 = _; exact (tA_ff (tA_st f392 (tA_n (by decide) (tA_n (by decide) (tA_n (by decide) rfl)))))); cases hq)⟩)
        · try dsimp only [tvI_i, tvJ_j, tvR_r] at p388
          refine tw_if_ne rfl (fun z => absurd z (by decide)) (fun _ => ?_)
          refine tw_push rfl ?_
          exact tw_iret rfl (Or.inr ⟨by omega, rfl, rfl, fun _ _ => rfl⟩)
      · try dsimp only [tvI_i, tvJ_j, tvR_r] at p387
        refine tw_if_eq rfl (fun _ => ?_) (fun z => absurd z (by decide))
        refine tw_push rfl ?_
        exact tw_iret rfl (Or.inr ⟨by omega, rfl, rfl, fun _ _ => rfl⟩)
    · try dsimp only [tvI_i, tvJ_j, tvR_r] at p386
      refine tw_if_eq rfl (fun _ => ?_) (fun z => absurd z (by decide))
      refine tw_push rfl ?_
      exact tw_iret rfl (Or.inr ⟨by omega, rfl, rfl, fun _ _ => rfl⟩)
theorem a_test {k : Int32} {s : Int32} {v : Int32} {u : Int32} {h h2 h3 : zH} {w w2 : Option Value} (h_kinds : R_kinds h) (hR : R_tests h) (e1 : tF h2 111 50 = tF h 111 50) (e2 : tF h3 54 5 = tF h2 54 5) (o_kinds : tF h2 111 3 = tF h 111 3) (h_tkind : R_tkind h) (o_tkind : tA h2 145 = tA h 145) (t_tkind : tA h3 55 = tA h2 55) (h_tsort : R_tsort h) (o_tsort : tA h2 146 = tA h 146) (t_tsort : tA h3 56 = tA h2 56) (h_tspeed : R_tspeed h) (o_tspeed : tA h2 147 = tA h 147) (t_tspeed : tA h3 57 = tA h2 57) (h_tburn : R_tburn h) (o_tburn : tA h2 151 = tA h 151) (t_tburn : tA h3 58 = tA h2 58) (k1 : phA 54 5 (((0 ≤ k.toInt ∧ k.toInt < (tvI (tF h 1 6)).toInt) ∧ (0 ≤ s.toInt ∧ s.toInt ≤ 2) ∧ (0 ≤ v.toInt ∧ v.toInt ≤ 200)) ∧ (tvI (tF h 54 5)).toInt ≠ 200) [(55, k), (56, s), (57, v), (58, u)] h w h2) (k2 : phA 111 50 (((0 ≤ k.toInt ∧ k.toInt < (tvI (tF h2 111 3)).toInt) ∧ (0 ≤ s.toInt ∧ s.toInt ≤ 2) ∧ (0 ≤ v.toInt ∧ v.toInt ≤ 200)) ∧ (tvI (tF h2 111 50)).toInt ≠ 200) [(145, k), (146, s), (147, v), (151, u)] h2 w2 h3) : w2 = w ∧ R_tests h3 ∧ R_tkind h3 ∧ R_tsort h3 ∧ R_tspeed h3 ∧ R_tburn h3 := by
  have hC : (((0 ≤ k.toInt ∧ k.toInt < (tvI (tF h 1 6)).toInt) ∧ (0 ≤ s.toInt ∧ s.toInt ≤ 2) ∧ (0 ≤ v.toInt ∧ v.toInt ≤ 200)) ∧ (tvI (tF h 54 5)).toInt ≠ 200) ↔ (((0 ≤ k.toInt ∧ k.toInt < (tvI (tF h2 111 3)).toInt) ∧ (0 ≤ s.toInt ∧ s.toInt ≤ 2) ∧ (0 ≤ v.toInt ∧ v.toInt ≤ 200)) ∧ (tvI (tF h2 111 50)).toInt ≠ 200) := by
    have hR2 := hR
    unfold R_tests at hR2
    unfold R_kinds at h_kinds
    rw [o_kinds, ← h_kinds]
    rw [e1, ← hR2]
  obtain ⟨r1, r2, r3⟩ := phA_a hR e1 e2 hC k1 k2
  exact ⟨r1, r2, r3 55 145 k (by simp) (by simp) h_tkind o_tkind t_tkind, r3 56 146 s (by simp) (by simp) h_tsort o_tsort t_tsort, r3 57 147 v (by simp) (by simp) h_tspeed o_tspeed t_tspeed, r3 58 151 u (by simp) (by simp) h_tburn o_tburn t_tburn⟩
/-! bits of a long -/
noncomputable def tB (x : Int64) (p : Int32) : Prop := (x >>> (p.toInt64 &&& 63)) &&& 1 = 1
theorem tB_k : ∀ n, n < 64 → ((Int32.ofNat n).toInt64 &&& 63).toBitVec.smod 64 = BitVec.ofNat 64 n := by decide +kernel
theorem zofP {p : Int32} (h : 0 ≤ p.toInt) : p = Int32.ofNat p.toInt.toNat := by
  have := Int32.toInt_lt p
  refine Int32.toInt_inj.mp ?_
  rw [yofN (by omega)]
  omega
theorem tB_g {x : Int64} {p : Int32} (h : 0 ≤ p.toInt ∧ p.toInt < 64) : tB x p ↔ x.toBitVec.getLsbD p.toInt.toNat = true := by
  have hk := tB_k p.toInt.toNat (by omega)
  rw [← zofP h.1] at hk
  have e : ((x >>> (p.toInt64 &&& 63)) &&& 1).toBitVec = (x.toBitVec.sshiftRight p.toInt.toNat) &&& 1#64 := by
    show (x.toBitVec.sshiftRight' ((p.toInt64 &&& 63).toBitVec.smod 64)) &&& 1#64 = _
    rw [hk]
    show (x.toBitVec.sshiftRight (BitVec.ofNat 64 p.toInt.toNat).toNat) &&& 1#64 = _
    rw [BitVec.toNat_ofNat, Nat.mod_eq_of_lt (by omega)]
  have e2 : (x.toBitVec.sshiftRight p.toInt.toNat).getLsbD 0 = x.toBitVec.getLsbD p.toInt.toNat := by
    rw [BitVec.getLsbD_sshiftRight]
    have e9 : p.toNatClampNeg = p.toInt.toNat := rfl
    simp
    intro z
    omega
  unfold tB
  rw [← Int64.toBitVec_inj, e, BitVec.and_one_eq_setWidth_ofBool_getLsbD, e2]
  cases x.toBitVec.getLsbD p.toInt.toNat <;> decide
theorem tB_or {x : Int64} {p q : Int32} (hp : 0 ≤ p.toInt ∧ p.toInt < 64) (hq : 0 ≤ q.toInt ∧ q.toInt < 64) : tB (x ||| ((1 : Int64) <<< (q.toInt64 &&& 63))) p ↔ tB x p ∨ p = q := by
  have hk := tB_k q.toInt.toNat (by omega)
  rw [← zofP hq.1] at hk
  rw [tB_g hp, tB_g hp]
  have e : (x ||| ((1 : Int64) <<< (q.toInt64 &&& 63))).toBitVec = x.toBitVec ||| ((1#64) <<< q.toInt.toNat) := by
    show x.toBitVec ||| ((1#64) <<< ((q.toInt64 &&& 63).toBitVec.smod 64)) = _
    rw [hk]
    show x.toBitVec ||| ((1#64) <<< (BitVec.ofNat 64 q.toInt.toNat).toNat) = _
    rw [BitVec.toNat_ofNat, Nat.mod_eq_of_lt (by omega)]
  rw [e, BitVec.getLsbD_or, BitVec.getLsbD_shiftLeft, BitVec.getLsbD_one, Bool.or_eq_true]
  have e3 : (decide (p.toInt.toNat < 64) && !decide (p.toInt.toNat < q.toInt.toNat) && (decide (0 < 64) && decide (p.toInt.toNat - q.toInt.toNat = 0))) = true ↔ p = q := by
    have e9 : p.toNatClampNeg = p.toInt.toNat := rfl
    have e8 : q.toNatClampNeg = q.toInt.toNat := rfl
    constructor
    · intro z
      simp at z
      exact Int32.toInt_inj.mp (by omega)
    · rintro rfl
      simp
      omega
  rw [← e3]
theorem tB_0 {p : Int32} (hp : 0 ≤ p.toInt ∧ p.toInt < 64) : ¬ tB 0 p := by
  rw [tB_g hp]
  show ¬ (0#64).getLsbD _ = true
  simp
theorem tJ_st {h : zH} {r i : Nat} {x : Int64} {z : Int32} (hf : tInJ h r z) {f : Nat → Int64} (k : tJ h r = f) : tJ (tSJ h r i x) r = fun j => if j = i then x else f j := by
  obtain ⟨N, g, e, -⟩ := hf
  rw [tJ_tSJ ⟨_, _, _, e⟩]
  funext j
  dsimp only
  rw [k]
  by_cases e : j = i
  · rw [if_pos ⟨rfl, e⟩, if_pos e]
  · rw [if_neg (fun z => e z.2), if_neg e]
theorem tJ_ff {h : zH} {r b p : Nat} {w : Value} {f : Nat → Int64} (k : tJ h p = f) : tJ (tSF h r b w) p = f := by rw [tJ_tSF]; exact k
theorem tJ_aa {h : zH} {r i p : Nat} {x : Int32} {f : Nat → Int64} (k : tJ h p = f) : tJ (tSA h r i x) p = f := by rw [tJ_tSA]; exact k
/-- among the first n pairs there is this one -/
noncomputable def sF (a b : Nat → Int32) (t p : Int32) (n : Nat) : Prop := ∃ i, i < n ∧ a i = t ∧ b i = p
section SF
variable {a b : Nat → Int32} {t p x y : Int32} {n : Nat} {P : Prop}
theorem sF_s (h : sF a b t p n) : sF a b t p (n + 1) := by
  obtain ⟨i, h1, h2⟩ := h
  exact ⟨i, by omega, h2⟩
theorem sF_y (hx : x.toNatClampNeg = n) (h1 : a x.toNatClampNeg = t) (h2 : b x.toNatClampNeg = p) : sF a b t p (n + 1) := ⟨x.toNatClampNeg, by omega, h1, h2⟩
theorem sF_n (hx : x.toNatClampNeg = n) (h : ¬ sF a b t p n) (q : ¬ (a x.toNatClampNeg = t ∧ b x.toNatClampNeg = p)) : ¬ sF a b t p (n + 1) := by
  rintro ⟨i, h1, h2⟩
  rcases Nat.lt_or_ge i n with z | z
  · exact h ⟨i, z, h2⟩
  · have e : i = x.toNatClampNeg := by omega
    rw [e] at h2
    exact q h2
theorem sF_v (hy : (y = 1 ∧ P) ∨ (y = 0 ∧ ¬ P)) : (y = 0 → ¬ P) ∧ (¬ y = 0 → P) := by
  rcases hy with ⟨rfl, z⟩ | ⟨rfl, z⟩
  · exact ⟨fun q => absurd q (by decide), fun _ => z⟩
  · exact ⟨fun _ => z, fun q => absurd rfl q⟩
/-- one pair more at the end -/
theorem sF_up {c d : Nat → Int32} {u v : Int32} (hc : c = fun j => if j = n then u else a j) (hd : d = fun j => if j = n then v else b j) : sF c d t p (n + 1) ↔ sF a b t p n ∨ (u = t ∧ v = p) := by
  subst hc hd
  constructor
  · rintro ⟨i, h1, h2, h3⟩
    dsimp only at h2 h3
    by_cases e : i = n
    · rw [if_pos e] at h2 h3
      exact Or.inr ⟨h2, h3⟩
    · rw [if_neg e] at h2 h3
      exact Or.inl ⟨i, by omega, h2, h3⟩
  · rintro (⟨i, h1, h2, h3⟩ | ⟨h2, h3⟩)
    · exact ⟨i, by omega, by dsimp only; rw [if_neg (by omega)]; exact h2, by dsimp only; rw [if_neg (by omega)]; exact h3⟩
    · exact ⟨n, by omega, by dsimp only; rw [if_pos rfl]; exact h2, by dsimp only; rw [if_pos rfl]; exact h3⟩
end SF
noncomputable def R_readings (h : zH) : Prop := tF h 54 9 = tF h 111 51
noncomputable def R_rtest (h : zH) : Prop := tA h 60 = tA h 148
noncomputable def R_rby (h : zH) : Prop := tA h 61 = tA h 149
noncomputable def R_rin (h : zH) : Prop := tA h 62 = tA h 150
noncomputable def R_rdb (h : zH) : Prop := ∀ t p : Int32, (0 ≤ t.toInt ∧ t.toInt < 200) → (0 ≤ p.toInt ∧ p.toInt < 60) → (tB (tJ h 59 t.toNatClampNeg) p ↔ sF (tA h 60) (tA h 61) t p (tvI (tF h 54 9)).toNatClampNeg)
theorem f_hasTest {G : zG} (hG : G.1 = zProg) {h : zH} {n : Int32} (hs : tSh h) : tC zTt G 102 [.ref 54, .int n] h (fun w h2 => tBo (0 ≤ n.toInt ∧ n.toInt < (tvI (tF h 54 5)).toInt) w ∧ h2 = h) := by
  refine tC_in (by rw [hG]; rfl) (fun dp => ?_)
  refine tw_iload rfl rfl ?_
  refine tw_if_lt rfl (fun q394 => ?_) (fun q394 => ?_)
  · try dsimp only [tvI_i, tvJ_j, tvR_r] at q394
    refine tw_push rfl ?_
    exact tw_iret rfl ⟨Or.inr ⟨by omega, rfl⟩, rfl⟩
  · try dsimp only [tvI_i, tvJ_j, tvR_r] at q394
    refine tw_iload rfl rfl ?_
    refine tw_aload rfl rfl ?_
    refine tw_getS rfl (hi_54_5 hs) ?_
    refine tw_ic_ge rfl (fun q395 => ?_) (fun q395 => ?_)
    · try dsimp only [tvI_i, tvJ_j, tvR_r] at q395
      refine tw_push rfl ?_
      exact tw_iret rfl ⟨Or.inr ⟨by omega, rfl⟩, rfl⟩
    · try dsimp only [tvI_i, tvJ_j, tvR_r] at q395
      refine tw_push rfl ?_
      refine tw_goto rfl ?_
      exact tw_iret rfl ⟨Or.inl ⟨by omega, rfl⟩, rfl⟩
theorem f_addReading {G : zG} (hG : G.1 = zProg) {h : zH} {t p m : Int32} (hs : tSh h) : tC zTt G 104 [.ref 54, .int t, .int p, .int m] h (fun w h2 => (((tvI (tF h 54 9)).toInt ≠ 600 ∧ ¬ tB (tJ h 59 t.toNatClampNeg) p) ∧ w = some (.int 1) ∧ tF h2 54 9 = .int (tvI (tF h 54 9) + 1) ∧ tJ h2 59 = (fun j => if j = t.toNatClampNeg then tJ h 59 t.toNatClampNeg ||| ((1 : Int64) <<< (p.toInt64 &&& 63)) else tJ h 59 j) ∧ tA h2 60 = (fun j => if j = (tvI (tF h 54 9)).toNatClampNeg then t else tA h 60 j) ∧ tA h2 61 = (fun j => if j = (tvI (tF h 54 9)).toNatClampNeg then p else tA h 61 j) ∧ tA h2 62 = (fun j => if j = (tvI (tF h 54 9)).toNatClampNeg then m else tA h 62 j)) ∨ (¬ ((tvI (tF h 54 9)).toInt ≠ 600 ∧ ¬ tB (tJ h 59 t.toNatClampNeg) p) ∧ w = some (.int 0) ∧ h2 = h)) := by
  refine tC_in (by rw [hG]; rfl) (fun dp => ?_)
  refine tw_aload rfl rfl ?_
  refine tw_getS rfl (hi_54_9 hs) ?_
  refine tw_push rfl ?_
  refine tw_ic_eq rfl (fun q396 => ?_) (fun q396 => ?_)
  · try dsimp only [tvI_i, tvJ_j, tvR_r] at q396
    have q396i := zeqi (Y := 600) (by decide) q396
    refine tw_push rfl ?_
    exact tw_iret rfl (Or.inr ⟨fun z => absurd z.1 (by omega), rfl, rfl⟩)
  · try dsimp only [tvI_i, tvJ_j, tvR_r] at q396
    have q396i := zneq (Y := 600) (by decide) q396
    refine tw_aload rfl rfl ?_
    refine tw_getS rfl (hs_54_4 hs) ?_
    refine tw_iload rfl rfl ?_
    refine tw_lald rfl (fun f397 => ?_)
    refine tw_iload rfl rfl ?_
    refine tw_lshr rfl ?_
    refine tw_push rfl ?_
    refine tw_land rfl ?_
    refine tw_push rfl ?_
    refine tw_lc_ne rfl rfl (fun q398 => ?_) (fun q398 => ?_)
    · try dsimp only [tvI_i, tvJ_j, tvR_r] at q398
      refine tw_aload rfl rfl ?_
      refine tw_getS rfl (hs_54_4 hs) ?_
      refine tw_iload rfl rfl ?_
      refine tw_dup2 rfl ?_
      refine tw_lald rfl (fun f399 => ?_)
      refine tw_push rfl ?_
      refine tw_iload rfl rfl ?_
      refine tw_lshl rfl ?_
      refine tw_lor rfl ?_
      refine tw_last rfl (fun f400 => ?_)
      refine tw_aload rfl rfl ?_
      refine tw_getS rfl (hs_54_6 (tSh_SJ hs)) ?_
      refine tw_aload rfl rfl ?_
      refine tw_getS rfl (tF_j (hi_54_9 hs)) ?_
      refine tw_iload rfl rfl ?_
      refine tw_iast rfl (fun f401 => ?_)
      refine tw_aload rfl rfl ?_
      refine tw_getS rfl (hs_54_7 (tSh_SA (tSh_SJ hs))) ?_
      refine tw_aload rfl rfl ?_
      refine tw_getS rfl (tF_a (tF_j (hi_54_9 hs))) ?_
      refine tw_iload rfl rfl ?_
      refine tw_iast rfl (fun f402 => ?_)
      refine tw_aload rfl rfl ?_
      refine tw_getS rfl (hs_54_8 (tSh_SA (tSh_SA (tSh_SJ hs)))) ?_
      refine tw_aload rfl rfl ?_
      refine tw_getS rfl (tF_a (tF_a (tF_j (hi_54_9 hs)))) ?_
      refine tw_iload rfl rfl ?_
      refine tw_iast rfl (fun f403 => ?_)
      refine tw_aload rfl rfl ?_
      refine tw_dup rfl ?_
      refine tw_getS rfl (tF_a (tF_a (tF_a (tF_j (hi_54_9 hs))))) ?_
      refine tw_push rfl ?_
      refine tw_iadd rfl ?_
      refine tw_put rfl (fun f404 => ?_)
      refine tw_push rfl ?_
      exact tw_iret rfl (Or.inl ⟨⟨by omega, q398⟩, rfl, (tF_same f404), (tJ_ff (tJ_aa (tJ_aa (tJ_aa (tJ_st f400 rfl))))), (tA_ff (tA_n (by decide) (tA_n (by decide) (tA_st f401 (tA_jj rfl))))), (tA_ff (tA_n (by decide) (tA_st f402 (tA_n (by decide) (tA_jj rfl))))), (tA_ff (tA_st f403 (tA_n (by decide) (tA_n (by decide) (tA_jj rfl)))))⟩)
    · try dsimp only [tvI_i, tvJ_j, tvR_r] at q398
      refine tw_push rfl ?_
      exact tw_iret rfl (Or.inr ⟨fun z => z.2 q398, rfl, rfl⟩)
noncomputable def ph_rdc (t p : Int32) (h : zH) (w : Option Value) (h2 : zH) : Prop := ((((0 ≤ t.toInt ∧ t.toInt < (tvI (tF h 54 5)).toInt) ∧ (0 ≤ p.toInt ∧ p.toInt < (tvI (tF h 36 2)).toInt)) ∧ (tvI (tF h 54 9)).toInt ≠ 600 ∧ ¬ tB (tJ h 59 t.toNatClampNeg) p) ∧ w = some (.int 1) ∧ tF h2 54 9 = .int (tvI (tF h 54 9) + 1) ∧ tJ h2 59 = (fun j => if j = t.toNatClampNeg then tJ h 59 t.toNatClampNeg ||| ((1 : Int64) <<< (p.toInt64 &&& 63)) else tJ h 59 j) ∧ tA h2 60 = (fun j => if j = (tvI (tF h 54 9)).toNatClampNeg then t else tA h 60 j) ∧ tA h2 61 = (fun j => if j = (tvI (tF h 54 9)).toNatClampNeg then p else tA h 61 j) ∧ tA h2 62 = (fun j => if j = (tvI (tF h 54 9)).toNatClampNeg then tvI (tF h 0 14) else tA h 62 j)) ∨ (¬ (((0 ≤ t.toInt ∧ t.toInt < (tvI (tF h 54 5)).toInt) ∧ (0 ≤ p.toInt ∧ p.toInt < (tvI (tF h 36 2)).toInt)) ∧ (tvI (tF h 54 9)).toInt ≠ 600 ∧ ¬ tB (tJ h 59 t.toNatClampNeg) p) ∧ w = some (.int 0) ∧ h2 = h)
theorem f_reads {G : zG} (hG : G.1 = zProg) {h : zH} {t p : Int32} (hs : tSh h) : tC zTt G 130 [.ref 0, .int t, .int p] h (ph_rdc t p h) := by
  refine tC_in (by rw [hG]; rfl) (fun dp => ?_)
  refine tw_aload rfl rfl ?_
  refine tw_getS rfl (hs_0_4 hs) ?_
  refine tw_iload rfl rfl ?_
  refine tw_virt1 rfl (f_hasTest hG hs) (fun w9 h9 p405 => ?_)
  obtain ⟨⟨p405, rfl⟩ | ⟨p405, rfl⟩, rfl⟩ := p405
  · try dsimp only [tvI_i, tvJ_j, tvR_r] at p405
    refine tw_if_eq rfl (fun z => absurd z (by decide)) (fun _ => ?_)
    refine tw_aload rfl rfl ?_
    refine tw_getS rfl (hs_0_1 hs) ?_
    refine tw_iload rfl rfl ?_
    refine tw_virt1 rfl (f_hasPerson hG hs) (fun w9 h9 p406 => ?_)
    obtain ⟨⟨p406, rfl⟩ | ⟨p406, rfl⟩, rfl⟩ := p406
    · try dsimp only [tvI_i, tvJ_j, tvR_r] at p406
      refine tw_if_eq rfl (fun z => absurd z (by decide)) (fun _ => ?_)
      refine tw_aload rfl rfl ?_
      refine tw_getS rfl (hs_0_4 hs) ?_
      refine tw_iload rfl rfl ?_
      refine tw_iload rfl rfl ?_
      refine tw_aload rfl rfl ?_
      refine tw_getS rfl (hi_0_14 hs) ?_
      refine tw_virt3 rfl (f_addReading hG hs) (fun w9 h9 p407 => ?_)
      rcases p407 with ⟨p407, rfl, p407e⟩ | ⟨p407, rfl, rfl⟩
      · refine tw_if_eq rfl (fun z => absurd z (by decide)) (fun _ => ?_)
        refine tw_push rfl ?_
        refine tw_goto rfl ?_
        exact tw_iret rfl (Or.inl ⟨⟨by omega, p407⟩, rfl, p407e⟩)
      · refine tw_if_eq rfl (fun _ => ?_) (fun z => absurd z (by decide))
        refine tw_push rfl ?_
        exact tw_iret rfl (Or.inr ⟨fun z => p407 z.2, rfl, rfl⟩)
    · try dsimp only [tvI_i, tvJ_j, tvR_r] at p406
      refine tw_if_eq rfl (fun _ => ?_) (fun z => absurd z (by decide))
      refine tw_push rfl ?_
      exact tw_iret rfl (Or.inr ⟨fun z => absurd z.1 (by omega), rfl, rfl⟩)
  · try dsimp only [tvI_i, tvJ_j, tvR_r] at p405
    refine tw_if_eq rfl (fun _ => ?_) (fun z => absurd z (by decide))
    refine tw_push rfl ?_
    exact tw_iret rfl (Or.inr ⟨fun z => absurd z.1 (by omega), rfl, rfl⟩)
noncomputable def ph_rdm (t p : Int32) (h : zH) (w : Option Value) (h2 : zH) : Prop := (((((0 ≤ t.toInt ∧ t.toInt < (tvI (tF h 111 50)).toInt) ∧ (0 ≤ p.toInt ∧ p.toInt < (tvI (tF h 111 2)).toInt)) ∧ (tvI (tF h 111 51)).toInt ≠ 600) ∧ ¬ sF (tA h 148) (tA h 149) t p (tvI (tF h 111 51)).toNatClampNeg) ∧ w = some (.int 1) ∧ tF h2 111 51 = .int (tvI (tF h 111 51) + 1) ∧ tA h2 148 = (fun j => if j = (tvI (tF h 111 51)).toNatClampNeg then t else tA h 148 j) ∧ tA h2 149 = (fun j => if j = (tvI (tF h 111 51)).toNatClampNeg then p else tA h 149 j) ∧ tA h2 150 = (fun j => if j = (tvI (tF h 111 51)).toNatClampNeg then tvI (tF h 111 1) else tA h 150 j)) ∨ (¬ ((((0 ≤ t.toInt ∧ t.toInt < (tvI (tF h 111 50)).toInt) ∧ (0 ≤ p.toInt ∧ p.toInt < (tvI (tF h 111 2)).toInt)) ∧ (tvI (tF h 111 51)).toInt ≠ 600) ∧ ¬ sF (tA h 148) (tA h 149) t p (tvI (tF h 111 51)).toNatClampNeg) ∧ w = some (.int 0) ∧ h2 = h)
theorem g_reads {G : zG} (hG : G.1 = zProg) {h : zH} {t p : Int32} (hs : tSh h) (h0 : 0 ≤ (tvI (tF h 111 51)).toInt) (hk50 : 0 ≤ (tvI (tF h 111 50)).toInt) (hk2 : 0 ≤ (tvI (tF h 111 2)).toInt) : tC zTt G 239 [.ref 111, .int t, .int p] h (ph_rdm t p h) := by
  refine tC_in (by rw [hG]; rfl) (fun dp => ?_)
  have e50 := zsub1 hk50
  refine tw_push rfl ?_
  refine tw_istore rfl ?_
  refine tw_push rfl ?_
  refine tw_istore rfl ?_
  refine tG_loop (zW_mono zTt G dp) (zW_conj zTt G dp) (V := fun pc L st h9 _ _ => pc = 5 ∧ st = [] ∧ h = h9 ∧ ∃ (n : Nat) (x y : Int32), x.toInt = n ∧ (n : Int) ≤ (tvI (tF h 111 51)).toInt ∧ ((y = 1 ∧ sF (tA h 148) (tA h 149) t p n) ∨ (y = 0 ∧ ¬ sF (tA h 148) (tA h 149) t p n)) ∧ L = [some (.ref 111), some (.int t), some (.int p), some (.int y), some (.int x)]) ?_ (⟨rfl, rfl, rfl, 0, 0, 0, rfl, h0, Or.inr ⟨rfl, fun z => by obtain ⟨i, z, -⟩ := z; omega⟩, rfl⟩)
  rintro _ _ _ _ _ _ ⟨rfl, rfl, rfl, n, x, y, hx, hn, hy, rfl⟩
  refine tw_iload rfl rfl ?_
  refine tw_aload rfl rfl ?_
  refine tw_getS rfl (hi_111_51 hs) ?_
  refine tw_ic_ge rfl (fun q408 => ?_) (fun q408 => ?_)
  · try dsimp only [tvI_i, tvJ_j, tvR_r] at q408
    refine tw_iload rfl rfl ?_
    refine tw_if_ne rfl (fun q409 => ?_) (fun q409 => ?_)
    · try dsimp only [tvI_i, tvJ_j, tvR_r] at q409
      have q409i := zneq (Y := 0) (by decide) q409
      refine tw_push rfl ?_
      have en := zen hx hn q408
      subst en
      exact tw_iret rfl (Or.inr ⟨fun z => z.2 ((sF_v hy).2 q409), rfl, rfl⟩)
    · try dsimp only [tvI_i, tvJ_j, tvR_r] at q409
      have q409i := zeqi (Y := 0) (by decide) q409
      refine tw_aload rfl rfl ?_
      refine tw_getS rfl (hi_111_51 hs) ?_
      refine tw_push rfl ?_
      refine tw_ic_eq rfl (fun q410 => ?_) (fun q410 => ?_)
      · try dsimp only [tvI_i, tvJ_j, tvR_r] at q410
        have q410i := zeqi (Y := 600) (by decide) q410
        refine tw_push rfl ?_
        have en := zen hx hn q408
        subst en
        exact tw_iret rfl (Or.inr ⟨fun z => absurd z.1 (by omega), rfl, rfl⟩)
      · try dsimp only [tvI_i, tvJ_j, tvR_r] at q410
        have q410i := zneq (Y := 600) (by decide) q410
        refine tw_iload rfl rfl ?_
        refine tw_i2l rfl ?_
        refine tw_push rfl ?_
        refine tw_aload rfl rfl ?_
        refine tw_getS rfl (hi_111_50 hs) ?_
        refine tw_push rfl ?_
        refine tw_isub rfl ?_
        refine tw_i2l rfl ?_
        refine tw_stat3 rfl (f_in hG  (LO := 0)  (Int32.toInt_toInt64 _) (by decide) (Int32.toInt_toInt64 _)) (fun w9 h9 p411 => ?_)
        obtain ⟨⟨p411, rfl⟩ | ⟨p411, rfl⟩, rfl⟩ := p411
        · try dsimp only [tvI_i, tvJ_j, tvR_r] at p411
          refine tw_if_eq rfl (fun z => absurd z (by decide)) (fun _ => ?_)
          refine tw_aload rfl rfl ?_
          refine tw_iload rfl rfl ?_
          refine tw_virt1 rfl (g_isPerson hG hs hk2) (fun w9 h9 p412 => ?_)
          obtain ⟨⟨p412, rfl⟩ | ⟨p412, rfl⟩, rfl⟩ := p412
          · try dsimp only [tvI_i, tvJ_j, tvR_r] at p412
            refine tw_if_ne rfl (fun _ => ?_) (fun z => absurd z (by decide))
            refine tw_aload rfl rfl ?_
            refine tw_getS rfl (hs_111_55 hs) ?_
            refine tw_aload rfl rfl ?_
            refine tw_getS rfl (hi_111_51 hs) ?_
            refine tw_iload rfl rfl ?_
            refine tw_iast rfl (fun f413 => ?_)
            refine tw_aload rfl rfl ?_
            refine tw_getS rfl (hs_111_56 (tSh_SA hs)) ?_
            refine tw_aload rfl rfl ?_
            refine tw_getS rfl (tF_a (hi_111_51 hs)) ?_
            refine tw_iload rfl rfl ?_
            refine tw_iast rfl (fun f414 => ?_)
            refine tw_aload rfl rfl ?_
            refine tw_getS rfl (hs_111_57 (tSh_SA (tSh_SA hs))) ?_
            refine tw_aload rfl rfl ?_
            refine tw_getS rfl (tF_a (tF_a (hi_111_51 hs))) ?_
            refine tw_aload rfl rfl ?_
            refine tw_getS rfl (tF_a (tF_a (hi_111_1 hs))) ?_
            refine tw_iast rfl (fun f415 => ?_)
            refine tw_aload rfl rfl ?_
            refine tw_dup rfl ?_
            refine tw_getS rfl (tF_a (tF_a (tF_a (hi_111_51 hs)))) ?_
            refine tw_push rfl ?_
            refine tw_iadd rfl ?_
            refine tw_put rfl (fun f416 => ?_)
            refine tw_push rfl ?_
            have en := zen hx hn q408
            subst en
            exact tw_iret rfl (Or.inl ⟨⟨by omega, (sF_v hy).1 q409⟩, rfl, (tF_same f416), (tA_ff (tA_n (by decide) (tA_n (by decide) (tA_st f413 rfl)))), (tA_ff (tA_n (by decide) (tA_st f414 (tA_n (by decide) rfl)))), (tA_ff (tA_st f415 (tA_n (by decide) (tA_n (by decide) rfl))))⟩)
          · try dsimp only [tvI_i, tvJ_j, tvR_r] at p412
            refine tw_if_ne rfl (fun z => absurd z (by decide)) (fun _ => ?_)
            refine tw_push rfl ?_
            have en := zen hx hn q408
            subst en
            exact tw_iret rfl (Or.inr ⟨fun z => absurd z.1 (by omega), rfl, rfl⟩)
        · try dsimp only [tvI_i, tvJ_j, tvR_r] at p411
          refine tw_if_eq rfl (fun _ => ?_) (fun z => absurd z (by decide))
          refine tw_push rfl ?_
          have en := zen hx hn q408
          subst en
          exact tw_iret rfl (Or.inr ⟨fun z => absurd z.1 (by omega), rfl, rfl⟩)
  · try dsimp only [tvI_i, tvJ_j, tvR_r] at q408
    refine tw_iload rfl rfl ?_
    refine tw_if_ne rfl (fun q417 => ?_) (fun q417 => ?_)
    · try dsimp only [tvI_i, tvJ_j, tvR_r] at q417
      have q417i := zneq (Y := 0) (by decide) q417
      refine tw_push rfl ?_
      refine tw_goto rfl ?_
      refine tw_istore rfl ?_
      refine tw_iinc rfl rfl ?_
      refine tw_goto rfl ?_
      exact tG_cut (zW_mono zTt G dp) (Or.inr ⟨rfl, rfl, rfl, n + 1, _, _, zincL hx q408, by omega, Or.inl ⟨rfl, sF_s ((sF_v hy).2 q417)⟩, rfl⟩)
    · try dsimp only [tvI_i, tvJ_j, tvR_r] at q417
      have q417i := zeqi (Y := 0) (by decide) q417
      refine tw_aload rfl rfl ?_
      refine tw_getS rfl (hs_111_55 hs) ?_
      refine tw_iload rfl rfl ?_
      refine tw_iald rfl (fun f418 => ?_)
      refine tw_iload rfl rfl ?_
      refine tw_ic_ne rfl (fun q419 => ?_) (fun q419 => ?_)
      · try dsimp only [tvI_i, tvJ_j, tvR_r] at q419
        have q419i := zneq rfl q419
        refine tw_push rfl ?_
        refine tw_istore rfl ?_
        refine tw_iinc rfl rfl ?_
        refine tw_goto rfl ?_
        exact tG_cut (zW_mono zTt G dp) (Or.inr ⟨rfl, rfl, rfl, n + 1, _, _, zincL hx q408, by omega, Or.inr ⟨rfl, sF_n (zof_cl hx) ((sF_v hy).1 q417) (fun z => q419 z.1)⟩, rfl⟩)
      · try dsimp only [tvI_i, tvJ_j, tvR_r] at q419
        have q419i := zeqi rfl q419
        refine tw_aload rfl rfl ?_
        refine tw_getS rfl (hs_111_56 hs) ?_
        refine tw_iload rfl rfl ?_
        refine tw_iald rfl (fun f420 => ?_)
        refine tw_iload rfl rfl ?_
        refine tw_ic_ne rfl (fun q421 => ?_) (fun q421 => ?_)
        · try dsimp only [tvI_i, tvJ_j, tvR_r] at q421
          have q421i := zneq rfl q421
          refine tw_push rfl ?_
          refine tw_istore rfl ?_
          refine tw_iinc rfl rfl ?_
          refine tw_goto rfl ?_
          exact tG_cut (zW_mono zTt G dp) (Or.inr ⟨rfl, rfl, rfl, n + 1, _, _, zincL hx q408, by omega, Or.inr ⟨rfl, sF_n (zof_cl hx) ((sF_v hy).1 q417) (fun z => q421 z.2)⟩, rfl⟩)
        · try dsimp only [tvI_i, tvJ_j, tvR_r] at q421
          have q421i := zeqi rfl q421
          refine tw_push rfl ?_
          refine tw_goto rfl ?_
          refine tw_istore rfl ?_
          refine tw_iinc rfl rfl ?_
          refine tw_goto rfl ?_
          exact tG_cut (zW_mono zTt G dp) (Or.inr ⟨rfl, rfl, rfl, n + 1, _, _, zincL hx q408, by omega, Or.inl ⟨rfl, sF_y (zof_cl hx) q419 q421⟩, rfl⟩)
theorem a_reads {xs : Nat → Int32} {τ : List Nat} {t p : Int32} {h h2 h3 : zH} {w w2 : Option Value} (hB : zBs xs τ h) (hT : R_tests h) (hP : R_people h) (hW : R_now h) (hA : R_readings h) (h1 : R_rtest h) (h4 : R_rby h) (h5 : R_rin h) (hD : R_rdb h) (e1 : tF h2 111 50 = tF h 111 50) (e3 : tF h2 111 2 = tF h 111 2) (e4 : tF h2 111 1 = tF h 111 1) (e5 : tF h2 111 51 = tF h 111 51) (o1 : tA h2 148 = tA h 148) (o2 : tA h2 149 = tA h 149) (o3 : tA h2 150 = tA h 150) (e2 : tF h3 54 9 = tF h2 54 9) (t1 : tA h3 60 = tA h2 60) (t2 : tA h3 61 = tA h2 61) (t3 : tA h3 62 = tA h2 62) (t4 : tJ h3 59 = tJ h2 59) (k1 : ph_rdc t p h w h2) (k2 : ph_rdm t p h2 w2 h3) : w2 = w ∧ R_readings h3 ∧ R_rtest h3 ∧ R_rby h3 ∧ R_rin h3 ∧ R_rdb h3 := by
  have hA0 := hA
  unfold R_tests at hT
  unfold R_people at hP
  unfold R_now at hW
  unfold R_readings at hA0
  have h10 := h1
  have h40 := h4
  unfold R_rtest at h10
  unfold R_rby at h40
  unfold R_rin at h5
  unfold ph_rdm at k2
  rw [e1, e3, e4, e5, o1, o2, o3, ← hT, ← hP, ← hW, ← hA0, ← h10, ← h40, ← h5] at k2
  have n1 := kb_54_9 hB
  have n2 := kb_54_5 hB
  have n3 := kb_36_2 hB
  have hC : ((0 ≤ t.toInt ∧ t.toInt < (tvI (tF h 54 5)).toInt) ∧ (0 ≤ p.toInt ∧ p.toInt < (tvI (tF h 36 2)).toInt)) → (tB (tJ h 59 t.toNatClampNeg) p ↔ sF (tA h 60) (tA h 61) t p (tvI (tF h 54 9)).toNatClampNeg) := fun z => hD t p (by omega) (by omega)
  rcases k1 with ⟨c1, rfl, f1, f2, f3, f4, f5⟩ | ⟨c1, rfl, rfl⟩ <;> rcases k2 with ⟨c2, rfl, g1, g3, g4, g5⟩ | ⟨c2, rfl, rfl⟩
  · have en : (tvI (tF h3 54 9)).toNatClampNeg = (tvI (tF h 54 9)).toNatClampNeg + 1 := by
      rw [e2, f1]
      show (tvI (tF h 54 9) + 1).toNatClampNeg = _
      have := zincN (x := tvI (tF h 54 9)) (n := (tvI (tF h 54 9)).toInt.toNat) (by omega) (by omega)
      rw [zclE, zclE, this]
      rfl
    refine ⟨rfl, by unfold R_readings; rw [e2, f1, g1], by unfold R_rtest; rw [t1, f3, g3], by unfold R_rby; rw [t2, f4, g4], by unfold R_rin; rw [t3, f5, g5], ?_⟩
    intro a b ha hb
    rw [en, sF_up (t1.trans f3) (t2.trans f4), t4, f2]
    dsimp only
    by_cases z : a.toNatClampNeg = t.toNatClampNeg
    · have za : a = t := by
        rw [zclE, zclE] at z
        exact Int32.toInt_inj.mp (by omega)
      subst za
      rw [if_pos rfl, tB_or (by omega) (by omega), hD a b ha hb]
      exact ⟨fun q => q.imp id (fun e => ⟨rfl, e.symm⟩), fun q => q.imp id (fun e => e.2.symm)⟩
    · rw [if_neg z, hD a b ha hb]
      exact ⟨Or.inl, fun q => q.resolve_right (fun e => z (by rw [e.1]))⟩
  · exact absurd ⟨⟨c1.1, c1.2.1⟩, fun q => c1.2.2 ((hC c1.1).mpr q)⟩ c2
  · exact absurd ⟨c2.1.1, c2.1.2, fun q => c2.2 ((hC c2.1.1).mp q)⟩ c1
  · exact ⟨rfl, hA, h1, h4, by unfold R_rin; exact h5, hD⟩
/-! A RULE AS IT IS TOLD: what both readers find in the bytes T below n; the one goes down, the other keeps a pile. -/
/-- the place behind the blanks; behind letters; behind digits -/
noncomputable def rB (T : Nat → Int32) (n p : Nat) : Nat := if _h : p < n ∧ T p = 32 then rB T n (p + 1) else p
termination_by n - p
decreasing_by omega
noncomputable def rE (T : Nat → Int32) (n p : Nat) : Nat := if _h : p < n ∧ 97 ≤ (T p).toInt ∧ (T p).toInt ≤ 122 then rE T n (p + 1) else p
termination_by n - p
decreasing_by omega
noncomputable def rD (T : Nat → Int32) (n p : Nat) : Nat := if _h : p < n ∧ 48 ≤ (T p).toInt ∧ (T p).toInt ≤ 57 then rD T n (p + 1) else p
termination_by n - p
decreasing_by omega
section RB
variable {T : Nat → Int32} {n p : Nat}
theorem rB_y (h : p < n ∧ T p = 32) : rB T n p = rB T n (p + 1) := by
  rw [rB]; exact dif_pos h
theorem rB_n (h : ¬ (p < n ∧ T p = 32)) : rB T n p = p := by
  rw [rB]; exact dif_neg h
theorem rE_y (h : p < n ∧ 97 ≤ (T p).toInt ∧ (T p).toInt ≤ 122) : rE T n p = rE T n (p + 1) := by
  rw [rE]; exact dif_pos h
theorem rE_n (h : ¬ (p < n ∧ 97 ≤ (T p).toInt ∧ (T p).toInt ≤ 122)) : rE T n p = p := by
  rw [rE]; exact dif_neg h
theorem rD_y (h : p < n ∧ 48 ≤ (T p).toInt ∧ (T p).toInt ≤ 57) : rD T n p = rD T n (p + 1) := by
  rw [rD]; exact dif_pos h
theorem rD_n (h : ¬ (p < n ∧ 48 ≤ (T p).toInt ∧ (T p).toInt ≤ 57)) : rD T n p = p := by
  rw [rD]; exact dif_neg h
theorem rB_all : ∀ (k p : Nat), n - p ≤ k → p ≤ rB T n p ∧ ¬ (rB T n p < n ∧ T (rB T n p) = 32) ∧ (p ≤ n → rB T n p ≤ n)
  | 0, p, hk => by
    have h : ¬ (p < n ∧ T p = 32) := by omega
    rw [rB_n h]
    exact ⟨Nat.le_refl _, h, fun z => z⟩
  | k + 1, p, hk => by
    by_cases h : p < n ∧ T p = 32
    · rw [rB_y h]
      obtain ⟨a, b, c⟩ := rB_all k (p + 1) (by omega)
      exact ⟨by omega, b, fun _ => c (by omega)⟩
    · rw [rB_n h]
      exact ⟨Nat.le_refl _, h, fun z => z⟩
theorem rB_ge : p ≤ rB T n p := (rB_all (n - p) p (Nat.le_refl _)).1
theorem rB_st : ¬ (rB T n p < n ∧ T (rB T n p) = 32) := (rB_all (n - p) p (Nat.le_refl _)).2.1
theorem rB_le (h : p ≤ n) : rB T n p ≤ n := (rB_all (n - p) p (Nat.le_refl _)).2.2 h
theorem rB_2 : rB T n (rB T n p) = rB T n p := rB_n rB_st
theorem rE_all : ∀ (k p : Nat), n - p ≤ k → p ≤ rE T n p ∧ (p ≤ n → rE T n p ≤ n)
  | 0, p, hk => by
    have h : ¬ (p < n ∧ 97 ≤ (T p).toInt ∧ (T p).toInt ≤ 122) := by omega
    rw [rE_n h]
    exact ⟨Nat.le_refl _, fun z => z⟩
  | k + 1, p, hk => by
    by_cases h : p < n ∧ 97 ≤ (T p).toInt ∧ (T p).toInt ≤ 122
    · rw [rE_y h]
      obtain ⟨a, c⟩ := rE_all k (p + 1) (by omega)
      exact ⟨by omega, fun _ => c (by omega)⟩
    · rw [rE_n h]
      exact ⟨Nat.le_refl _, fun z => z⟩
theorem rE_ge : p ≤ rE T n p := (rE_all (n - p) p (Nat.le_refl _)).1
theorem rE_le (h : p ≤ n) : rE T n p ≤ n := (rE_all (n - p) p (Nat.le_refl _)).2 h
theorem rD_all : ∀ (k p : Nat), n - p ≤ k → p ≤ rD T n p ∧ (p ≤ n → rD T n p ≤ n)
  | 0, p, hk => by
    have h : ¬ (p < n ∧ 48 ≤ (T p).toInt ∧ (T p).toInt ≤ 57) := by omega
    rw [rD_n h]
    exact ⟨Nat.le_refl _, fun z => z⟩
  | k + 1, p, hk => by
    by_cases h : p < n ∧ 48 ≤ (T p).toInt ∧ (T p).toInt ≤ 57
    · rw [rD_y h]
      obtain ⟨a, c⟩ := rD_all k (p + 1) (by omega)
      exact ⟨by omega, fun _ => c (by omega)⟩
    · rw [rD_n h]
      exact ⟨Nat.le_refl _, fun z => z⟩
theorem rD_ge : p ≤ rD T n p := (rD_all (n - p) p (Nat.le_refl _)).1
theorem rD_le (h : p ≤ n) : rD T n p ≤ n := (rD_all (n - p) p (Nat.le_refl _)).2 h
end RB
/-- the number that k digits from q on tell -/
noncomputable def rV (T : Nat → Int32) (q : Nat) : Nat → Nat
  | 0 => 0
  | k + 1 => 10 * rV T q k + ((T (q + k)).toInt - 48).toNat
/-- these letters stand from p on -/
noncomputable def rQ (T : Nat → Int32) : Nat → List Int32 → Bool
  | _, [] => true
  | p, c :: r => decide (T p = c) && rQ T (p + 1) r
/-- the letters from p on are this word's -/
noncomputable def rW (T : Nat → Int32) (n p : Nat) (w : List Int32) : Bool := Nat.beq (rE T n p) (p + w.length) && rQ T p w
noncomputable def rWn : Nat → Nat
  | 16 => 21
  | 17 => 20
  | 18 => 19
  | 19 => 18
  | k => k + 2
noncomputable def rWd (k : Nat) : List Int32 := ztx (rWn k)
theorem rQ_u {T : Nat → Int32} : ∀ {a b : List Int32} {p : Nat}, a.length = b.length → rQ T p a = true → rQ T p b = true → a = b
  | [], [], _, _, _, _ => rfl
  | [], _ :: _, _, e, _, _ => by simp at e
  | _ :: _, [], _, e, _, _ => by simp at e
  | x :: a, y :: b, p, e, ha, hb => by
    unfold rQ at ha hb
    rw [Bool.and_eq_true] at ha hb
    have h1 := of_decide_eq_true ha.1
    have h2 := of_decide_eq_true hb.1
    have h3 := rQ_u (by simpa using e) ha.2 hb.2
    rw [h3, ← h1, ← h2]
theorem rW_i {T : Nat → Int32} {n p : Nat} {a : List Int32} : rW T n p a = true ↔ rE T n p = p + a.length ∧ rQ T p a = true := by
  unfold rW
  rw [Bool.and_eq_true]
  exact and_congr ⟨Nat.eq_of_beq_eq_true, fun h => by rw [h]; exact Nat.beq_refl _⟩ Iff.rfl
theorem rW_u {T : Nat → Int32} {n p : Nat} {a b : List Int32} (ha : rW T n p a = true) (hb : rW T n p b = true) : a = b := by
  rw [rW_i] at ha hb
  exact rQ_u (by omega) ha.2 hb.2
theorem rWd_all : (List.range 20).all (fun i => (List.range 20).all (fun j => !(decide (rWd i = rWd j)) || Nat.beq i j)) = true := by decide +kernel
theorem rWd_i {i j : Nat} (hi : i < 20) (hj : j < 20) (e : rWd i = rWd j) : i = j := by
  have h := List.all_eq_true.mp (List.all_eq_true.mp rWd_all i (List.mem_range.mpr hi)) j (List.mem_range.mpr hj)
  rw [decide_eq_true e] at h
  exact Nat.eq_of_beq_eq_true h
theorem rW_ij {T : Nat → Int32} {n p i j : Nat} (hi : i < 20) (hj : j < 20) (ha : rW T n p (rWd i) = true) (hb : rW T n p (rWd j) = true) : i = j := rWd_i hi hj (rW_u ha hb)
theorem rW_e {T : Nat → Int32} {n p : Nat} {a : List Int32} (h : rW T n p a = true) : rE T n p = p + a.length := (rW_i.mp h).1
/-- a word's first letter is a letter -/
theorem rWd_l : (List.range 20).all (fun i => match rWd i with
  | [] => false
  | c :: _ => decide (97 ≤ c.toInt ∧ c.toInt ≤ 122)) = true := by decide +kernel
theorem rW_l {T : Nat → Int32} {n p i : Nat} (hi : i < 20) (h : rW T n p (rWd i) = true) : p < n ∧ 97 ≤ (T p).toInt ∧ (T p).toInt ≤ 122 := by
  have q := List.all_eq_true.mp rWd_l i (List.mem_range.mpr hi)
  rw [rW_i] at h
  obtain ⟨h1, h2⟩ := h
  revert q h1 h2
  generalize rWd i = w
  intro q h1 h2
  match w, q, h1, h2 with
  | [], q, _, _ => cases q
  | c :: r, q, h1, h2 =>
    rcases Classical.em (p < n ∧ 97 ≤ (T p).toInt ∧ (T p).toInt ≤ 122) with z | z
    · exact z
    · rw [rE_n z] at h1
      simp at h1
/-- the first of so many words that stands there -/
noncomputable def rK12 (T : Nat → Int32) (n p : Nat) : Option Nat := (List.range 12).find? (fun k => rW T n p (rWd k))
theorem rK12_s {T : Nat → Int32} {n p k : Nat} (h : rK12 T n p = some k) : k < 12 ∧ rW T n p (rWd k) = true :=
  ⟨List.mem_range.mp (List.mem_of_find?_eq_some h), List.find?_some (p := fun k => rW T n p (rWd k)) h⟩
theorem rK12_i {T : Nat → Int32} {n p k : Nat} (hk : k < 12) (h : rW T n p (rWd k) = true) : rK12 T n p = some k := by
  cases e : rK12 T n p with
  | none =>
    have := List.find?_eq_none.mp e k (List.mem_range.mpr hk)
    exact absurd h this
  | some j =>
    obtain ⟨h1, h2⟩ := rK12_s e
    rw [rW_ij (by omega) (by omega) h2 h]
theorem rK12_n {T : Nat → Int32} {n p : Nat} (h : ∀ k, k < 12 → ¬ rW T n p (rWd k) = true) : rK12 T n p = none := by
  cases e : rK12 T n p with
  | none => rfl
  | some j => exact absurd (rK12_s e).2 (h j (rK12_s e).1)
/-- place, how many are counted, what was told so far -/
noncomputable abbrev rS : Type := Nat × Nat × List Nat
noncomputable abbrev rR : Type := Option (Nat ⊕ rS)
noncomputable def rK (x : rR) (k : rS → rR) : rR := match x with
  | none => none
  | some (.inl f) => some (.inl f)
  | some (.inr s) => k s
noncomputable def rF (p w : Nat) : rR := some (.inl (1 + 8 * p + w))
noncomputable def rO (s : rS) : rR := some (.inr s)
noncomputable def rC (p : Nat) (s : rS) : rR := if s.2.1 = 80 then rF p 3 else rO (s.1, s.2.1 + 1, s.2.2)
noncomputable def rU (c : Nat) (s : rS) : rS := (s.1, s.2.1, s.2.2 ++ [c])
noncomputable def rA (p : Nat) (s : rS) : rS := (p, s.2.1, s.2.2)
noncomputable def rT (T : Nat → Int32) (n : Nat) (c : Int32) (s : rS) : rR := if rB T n s.1 < n ∧ T (rB T n s.1) = c then rO (rA (rB T n s.1 + 1) s) else rF (rB T n s.1) 0
/-- a number up to most, from behind the blanks on -/
noncomputable def rM (T : Nat → Int32) (n most p : Nat) : Nat ⊕ (Nat × Nat) :=
  if rD T n (rB T n p) = rB T n p then .inl (1 + 8 * rB T n p + 0)
  else if 5 < rD T n (rB T n p) - rB T n p ∨ most < rV T (rB T n p) (rD T n (rB T n p) - rB T n p) then .inl (1 + 8 * rB T n p + 1)
  else .inr (rD T n (rB T n p), rV T (rB T n p) (rD T n (rB T n p) - rB T n p))
/-- a comparison, and the place behind it -/
noncomputable def rCm (T : Nat → Int32) (n b : Nat) : Option (Nat × Nat) :=
  if b < n ∧ T b = 61 then some (100105, b + 1)
  else if b < n ∧ T b = 60 then (if b + 1 < n ∧ T (b + 1) = 61 then some (100104, b + 2) else some (100103, b + 1))
  else if b < n ∧ T b = 62 then (if b + 1 < n ∧ T (b + 1) = 61 then some (100106, b + 2) else some (100107, b + 1))
  else none
/-- 0 a value, 1 a product (2 its rest), 3 a sum (4 its rest), 5 a comparison, 6 a fact, 7 facts with 'and' (8 their rest), 9 a test (10 its rest) -/
noncomputable def rX (T : Nat → Int32) (n : Nat) : Nat → Nat → Nat → rS → rR
  | 0, _, _, _ => none
  | f + 1, m, d, s => match m with
    | 0 => if rB T n s.1 < n ∧ T (rB T n s.1) = 40 then (if d = 10 then rF (rB T n s.1) 2 else rK (rC (rB T n s.1) s) (fun s1 => rK (rX T n f 3 (d + 1) (rA (rB T n s.1 + 1) s1)) (rT T n 41)))
      else (match rK12 T n (rB T n s.1) with
        | some k => rK (rC (rB T n s.1) s) (fun s1 => rO (rU (100000 + k) (rA (rE T n (rB T n s.1)) s1)))
        | none => (match rM T n 99999 (rB T n s.1) with
          | .inl e => some (.inl e)
          | .inr q => rK (rC (rB T n s.1) s) (fun s1 => rO (rU q.2 (rA q.1 s1)))))
    | 1 => rK (rX T n f 0 d s) (rX T n f 2 d)
    | 2 => if rB T n s.1 < n ∧ T (rB T n s.1) = 42 then rK (rX T n f 0 d (rA (rB T n s.1 + 1) s)) (fun s1 => rX T n f 2 d (rU 100102 s1)) else rO (rA (rB T n s.1) s)
    | 3 => rK (rX T n f 1 d s) (rX T n f 4 d)
    | 4 => if rB T n s.1 < n ∧ T (rB T n s.1) = 43 then rK (rX T n f 1 d (rA (rB T n s.1 + 1) s)) (fun s1 => rX T n f 4 d (rU 100100 s1))
      else if rB T n s.1 < n ∧ T (rB T n s.1) = 45 then rK (rX T n f 1 d (rA (rB T n s.1 + 1) s)) (fun s1 => rX T n f 4 d (rU 100101 s1))
      else rO (rA (rB T n s.1) s)
    | 5 => rK (rX T n f 3 d s) (fun s1 => match rCm T n (rB T n s1.1) with
      | none => rF (rB T n s1.1) 0
      | some q => rK (rC (rB T n s1.1) s1) (fun s2 => rK (rX T n f 3 d (rA q.2 s2)) (fun s3 => rO (rU q.1 s3))))
    | 6 => if rW T n (rB T n s.1) (rWd 19) = true then (if d = 10 then rF (rB T n s.1) 2 else rK (rX T n f 6 (d + 1) (rA (rB T n s.1 + 3) s)) (fun s1 => rO (rU 100110 s1)))
      else if rB T n s.1 < n ∧ T (rB T n s.1) = 91 then (if d = 10 then rF (rB T n s.1) 2 else rK (rX T n f 9 (d + 1) (rA (rB T n s.1 + 1) s)) (rT T n 93))
      else rX T n f 5 d (rA (rB T n s.1) s)
    | 7 => rK (rX T n f 6 d s) (rX T n f 8 d)
    | 8 => if rW T n (rB T n s.1) (rWd 18) = true then rK (rX T n f 6 d (rA (rB T n s.1 + 3) s)) (fun s1 => rX T n f 8 d (rU 100109 s1)) else rO (rA (rB T n s.1) s)
    | 9 => rK (rX T n f 7 d s) (rX T n f 10 d)
    | _ => if rW T n (rB T n s.1) (rWd 17) = true then rK (rX T n f 7 d (rA (rB T n s.1 + 2) s)) (fun s1 => rX T n f 10 d (rU 100108 s1)) else rO (rA (rB T n s.1) s)
/-! the reader with a pile -/
noncomputable abbrev rMs : Type := Nat × List Nat × rS
noncomputable abbrev rMo : Type := Nat ⊕ rMs
noncomputable def mDp : List Nat → Nat
  | [] => 0
  | x :: r => if x = 50 ∨ x = 10 ∨ x = 13 then mDp r + 1 else mDp r
noncomputable def mT : List Nat → List Nat → List Nat × List Nat
  | [], o => ([], o)
  | x :: r, o => if x = 102 then mT r (o ++ [100102]) else (x :: r, o)
noncomputable def mPm : List Nat → List Nat → List Nat × List Nat
  | [], o => ([], o)
  | x :: r, o => if x = 103 then mPm r (o ++ [100100]) else if x = 104 then mPm r (o ++ [100101]) else (x :: r, o)
noncomputable def mS (S o : List Nat) : List Nat × List Nat := mPm (mT S o).1 (mT S o).2
noncomputable def mN : List Nat → List Nat → List Nat × List Nat
  | [], o => ([], o)
  | x :: r, o => if x = 10 then mN r (o ++ [100110]) else (x :: r, o)
noncomputable def mA : List Nat → List Nat → List Nat × List Nat
  | [], o => ([], o)
  | x :: r, o => if x = 11 then mA r (o ++ [100109]) else (x :: r, o)
noncomputable def mO1 : List Nat → List Nat → List Nat × List Nat
  | [], o => ([], o)
  | x :: r, o => if x = 12 then mO1 r (o ++ [100108]) else (x :: r, o)
noncomputable def mO (S o : List Nat) : List Nat × List Nat := mO1 (mA S o).1 (mA S o).2
noncomputable def mS0 (T : Nat → Int32) (n : Nat) (S : List Nat) (s : rS) : rMo :=
  if rW T n (rB T n s.1) (rWd 19) = true then (if mDp S = 10 then .inl (1 + 8 * rB T n s.1 + 2) else .inr (0, 10 :: S, rA (rB T n s.1 + 3) s))
  else if rB T n s.1 < n ∧ T (rB T n s.1) = 91 then (if mDp S = 10 then .inl (1 + 8 * rB T n s.1 + 2) else .inr (0, 13 :: S, rA (rB T n s.1 + 1) s))
  else .inr (1, S, rA (rB T n s.1) s)
noncomputable def mS1 (T : Nat → Int32) (n : Nat) (S : List Nat) (s : rS) : rMo :=
  if rB T n s.1 < n ∧ T (rB T n s.1) = 40 then (if mDp S = 10 then .inl (1 + 8 * rB T n s.1 + 2) else if s.2.1 = 80 then .inl (1 + 8 * rB T n s.1 + 3) else .inr (1, 50 :: S, (rB T n s.1 + 1, s.2.1 + 1, s.2.2)))
  else (match rK12 T n (rB T n s.1) with
    | some k => if s.2.1 = 80 then .inl (1 + 8 * rB T n s.1 + 3) else .inr (2, S, (rE T n (rB T n s.1), s.2.1 + 1, s.2.2 ++ [100000 + k]))
    | none => (match rM T n 99999 (rB T n s.1) with
      | .inl e => .inl e
      | .inr q => if s.2.1 = 80 then .inl (1 + 8 * rB T n s.1 + 3) else .inr (2, S, (q.1, s.2.1 + 1, s.2.2 ++ [q.2]))))
noncomputable def mS2 (T : Nat → Int32) (n : Nat) (tst : Bool) (S : List Nat) (s : rS) : rMo :=
  if rB T n s.1 < n ∧ T (rB T n s.1) = 42 then .inr (1, 102 :: (mT S s.2.2).1, (rB T n s.1 + 1, s.2.1, (mT S s.2.2).2))
  else if rB T n s.1 < n ∧ T (rB T n s.1) = 43 then .inr (1, 103 :: (mS S s.2.2).1, (rB T n s.1 + 1, s.2.1, (mS S s.2.2).2))
  else if rB T n s.1 < n ∧ T (rB T n s.1) = 45 then .inr (1, 104 :: (mS S s.2.2).1, (rB T n s.1 + 1, s.2.1, (mS S s.2.2).2))
  else if (mS S s.2.2).1.headD 0 = 50 then (if rB T n s.1 < n ∧ T (rB T n s.1) = 41 then .inr (2, (mS S s.2.2).1.tail, (rB T n s.1 + 1, s.2.1, (mS S s.2.2).2)) else .inl (1 + 8 * rB T n s.1 + 0))
  else if tst = true then (if 205 ≤ (mS S s.2.2).1.headD 0 ∧ (mS S s.2.2).1.headD 0 ≤ 209 then .inr (3, (mS S s.2.2).1.tail, (rB T n s.1, s.2.1, (mS S s.2.2).2 ++ [(mS S s.2.2).1.headD 0 + 99898]))
    else (match rCm T n (rB T n s.1) with
      | none => .inl (1 + 8 * rB T n s.1 + 0)
      | some q => if s.2.1 = 80 then .inl (1 + 8 * rB T n s.1 + 3) else .inr (1, (q.1 - 99898) :: (mS S s.2.2).1, (q.2, s.2.1 + 1, (mS S s.2.2).2))))
  else .inr (4, (mS S s.2.2).1, (rB T n s.1, s.2.1, (mS S s.2.2).2))
noncomputable def mS3 (T : Nat → Int32) (n : Nat) (S : List Nat) (s : rS) : rMo :=
  if rW T n (rB T n s.1) (rWd 18) = true then .inr (0, 11 :: (mA (mN S s.2.2).1 (mN S s.2.2).2).1, (rB T n s.1 + 3, s.2.1, (mA (mN S s.2.2).1 (mN S s.2.2).2).2))
  else if rW T n (rB T n s.1) (rWd 17) = true then .inr (0, 12 :: (mO (mN S s.2.2).1 (mN S s.2.2).2).1, (rB T n s.1 + 2, s.2.1, (mO (mN S s.2.2).1 (mN S s.2.2).2).2))
  else if (mO (mN S s.2.2).1 (mN S s.2.2).2).1.headD 0 = 13 then (if rB T n s.1 < n ∧ T (rB T n s.1) = 93 then .inr (3, (mO (mN S s.2.2).1 (mN S s.2.2).2).1.tail, (rB T n s.1 + 1, s.2.1, (mO (mN S s.2.2).1 (mN S s.2.2).2).2)) else .inl (1 + 8 * rB T n s.1 + 0))
  else .inr (4, (mO (mN S s.2.2).1 (mN S s.2.2).2).1, (rB T n s.1, s.2.1, (mO (mN S s.2.2).1 (mN S s.2.2).2).2))
noncomputable def mSt (T : Nat → Int32) (n : Nat) (tst : Bool) (x : rMs) : rMo := match x.1 with
  | 0 => mS0 T n x.2.1 x.2.2
  | 1 => mS1 T n x.2.1 x.2.2
  | 2 => mS2 T n tst x.2.1 x.2.2
  | 3 => mS3 T n x.2.1 x.2.2
  | _ => .inr x
noncomputable def mI (T : Nat → Int32) (n : Nat) (tst : Bool) : Nat → rMo → rMo
  | 0, y => y
  | _ + 1, .inl f => .inl f
  | k + 1, .inr x => mI T n tst k (mSt T n tst x)
noncomputable def mRe (T : Nat → Int32) (n : Nat) (tst : Bool) (x : rMs) (y : rMo) : Prop := ∃ k, mI T n tst k (.inr x) = y
section MR
variable {T : Nat → Int32} {n : Nat} {tst : Bool}
theorem mI_f (f : Nat) : ∀ k, mI T n tst k (.inl f) = .inl f
  | 0 => rfl
  | _ + 1 => rfl
theorem mI_add : ∀ (j k : Nat) (y : rMo), mI T n tst (j + k) y = mI T n tst k (mI T n tst j y)
  | 0, k, y => by rw [Nat.zero_add]; rfl
  | j + 1, k, .inl f => by rw [mI_f, mI_f, mI_f]
  | j + 1, k, .inr x => by
    rw [Nat.succ_add]
    exact mI_add j k (mSt T n tst x)
theorem mRe_0 {x : rMs} : mRe T n tst x (.inr x) := ⟨0, rfl⟩
theorem mRe_f {x : rMs} {f : Nat} (h : mSt T n tst x = .inl f) : mRe T n tst x (.inl f) := ⟨1, h⟩
theorem mRe_s {x y : rMs} {z : rMo} (h : mSt T n tst x = .inr y) (k : mRe T n tst y z) : mRe T n tst x z := by
  obtain ⟨k, hk⟩ := k
  refine ⟨k + 1, ?_⟩
  show mI T n tst k (mSt T n tst x) = z
  rw [h]
  exact hk
theorem mRe_t {x y : rMs} {z : rMo} (h : mRe T n tst x (.inr y)) (k : mRe T n tst y z) : mRe T n tst x z := by
  obtain ⟨j, hj⟩ := h
  obtain ⟨k, hk⟩ := k
  refine ⟨j + k, ?_⟩
  rw [mI_add, hj]
  exact hk
noncomputable def mHt : rMo → Prop
  | .inl _ => True
  | .inr x => 4 ≤ x.1
theorem mSt_4 {x : rMs} (h : 4 ≤ x.1) : mSt T n tst x = .inr x := by
  obtain ⟨a, S, s⟩ := x
  match a, h with
  | a + 4, _ => rfl
theorem mI_h {y : rMo} (h : mHt y) : ∀ k, mI T n tst k y = y
  | 0 => rfl
  | k + 1 => by
    match y, h with
    | .inl f, _ => rfl
    | .inr x, h =>
      show mI T n tst k (mSt T n tst x) = _
      rw [mSt_4 h]
      exact mI_h h k
theorem mRe_u {x : rMs} {y z : rMo} (hy : mRe T n tst x y) (hz : mRe T n tst x z) (h1 : mHt y) (h2 : mHt z) : y = z := by
  obtain ⟨j, hj⟩ := hy
  obtain ⟨k, hk⟩ := hz
  have e1 := mI_add (T := T) (n := n) (tst := tst) j k (.inr x)
  have e2 := mI_add (T := T) (n := n) (tst := tst) k j (.inr x)
  rw [hj, mI_h h1] at e1
  rw [hk, mI_h h2] at e2
  rw [← e1, ← e2, Nat.add_comm]
theorem mT_n {S o : List Nat} (h : S.headD 0 ≠ 102) : mT S o = (S, o) := by
  cases S with
  | nil => rfl
  | cons x r =>
    have h : x ≠ 102 := h
    unfold mT
    rw [if_neg h]
theorem mPm_n {S o : List Nat} (h : S.headD 0 ≠ 103) (h2 : S.headD 0 ≠ 104) : mPm S o = (S, o) := by
  cases S with
  | nil => rfl
  | cons x r =>
    have h : x ≠ 103 := h
    have h2 : x ≠ 104 := h2
    unfold mPm
    rw [if_neg h, if_neg h2]
theorem mN_n {S o : List Nat} (h : S.headD 0 ≠ 10) : mN S o = (S, o) := by
  cases S with
  | nil => rfl
  | cons x r =>
    have h : x ≠ 10 := h
    unfold mN
    rw [if_neg h]
theorem mA_n {S o : List Nat} (h : S.headD 0 ≠ 11) : mA S o = (S, o) := by
  cases S with
  | nil => rfl
  | cons x r =>
    have h : x ≠ 11 := h
    unfold mA
    rw [if_neg h]
theorem mO1_n {S o : List Nat} (h : S.headD 0 ≠ 12) : mO1 S o = (S, o) := by
  cases S with
  | nil => rfl
  | cons x r =>
    have h : x ≠ 12 := h
    unfold mO1
    rw [if_neg h]
theorem mN_r {S : List Nat} (h : S.headD 0 ≠ 10) : ∀ (k : Nat) (o : List Nat), mN (List.replicate k 10 ++ S) o = (S, o ++ List.replicate k 100110)
  | 0, o => by
    show mN S o = _
    rw [mN_n h]
    simp
  | k + 1, o => by
    rw [List.replicate_succ, List.cons_append]
    unfold mN
    rw [if_pos rfl, mN_r h k, List.append_assoc]
    rfl
/-- no sign of a sum on top; nor a bracket of one, nor a comparison; nor 'not', 'and' -/
noncomputable def hS1 (S : List Nat) : Prop := S.headD 0 ≠ 102
noncomputable def hS3 (S : List Nat) : Prop := S.headD 0 ≠ 102 ∧ S.headD 0 ≠ 103 ∧ S.headD 0 ≠ 104
noncomputable def hS5 (S : List Nat) : Prop := hS3 S ∧ S.headD 0 ≠ 50 ∧ ¬ (205 ≤ S.headD 0 ∧ S.headD 0 ≤ 209)
noncomputable def hS7 (S : List Nat) : Prop := hS5 S ∧ S.headD 0 ≠ 10 ∧ S.headD 0 ≠ 11
noncomputable def hS9 (S : List Nat) : Prop := hS7 S ∧ S.headD 0 ≠ 12
theorem mS_n {S o : List Nat} (h : hS3 S) : mS S o = (S, o) := by
  unfold mS
  rw [mT_n h.1]
  exact mPm_n h.2.1 h.2.2
noncomputable def mNo (T : Nat → Int32) (n p : Nat) (c : Int32) : Prop := ¬ (p < n ∧ T p = c)
/-- the pile's reader where it begins to read what rX reads -/
noncomputable def mPre (T : Nat → Int32) (n : Nat) (tst : Bool) (m : Nat) (S : List Nat) (s : rS) (x : rMs) : Prop := match m with
  | 0 => x = (1, S, s)
  | 1 => x = (1, S, s) ∧ hS1 S
  | 2 => x.1 = 2 ∧ mT x.2.1 x.2.2.2.2 = (S, s.2.2) ∧ rB T n x.2.2.1 = rB T n s.1 ∧ x.2.2.2.1 = s.2.1 ∧ hS1 S
  | 3 => x = (1, S, s) ∧ hS3 S
  | 4 => x.1 = 2 ∧ mS x.2.1 x.2.2.2.2 = (S, s.2.2) ∧ rB T n x.2.2.1 = rB T n s.1 ∧ x.2.2.2.1 = s.2.1 ∧ hS3 S ∧ mNo T n (rB T n s.1) 42
  | 5 => x = (1, S, s) ∧ hS5 S ∧ tst = true
  | 6 => x = (0, S, s) ∧ hS5 S ∧ tst = true
  | 7 => x = (0, S, s) ∧ hS7 S ∧ tst = true
  | 8 => x.1 = 3 ∧ mA (mN x.2.1 x.2.2.2.2).1 (mN x.2.1 x.2.2.2.2).2 = (S, s.2.2) ∧ rB T n x.2.2.1 = rB T n s.1 ∧ x.2.2.2.1 = s.2.1 ∧ hS7 S ∧ tst = true
  | 9 => x = (0, S, s) ∧ hS9 S ∧ tst = true
  | _ => x.1 = 3 ∧ mO (mN x.2.1 x.2.2.2.2).1 (mN x.2.1 x.2.2.2.2).2 = (S, s.2.2) ∧ rB T n x.2.2.1 = rB T n s.1 ∧ x.2.2.2.1 = s.2.1 ∧ hS9 S ∧ tst = true ∧ rW T n (rB T n s.1) (rWd 18) ≠ true
/-- and where it is behind it -/
noncomputable def mPo (T : Nat → Int32) (n : Nat) (m : Nat) (S : List Nat) (s : rS) (y : rMs) : Prop := match m with
  | 0 => y = (2, S, s)
  | 1 | 2 => y.1 = 2 ∧ mT y.2.1 y.2.2.2.2 = (S, s.2.2) ∧ rB T n y.2.2.1 = rB T n s.1 ∧ y.2.2.2.1 = s.2.1 ∧ mNo T n (rB T n s.1) 42
  | 3 | 4 => y.1 = 2 ∧ mS y.2.1 y.2.2.2.2 = (S, s.2.2) ∧ rB T n y.2.2.1 = rB T n s.1 ∧ y.2.2.2.1 = s.2.1 ∧ mNo T n (rB T n s.1) 42 ∧ mNo T n (rB T n s.1) 43 ∧ mNo T n (rB T n s.1) 45
  | 5 => y.1 = 3 ∧ y.2.1 = S ∧ y.2.2.2.2 = s.2.2 ∧ rB T n y.2.2.1 = rB T n s.1 ∧ y.2.2.2.1 = s.2.1
  | 6 => y.1 = 3 ∧ (∃ k, y.2.1 = List.replicate k 10 ++ S ∧ s.2.2 = y.2.2.2.2 ++ List.replicate k 100110) ∧ rB T n y.2.2.1 = rB T n s.1 ∧ y.2.2.2.1 = s.2.1
  | 7 | 8 => y.1 = 3 ∧ mA (mN y.2.1 y.2.2.2.2).1 (mN y.2.1 y.2.2.2.2).2 = (S, s.2.2) ∧ rB T n y.2.2.1 = rB T n s.1 ∧ y.2.2.2.1 = s.2.1 ∧ rW T n (rB T n s.1) (rWd 18) ≠ true
  | _ => y.1 = 3 ∧ mO (mN y.2.1 y.2.2.2.2).1 (mN y.2.1 y.2.2.2.2).2 = (S, s.2.2) ∧ rB T n y.2.2.1 = rB T n s.1 ∧ y.2.2.2.1 = s.2.1 ∧ rW T n (rB T n s.1) (rWd 18) ≠ true ∧ rW T n (rB T n s.1) (rWd 17) ≠ true
noncomputable def mRs (T : Nat → Int32) (n : Nat) (tst : Bool) (m : Nat) (S : List Nat) (x : rMs) : Nat ⊕ rS → Prop
  | .inl e => mRe T n tst x (.inl e)
  | .inr s => ∃ y, mRe T n tst x (.inr y) ∧ mPo T n m S s y
noncomputable def mOK (T : Nat → Int32) (n : Nat) (tst : Bool) (f : Nat) : Prop := ∀ (m d : Nat) (s : rS) (r : Nat ⊕ rS), m ≤ 10 → rX T n f m d s = some r → ∀ (S : List Nat) (x : rMs), mPre T n tst m S s x → mDp S = d → mRs T n tst m S x r
theorem mRs_t {m : Nat} {S : List Nat} {x y : rMs} {r : Nat ⊕ rS} (h : mRe T n tst x (.inr y)) (k : mRs T n tst m S y r) : mRs T n tst m S x r := by
  match r, k with
  | .inl e, k => exact mRe_t h k
  | .inr s, ⟨z, k, p⟩ => exact ⟨z, mRe_t h k, p⟩
theorem rK_i {x : rR} {k : rS → rR} {r : Nat ⊕ rS} (h : rK x k = some r) : (∃ e, x = some (.inl e) ∧ r = .inl e) ∨ ∃ s, x = some (.inr s) ∧ k s = some r := by
  match x, h with
  | some (.inl e), h => exact Or.inl ⟨e, rfl, (Option.some.inj h).symm⟩
  | some (.inr s), h => exact Or.inr ⟨s, rfl, h⟩
theorem rC_i {p : Nat} {s : rS} {k : rS → rR} {r : Nat ⊕ rS} (h : rK (rC p s) k = some r) : (s.2.1 = 80 ∧ r = .inl (1 + 8 * p + 3)) ∨ (s.2.1 ≠ 80 ∧ k (s.1, s.2.1 + 1, s.2.2) = some r) := by
  unfold rC at h
  by_cases e : s.2.1 = 80
  · rw [if_pos e] at h
    exact Or.inl ⟨e, (Option.some.inj h).symm⟩
  · rw [if_neg e] at h
    exact Or.inr ⟨e, h⟩
theorem mDp_s {S : List Nat} {c : Nat} (h1 : c ≠ 50) (h2 : c ≠ 10) (h3 : c ≠ 13) : mDp (c :: S) = mDp S := by
  show (if c = 50 ∨ c = 10 ∨ c = 13 then _ else _) = _
  rw [if_neg (by omega)]
theorem hS3_c {c : Nat} {S : List Nat} (h : c ≠ 102 ∧ c ≠ 103 ∧ c ≠ 104) : hS3 (c :: S) := h
theorem hS5_c {c : Nat} {S : List Nat} (h : (c ≠ 102 ∧ c ≠ 103 ∧ c ≠ 104) ∧ c ≠ 50 ∧ ¬ (205 ≤ c ∧ c ≤ 209)) : hS5 (c :: S) := h
theorem hS7_c {c : Nat} {S : List Nat} (h : ((c ≠ 102 ∧ c ≠ 103 ∧ c ≠ 104) ∧ c ≠ 50 ∧ ¬ (205 ≤ c ∧ c ≤ 209)) ∧ c ≠ 10 ∧ c ≠ 11) : hS7 (c :: S) := h
theorem hS9_c {c : Nat} {S : List Nat} (h : (((c ≠ 102 ∧ c ≠ 103 ∧ c ≠ 104) ∧ c ≠ 50 ∧ ¬ (205 ≤ c ∧ c ≤ 209)) ∧ c ≠ 10 ∧ c ≠ 11) ∧ c ≠ 12) : hS9 (c :: S) := h
theorem rCm_r {b : Nat} {q : Nat × Nat} (h : rCm T n b = some q) : 100103 ≤ q.1 ∧ q.1 ≤ 100107 ∧ b < q.2 := by
  unfold rCm at h
  split at h
  · cases h; exact ⟨Nat.le_of_ble_eq_true rfl, Nat.le_of_ble_eq_true rfl, Nat.lt_succ_self _⟩
  · split at h
    · split at h <;> (cases h; exact ⟨Nat.le_of_ble_eq_true rfl, Nat.le_of_ble_eq_true rfl, by show b < _ + _; omega⟩)
    · split at h
      · split at h <;> (cases h; exact ⟨Nat.le_of_ble_eq_true rfl, Nat.le_of_ble_eq_true rfl, by show b < _ + _; omega⟩)
      · cases h
theorem mOK_v {f d : Nat} {s : rS} {r : Nat ⊕ rS} {S : List Nat} {x : rMs} (ih : mOK T n tst f) (h : rX T n (f + 1) 0 d s = some r) (hp : mPre T n tst 0 S s x) (hd : mDp S = d) : mRs T n tst 0 S x r := by
  have hp : x = (1, S, s) := hp
  subst hp
  unfold rX at h
  try dsimp only at h
  by_cases c1 : rB T n s.1 < n ∧ T (rB T n s.1) = 40
  · rw [if_pos c1] at h
    by_cases c2 : d = 10
    · rw [if_pos c2] at h
      have e := Option.some.inj h
      subst e
      refine mRe_f ?_
      show mS1 T n S s = _
      unfold mS1
      rw [if_pos c1, if_pos (hd.trans c2)]
    · rw [if_neg c2] at h
      rcases rC_i h with ⟨c3, rfl⟩ | ⟨c3, h⟩
      · refine mRe_f ?_
        show mS1 T n S s = _
        unfold mS1
        rw [if_pos c1, if_neg (fun z => c2 (hd.symm.trans z)), if_pos c3]
      · have st : mSt T n tst (1, S, s) = .inr (1, 50 :: S, (rB T n s.1 + 1, s.2.1 + 1, s.2.2)) := by
          show mS1 T n S s = _
          unfold mS1
          rw [if_pos c1, if_neg (fun z => c2 (hd.symm.trans z)), if_neg c3]
        have hd2 : mDp (50 :: S) = d + 1 := by
          show (if 50 = 50 ∨ 50 = 10 ∨ 50 = 13 then mDp S + 1 else _) = _
          rw [if_pos (Or.inl rfl), hd]
        rcases rK_i h with ⟨e, h1, rfl⟩ | ⟨s1, h1, h2⟩
        · exact mRe_s st (ih 3 (d + 1) _ _ (by omega) h1 (50 :: S) _ ⟨rfl, hS3_c (by decide)⟩ hd2)
        · obtain ⟨⟨ya, yS, yp, yc, yo⟩, k1, k2a, k2b, k2c, k2d, k2e, k2f, k2g⟩ := ih 3 (d + 1) _ _ (by omega) h1 (50 :: S) _ ⟨rfl, hS3_c (by decide)⟩ hd2
          dsimp only at k2a k2b k2c k2d
          subst k2a
          refine mRs_t (mRe_s st k1) ?_
          unfold rT at h2
          by_cases c4 : rB T n s1.1 < n ∧ T (rB T n s1.1) = 41
          · rw [if_pos c4] at h2
            have e := Option.some.inj h2
            subst e
            refine ⟨_, mRe_s ?_ mRe_0, rfl⟩
            show mS2 T n tst yS (yp, yc, yo) = _
            unfold mS2
            dsimp only
            rw [k2c, if_neg k2e, if_neg k2f, if_neg k2g, k2b, if_pos (show (50 :: S, s1.2.2).1.headD 0 = 50 from rfl), if_pos c4, k2d]
            rfl
          · rw [if_neg c4] at h2
            have e := Option.some.inj h2
            subst e
            refine mRe_f ?_
            show mS2 T n tst yS (yp, yc, yo) = _
            unfold mS2
            dsimp only
            rw [k2c, if_neg k2e, if_neg k2f, if_neg k2g, k2b, if_pos (show (50 :: S, s1.2.2).1.headD 0 = 50 from rfl), if_neg c4]
  · rw [if_neg c1] at h
    cases c2 : rK12 T n (rB T n s.1) with
    | some k =>
      rw [c2] at h
      dsimp only at h
      rcases rC_i h with ⟨c3, rfl⟩ | ⟨c3, h⟩
      · refine mRe_f ?_
        show mS1 T n S s = _
        unfold mS1
        rw [if_neg c1, c2]
        dsimp only
        rw [if_pos c3]
      · have e := Option.some.inj h
        subst e
        refine ⟨_, mRe_s ?_ mRe_0, rfl⟩
        show mS1 T n S s = _
        unfold mS1
        rw [if_neg c1, c2]
        dsimp only
        rw [if_neg c3]
        rfl
    | none =>
      rw [c2] at h
      dsimp only at h
      cases c3 : rM T n 99999 (rB T n s.1) with
      | inl e =>
        rw [c3] at h
        dsimp only at h
        have e := Option.some.inj h
        subst e
        refine mRe_f ?_
        show mS1 T n S s = _
        unfold mS1
        rw [if_neg c1, c2]
        dsimp only
        rw [c3]
      | inr q =>
        rw [c3] at h
        dsimp only at h
        rcases rC_i h with ⟨c4, rfl⟩ | ⟨c4, h⟩
        · refine mRe_f ?_
          show mS1 T n S s = _
          unfold mS1
          rw [if_neg c1, c2]
          dsimp only
          rw [c3]
          dsimp only
          rw [if_pos c4]
        · have e := Option.some.inj h
          subst e
          refine ⟨_, mRe_s ?_ mRe_0, rfl⟩
          show mS1 T n S s = _
          unfold mS1
          rw [if_neg c1, c2]
          dsimp only
          rw [c3]
          dsimp only
          rw [if_neg c4]
          rfl
theorem mOK_1 {f d : Nat} {s : rS} {r : Nat ⊕ rS} {S : List Nat} {x : rMs} (ih : mOK T n tst f) (h : rX T n (f + 1) 1 d s = some r) (hp : mPre T n tst 1 S s x) (hd : mDp S = d) : mRs T n tst 1 S x r := by
  obtain ⟨rfl, hS⟩ := hp
  unfold rX at h
  try dsimp only at h
  rcases rK_i h with ⟨e, h1, rfl⟩ | ⟨s1, h1, h2⟩
  · exact ih 0 d s _ (by omega) h1 S _ rfl hd
  · obtain ⟨y, k1, rfl⟩ := ih 0 d s _ (by omega) h1 S _ rfl hd
    have k := mRs_t k1 (ih 2 d s1 r (by omega) h2 S (2, S, s1) ⟨rfl, mT_n hS, rfl, rfl, hS⟩ hd)
    match r, k with
    | .inl e, k => exact k
    | .inr s, k => exact k
theorem mOK_2 {f d : Nat} {s : rS} {r : Nat ⊕ rS} {S : List Nat} {x : rMs} (ih : mOK T n tst f) (h : rX T n (f + 1) 2 d s = some r) (hp : mPre T n tst 2 S s x) (hd : mDp S = d) : mRs T n tst 2 S x r := by
  obtain ⟨a, X, p, c, o⟩ := x
  obtain ⟨h1, h2, h3, h4, hS⟩ := hp
  dsimp only at h1 h2 h3 h4
  subst h1
  unfold rX at h
  try dsimp only at h
  by_cases c1 : rB T n s.1 < n ∧ T (rB T n s.1) = 42
  · rw [if_pos c1] at h
    have st : mSt T n tst (2, X, p, c, o) = .inr (1, 102 :: S, rA (rB T n s.1 + 1) s) := by
      show mS2 T n tst X (p, c, o) = _
      unfold mS2
      dsimp only
      rw [h3, if_pos c1, h2, h4]
      rfl
    have hd2 : mDp (102 :: S) = d := (mDp_s (by decide) (by decide) (by decide)).trans hd
    rcases rK_i h with ⟨e, g1, rfl⟩ | ⟨s1, g1, g2⟩
    · exact mRe_s st (ih 0 d _ _ (by omega) g1 (102 :: S) _ rfl hd2)
    · obtain ⟨y, k1, rfl⟩ := ih 0 d _ _ (by omega) g1 (102 :: S) _ rfl hd2
      refine mRs_t (mRe_s st k1) (ih 2 d _ r (by omega) g2 S (2, 102 :: S, s1) ⟨rfl, ?_, rfl, rfl, hS⟩ hd)
      show (if 102 = 102 then mT S (s1.2.2 ++ [100102]) else _) = _
      rw [if_pos rfl, mT_n hS]
      rfl
  · rw [if_neg c1] at h
    have e := Option.some.inj h
    subst e
    refine ⟨(2, X, p, c, o), mRe_0, rfl, h2, h3.trans rB_2.symm, h4, ?_⟩
    show mNo T n (rB T n (rB T n s.1)) 42
    rw [rB_2]
    exact c1
theorem mOK_3 {f d : Nat} {s : rS} {r : Nat ⊕ rS} {S : List Nat} {x : rMs} (ih : mOK T n tst f) (h : rX T n (f + 1) 3 d s = some r) (hp : mPre T n tst 3 S s x) (hd : mDp S = d) : mRs T n tst 3 S x r := by
  obtain ⟨rfl, hS⟩ := hp
  unfold rX at h
  try dsimp only at h
  rcases rK_i h with ⟨e, h1, rfl⟩ | ⟨s1, h1, h2⟩
  · exact ih 1 d s _ (by omega) h1 S _ ⟨rfl, hS.1⟩ hd
  · obtain ⟨y, k1, k2, k3, k4, k5, k6⟩ := ih 1 d s _ (by omega) h1 S _ ⟨rfl, hS.1⟩ hd
    have k := mRs_t k1 (ih 4 d s1 r (by omega) h2 S y ⟨k2, by unfold mS; rw [k3]; exact mPm_n hS.2.1 hS.2.2, k4, k5, hS, k6⟩ hd)
    match r, k with
    | .inl e, k => exact k
    | .inr s, k => exact k
theorem mOK_4 {f d : Nat} {s : rS} {r : Nat ⊕ rS} {S : List Nat} {x : rMs} (ih : mOK T n tst f) (h : rX T n (f + 1) 4 d s = some r) (hp : mPre T n tst 4 S s x) (hd : mDp S = d) : mRs T n tst 4 S x r := by
  obtain ⟨a, X, p, c, o⟩ := x
  obtain ⟨h1, h2, h3, h4, hS, h5⟩ := hp
  dsimp only at h1 h2 h3 h4
  subst h1
  unfold rX at h
  try dsimp only at h
  by_cases c1 : rB T n s.1 < n ∧ T (rB T n s.1) = 43
  · rw [if_pos c1] at h
    have st : mSt T n tst (2, X, p, c, o) = .inr (1, 103 :: S, rA (rB T n s.1 + 1) s) := by
      show mS2 T n tst X (p, c, o) = _
      unfold mS2
      dsimp only
      rw [h3, if_neg h5, if_pos c1, h2, h4]
      rfl
    have hd2 : mDp (103 :: S) = d := (mDp_s (by decide) (by decide) (by decide)).trans hd
    have hS1 : hS1 (103 :: S) := (by decide : (103 : Nat) ≠ 102)
    rcases rK_i h with ⟨e, g1, rfl⟩ | ⟨s1, g1, g2⟩
    · exact mRe_s st (ih 1 d _ _ (by omega) g1 (103 :: S) _ ⟨rfl, hS1⟩ hd2)
    · obtain ⟨y, k1, k2, k3, k4, k5, k6⟩ := ih 1 d _ _ (by omega) g1 (103 :: S) _ ⟨rfl, hS1⟩ hd2
      refine mRs_t (mRe_s st k1) (ih 4 d _ r (by omega) g2 S y ⟨k2, ?_, k4, k5, hS, k6⟩ hd)
      unfold mS
      rw [k3]
      show (if 103 = 103 then mPm S (s1.2.2 ++ [100100]) else _) = _
      rw [if_pos rfl, mPm_n hS.2.1 hS.2.2]
      rfl
  · rw [if_neg c1] at h
    by_cases c2 : rB T n s.1 < n ∧ T (rB T n s.1) = 45
    · rw [if_pos c2] at h
      have st : mSt T n tst (2, X, p, c, o) = .inr (1, 104 :: S, rA (rB T n s.1 + 1) s) := by
        show mS2 T n tst X (p, c, o) = _
        unfold mS2
        dsimp only
        rw [h3, if_neg h5, if_neg c1, if_pos c2, h2, h4]
        rfl
      have hd2 : mDp (104 :: S) = d := (mDp_s (by decide) (by decide) (by decide)).trans hd
      have hS1 : hS1 (104 :: S) := (by decide : (104 : Nat) ≠ 102)
      rcases rK_i h with ⟨e, g1, rfl⟩ | ⟨s1, g1, g2⟩
      · exact mRe_s st (ih 1 d _ _ (by omega) g1 (104 :: S) _ ⟨rfl, hS1⟩ hd2)
      · obtain ⟨y, k1, k2, k3, k4, k5, k6⟩ := ih 1 d _ _ (by omega) g1 (104 :: S) _ ⟨rfl, hS1⟩ hd2
        refine mRs_t (mRe_s st k1) (ih 4 d _ r (by omega) g2 S y ⟨k2, ?_, k4, k5, hS, k6⟩ hd)
        unfold mS
        rw [k3]
        show (if 104 = 103 then _ else if 104 = 104 then mPm S (s1.2.2 ++ [100101]) else _) = _
        rw [if_neg (by decide), if_pos rfl, mPm_n hS.2.1 hS.2.2]
        rfl
    · rw [if_neg c2] at h
      have e := Option.some.inj h
      subst e
      refine ⟨(2, X, p, c, o), mRe_0, rfl, h2, h3.trans rB_2.symm, h4, ?_, ?_, ?_⟩
      · show mNo T n (rB T n (rB T n s.1)) 42
        rw [rB_2]
        exact h5
      · show mNo T n (rB T n (rB T n s.1)) 43
        rw [rB_2]
        exact c1
      · show mNo T n (rB T n (rB T n s.1)) 45
        rw [rB_2]
        exact c2
theorem mOK_5 {f d : Nat} {s : rS} {r : Nat ⊕ rS} {S : List Nat} {x : rMs} (ih : mOK T n tst f) (h : rX T n (f + 1) 5 d s = some r) (hp : mPre T n tst 5 S s x) (hd : mDp S = d) : mRs T n tst 5 S x r := by
  obtain ⟨rfl, hS, ht⟩ := hp
  unfold rX at h
  try dsimp only at h
  rcases rK_i h with ⟨e, h1, rfl⟩ | ⟨s1, h1, h⟩
  · exact ih 3 d s _ (by omega) h1 S _ ⟨rfl, hS.1⟩ hd
  · obtain ⟨⟨ya, yS, yp, yc, yo⟩, k1, k2a, k2b, k2c, k2d, k2e, k2f, k2g⟩ := ih 3 d s _ (by omega) h1 S _ ⟨rfl, hS.1⟩ hd
    dsimp only at k2a k2b k2c k2d
    subst k2a
    refine mRs_t k1 ?_
    cases c1 : rCm T n (rB T n s1.1) with
    | none =>
      rw [c1] at h
      dsimp only at h
      have e := Option.some.inj h
      subst e
      refine mRe_f ?_
      show mS2 T n tst yS (yp, yc, yo) = _
      unfold mS2
      dsimp only
      rw [k2c, if_neg k2e, if_neg k2f, if_neg k2g, k2b, if_neg hS.2.1, if_pos ht, if_neg hS.2.2, c1]
    | some q =>
      rw [c1] at h
      dsimp only at h
      obtain ⟨q1, q2, -⟩ := rCm_r c1
      rcases rC_i h with ⟨c3, rfl⟩ | ⟨c3, h⟩
      · refine mRe_f ?_
        show mS2 T n tst yS (yp, yc, yo) = _
        unfold mS2
        dsimp only
        rw [k2c, if_neg k2e, if_neg k2f, if_neg k2g, k2b, if_neg hS.2.1, if_pos ht, if_neg hS.2.2, c1]
        dsimp only
        rw [if_pos (k2d.trans c3)]
      · have st : mSt T n tst (2, yS, yp, yc, yo) = .inr (1, (q.1 - 99898) :: S, (q.2, s1.2.1 + 1, s1.2.2)) := by
          show mS2 T n tst yS (yp, yc, yo) = _
          unfold mS2
          dsimp only
          rw [k2c, if_neg k2e, if_neg k2f, if_neg k2g, k2b, if_neg hS.2.1, if_pos ht, if_neg hS.2.2, c1]
          dsimp only
          rw [k2d, if_neg c3]
        obtain ⟨z, hz⟩ : ∃ z, q.1 - 99898 = z := ⟨_, rfl⟩
        have z1 : 205 ≤ z := by omega
        have z2 : z ≤ 209 := by omega
        have z3 : z + 99898 = q.1 := by omega
        rw [hz] at st
        clear hz
        have hd2 : mDp (z :: S) = d := (mDp_s (by omega) (by omega) (by omega)).trans hd
        have hS3 : hS3 (z :: S) := hS3_c ⟨by omega, by omega, by omega⟩
        rcases rK_i h with ⟨e, g1, rfl⟩ | ⟨s3, g1, g2⟩
        · exact mRe_s st (ih 3 d _ _ (by omega) g1 _ _ ⟨rfl, hS3⟩ hd2)
        · obtain ⟨⟨za, zS, zp, zc, zo⟩, l1, l2a, l2b, l2c, l2d, l2e, l2f, l2g⟩ := ih 3 d _ _ (by omega) g1 _ _ ⟨rfl, hS3⟩ hd2
          dsimp only at l2a l2b l2c l2d
          subst l2a
          refine mRs_t (mRe_s st l1) ?_
          have e := Option.some.inj g2
          subst e
          refine ⟨(3, S, (rB T n s3.1, s3.2.1, s3.2.2 ++ [q.1])), mRe_s ?_ mRe_0, rfl, rfl, rfl, rB_2, rfl⟩
          show mS2 T n tst zS (zp, zc, zo) = _
          unfold mS2
          dsimp only
          rw [l2c, if_neg l2e, if_neg l2f, if_neg l2g, l2b, if_neg (show ¬ (z :: S, s3.2.2).1.headD 0 = 50 from fun w => by have w : z = 50 := w; omega), if_pos ht, if_pos (show 205 ≤ (z :: S, s3.2.2).1.headD 0 ∧ (z :: S, s3.2.2).1.headD 0 ≤ 209 from ⟨z1, z2⟩), l2d, ← z3]
          rfl
theorem rX_6 {f d : Nat} {s : rS} : rX T n (f + 1) 6 d s = (if rW T n (rB T n s.1) (rWd 19) = true then (if d = 10 then rF (rB T n s.1) 2 else rK (rX T n f 6 (d + 1) (rA (rB T n s.1 + 3) s)) (fun s1 => rO (rU 100110 s1)))
      else if rB T n s.1 < n ∧ T (rB T n s.1) = 91 then (if d = 10 then rF (rB T n s.1) 2 else rK (rX T n f 9 (d + 1) (rA (rB T n s.1 + 1) s)) (rT T n 93))
      else rX T n f 5 d (rA (rB T n s.1) s)) := rfl
theorem mOK_6 {f d : Nat} {s : rS} {r : Nat ⊕ rS} {S : List Nat} {x : rMs} (ih : mOK T n tst f) (h : rX T n (f + 1) 6 d s = some r) (hp : mPre T n tst 6 S s x) (hd : mDp S = d) : mRs T n tst 6 S x r := by
  obtain ⟨rfl, hS, ht⟩ := hp
  rw [rX_6] at h
  by_cases c1 : rW T n (rB T n s.1) (rWd 19) = true
  · rw [if_pos c1] at h
    by_cases c2 : d = 10
    · rw [if_pos c2] at h
      have e := Option.some.inj h
      subst e
      refine mRe_f ?_
      show mS0 T n S s = _
      unfold mS0
      rw [if_pos c1, if_pos (hd.trans c2)]
    · rw [if_neg c2] at h
      have st : mSt T n tst (0, S, s) = .inr (0, 10 :: S, rA (rB T n s.1 + 3) s) := by
        show mS0 T n S s = _
        unfold mS0
        rw [if_pos c1, if_neg (fun z => c2 (hd.symm.trans z))]
      have hd2 : mDp (10 :: S) = d + 1 := by
        show (if 10 = 50 ∨ 10 = 10 ∨ 10 = 13 then mDp S + 1 else _) = _
        rw [if_pos (Or.inr (Or.inl rfl)), hd]
      rcases rK_i h with ⟨e, g1, rfl⟩ | ⟨s1, g1, g2⟩
      · exact mRe_s st (ih 6 (d + 1) _ _ (by omega) g1 _ _ ⟨rfl, hS5_c (by decide), ht⟩ hd2)
      · obtain ⟨y, k1, k2, ⟨k, k3, k4⟩, k5, k6⟩ := ih 6 (d + 1) _ _ (by omega) g1 _ _ ⟨rfl, hS5_c (by decide), ht⟩ hd2
        have e := Option.some.inj g2
        subst e
        refine ⟨y, mRe_s st k1, k2, ⟨k + 1, ?_, ?_⟩, k5, k6⟩
        · rw [k3, List.replicate_succ', List.append_assoc]
          rfl
        · show s1.2.2 ++ [100110] = _
          rw [k4, List.replicate_succ', List.append_assoc]
  · rw [if_neg c1] at h
    by_cases c3 : rB T n s.1 < n ∧ T (rB T n s.1) = 91
    · rw [if_pos c3] at h
      by_cases c2 : d = 10
      · rw [if_pos c2] at h
        have e := Option.some.inj h
        subst e
        refine mRe_f ?_
        show mS0 T n S s = _
        unfold mS0
        rw [if_neg c1, if_pos c3, if_pos (hd.trans c2)]
      · rw [if_neg c2] at h
        have st : mSt T n tst (0, S, s) = .inr (0, 13 :: S, rA (rB T n s.1 + 1) s) := by
          show mS0 T n S s = _
          unfold mS0
          rw [if_neg c1, if_pos c3, if_neg (fun z => c2 (hd.symm.trans z))]
        have hd2 : mDp (13 :: S) = d + 1 := by
          show (if 13 = 50 ∨ 13 = 10 ∨ 13 = 13 then mDp S + 1 else _) = _
          rw [if_pos (Or.inr (Or.inr rfl)), hd]
        rcases rK_i h with ⟨e, g1, rfl⟩ | ⟨s1, g1, h2⟩
        · exact mRe_s st (ih 9 (d + 1) _ _ (by omega) g1 _ _ ⟨rfl, hS9_c (by decide), ht⟩ hd2)
        · obtain ⟨⟨ya, yS, yp, yc, yo⟩, k1, k2, k3, k4, k5, k6, k7⟩ := ih 9 (d + 1) _ _ (by omega) g1 _ _ ⟨rfl, hS9_c (by decide), ht⟩ hd2
          dsimp only at k2 k3 k4 k5
          subst k2
          refine mRs_t (mRe_s st k1) ?_
          unfold rT at h2
          by_cases c4 : rB T n s1.1 < n ∧ T (rB T n s1.1) = 93
          · rw [if_pos c4] at h2
            have e := Option.some.inj h2
            subst e
            refine ⟨(3, S, rA (rB T n s1.1 + 1) s1), mRe_s ?_ mRe_0, rfl, ⟨0, rfl, (List.append_nil _).symm⟩, rfl, rfl⟩
            show mS3 T n yS (yp, yc, yo) = _
            unfold mS3
            dsimp only
            rw [k4, if_neg k6, if_neg k7, k3, if_pos (show (13 :: S, s1.2.2).1.headD 0 = 13 from rfl), if_pos c4, k5]
            rfl
          · rw [if_neg c4] at h2
            have e := Option.some.inj h2
            subst e
            refine mRe_f ?_
            show mS3 T n yS (yp, yc, yo) = _
            unfold mS3
            dsimp only
            rw [k4, if_neg k6, if_neg k7, k3, if_pos (show (13 :: S, s1.2.2).1.headD 0 = 13 from rfl), if_neg c4]
    · rw [if_neg c3] at h
      have st : mSt T n tst (0, S, s) = .inr (1, S, rA (rB T n s.1) s) := by
        show mS0 T n S s = _
        unfold mS0
        rw [if_neg c1, if_neg c3]
      have k := mRs_t (mRe_s st mRe_0) (ih 5 d _ r (by omega) h S _ ⟨rfl, hS, ht⟩ hd)
      match r, k with
      | .inl e, k => exact k
      | .inr s, ⟨y, k1, k2, k3, k4, k5, k6⟩ => exact ⟨y, k1, k2, ⟨0, k3, by rw [k4]; exact (List.append_nil _).symm⟩, k5, k6⟩
theorem mOK_7 {f d : Nat} {s : rS} {r : Nat ⊕ rS} {S : List Nat} {x : rMs} (ih : mOK T n tst f) (h : rX T n (f + 1) 7 d s = some r) (hp : mPre T n tst 7 S s x) (hd : mDp S = d) : mRs T n tst 7 S x r := by
  obtain ⟨rfl, hS, ht⟩ := hp
  unfold rX at h
  try dsimp only at h
  rcases rK_i h with ⟨e, h1, rfl⟩ | ⟨s1, h1, h2⟩
  · exact ih 6 d s _ (by omega) h1 S _ ⟨rfl, hS.1, ht⟩ hd
  · obtain ⟨y, k1, k2, ⟨j, k3, k4⟩, k5, k6⟩ := ih 6 d s _ (by omega) h1 S _ ⟨rfl, hS.1, ht⟩ hd
    have k := mRs_t k1 (ih 8 d s1 r (by omega) h2 S y ⟨k2, by rw [k3, mN_r hS.2.1, ← k4]; exact mA_n hS.2.2, k5, k6, hS, ht⟩ hd)
    match r, k with
    | .inl e, k => exact k
    | .inr s, k => exact k
theorem mOK_8 {f d : Nat} {s : rS} {r : Nat ⊕ rS} {S : List Nat} {x : rMs} (ih : mOK T n tst f) (h : rX T n (f + 1) 8 d s = some r) (hp : mPre T n tst 8 S s x) (hd : mDp S = d) : mRs T n tst 8 S x r := by
  obtain ⟨a, X, p, c, o⟩ := x
  obtain ⟨h1, h2, h3, h4, hS, ht⟩ := hp
  dsimp only at h1 h2 h3 h4
  subst h1
  unfold rX at h
  try dsimp only at h
  by_cases c1 : rW T n (rB T n s.1) (rWd 18) = true
  · rw [if_pos c1] at h
    have st : mSt T n tst (3, X, p, c, o) = .inr (0, 11 :: S, rA (rB T n s.1 + 3) s) := by
      show mS3 T n X (p, c, o) = _
      unfold mS3
      dsimp only
      rw [h3, if_pos c1, h2, h4]
      rfl
    have hd2 : mDp (11 :: S) = d := (mDp_s (by decide) (by decide) (by decide)).trans hd
    rcases rK_i h with ⟨e, g1, rfl⟩ | ⟨s1, g1, g2⟩
    · exact mRe_s st (ih 6 d _ _ (by omega) g1 _ _ ⟨rfl, hS5_c (by decide), ht⟩ hd2)
    · obtain ⟨y, k1, k2, ⟨j, k3, k4⟩, k5, k6⟩ := ih 6 d _ _ (by omega) g1 _ _ ⟨rfl, hS5_c (by decide), ht⟩ hd2
      refine mRs_t (mRe_s st k1) (ih 8 d _ r (by omega) g2 S y ⟨k2, ?_, k5, k6, hS, ht⟩ hd)
      rw [k3, mN_r (S := 11 :: S) (show (11 : Nat) ≠ 10 by decide), ← k4]
      show (if 11 = 11 then mA S (s1.2.2 ++ [100109]) else _) = _
      rw [if_pos rfl, mA_n hS.2.2]
      rfl
  · rw [if_neg c1] at h
    have e := Option.some.inj h
    subst e
    refine ⟨(3, X, p, c, o), mRe_0, rfl, h2, h3.trans rB_2.symm, h4, ?_⟩
    show ¬ rW T n (rB T n (rB T n s.1)) (rWd 18) = true
    rw [rB_2]
    exact c1
theorem mOK_9 {f d : Nat} {s : rS} {r : Nat ⊕ rS} {S : List Nat} {x : rMs} (ih : mOK T n tst f) (h : rX T n (f + 1) 9 d s = some r) (hp : mPre T n tst 9 S s x) (hd : mDp S = d) : mRs T n tst 9 S x r := by
  obtain ⟨rfl, hS, ht⟩ := hp
  unfold rX at h
  try dsimp only at h
  rcases rK_i h with ⟨e, h1, rfl⟩ | ⟨s1, h1, h2⟩
  · exact ih 7 d s _ (by omega) h1 S _ ⟨rfl, hS.1, ht⟩ hd
  · obtain ⟨y, k1, k2, k3, k4, k5, k6⟩ := ih 7 d s _ (by omega) h1 S _ ⟨rfl, hS.1, ht⟩ hd
    have k := mRs_t k1 (ih 10 d s1 r (by omega) h2 S y ⟨k2, by unfold mO; rw [k3]; exact mO1_n hS.2, k4, k5, hS, ht, k6⟩ hd)
    match r, k with
    | .inl e, k => exact k
    | .inr s, k => exact k
theorem mOK_10 {f d : Nat} {s : rS} {r : Nat ⊕ rS} {S : List Nat} {x : rMs} (ih : mOK T n tst f) (h : rX T n (f + 1) 10 d s = some r) (hp : mPre T n tst 10 S s x) (hd : mDp S = d) : mRs T n tst 10 S x r := by
  obtain ⟨a, X, p, c, o⟩ := x
  obtain ⟨h1, h2, h3, h4, hS, ht, h5⟩ := hp
  dsimp only at h1 h2 h3 h4
  subst h1
  unfold rX at h
  try dsimp only at h
  by_cases c1 : rW T n (rB T n s.1) (rWd 17) = true
  · rw [if_pos c1] at h
    have st : mSt T n tst (3, X, p, c, o) = .inr (0, 12 :: S, rA (rB T n s.1 + 2) s) := by
      show mS3 T n X (p, c, o) = _
      unfold mS3
      dsimp only
      rw [h3, if_neg h5, if_pos c1, h2, h4]
      rfl
    have hd2 : mDp (12 :: S) = d := (mDp_s (by decide) (by decide) (by decide)).trans hd
    rcases rK_i h with ⟨e, g1, rfl⟩ | ⟨s1, g1, g2⟩
    · exact mRe_s st (ih 7 d _ _ (by omega) g1 _ _ ⟨rfl, hS7_c (by decide), ht⟩ hd2)
    · obtain ⟨y, k1, k2, k3, k4, k5, k6⟩ := ih 7 d _ _ (by omega) g1 _ _ ⟨rfl, hS7_c (by decide), ht⟩ hd2
      refine mRs_t (mRe_s st k1) (ih 10 d _ r (by omega) g2 S y ⟨k2, ?_, k4, k5, hS, ht, k6⟩ hd)
      unfold mO
      rw [k3]
      show (if 12 = 12 then mO1 S (s1.2.2 ++ [100108]) else _) = _
      rw [if_pos rfl, mO1_n hS.2]
      rfl
  · rw [if_neg c1] at h
    have e := Option.some.inj h
    subst e
    refine ⟨(3, X, p, c, o), mRe_0, rfl, h2, h3.trans rB_2.symm, h4, ?_, ?_⟩
    · show ¬ rW T n (rB T n (rB T n s.1)) (rWd 18) = true
      rw [rB_2]
      exact h5
    · show ¬ rW T n (rB T n (rB T n s.1)) (rWd 17) = true
      rw [rB_2]
      exact c1
theorem mOK_all : ∀ f, mOK T n tst f
  | 0 => fun m d s r _ h => by
    have h : (none : rR) = some r := h
    cases h
  | f + 1 => by
    have ih := mOK_all f
    intro m d s r hm h S x hp hd
    match m, hm, h, hp with
    | 0, _, h, hp => exact mOK_v ih h hp hd
    | 1, _, h, hp => exact mOK_1 ih h hp hd
    | 2, _, h, hp => exact mOK_2 ih h hp hd
    | 3, _, h, hp => exact mOK_3 ih h hp hd
    | 4, _, h, hp => exact mOK_4 ih h hp hd
    | 5, _, h, hp => exact mOK_5 ih h hp hd
    | 6, _, h, hp => exact mOK_6 ih h hp hd
    | 7, _, h, hp => exact mOK_7 ih h hp hd
    | 8, _, h, hp => exact mOK_8 ih h hp hd
    | 9, _, h, hp => exact mOK_9 ih h hp hd
    | 10, _, h, hp => exact mOK_10 ih h hp hd
    | m + 11, hm, _, _ => exact absurd hm (by omega)
/-- a sum, a test: to the reader's end -/
noncomputable def mEnd : Nat ⊕ rS → rMo
  | .inl e => .inl e
  | .inr s => .inr (4, [], s)
theorem mSum {f : Nat} {s : rS} {r : Nat ⊕ rS} (h : rX T n f 3 0 s = some r) : mRe T n false (1, [], s) (mEnd (r.map id (fun z => rA (rB T n z.1) z))) := by
  have k := mOK_all (T := T) (n := n) (tst := false) f 3 0 s r (by omega) h [] (1, [], s) ⟨rfl, by decide, by decide, by decide⟩ rfl
  match r, k with
  | .inl e, k => exact k
  | .inr s1, ⟨⟨ya, yS, yp, yc, yo⟩, k1, k2a, k2b, k2c, k2d, k2e, k2f, k2g⟩ =>
    dsimp only at k2a k2b k2c k2d
    subst k2a
    refine mRe_t k1 (mRe_s ?_ mRe_0)
    show mS2 T n false yS (yp, yc, yo) = _
    unfold mS2
    dsimp only
    rw [k2c, if_neg k2e, if_neg k2f, if_neg k2g, k2b, if_neg (show ¬ (([] : List Nat), s1.2.2).1.headD 0 = 50 from fun z => by cases z), if_neg (show ¬ false = true by decide), k2d]
    rfl
theorem mTst {f : Nat} {s : rS} {r : Nat ⊕ rS} (h : rX T n f 9 0 s = some r) : mRe T n true (0, [], s) (mEnd (r.map id (fun z => rA (rB T n z.1) z))) := by
  have k := mOK_all (T := T) (n := n) (tst := true) f 9 0 s r (by omega) h [] (0, [], s) ⟨rfl, ⟨⟨⟨⟨by decide, by decide, by decide⟩, by decide, by decide⟩, by decide, by decide⟩, by decide⟩, rfl⟩ rfl
  match r, k with
  | .inl e, k => exact k
  | .inr s1, ⟨⟨ya, yS, yp, yc, yo⟩, k1, k2, k3, k4, k5, k6, k7⟩ =>
    dsimp only at k2 k3 k4 k5
    subst k2
    refine mRe_t k1 (mRe_s ?_ mRe_0)
    show mS3 T n yS (yp, yc, yo) = _
    unfold mS3
    dsimp only
    rw [k4, if_neg k6, if_neg k7, k3, if_neg (show ¬ (([] : List Nat), s1.2.2).1.headD 0 = 13 from fun z => by cases z), k5]
    rfl
end MR
/-! the reader that goes down: what its steps come to -/
/-- sooner or later: this is what is read -/
noncomputable def pE (T : Nat → Int32) (n m d : Nat) (s : rS) (r : Nat ⊕ rS) : Prop := ∃ N, ∀ M, N ≤ M → rX T n M m d s = some r
section PE
variable {T : Nat → Int32} {n d : Nat} {s s1 : rS} {r : Nat ⊕ rS} {e : Nat}
theorem pE_of {m : Nat} (h : ∀ M, rX T n (M + 1) m d s = some r) : pE T n m d s r := ⟨1, fun M hM => by
  obtain ⟨M2, rfl⟩ : ∃ M2, M = M2 + 1 := ⟨M - 1, by omega⟩
  exact h M2⟩
theorem pE_o1 {m m1 d1 : Nat} {s1 : rS} {r1 : Nat ⊕ rS} (k : pE T n m1 d1 s1 r1) (h : ∀ M, rX T n M m1 d1 s1 = some r1 → rX T n (M + 1) m d s = some r) : pE T n m d s r := by
  obtain ⟨N, k⟩ := k
  refine ⟨N + 1, fun M hM => ?_⟩
  obtain ⟨M2, rfl⟩ : ∃ M2, M = M2 + 1 := ⟨M - 1, by omega⟩
  exact h M2 (k M2 (by omega))
theorem pE_o2 {m m1 d1 m2 d2 : Nat} {s1 s2 : rS} {r1 r2 : Nat ⊕ rS} (k : pE T n m1 d1 s1 r1) (k2 : pE T n m2 d2 s2 r2) (h : ∀ M, rX T n M m1 d1 s1 = some r1 → rX T n M m2 d2 s2 = some r2 → rX T n (M + 1) m d s = some r) : pE T n m d s r := by
  obtain ⟨N, k⟩ := k
  obtain ⟨N2, k2⟩ := k2
  refine ⟨N + N2 + 1, fun M hM => ?_⟩
  obtain ⟨M2, rfl⟩ : ∃ M2, M = M2 + 1 := ⟨M - 1, by omega⟩
  exact h M2 (k M2 (by omega)) (k2 M2 (by omega))
theorem rK_r {x : rR} {k : rS → rR} (h : x = some (.inr s1)) : rK x k = k s1 := by rw [h]; rfl
theorem rK_l {x : rR} {k : rS → rR} (h : x = some (.inl e)) : rK x k = some (.inl e) := by rw [h]; rfl
-- a pair of modes: first this, then the rest of it
theorem pE_q {a b c : Nat} (hm : (a, b, c) = (1, 0, 2) ∨ (a, b, c) = (3, 1, 4) ∨ (a, b, c) = (7, 6, 8) ∨ (a, b, c) = (9, 7, 10)) (k : pE T n b d s (.inr s1)) (k2 : pE T n c d s1 r) : pE T n a d s r := by
  refine pE_o2 k k2 (fun M h1 h2 => ?_)
  rcases hm with e | e | e | e <;> cases e <;> exact (rK_r h1).trans h2
theorem pE_qf {a b c : Nat} (hm : (a, b, c) = (1, 0, 2) ∨ (a, b, c) = (3, 1, 4) ∨ (a, b, c) = (7, 6, 8) ∨ (a, b, c) = (9, 7, 10)) (k : pE T n b d s (.inl e)) : pE T n a d s (.inl e) := by
  refine pE_o1 k (fun M h1 => ?_)
  rcases hm with e | e | e | e <;> cases e <;> exact rK_l h1
-- the rest of a product, of facts, of a test
theorem pE_2y (hc : rB T n s.1 < n ∧ T (rB T n s.1) = 42) (k : pE T n 0 d (rA (rB T n s.1 + 1) s) (.inr s1)) (k2 : pE T n 2 d (rU 100102 s1) r) : pE T n 2 d s r :=
  pE_o2 k k2 (fun M h1 h2 => (if_pos hc).trans ((rK_r h1).trans h2))
theorem pE_2f (hc : rB T n s.1 < n ∧ T (rB T n s.1) = 42) (k : pE T n 0 d (rA (rB T n s.1 + 1) s) (.inl e)) : pE T n 2 d s (.inl e) :=
  pE_o1 k (fun M h1 => (if_pos hc).trans (rK_l h1))
theorem pE_2n (hc : ¬ (rB T n s.1 < n ∧ T (rB T n s.1) = 42)) : pE T n 2 d s (.inr (rA (rB T n s.1) s)) := pE_of (fun M => if_neg hc)
theorem pE_8y (hc : rW T n (rB T n s.1) (rWd 18) = true) (k : pE T n 6 d (rA (rB T n s.1 + 3) s) (.inr s1)) (k2 : pE T n 8 d (rU 100109 s1) r) : pE T n 8 d s r :=
  pE_o2 k k2 (fun M h1 h2 => (if_pos hc).trans ((rK_r h1).trans h2))
theorem pE_8f (hc : rW T n (rB T n s.1) (rWd 18) = true) (k : pE T n 6 d (rA (rB T n s.1 + 3) s) (.inl e)) : pE T n 8 d s (.inl e) :=
  pE_o1 k (fun M h1 => (if_pos hc).trans (rK_l h1))
theorem pE_8n (hc : ¬ rW T n (rB T n s.1) (rWd 18) = true) : pE T n 8 d s (.inr (rA (rB T n s.1) s)) := pE_of (fun M => if_neg hc)
theorem pE_10y (hc : rW T n (rB T n s.1) (rWd 17) = true) (k : pE T n 7 d (rA (rB T n s.1 + 2) s) (.inr s1)) (k2 : pE T n 10 d (rU 100108 s1) r) : pE T n 10 d s r :=
  pE_o2 k k2 (fun M h1 h2 => (if_pos hc).trans ((rK_r h1).trans h2))
theorem pE_10f (hc : rW T n (rB T n s.1) (rWd 17) = true) (k : pE T n 7 d (rA (rB T n s.1 + 2) s) (.inl e)) : pE T n 10 d s (.inl e) :=
  pE_o1 k (fun M h1 => (if_pos hc).trans (rK_l h1))
theorem pE_10n (hc : ¬ rW T n (rB T n s.1) (rWd 17) = true) : pE T n 10 d s (.inr (rA (rB T n s.1) s)) := pE_of (fun M => if_neg hc)
-- the rest of a sum
theorem ne_43 {b : Nat} (h : b < n ∧ T b = 45) : ¬ (b < n ∧ T b = 43) := fun z => absurd (z.2.symm.trans h.2) (by decide)
theorem pE_4p (hc : rB T n s.1 < n ∧ T (rB T n s.1) = 43) (k : pE T n 1 d (rA (rB T n s.1 + 1) s) (.inr s1)) (k2 : pE T n 4 d (rU 100100 s1) r) : pE T n 4 d s r :=
  pE_o2 k k2 (fun M h1 h2 => (if_pos hc).trans ((rK_r h1).trans h2))
theorem pE_4pf (hc : rB T n s.1 < n ∧ T (rB T n s.1) = 43) (k : pE T n 1 d (rA (rB T n s.1 + 1) s) (.inl e)) : pE T n 4 d s (.inl e) :=
  pE_o1 k (fun M h1 => (if_pos hc).trans (rK_l h1))
theorem pE_4m (hc : rB T n s.1 < n ∧ T (rB T n s.1) = 45) (k : pE T n 1 d (rA (rB T n s.1 + 1) s) (.inr s1)) (k2 : pE T n 4 d (rU 100101 s1) r) : pE T n 4 d s r :=
  pE_o2 k k2 (fun M h1 h2 => (if_neg (ne_43 hc)).trans ((if_pos hc).trans ((rK_r h1).trans h2)))
theorem pE_4mf (hc : rB T n s.1 < n ∧ T (rB T n s.1) = 45) (k : pE T n 1 d (rA (rB T n s.1 + 1) s) (.inl e)) : pE T n 4 d s (.inl e) :=
  pE_o1 k (fun M h1 => (if_neg (ne_43 hc)).trans ((if_pos hc).trans (rK_l h1)))
theorem pE_4n (h1 : ¬ (rB T n s.1 < n ∧ T (rB T n s.1) = 43)) (h2 : ¬ (rB T n s.1 < n ∧ T (rB T n s.1) = 45)) : pE T n 4 d s (.inr (rA (rB T n s.1) s)) := pE_of (fun M => (if_neg h1).trans (if_neg h2))
-- a comparison
theorem pE_5a (k : pE T n 3 d s (.inl e)) : pE T n 5 d s (.inl e) := pE_o1 k (fun M h1 => rK_l h1)
theorem pE_5b (k : pE T n 3 d s (.inr s1)) (h : rCm T n (rB T n s1.1) = none) : pE T n 5 d s (.inl (1 + 8 * rB T n s1.1 + 0)) :=
  pE_o1 k (fun M h1 => (rK_r h1).trans (by (try dsimp only); rw [h]; rfl))
theorem pE_5c {q : Nat × Nat} (k : pE T n 3 d s (.inr s1)) (h : rCm T n (rB T n s1.1) = some q) (h8 : s1.2.1 = 80) : pE T n 5 d s (.inl (1 + 8 * rB T n s1.1 + 3)) :=
  pE_o1 k (fun M h1 => (rK_r h1).trans (by (try dsimp only); rw [h]; (try dsimp only); unfold rC; rw [if_pos h8]; rfl))
theorem pE_5d {q : Nat × Nat} (k : pE T n 3 d s (.inr s1)) (h : rCm T n (rB T n s1.1) = some q) (h8 : s1.2.1 ≠ 80) (k2 : pE T n 3 d (q.2, s1.2.1 + 1, s1.2.2) (.inl e)) : pE T n 5 d s (.inl e) :=
  pE_o2 k k2 (fun M h1 h2 => (rK_r h1).trans (by (try dsimp only); rw [h]; (try dsimp only); unfold rC; rw [if_neg h8]; show rK (rX T n M 3 d (q.2, s1.2.1 + 1, s1.2.2)) _ = _; exact rK_l h2))
theorem pE_5e {q : Nat × Nat} {s3 : rS} (k : pE T n 3 d s (.inr s1)) (h : rCm T n (rB T n s1.1) = some q) (h8 : s1.2.1 ≠ 80) (k2 : pE T n 3 d (q.2, s1.2.1 + 1, s1.2.2) (.inr s3)) : pE T n 5 d s (.inr (rU q.1 s3)) :=
  pE_o2 k k2 (fun M h1 h2 => (rK_r h1).trans (by (try dsimp only); rw [h]; (try dsimp only); unfold rC; rw [if_neg h8]; show rK (rX T n M 3 d (q.2, s1.2.1 + 1, s1.2.2)) _ = _; exact rK_r h2))
-- a fact
theorem no_91 {b : Nat} (h : b < n ∧ T b = 91) {i : Nat} (hi : i < 20) : ¬ rW T n b (rWd i) = true := fun z => by
  have := rW_l hi z
  rw [h.2] at this
  exact absurd this.2 (by decide)
theorem pE_6a (hc : rW T n (rB T n s.1) (rWd 19) = true) (hd : d = 10) : pE T n 6 d s (.inl (1 + 8 * rB T n s.1 + 2)) := pE_of (fun M => rX_6.trans ((if_pos hc).trans (if_pos hd)))
theorem pE_6b (hc : rW T n (rB T n s.1) (rWd 19) = true) (hd : d ≠ 10) (k : pE T n 6 (d + 1) (rA (rB T n s.1 + 3) s) (.inl e)) : pE T n 6 d s (.inl e) :=
  pE_o1 k (fun M h1 => rX_6.trans ((if_pos hc).trans ((if_neg hd).trans (rK_l h1))))
theorem pE_6c (hc : rW T n (rB T n s.1) (rWd 19) = true) (hd : d ≠ 10) (k : pE T n 6 (d + 1) (rA (rB T n s.1 + 3) s) (.inr s1)) : pE T n 6 d s (.inr (rU 100110 s1)) :=
  pE_o1 k (fun M h1 => rX_6.trans ((if_pos hc).trans ((if_neg hd).trans (rK_r h1))))
theorem pE_6d (hc : rB T n s.1 < n ∧ T (rB T n s.1) = 91) (hd : d = 10) : pE T n 6 d s (.inl (1 + 8 * rB T n s.1 + 2)) := pE_of (fun M => rX_6.trans ((if_neg (no_91 hc (by decide))).trans ((if_pos hc).trans (if_pos hd))))
theorem pE_6e (hc : rB T n s.1 < n ∧ T (rB T n s.1) = 91) (hd : d ≠ 10) (k : pE T n 9 (d + 1) (rA (rB T n s.1 + 1) s) (.inl e)) : pE T n 6 d s (.inl e) :=
  pE_o1 k (fun M h1 => rX_6.trans ((if_neg (no_91 hc (by decide))).trans ((if_pos hc).trans ((if_neg hd).trans (rK_l h1)))))
theorem pE_6g (hc : rB T n s.1 < n ∧ T (rB T n s.1) = 91) (hd : d ≠ 10) (k : pE T n 9 (d + 1) (rA (rB T n s.1 + 1) s) (.inr s1)) (h : rT T n 93 s1 = some r) : pE T n 6 d s r :=
  pE_o1 k (fun M h1 => rX_6.trans ((if_neg (no_91 hc (by decide))).trans ((if_pos hc).trans ((if_neg hd).trans ((rK_r h1).trans h)))))
theorem pE_6h (hc : ¬ rW T n (rB T n s.1) (rWd 19) = true) (hc2 : ¬ (rB T n s.1 < n ∧ T (rB T n s.1) = 91)) (k : pE T n 5 d (rA (rB T n s.1) s) r) : pE T n 6 d s r :=
  pE_o1 k (fun M h1 => rX_6.trans ((if_neg hc).trans ((if_neg hc2).trans h1)))
-- a value
theorem no_40 {b : Nat} (h : b < n ∧ T b = 40) {i : Nat} (hi : i < 20) : ¬ rW T n b (rWd i) = true := fun z => by
  have := rW_l hi z
  rw [h.2] at this
  exact absurd this.2 (by decide)
theorem pE_0a (hc : rB T n s.1 < n ∧ T (rB T n s.1) = 40) (hd : d = 10) : pE T n 0 d s (.inl (1 + 8 * rB T n s.1 + 2)) := pE_of (fun M => (if_pos hc).trans (if_pos hd))
theorem pE_0b (hc : rB T n s.1 < n ∧ T (rB T n s.1) = 40) (hd : d ≠ 10) (h8 : s.2.1 = 80) : pE T n 0 d s (.inl (1 + 8 * rB T n s.1 + 3)) :=
  pE_of (fun M => (if_pos hc).trans ((if_neg hd).trans (by unfold rC; rw [if_pos h8]; rfl)))
theorem pE_0c (hc : rB T n s.1 < n ∧ T (rB T n s.1) = 40) (hd : d ≠ 10) (h8 : s.2.1 ≠ 80) (k : pE T n 3 (d + 1) (rB T n s.1 + 1, s.2.1 + 1, s.2.2) (.inl e)) : pE T n 0 d s (.inl e) :=
  pE_o1 k (fun M h1 => (if_pos hc).trans ((if_neg hd).trans (by unfold rC; rw [if_neg h8]; show rK (rX T n M 3 (d + 1) (rB T n s.1 + 1, s.2.1 + 1, s.2.2)) (rT T n 41) = _; exact rK_l h1)))
theorem pE_0d (hc : rB T n s.1 < n ∧ T (rB T n s.1) = 40) (hd : d ≠ 10) (h8 : s.2.1 ≠ 80) (k : pE T n 3 (d + 1) (rB T n s.1 + 1, s.2.1 + 1, s.2.2) (.inr s1)) (h : rT T n 41 s1 = some r) : pE T n 0 d s r :=
  pE_o1 k (fun M h1 => (if_pos hc).trans ((if_neg hd).trans (by unfold rC; rw [if_neg h8]; show rK (rX T n M 3 (d + 1) (rB T n s.1 + 1, s.2.1 + 1, s.2.2)) (rT T n 41) = _; exact (rK_r h1).trans h)))
theorem pE_0w {k : Nat} (hk : k < 12) (hw : rW T n (rB T n s.1) (rWd k) = true) (h8 : s.2.1 ≠ 80) : pE T n 0 d s (.inr (rE T n (rB T n s.1), s.2.1 + 1, s.2.2 ++ [100000 + k])) :=
  pE_of (fun M => (if_neg (fun z => no_40 z (by omega) hw)).trans (by rw [rK12_i hk hw]; (try dsimp only); unfold rC; rw [if_neg h8]; rfl))
theorem pE_0x {k : Nat} (hk : k < 12) (hw : rW T n (rB T n s.1) (rWd k) = true) (h8 : s.2.1 = 80) : pE T n 0 d s (.inl (1 + 8 * rB T n s.1 + 3)) :=
  pE_of (fun M => (if_neg (fun z => no_40 z (by omega) hw)).trans (by rw [rK12_i hk hw]; (try dsimp only); unfold rC; rw [if_pos h8]; rfl))
theorem pE_0m (hc : ¬ (rB T n s.1 < n ∧ T (rB T n s.1) = 40)) (hw : ∀ k, k < 12 → ¬ rW T n (rB T n s.1) (rWd k) = true) (h : rM T n 99999 (rB T n s.1) = .inl e) : pE T n 0 d s (.inl e) :=
  pE_of (fun M => (if_neg hc).trans (by rw [rK12_n hw]; (try dsimp only); rw [h]))
theorem pE_0y {q : Nat × Nat} (hc : ¬ (rB T n s.1 < n ∧ T (rB T n s.1) = 40)) (hw : ∀ k, k < 12 → ¬ rW T n (rB T n s.1) (rWd k) = true) (h : rM T n 99999 (rB T n s.1) = .inr q) (h8 : s.2.1 = 80) : pE T n 0 d s (.inl (1 + 8 * rB T n s.1 + 3)) :=
  pE_of (fun M => (if_neg hc).trans (by rw [rK12_n hw]; (try dsimp only); rw [h]; (try dsimp only); unfold rC; rw [if_pos h8]; rfl))
theorem pE_0z {q : Nat × Nat} (hc : ¬ (rB T n s.1 < n ∧ T (rB T n s.1) = 40)) (hw : ∀ k, k < 12 → ¬ rW T n (rB T n s.1) (rWd k) = true) (h : rM T n 99999 (rB T n s.1) = .inr q) (h8 : s.2.1 ≠ 80) : pE T n 0 d s (.inr (q.1, s.2.1 + 1, s.2.2 ++ [q.2])) :=
  pE_of (fun M => (if_neg hc).trans (by rw [rK12_n hw]; (try dsimp only); rw [h]; (try dsimp only); unfold rC; rw [if_neg h8]; rfl))
/-- it goes on, no further than the end, and tells no more than it has passed -/
noncomputable def rPg (n : Nat) (s s2 : rS) : Prop := s.1 ≤ s2.1 ∧ s2.1 ≤ n ∧ s.1 + s2.2.2.length ≤ s2.1 + s.2.2.length
theorem rPg_t {s s1 s2 : rS} (a : rPg n s s1) (b : rPg n s1 s2) : rPg n s s2 := by
  obtain ⟨a1, a2, a3⟩ := a
  obtain ⟨b1, b2, b3⟩ := b
  exact ⟨by omega, by omega, by omega⟩
theorem rPg_u {s s1 : rS} {c b : Nat} (h : s.1 < b) (k : rPg n (rA b s) s1) : rPg n s (rU c s1) := by
  obtain ⟨a1, a2, a3⟩ := k
  have a1 : b ≤ s1.1 := a1
  have a3 : b + s1.2.2.length ≤ s1.1 + s.2.2.length := a3
  refine ⟨?_, a2, ?_⟩
  · show s.1 ≤ s1.1; omega
  · show s.1 + (s1.2.2 ++ [c]).length ≤ s1.1 + s.2.2.length
    rw [List.length_append]
    show s.1 + (s1.2.2.length + 1) ≤ _
    omega
theorem rM_r {most p : Nat} {q : Nat × Nat} (hp : p ≤ n) (h : rM T n most p = .inr q) : rB T n p < q.1 ∧ q.1 ≤ n ∧ q.2 ≤ most := by
  unfold rM at h
  have h1 := rD_ge (T := T) (n := n) (p := rB T n p)
  have h2 := rD_le (T := T) (n := n) (rB_le (T := T) hp)
  by_cases c1 : rD T n (rB T n p) = rB T n p
  · rw [if_pos c1] at h; cases h
  · rw [if_neg c1] at h
    by_cases c2 : 5 < rD T n (rB T n p) - rB T n p ∨ most < rV T (rB T n p) (rD T n (rB T n p) - rB T n p)
    · rw [if_pos c2] at h; cases h
    · rw [if_neg c2] at h
      cases h
      exact ⟨by show _ < rD T n (rB T n p); omega, h2, by show rV T (rB T n p) (rD T n (rB T n p) - rB T n p) ≤ most; omega⟩
theorem rCm_n {b : Nat} {q : Nat × Nat} (h : rCm T n b = some q) : q.2 ≤ n := by
  unfold rCm at h
  split at h
  · cases h; show _ + 1 ≤ _; omega
  · split at h
    · split at h <;> (cases h; show _ + _ ≤ _; omega)
    · split at h
      · split at h <;> (cases h; show _ + _ ≤ _; omega)
      · cases h
theorem rC_s {p : Nat} {k : rS → rR} (h : rK (rC p s) k = some (.inr s1)) : k (s.1, s.2.1 + 1, s.2.2) = some (.inr s1) := by
  rcases rC_i h with ⟨-, z⟩ | ⟨-, z⟩
  · cases z
  · exact z
theorem rK_s {x : rR} {k : rS → rR} {s2 : rS} (h : rK x k = some (.inr s2)) : ∃ s1, x = some (.inr s1) ∧ k s1 = some (.inr s2) := by
  rcases rK_i h with ⟨e, -, z⟩ | z
  · cases z
  · exact z
theorem rT_s {c : Int32} {s2 : rS} (h : rT T n c s1 = some (.inr s2)) (hp : s1.1 ≤ n) : rPg n s1 s2 := by
  unfold rT at h
  by_cases c1 : rB T n s1.1 < n ∧ T (rB T n s1.1) = c
  · rw [if_pos c1] at h
    cases h
    have := rB_ge (T := T) (n := n) (p := s1.1)
    refine ⟨?_, ?_, ?_⟩
    · show s1.1 ≤ rB T n s1.1 + 1; omega
    · show rB T n s1.1 + 1 ≤ n; omega
    · show s1.1 + s1.2.2.length ≤ rB T n s1.1 + 1 + s1.2.2.length; omega
  · rw [if_neg c1] at h; cases h
theorem rB_pg (hp : s.1 ≤ n) : rPg n s (rA (rB T n s.1) s) := by
  have h1 := rB_ge (T := T) (n := n) (p := s.1)
  have h2 := rB_le (T := T) hp
  exact ⟨h1, h2, by show s.1 + s.2.2.length ≤ rB T n s.1 + s.2.2.length; omega⟩
theorem rX_7 {f d : Nat} {s : rS} : rX T n (f + 1) 0 d s = (if rB T n s.1 < n ∧ T (rB T n s.1) = 40 then (if d = 10 then rF (rB T n s.1) 2 else rK (rC (rB T n s.1) s) (fun s1 => rK (rX T n f 3 (d + 1) (rA (rB T n s.1 + 1) s1)) (rT T n 41)))
      else (match rK12 T n (rB T n s.1) with
        | some k => rK (rC (rB T n s.1) s) (fun s1 => rO (rU (100000 + k) (rA (rE T n (rB T n s.1)) s1)))
        | none => (match rM T n 99999 (rB T n s.1) with
          | .inl e => some (.inl e)
          | .inr q => rK (rC (rB T n s.1) s) (fun s1 => rO (rU q.2 (rA q.1 s1)))))) := rfl
theorem rX_pg : ∀ (f m d : Nat) (s s2 : rS), rX T n f m d s = some (.inr s2) → s.1 ≤ n → rPg n s s2
  | 0, _, _, _, _, h, _ => by
    have h : (none : rR) = _ := h
    cases h
  | f + 1, m, d, s, s2, h, hp => by
    have ih := rX_pg f
    have hb := rB_ge (T := T) (n := n) (p := s.1)
    have hbn := rB_le (T := T) hp
    match m, h with
    | 0, h =>
      rw [rX_7] at h
      by_cases c1 : rB T n s.1 < n ∧ T (rB T n s.1) = 40
      · rw [if_pos c1] at h
        by_cases c2 : d = 10
        · rw [if_pos c2] at h; cases h
        · rw [if_neg c2] at h
          have h := rC_s h
          obtain ⟨s3, h1, h2⟩ := rK_s h
          have k1 := ih 3 _ _ _ h1 (by show rB T n s.1 + 1 ≤ n; omega)
          have k2 := rT_s h2 k1.2.1
          have k := rPg_t k1 k2
          obtain ⟨a1, a2, a3⟩ := k
          have a1 : rB T n s.1 + 1 ≤ s2.1 := a1
          have a3 : rB T n s.1 + 1 + s2.2.2.length ≤ s2.1 + s.2.2.length := a3
          exact ⟨by omega, a2, by omega⟩
      · rw [if_neg c1] at h
        cases c2 : rK12 T n (rB T n s.1) with
        | some k =>
          rw [c2] at h
          have h := rC_s h
          have e := Option.some.inj h
          cases e
          obtain ⟨k1, k2⟩ := rK12_s c2
          have k3 := rW_l (by omega) k2
          have k4 := rE_ge (T := T) (n := n) (p := rB T n s.1 + 1)
          rw [← rE_y k3] at k4
          have k5 := rE_le (T := T) hbn
          refine ⟨?_, k5, ?_⟩
          · show s.1 ≤ rE T n (rB T n s.1); omega
          · show s.1 + (s.2.2 ++ [100000 + k]).length ≤ rE T n (rB T n s.1) + s.2.2.length
            rw [List.length_append]
            show s.1 + (s.2.2.length + 1) ≤ _
            omega
        | none =>
          rw [c2] at h
          try dsimp only at h
          cases c3 : rM T n 99999 (rB T n s.1) with
          | inl e => rw [c3] at h; cases h
          | inr q =>
            rw [c3] at h
            have h := rC_s h
            have e := Option.some.inj h
            cases e
            obtain ⟨k1, k2, -⟩ := rM_r hbn c3
            rw [rB_2] at k1
            refine ⟨?_, k2, ?_⟩
            · show s.1 ≤ q.1; omega
            · show s.1 + (s.2.2 ++ [q.2]).length ≤ q.1 + s.2.2.length
              rw [List.length_append]
              show s.1 + (s.2.2.length + 1) ≤ _
              omega
    | 1, h =>
      obtain ⟨s3, h1, h2⟩ := rK_s (k := rX T n f 2 d) h
      have k1 := ih 0 _ _ _ h1 hp
      exact rPg_t k1 (ih 2 _ _ _ h2 k1.2.1)
    | 2, h =>
      have h : (if rB T n s.1 < n ∧ T (rB T n s.1) = 42 then rK (rX T n f 0 d (rA (rB T n s.1 + 1) s)) (fun s1 => rX T n f 2 d (rU 100102 s1)) else rO (rA (rB T n s.1) s)) = _ := h
      by_cases c1 : rB T n s.1 < n ∧ T (rB T n s.1) = 42
      · rw [if_pos c1] at h
        obtain ⟨s3, h1, h2⟩ := rK_s h
        have k1 := ih 0 _ _ _ h1 (by show rB T n s.1 + 1 ≤ n; omega)
        exact rPg_t (rPg_u (by omega) k1) (ih 2 _ _ _ h2 k1.2.1)
      · rw [if_neg c1] at h
        cases h
        exact rB_pg hp
    | 3, h =>
      obtain ⟨s3, h1, h2⟩ := rK_s (k := rX T n f 4 d) h
      have k1 := ih 1 _ _ _ h1 hp
      exact rPg_t k1 (ih 4 _ _ _ h2 k1.2.1)
    | 4, h =>
      have h : (if rB T n s.1 < n ∧ T (rB T n s.1) = 43 then rK (rX T n f 1 d (rA (rB T n s.1 + 1) s)) (fun s1 => rX T n f 4 d (rU 100100 s1))
        else if rB T n s.1 < n ∧ T (rB T n s.1) = 45 then rK (rX T n f 1 d (rA (rB T n s.1 + 1) s)) (fun s1 => rX T n f 4 d (rU 100101 s1))
        else rO (rA (rB T n s.1) s)) = _ := h
      by_cases c1 : rB T n s.1 < n ∧ T (rB T n s.1) = 43
      · rw [if_pos c1] at h
        obtain ⟨s3, h1, h2⟩ := rK_s h
        have k1 := ih 1 _ _ _ h1 (by show rB T n s.1 + 1 ≤ n; omega)
        exact rPg_t (rPg_u (by omega) k1) (ih 4 _ _ _ h2 k1.2.1)
      · rw [if_neg c1] at h
        by_cases c2 : rB T n s.1 < n ∧ T (rB T n s.1) = 45
        · rw [if_pos c2] at h
          obtain ⟨s3, h1, h2⟩ := rK_s h
          have k1 := ih 1 _ _ _ h1 (by show rB T n s.1 + 1 ≤ n; omega)
          exact rPg_t (rPg_u (by omega) k1) (ih 4 _ _ _ h2 k1.2.1)
        · rw [if_neg c2] at h
          cases h
          exact rB_pg hp
    | 5, h =>
      obtain ⟨s3, h1, h2⟩ := rK_s (x := rX T n f 3 d s) h
      have k1 := ih 3 _ _ _ h1 hp
      try dsimp only at h2
      cases c1 : rCm T n (rB T n s3.1) with
      | none => rw [c1] at h2; cases h2
      | some q =>
        rw [c1] at h2
        have h2 := rC_s h2
        obtain ⟨s4, h3, h4⟩ := rK_s h2
        have e := Option.some.inj h4
        cases e
        obtain ⟨-, -, q3⟩ := rCm_r c1
        have q4 := rCm_n c1
        have k2 := ih 3 _ _ _ h3 q4
        have k3 := rB_ge (T := T) (n := n) (p := s3.1)
        exact rPg_t k1 (rPg_u (s := s3) (b := q.2) (by omega) k2)
    | 6, h =>
      rw [rX_6] at h
      by_cases c1 : rW T n (rB T n s.1) (rWd 19) = true
      · rw [if_pos c1] at h
        by_cases c2 : d = 10
        · rw [if_pos c2] at h; cases h
        · rw [if_neg c2] at h
          obtain ⟨s3, h1, h2⟩ := rK_s h
          have e := Option.some.inj h2
          cases e
          have e3 : rE T n (rB T n s.1) = rB T n s.1 + 3 := rW_e c1
          have k5 := rE_le (T := T) hbn
          have k1 := ih 6 _ _ _ h1 (by show rB T n s.1 + 3 ≤ n; omega)
          exact rPg_u (by omega) k1
      · rw [if_neg c1] at h
        by_cases c3 : rB T n s.1 < n ∧ T (rB T n s.1) = 91
        · rw [if_pos c3] at h
          by_cases c2 : d = 10
          · rw [if_pos c2] at h; cases h
          · rw [if_neg c2] at h
            obtain ⟨s3, h1, h2⟩ := rK_s h
            have k1 := ih 9 _ _ _ h1 (by show rB T n s.1 + 1 ≤ n; omega)
            have k := rPg_t k1 (rT_s h2 k1.2.1)
            obtain ⟨a1, a2, a3⟩ := k
            have a1 : rB T n s.1 + 1 ≤ s2.1 := a1
            have a3 : rB T n s.1 + 1 + s2.2.2.length ≤ s2.1 + s.2.2.length := a3
            exact ⟨by omega, a2, by omega⟩
        · rw [if_neg c3] at h
          exact rPg_t (rB_pg hp) (ih 5 _ _ _ h hbn)
    | 7, h =>
      obtain ⟨s3, h1, h2⟩ := rK_s (k := rX T n f 8 d) h
      have k1 := ih 6 _ _ _ h1 hp
      exact rPg_t k1 (ih 8 _ _ _ h2 k1.2.1)
    | 8, h =>
      have h : (if rW T n (rB T n s.1) (rWd 18) = true then rK (rX T n f 6 d (rA (rB T n s.1 + 3) s)) (fun s1 => rX T n f 8 d (rU 100109 s1)) else rO (rA (rB T n s.1) s)) = _ := h
      by_cases c1 : rW T n (rB T n s.1) (rWd 18) = true
      · rw [if_pos c1] at h
        obtain ⟨s3, h1, h2⟩ := rK_s h
        have e3 : rE T n (rB T n s.1) = rB T n s.1 + 3 := rW_e c1
        have k5 := rE_le (T := T) hbn
        have k1 := ih 6 _ _ _ h1 (by show rB T n s.1 + 3 ≤ n; omega)
        exact rPg_t (rPg_u (by omega) k1) (ih 8 _ _ _ h2 k1.2.1)
      · rw [if_neg c1] at h
        cases h
        exact rB_pg hp
    | 9, h =>
      obtain ⟨s3, h1, h2⟩ := rK_s (k := rX T n f 10 d) h
      have k1 := ih 7 _ _ _ h1 hp
      exact rPg_t k1 (ih 10 _ _ _ h2 k1.2.1)
    | m + 10, h =>
      have h : (if rW T n (rB T n s.1) (rWd 17) = true then rK (rX T n f 7 d (rA (rB T n s.1 + 2) s)) (fun s1 => rX T n f 10 d (rU 100108 s1)) else rO (rA (rB T n s.1) s)) = _ := h
      by_cases c1 : rW T n (rB T n s.1) (rWd 17) = true
      · rw [if_pos c1] at h
        obtain ⟨s3, h1, h2⟩ := rK_s h
        have e3 : rE T n (rB T n s.1) = rB T n s.1 + 2 := rW_e c1
        have k5 := rE_le (T := T) hbn
        have k1 := ih 7 _ _ _ h1 (by show rB T n s.1 + 2 ≤ n; omega)
        exact rPg_t (rPg_u (by omega) k1) (ih 10 _ _ _ h2 k1.2.1)
      · rw [if_neg c1] at h
        cases h
        exact rB_pg hp
theorem pE_pg {m : Nat} (k : pE T n m d s (.inr s1)) (hp : s.1 ≤ n) : rPg n s s1 := by
  obtain ⟨N, k⟩ := k
  exact rX_pg N m d s s1 (k N (Nat.le_refl _)) hp
end PE
/-! the going-down reader's object: 44 with its bytes 45, its codes 46, its clauses 47 -/
noncomputable def cCo (h : zH) : List Nat := (List.range (tvI (tF h 44 5)).toNatClampNeg).map (fun i => (tA h 46 i).toNatClampNeg)
noncomputable def cs (h : zH) : rS := ((tvI (tF h 44 2)).toNatClampNeg, (tvI (tF h 44 8)).toNatClampNeg, cCo h)
noncomputable abbrev cn (h : zH) : Nat := (tvI (tF h 44 1)).toNatClampNeg
noncomputable def cFr (h h2 : zH) : Prop := tSh h2 ∧ (∀ p b, ¬ (p = 44 ∧ (b = 2 ∨ b = 3 ∨ b = 5 ∨ b = 8 ∨ b = 9)) → tF h2 p b = tF h p b) ∧ (∀ p, p ≠ 46 → tA h2 p = tA h p) ∧ tN h2 = tN h
noncomputable def cP (h : zH) : Prop := (0 ≤ (tvI (tF h 44 2)).toInt ∧ (tvI (tF h 44 2)).toInt ≤ (tvI (tF h 44 1)).toInt ∧ (tvI (tF h 44 1)).toInt ≤ 400) ∧ (0 ≤ (tvI (tF h 44 8)).toInt ∧ (tvI (tF h 44 8)).toInt ≤ 80) ∧ (0 ≤ (tvI (tF h 44 5)).toInt ∧ (tvI (tF h 44 5)).toInt ≤ (tvI (tF h 44 2)).toInt) ∧ (∀ i, i < 400 → -128 ≤ (tA h 45 i).toInt ∧ (tA h 45 i).toInt ≤ 127) ∧ tN h 46 = 400 ∧ tF h 44 9 = .int (-1)
/-- one field was written -/
noncomputable def cSet (b : Nat) (X : Int32) (h h3 : zH) : Prop := tSh h3 ∧ tF h3 44 b = .int X ∧ (∀ p q, ¬ (p = 44 ∧ q = b) → tF h3 p q = tF h p q) ∧ tA h3 = tA h ∧ tN h3 = tN h
section CF
variable {h h1 h2 h3 : zH} {b : Nat} {X : Int32}
theorem cSet_of (hf : tFd h 44 b) (hs : tSh (tSF h 44 b (.int X))) : cSet b X h (tSF h 44 b (.int X)) := ⟨hs, tF_same hf, fun _ _ hn => tF_nz hn, tA_tSF _ _ _ _, tN_tSF _ _ _ _⟩
theorem tG_set {tt : zT} {G : zG} {cd : zK} {bc bs : Nat} {rt : Option FieldType} {M : zM} {Q : zQ} {Z : zX} {f : Bool} {pc : Nat} {L : zL} {st : List Value} {c n : Nat} (hf : tFd h 44 b) (hs : tSh (tSF h 44 b (.int X))) (k : ∀ h3, cSet b X h h3 → tG tt G cd bc bs rt M Q Z f pc L st h3 c n) : tG tt G cd bc bs rt M Q Z f pc L st (tSF h 44 b (.int X)) c n := k _ (cSet_of hf hs)
theorem cFr_r (hs : tSh h) : cFr h h := ⟨hs, fun _ _ _ => rfl, fun _ _ => rfl, rfl⟩
theorem cFr_t (a : cFr h h1) (k : cFr h1 h2) : cFr h h2 := ⟨k.1, fun p q z => (k.2.1 p q z).trans (a.2.1 p q z), fun p z => (k.2.2.1 p z).trans (a.2.2.1 p z), k.2.2.2.trans a.2.2.2⟩
theorem cFr_s (a : cFr h h1) (k : cSet b X h1 h2) (hb : b = 2 ∨ b = 3 ∨ b = 5 ∨ b = 8 ∨ b = 9) : cFr h h2 := ⟨k.1, fun p q z => (k.2.2.1 p q (fun w => z ⟨w.1, w.2.symm ▸ hb⟩)).trans (a.2.1 p q z), fun p z => (congrFun k.2.2.2.1 p).trans (a.2.2.1 p z), k.2.2.2.2.trans a.2.2.2⟩
theorem cFr_T (a : cFr h h1) : tA h1 45 = tA h 45 := a.2.2.1 45 (by decide)
theorem cFr_1 (a : cFr h h1) : tvI (tF h1 44 1) = tvI (tF h 44 1) := congrArg tvI (a.2.1 44 1 (by decide))
theorem cFr_n (a : cFr h h1) : cn h1 = cn h := by unfold cn; rw [cFr_1 a]
theorem cI_x (k : cSet b X h h3) : tvI (tF h3 44 b) = X := congrArg tvI k.2.1
theorem cI_o {q : Nat} (k : cSet b X h h3) (hq : q ≠ b) : tvI (tF h3 44 q) = tvI (tF h 44 q) := congrArg tvI (k.2.2.1 44 q (fun z => hq z.2))
theorem cCo_o (k : cSet b X h h3) (hb : b ≠ 5) : cCo h3 = cCo h := by
  unfold cCo
  rw [cI_o k (fun z => hb z.symm), k.2.2.2.1]
theorem cs_2 (k : cSet 2 X h h3) : cs h3 = rA X.toNatClampNeg (cs h) := by
  unfold cs
  rw [cI_x k, cI_o k (by decide), cCo_o k (by decide)]
  rfl
theorem cs_8 (k : cSet 8 X h h3) : cs h3 = ((cs h).1, X.toNatClampNeg, (cs h).2.2) := by
  unfold cs
  rw [cI_x k, cI_o k (by decide), cCo_o k (by decide)]
theorem cs_o (k : cSet b X h h3) (h2 : b ≠ 2) (h5 : b ≠ 5) (h8 : b ≠ 8) : cs h3 = cs h := by
  unfold cs
  rw [cI_o k (fun z => h2 z.symm), cI_o k (fun z => h8 z.symm), cCo_o k h5]
theorem cCo_len : (cCo h).length = (tvI (tF h 44 5)).toNatClampNeg := by unfold cCo; rw [List.length_map, List.length_range]
theorem zj1 {x : Int32} (hx : 0 ≤ x.toInt) {y : Int32} (hy : x.toInt < y.toInt) : (x + 1).toInt = x.toInt + 1 := by
  have := Int32.toInt_lt y
  rw [Int32.toInt_add]
  exact Int.bmod_eq_of_le (by show (-2147483648 : Int) ≤ x.toInt + 1; omega) (by show x.toInt + 1 < (2147483648 : Int); omega)
theorem zj1n {x : Int32} (hx : 0 ≤ x.toInt) {y : Int32} (hy : x.toInt < y.toInt) : (x + 1).toNatClampNeg = x.toNatClampNeg + 1 := by
  rw [zclE, zclE, zj1 hx hy]
  omega
theorem cP_len (p : cP h) : (cs h).2.2.length ≤ (cs h).1 := by
  show (cCo h).length ≤ (tvI (tF h 44 2)).toNatClampNeg
  rw [cCo_len, zclE, zclE]
  have := p.2.2.1
  omega
theorem cP_le (p : cP h) : (cs h).1 ≤ cn h := by
  show (tvI (tF h 44 2)).toNatClampNeg ≤ (tvI (tF h 44 1)).toNatClampNeg
  rw [zclE, zclE]
  have := p.1
  omega
theorem cP_400 (p : cP h) : cn h ≤ 400 := by
  show (tvI (tF h 44 1)).toNatClampNeg ≤ 400
  rw [zclE]
  have := p.1
  omega
/-- the place was moved on -/
theorem cP_2 (p : cP h) (k : cSet 2 X h h3) (h1 : (tvI (tF h 44 2)).toInt ≤ X.toInt) (h2 : X.toInt ≤ (tvI (tF h 44 1)).toInt) : cP h3 := by
  obtain ⟨a, b, c, d, e, e9⟩ := p
  refine ⟨?_, ?_, ?_, ?_, ?_, (k.2.2.1 44 9 (by decide)).trans e9⟩
  · rw [cI_x k, cI_o k (by decide)]; omega
  · rw [cI_o k (by decide)]; exact b
  · rw [cI_x k, cI_o k (by decide)]; omega
  · rw [k.2.2.2.1]; exact d
  · rw [k.2.2.2.2]; exact e
theorem cP_8 (p : cP h) (k : cSet 8 X h h3) (h1 : 0 ≤ X.toInt) (h2 : X.toInt ≤ 80) : cP h3 := by
  obtain ⟨a, b, c, d, e, e9⟩ := p
  refine ⟨?_, ?_, ?_, ?_, ?_, (k.2.2.1 44 9 (by decide)).trans e9⟩
  · rw [cI_o k (by decide), cI_o k (by decide)]; exact a
  · rw [cI_x k]; omega
  · rw [cI_o k (by decide), cI_o k (by decide)]; exact c
  · rw [k.2.2.2.1]; exact d
  · rw [k.2.2.2.2]; exact e
theorem cP_o (p : cP h) (k : cSet b X h h3) (h2 : b = 3) : cP h3 := by
  have e2 := cI_o (q := 2) k (by omega)
  have e1 := cI_o (q := 1) k (by omega)
  have e8 := cI_o (q := 8) k (by omega)
  have e5 := cI_o (q := 5) k (by omega)
  unfold cP
  rw [e2, e1, e8, e5, k.2.2.2.1, k.2.2.2.2, k.2.2.1 44 9 (by omega)]
  exact p
/-- a sign: the byte there, below 256, or none -/
noncomputable def sgn (T : Nat → Int32) (n b : Nat) (c : Int32) : Prop := (∀ k : Int32, 0 ≤ k.toInt → k.toInt ≤ 127 → (c = k ↔ b < n ∧ T b = k)) ∧ (c = -1 ↔ ¬ b < n)
theorem sgn_n {T : Nat → Int32} {n b : Nat} (h : ¬ b < n) : sgn T n b (-1) := ⟨fun k h1 _ => ⟨fun z => by rw [← z] at h1; exact absurd h1 (by decide), fun z => absurd z.1 h⟩, ⟨fun _ => h, fun _ => rfl⟩⟩
theorem z255 : (List.range 256).all (fun k => decide (((Int32.ofInt ((k : Int) - 128)) &&& 255).toInt = (if k < 128 then (k : Int) + 128 else (k : Int) - 128))) = true := by decide +kernel
theorem zand255 {x : Int32} (h : -128 ≤ x.toInt ∧ x.toInt ≤ 127) : (x &&& 255).toInt = if x.toInt < 0 then x.toInt + 256 else x.toInt := by
  have q := of_decide_eq_true (List.all_eq_true.mp z255 (x.toInt + 128).toNat (List.mem_range.mpr (by omega)))
  have e : (((x.toInt + 128).toNat : Nat) : Int) - 128 = x.toInt := by omega
  rw [e, Int32.ofInt_toInt] at q
  rw [q]
  by_cases z : x.toInt < 0
  · rw [if_pos z, if_pos (by omega)]; omega
  · rw [if_neg z, if_neg (by omega)]
theorem sgn_y {T : Nat → Int32} {n b : Nat} (h : b < n) (hr : -128 ≤ (T b).toInt ∧ (T b).toInt ≤ 127) : sgn T n b (T b &&& 255) := by
  have e := zand255 hr
  refine ⟨fun k h1 h2 => ⟨fun z => ⟨h, ?_⟩, fun z => ?_⟩, ⟨fun z => ?_, fun z => absurd h z⟩⟩
  · rw [z] at e
    refine Int32.toInt_inj.mp ?_
    by_cases y : (T b).toInt < 0
    · rw [if_pos y] at e; omega
    · rw [if_neg y] at e; omega
  · refine Int32.toInt_inj.mp ?_
    rw [e, z.2, if_neg (by omega)]
  · rw [z] at e
    have : ((-1 : Int32)).toInt = -1 := by decide
    by_cases y : (T b).toInt < 0
    · rw [if_pos y] at e; omega
    · rw [if_neg y] at e; omega
theorem sgn_k {T : Nat → Int32} {n b : Nat} {c : Int32} (s : sgn T n b c) (k : Int32) (hk : 0 ≤ k.toInt ∧ k.toInt ≤ 127) : c = k ↔ b < n ∧ T b = k := s.1 k hk.1 hk.2
/-- a fault is told -/
noncomputable def cFt (h : zH) (e : Nat) : Prop := tF h 44 9 = .int (Int32.ofNat e)
theorem zofI {e : Nat} (h : e < 2147483648) : (Int32.ofNat e).toInt = e := by
  rw [Int32.toInt_ofNat']
  exact Int.bmod_eq_of_le (by show (-2147483648 : Int) ≤ (e : Int); omega) (by show (e : Int) < (2147483648 : Int); omega)
theorem zfa {a y : Int32} {b w : Nat} (ha : a.toInt = b) (hb : b ≤ 400) (hy : y.toInt = w) (hw : w ≤ 7) : 1 + 8 * a + y = Int32.ofNat (1 + 8 * b + w) := by
  refine Int32.toInt_inj.mp ?_
  have e1 : (8 * a).toInt = 8 * b := by
    rw [Int32.toInt_mul, ha]
    show Int.bmod (8 * (b : Int)) _ = _
    exact Int.bmod_eq_of_le (by show (-2147483648 : Int) ≤ 8 * (b : Int); omega) (by show 8 * (b : Int) < (2147483648 : Int); omega)
  have e2 : (1 + 8 * a).toInt = 1 + 8 * b := by
    rw [Int32.toInt_add, e1]
    show Int.bmod (1 + 8 * (b : Int)) _ = _
    exact Int.bmod_eq_of_le (by show (-2147483648 : Int) ≤ 1 + 8 * (b : Int); omega) (by show 1 + 8 * (b : Int) < (2147483648 : Int); omega)
  rw [Int32.toInt_add, e2, hy, zofI (by omega)]
  exact (Int.bmod_eq_of_le (by show (-2147483648 : Int) ≤ 1 + 8 * (b : Int) + w; omega) (by show 1 + 8 * (b : Int) + w < (2147483648 : Int); omega)).trans (by omega)
/-- outcomes -/
noncomputable def cOut (X : rR) (h : zH) : zQ := fun w h2 => cFr h h2 ∧ ((w = some (.int 1) ∧ X = some (.inr (cs h2)) ∧ cP h2) ∨ (w = some (.int 0) ∧ ∃ e, X = some (.inl e) ∧ cFt h2 e))
noncomputable def cR (T : Nat → Int32) (n m d : Nat) (h : zH) : zQ := fun w h2 => cFr h h2 ∧ ((w = some (.int 1) ∧ pE T n m d (cs h) (.inr (cs h2)) ∧ cP h2) ∨ (w = some (.int 0) ∧ ∃ e, pE T n m d (cs h) (.inl e) ∧ cFt h2 e))
noncomputable def tCp (tt : zT) (G : zG) (d : Nat) (j : Nat) (as : List Value) (h : zH) (Q : zQ) : Prop := zW tt G d j as h tTr → zW tt G d j as h Q
theorem tCp.both {tt : zT} {G : zG} {d j : Nat} {as : List Value} {h : zH} {P Q : zQ} (k : tCp tt G d j as h Q) (z : zW tt G d j as h P) : zW tt G d j as h (fun w h2 => P w h2 ∧ Q w h2) := zW_conj tt G d _ _ _ _ _ z (k (zW_mono tt G d _ _ _ _ _ (fun _ _ _ => trivial) z))
theorem tCp_in {tt : zT} {G : zG} {j d : Nat} {as : List Value} {h : zH} {Q : zQ} {cd : zK} {nL : Nat} {rt : Option FieldType} {bc bs : Nat} (hj : G.1[j]? = some (cd, nL, rt, bc, bs)) (k : tG tt G cd bc bs rt (zW tt G d) Q tFz false 0 (zentry as nL) [] h 0 0) : tCp tt G (d + 1) j as h Q := by
  intro z
  unfold zW at z ⊢
  rw [hj] at z ⊢
  exact ⟨z.1, tG_end (zW_mono tt G d) k z.2⟩
theorem tw_virt1p {tt : zT} {G : zG} {cd : zK} {bc bs dp : Nat} {rt : Option FieldType} {Q : zQ} {Z : zX} {f : Bool} {pc nx a d : Nat} {v : Value} {L : zL} {s : List Value} {h : zH} {c n i r : Nat} {Qa : zQ} {x1 : Value} (hc : cd[pc]? = some (some (.invokevirtual i, nx, a, 1, d, v))) (kc : tCp tt G dp a (.ref r :: [x1]) h Qa) (k : ∀ w h2, Qa w h2 → tG tt G cd bc bs rt (zW tt G dp) Q Z true nx L (w.toList ++ s) h2 (c + (zbud G a).1) (n + (zbud G a).2)) : tG tt G cd bc bs rt (zW tt G dp) Q Z f pc L (x1 :: .ref r :: s) h c n := tG_row hc (fun z => Or.elim z (fun z => False.elim z) (fun z => Or.inr ⟨z.1, z.2.1, z.2.2.1, z.2.2.2.1, z.2.2.2.2.1, zW_mono tt G dp _ _ _ _ _ (fun w h2 q => k w h2 q.2 q.1) (tCp.both kc z.2.2.2.2.2)⟩))
noncomputable def cML : List (Nat × Nat) := [(0, 85), (1, 84), (3, 83), (5, 81), (6, 80), (7, 79), (9, 78)]
/-- the seven that call each other, at a depth of calls -/
noncomputable def cIH (G : zG) (dp : Nat) : Prop := ∀ (m j : Nat), (m, j) ∈ cML → ∀ (h : zH) (T : Nat → Int32) (n d : Nat) (x : Int32), tSh h → cP h → tA h 45 = T → cn h = n → x.toInt = d → d ≤ 10 → tCp zTt G dp j [.ref 44, .int x] h (cR T n m d h)
end CF
theorem cLt {h : zH} {n : Nat} (p : cP h) (hn : cn h = n) (q : (tvI (tF h 44 2)).toInt < (tvI (tF h 44 1)).toInt) : (cs h).1 < n := by
  rw [← hn]
  show (tvI (tF h 44 2)).toNatClampNeg < (tvI (tF h 44 1)).toNatClampNeg
  rw [zclE, zclE]
  have := p.1
  omega
theorem cGe {h : zH} {n : Nat} (p : cP h) (hn : cn h = n) (q : (tvI (tF h 44 1)).toInt ≤ (tvI (tF h 44 2)).toInt) : ¬ (cs h).1 < n := by
  rw [← hn]
  show ¬ (tvI (tF h 44 2)).toNatClampNeg < (tvI (tF h 44 1)).toNatClampNeg
  rw [zclE, zclE]
  have := p.1
  omega
theorem cLtI {h : zH} {n : Nat} (p : cP h) (hn : cn h = n) (q : (cs h).1 < n) : (tvI (tF h 44 2)).toInt < (tvI (tF h 44 1)).toInt := by
  rw [← hn] at q
  have q : (tvI (tF h 44 2)).toNatClampNeg < (tvI (tF h 44 1)).toNatClampNeg := q
  rw [zclE, zclE] at q
  have := p.1
  omega
theorem cInc {h h3 : zH} {n : Nat} (p : cP h) (hl : (cs h).1 < n) (hn : cn h = n) (e : cSet 2 (tvI (tF h 44 2) + 1) h h3) : cP h3 ∧ cs h3 = rA ((cs h).1 + 1) (cs h) := by
  have q := cLtI p hn hl
  have i1 := zj1 p.1.1 q
  refine ⟨cP_2 p e (by rw [i1]; omega) (by rw [i1]; omega), ?_⟩
  rw [cs_2 e, zj1n p.1.1 q]
  rfl
theorem cSg_o {T : Nat → Int32} {n : Nat} {h h1 : zH} (e1 : (cs h1).2 = (cs h).2) (e2 : rB T n (cs h1).1 = rB T n (cs h).1) (hb : ¬ ((cs h1).1 < n ∧ T (cs h1).1 = 32)) : cs h1 = rA (rB T n (cs h).1) (cs h) ∧ (cs h1).1 = rB T n (cs h).1 := by
  have z : (cs h1).1 = rB T n (cs h).1 := by rw [← e2, rB_n hb]
  exact ⟨Prod.ext z e1, z⟩
theorem c80 {h : zH} (q : tvI (tF h 44 8) = 80) : (cs h).2.1 = 80 := by
  show (tvI (tF h 44 8)).toNatClampNeg = 80
  rw [q]; rfl
theorem cn80 {h : zH} (p : cP h) (q : ¬ tvI (tF h 44 8) = 80) : (cs h).2.1 ≠ 80 := by
  intro z
  have z : (tvI (tF h 44 8)).toNatClampNeg = 80 := z
  rw [zclE] at z
  refine q (Int32.toInt_inj.mp ?_)
  show (tvI (tF h 44 8)).toInt = 80
  have := p.2.1
  omega
theorem cCnt {h h3 : zH} (p : cP h) (q : ¬ tvI (tF h 44 8) = 80) (e : cSet 8 (tvI (tF h 44 8) + 1) h h3) : cP h3 ∧ cs h3 = ((cs h).1, (cs h).2.1 + 1, (cs h).2.2) := by
  have q2 : (tvI (tF h 44 8)).toInt < (80 : Int32).toInt := by
    have a := p.2.1
    have b : (tvI (tF h 44 8)).toInt ≠ 80 := fun z => q (Int32.toInt_inj.mp z)
    show (tvI (tF h 44 8)).toInt < 80
    omega
  have i1 := zj1 p.2.1.1 q2
  have q3 : (tvI (tF h 44 8)).toInt < 80 := q2
  refine ⟨cP_8 p e (by rw [i1]; have := p.2.1; omega) (by rw [i1]; omega), ?_⟩
  rw [cs_8 e, zj1n p.2.1.1 q2]
  rfl
theorem cFt_of {h h2 : zH} {y : Int32} {w : Nat} (p : cP h) (f : tF h2 44 9 = .int (1 + 8 * tvI (tF h 44 2) + y)) (hy : y.toInt = w) (hw : w ≤ 7) : cFt h2 (1 + 8 * (cs h).1 + w) := by
  unfold cFt
  rw [f, zfa (b := (cs h).1) (w := w) ?_ ?_ hy hw]
  · show (tvI (tF h 44 2)).toInt = ((tvI (tF h 44 2)).toNatClampNeg : Int)
    rw [zclE]
    have := p.1
    omega
  · exact Nat.le_trans (cP_le p) (cP_400 p)
theorem cPut_of {h : zH} {k : Int32} {kd : Nat} (hs : tSh h) (p : cP h) (hc : (tvI (tF h 44 5)).toInt < (tvI (tF h 44 2)).toInt) (hf : tIn h 46 kd (tvI (tF h 44 5))) (hf2 : tFd (tSA h 46 (tvI (tF h 44 5)).toNatClampNeg k) 44 5) : cFr h (tSF (tSA h 46 (tvI (tF h 44 5)).toNatClampNeg k) 44 5 (.int (tvI (tF h 44 5) + 1))) ∧ cs (tSF (tSA h 46 (tvI (tF h 44 5)).toNatClampNeg k) 44 5 (.int (tvI (tF h 44 5) + 1))) = rU k.toNatClampNeg (cs h) ∧ cP (tSF (tSA h 46 (tvI (tF h 44 5)).toNatClampNeg k) 44 5 (.int (tvI (tF h 44 5) + 1))) := by
  have hw := hw_44_5 (x := tvI (tF h 44 5) + 1) hf2 (tSh_SA hs)
  have e := cSet_of hf2 hw
  generalize tSF (tSA h 46 (tvI (tF h 44 5)).toNatClampNeg k) 44 5 (.int (tvI (tF h 44 5) + 1)) = h3 at e
  have hF : ∀ b, b ≠ 5 → tvI (tF h3 44 b) = tvI (tF h 44 b) := fun b hb => (cI_o e hb).trans (by rw [tF_tSA])
  have h5 : tvI (tF h3 44 5) = tvI (tF h 44 5) + 1 := cI_x e
  have hA : tA h3 = fun p q => if p = 46 ∧ q = (tvI (tF h 44 5)).toNatClampNeg then k else tA h p q := e.2.2.2.1.trans (tA_tSA hf.cell _ _)
  have hN : tN h3 = tN h := e.2.2.2.2.trans (tN_tSA _ _ _ _)
  have q2 : (tvI (tF h 44 5)).toInt < (tvI (tF h 44 2)).toInt := hc
  have p1 := p.1
  have p3 := p.2.2.1
  have i1 := zj1 p3.1 q2
  have i2 := zj1n p3.1 q2
  refine ⟨⟨e.1, fun a b z => (e.2.2.1 a b (fun w => z ⟨w.1, by omega⟩)).trans (by rw [tF_tSA]), fun a z => ?_, hN⟩, ?_, ?_⟩
  · rw [hA]
    funext q
    exact if_neg (fun w => z w.1)
  · unfold cs rU cCo
    rw [hF 2 (by decide), hF 8 (by decide), h5, i2, List.range_succ, List.map_append, hA]
    refine Prod.ext rfl (Prod.ext rfl ?_)
    show _ ++ [(if 46 = 46 ∧ (tvI (tF h 44 5)).toNatClampNeg = (tvI (tF h 44 5)).toNatClampNeg then k else _ : Int32).toNatClampNeg] = _
    rw [if_pos ⟨rfl, rfl⟩]
    refine congrArg (fun z => z ++ [k.toNatClampNeg]) ?_
    refine List.map_congr_left (fun i hi => ?_)
    have hi := List.mem_range.mp hi
    show (if 46 = 46 ∧ i = _ then k else tA h 46 i : Int32).toNatClampNeg = _
    rw [if_neg (fun z => by omega)]
  · refine ⟨?_, ?_, ?_, ?_, ?_, (e.2.2.1 44 9 (by decide)).trans (by rw [tF_tSA]; exact p.2.2.2.2.2)⟩
    · rw [hF 2 (by decide), hF 1 (by decide)]; exact p.1
    · rw [hF 8 (by decide)]; exact p.2.1
    · rw [hF 2 (by decide), h5, i1]; omega
    · intro i hi
      rw [hA]
      show _ ≤ (if 45 = 46 ∧ _ then k else tA h 45 i : Int32).toInt ∧ (if 45 = 46 ∧ _ then k else tA h 45 i : Int32).toInt ≤ _
      rw [if_neg (fun z => absurd z.1 (by decide))]
      exact p.2.2.2.1 i hi
    · rw [hN]; exact p.2.2.2.2.1
theorem f_signHere {G : zG} (hG : G.1 = zProg) (hX : G.2.1 = ztx) {h : zH} {T : Nat → Int32} {n : Nat} (hs : tSh h) (hp : cP h) (hT : tA h 45 = T) (hN : cn h = n)  : tC zTt G 90 [.ref 44] h (fun w h2 => cFr h h2 ∧ cP h2 ∧ cs h2 = rA (rB T n (cs h).1) (cs h) ∧ tvI (tF h2 44 3) = tvI (tF h 44 3) ∧ ∃ c, w = some (.int c) ∧ sgn T n (rB T n (cs h).1) c) := by
  refine tC_in (by rw [hG]; rfl) (fun dp => ?_)
  have g0 := cFr_r hs
  have hpn : (cs h).1 ≤ n := by rw [← hN]; exact cP_le hp
  refine tG_loop (zW_mono zTt G dp) (zW_conj zTt G dp) (V := fun pc L st h9 _ _ => pc = 0 ∧ st = [] ∧ ∃ h1, h1 = h9 ∧ cFr h h1 ∧ cP h1 ∧ (cs h1).2 = (cs h).2 ∧ rB T n (cs h1).1 = rB T n (cs h).1 ∧ tvI (tF h1 44 3) = tvI (tF h 44 3) ∧ L = [some (.ref 44)]) ?_ (⟨rfl, rfl, _, rfl, g0, hp, rfl, rfl, rfl, rfl⟩)
  rintro _ _ _ _ _ _ ⟨rfl, rfl, h1, rfl, g1, p1, e1, e2, e3, rfl⟩
  refine tw_aload rfl rfl ?_
  refine tw_getS rfl (hi_44_2 g1.1) ?_
  refine tw_aload rfl rfl ?_
  refine tw_getS rfl (hi_44_1 g1.1) ?_
  refine tw_ic_ge rfl (fun q422 => ?_) (fun q422 => ?_)
  · try dsimp only [tvI_i, tvJ_j, tvR_r] at q422
    refine tw_aload rfl rfl ?_
    refine tw_getS rfl (hi_44_2 g1.1) ?_
    refine tw_aload rfl rfl ?_
    refine tw_getS rfl (hi_44_1 g1.1) ?_
    refine tw_ic_ge rfl (fun q423 => ?_) (fun q423 => ?_)
    · try dsimp only [tvI_i, tvJ_j, tvR_r] at q423
      refine tw_push rfl ?_
      have hb := cGe p1 ((cFr_n g1).trans hN) q422
      obtain ⟨o1, o2⟩ := cSg_o (T := T) (n := n) e1 e2 (fun z => hb z.1)
      exact tw_iret rfl ⟨g1, p1, o1, e3, _, rfl, by rw [← o2]; exact sgn_n hb⟩
    · try dsimp only [tvI_i, tvJ_j, tvR_r] at q423
      exact absurd q423 (Int.not_lt.mpr q422)
  · try dsimp only [tvI_i, tvJ_j, tvR_r] at q422
    refine tw_aload rfl rfl ?_
    refine tw_getS rfl (hs_44_0 g1.1) ?_
    refine tw_aload rfl rfl ?_
    refine tw_getS rfl (hi_44_2 g1.1) ?_
    refine tw_bald rfl (fun f424 => ?_)
    refine tw_push rfl ?_
    refine tw_ic_ne rfl (fun q425 => ?_) (fun q425 => ?_)
    · try dsimp only [tvI_i, tvJ_j, tvR_r] at q425
      have q425i := zneq (Y := 32) (by decide) q425
      refine tw_aload rfl rfl ?_
      refine tw_getS rfl (hi_44_2 g1.1) ?_
      refine tw_aload rfl rfl ?_
      refine tw_getS rfl (hi_44_1 g1.1) ?_
      refine tw_ic_ge rfl (fun q426 => ?_) (fun q426 => ?_)
      · try dsimp only [tvI_i, tvJ_j, tvR_r] at q426
        exact absurd q422 (Int.not_lt.mpr q426)
      · try dsimp only [tvI_i, tvJ_j, tvR_r] at q426
        refine tw_aload rfl rfl ?_
        refine tw_getS rfl (hs_44_0 g1.1) ?_
        refine tw_aload rfl rfl ?_
        refine tw_getS rfl (hi_44_2 g1.1) ?_
        refine tw_bald rfl (fun f427 => ?_)
        refine tw_push rfl ?_
        refine tw_iand rfl ?_
        refine tw_goto rfl ?_
        have hl := cLt p1 ((cFr_n g1).trans hN) q422
        obtain ⟨o1, o2⟩ := cSg_o (T := T) (n := n) e1 e2 (fun z => q425 (by rw [← ((cFr_T g1).trans hT)] at z; exact z.2))
        refine tw_iret rfl ⟨g1, p1, o1, e3, _, rfl, ?_⟩
        rw [← o2, ← ((cFr_T g1).trans hT)]
        exact sgn_y hl (p1.2.2.2.1 _ (Nat.lt_of_lt_of_le hl (by rw [← ((cFr_n g1).trans hN)]; exact cP_400 p1)))
    · try dsimp only [tvI_i, tvJ_j, tvR_r] at q425
      have q425i := zeqi (Y := 32) (by decide) q425
      refine tw_aload rfl rfl ?_
      refine tw_dup rfl ?_
      refine tw_getS rfl (hi_44_2 g1.1) ?_
      refine tw_push rfl ?_
      refine tw_iadd rfl ?_
      refine tw_put rfl (fun f428 => ?_)
      refine tG_set f428 (hw_44_2 f428 (g1).1) (fun hf428 ef428 => ?_)
      try dsimp only [tvI_i] at ef428
      have gf428 := cFr_s g1 ef428 (by decide)
      have lf428 := cLt p1 ((cFr_n g1).trans hN) q422
      obtain ⟨pf428, sf428⟩ := cInc p1 lf428 ((cFr_n g1).trans hN) ef428
      refine tw_goto rfl ?_
      exact tG_cut (zW_mono zTt G dp) (Or.inr ⟨rfl, rfl, _, rfl, gf428, pf428, (congrArg Prod.snd sf428).trans e1, by rw [sf428]; exact (rB_y ⟨lf428, by rw [← ((cFr_T g1).trans hT)]; exact q425⟩).symm.trans e2, (cI_o ef428 (by decide)).trans e3, rfl⟩)
theorem f_refuse {G : zG} (hG : G.1 = zProg) (hX : G.2.1 = ztx) {h : zH} {T : Nat → Int32} {n : Nat} (hs : tSh h) (hp : cP h) (hT : tA h 45 = T) (hN : cn h = n) {a y : Int32} : tC zTt G 93 [.ref 44, .int a, .int y] h (fun w h2 => cFr h h2 ∧ w = some (.int 0) ∧ tF h2 44 9 = .int (1 + 8 * a + y)) := by
  refine tC_in (by rw [hG]; rfl) (fun dp => ?_)
  have g0 := cFr_r hs
  have hpn : (cs h).1 ≤ n := by rw [← hN]; exact cP_le hp
  refine tw_aload rfl rfl ?_
  refine tw_push rfl ?_
  refine tw_push rfl ?_
  refine tw_iload rfl rfl ?_
  refine tw_imul rfl ?_
  refine tw_iadd rfl ?_
  refine tw_iload rfl rfl ?_
  refine tw_iadd rfl ?_
  refine tw_put rfl (fun f429 => ?_)
  refine tG_set f429 (hw_44_9 f429 (g0).1) (fun hf429 ef429 => ?_)
  try dsimp only [tvI_i] at ef429
  have gf429 := cFr_s g0 ef429 (by decide)
  refine tw_push rfl ?_
  exact tw_iret rfl ⟨gf429, rfl, ef429.2.1⟩
theorem f_countOne {G : zG} (hG : G.1 = zProg) (hX : G.2.1 = ztx) {h : zH} {T : Nat → Int32} {n : Nat} (hs : tSh h) (hp : cP h) (hT : tA h 45 = T) (hN : cn h = n)  : tC zTt G 87 [.ref 44] h (fun w h2 => cFr h h2 ∧ ((w = some (.int 1) ∧ rC (cs h).1 (cs h) = some (.inr (cs h2)) ∧ cP h2 ∧ tvI (tF h2 44 3) = tvI (tF h 44 3)) ∨ (w = some (.int 0) ∧ ∃ e, rC (cs h).1 (cs h) = some (.inl e) ∧ cFt h2 e))) := by
  refine tC_in (by rw [hG]; rfl) (fun dp => ?_)
  have g0 := cFr_r hs
  have hpn : (cs h).1 ≤ n := by rw [← hN]; exact cP_le hp
  refine tw_aload rfl rfl ?_
  refine tw_getS rfl (hi_44_8 hs) ?_
  refine tw_push rfl ?_
  refine tw_ic_ne rfl (fun q430 => ?_) (fun q430 => ?_)
  · try dsimp only [tvI_i, tvJ_j, tvR_r] at q430
    have q430i := zneq (Y := 80) (by decide) q430
    refine tw_aload rfl rfl ?_
    refine tw_dup rfl ?_
    refine tw_getS rfl (hi_44_8 hs) ?_
    refine tw_push rfl ?_
    refine tw_iadd rfl ?_
    refine tw_put rfl (fun f431 => ?_)
    refine tG_set f431 (hw_44_8 f431 (g0).1) (fun hf431 ef431 => ?_)
    try dsimp only [tvI_i] at ef431
    have gf431 := cFr_s g0 ef431 (by decide)
    obtain ⟨pf431, sf431⟩ := cCnt hp q430 ef431
    refine tw_push rfl ?_
    exact tw_iret rfl ⟨gf431, Or.inl ⟨rfl, (if_neg (cn80 hp q430)).trans (congrArg (fun z => some (Sum.inr z)) sf431.symm), pf431, cI_o ef431 (by decide)⟩⟩
  · try dsimp only [tvI_i, tvJ_j, tvR_r] at q430
    have q430i := zeqi (Y := 80) (by decide) q430
    refine tw_aload rfl rfl ?_
    refine tw_aload rfl rfl ?_
    refine tw_getS rfl (hi_44_2 hs) ?_
    refine tw_push rfl ?_
    refine tw_virt2 rfl (f_refuse hG hX (g0).1 hp ((cFr_T g0).trans hT) ((cFr_n g0).trans hN)) (fun wp432 hp432 p432 => ?_)
    obtain ⟨gp432, rfl, up432⟩ := p432
    have ggp432 := cFr_t g0 gp432
    exact tw_iret rfl ⟨ggp432, Or.inr ⟨rfl, _, if_pos (c80 q430), cFt_of hp up432 rfl (by decide)⟩⟩
theorem f_takeSign {G : zG} (hG : G.1 = zProg) (hX : G.2.1 = ztx) {h : zH} {T : Nat → Int32} {n : Nat} (hs : tSh h) (hp : cP h) (hT : tA h 45 = T) (hN : cn h = n) {y : Int32} (hy : 0 ≤ y.toInt ∧ y.toInt ≤ 127) : tC zTt G 88 [.ref 44, .int y] h (cOut (rT T n y (cs h)) h) := by
  refine tC_in (by rw [hG]; rfl) (fun dp => ?_)
  have g0 := cFr_r hs
  have hpn : (cs h).1 ≤ n := by rw [← hN]; exact cP_le hp
  refine tw_aload rfl rfl ?_
  refine tw_virt0 rfl (f_signHere hG hX (g0).1 hp ((cFr_T g0).trans hT) ((cFr_n g0).trans hN)) (fun wp433 hp433 p433 => ?_)
  obtain ⟨gp433, ppp433, ssp433, t3p433, cp433, rfl, kp433⟩ := p433
  have ggp433 := cFr_t g0 gp433
  refine tw_iload rfl rfl ?_
  refine tw_ic_eq rfl (fun q434 => ?_) (fun q434 => ?_)
  · try dsimp only [tvI_i, tvJ_j, tvR_r] at q434
    have q434i := zeqi rfl q434
    refine tw_aload rfl rfl ?_
    refine tw_dup rfl ?_
    refine tw_getS rfl (hi_44_2 ggp433.1) ?_
    refine tw_push rfl ?_
    refine tw_iadd rfl ?_
    refine tw_put rfl (fun f435 => ?_)
    refine tG_set f435 (hw_44_2 f435 (ggp433).1) (fun hf435 ef435 => ?_)
    try dsimp only [tvI_i] at ef435
    have gf435 := cFr_s ggp433 ef435 (by decide)
    have wf435 := (sgn_k kp433 y hy).mp q434
    obtain ⟨pf435, sf435⟩ := cInc ppp433 (by rw [ssp433]; exact wf435.1) ((cFr_n ggp433).trans hN) ef435
    refine tw_push rfl ?_
    rw [ssp433] at sf435
    exact tw_iret rfl ⟨gf435, Or.inl ⟨rfl, (if_pos wf435).trans (congrArg (fun z => some (Sum.inr z)) sf435.symm), pf435⟩⟩
  · try dsimp only [tvI_i, tvJ_j, tvR_r] at q434
    have q434i := zneq rfl q434
    refine tw_aload rfl rfl ?_
    refine tw_aload rfl rfl ?_
    refine tw_getS rfl (hi_44_2 ggp433.1) ?_
    refine tw_push rfl ?_
    refine tw_virt2 rfl (f_refuse hG hX (ggp433).1 ppp433 ((cFr_T ggp433).trans hT) ((cFr_n ggp433).trans hN)) (fun wp436 hp436 p436 => ?_)
    obtain ⟨gp436, rfl, up436⟩ := p436
    have ggp436 := cFr_t ggp433 gp436
    have hf := cFt_of ppp433 up436 (w := 0) rfl (by decide)
    rw [ssp433] at hf
    exact tw_iret rfl ⟨ggp436, Or.inr ⟨rfl, _, if_neg (fun z => q434 ((sgn_k kp433 y hy).mpr z)), hf⟩⟩
theorem f_putCode {G : zG} (hG : G.1 = zProg) (hX : G.2.1 = ztx) {h : zH} {T : Nat → Int32} {n : Nat} (hs : tSh h) (hp : cP h) (hT : tA h 45 = T) (hN : cn h = n) {k : Int32} (hc : (tvI (tF h 44 5)).toInt < (tvI (tF h 44 2)).toInt) : tC zTt G 92 [.ref 44, .int k] h (fun w h2 => cFr h h2 ∧ w = none ∧ cs h2 = rU k.toNatClampNeg (cs h) ∧ cP h2) := by
  refine tC_in (by rw [hG]; rfl) (fun dp => ?_)
  have g0 := cFr_r hs
  have hpn : (cs h).1 ≤ n := by rw [← hN]; exact cP_le hp
  refine tw_aload rfl rfl ?_
  refine tw_getS rfl (hi_44_5 hs) ?_
  refine tw_aload rfl rfl ?_
  refine tw_getS rfl (hs_44_4 hs) ?_
  refine tw_alen rfl ?_
  refine tw_ic_ge rfl (fun q437 => ?_) (fun q437 => ?_)
  · try dsimp only [tvI_i, tvJ_j, tvR_r] at q437
    exact absurd (show (Int32.ofNat (tN h 46)).toInt ≤ (tvI (tF h 44 5)).toInt from q437) (by rw [hp.2.2.2.2.1]; show ¬ (400 : Int) ≤ _; have := hp.1; omega)
  · try dsimp only [tvI_i, tvJ_j, tvR_r] at q437
    refine tw_aload rfl rfl ?_
    refine tw_getS rfl (hs_44_4 hs) ?_
    refine tw_aload rfl rfl ?_
    refine tw_getS rfl (hi_44_5 hs) ?_
    refine tw_iload rfl rfl ?_
    refine tw_iast rfl (fun f438 => ?_)
    refine tw_aload rfl rfl ?_
    refine tw_dup rfl ?_
    refine tw_getS rfl (tF_a (hi_44_5 hs)) ?_
    refine tw_push rfl ?_
    refine tw_iadd rfl ?_
    refine tw_put rfl (fun f439 => ?_)
    have hk := cPut_of (k := k) hs hp hc f438 f439
    exact tw_vret rfl ⟨hk.1, rfl, hk.2.1, hk.2.2⟩
/-- the words' text, gone through from a place on -/
noncomputable def scn (T : Nat → Int32) (e b : Nat) : List Int32 → Nat → Nat → Bool → Option Nat
  | [], _, _, _ => none
  | c :: r, w, a, sm => if c = 32 then (if sm && Nat.beq a e then some w else scn T e b r (w + 1) b true) else scn T e b r w (a + 1) (sm && (Nat.blt a e && decide (T a = c)))
theorem scn_w {T : Nat → Int32} {e b k : Nat} {r : List Int32} : ∀ (w : List Int32) (a : Nat) (sm : Bool), w.all (fun c => !(decide (c = 32))) = true → scn T e b (w ++ 32 :: r) k a sm = if (sm && (Nat.beq (a + w.length) e && rQ T a w)) = true then some k else scn T e b r (k + 1) b true
  | [], a, sm, _ => by
    show (if (32 : Int32) = 32 then _ else _) = _
    rw [if_pos rfl]
    show (if (sm && Nat.beq a e) = true then _ else _) = (if (sm && (Nat.beq a e && true)) = true then _ else _)
    rw [Bool.and_true]
  | c :: w, a, sm, h => by
    rw [List.all_cons, Bool.and_eq_true] at h
    have hc : ¬ c = 32 := by
      intro z
      rw [z] at h
      exact absurd h.1 (by decide)
    show (if c = 32 then _ else scn T e b (w ++ 32 :: r) k (a + 1) (sm && (Nat.blt a e && decide (T a = c)))) = _
    rw [if_neg hc, scn_w w (a + 1) _ h.2]
    have e1 : a + 1 + w.length = a + (c :: w).length := by rw [List.length_cons]; omega
    rw [e1]
    have e2 : (sm && (Nat.blt a e && decide (T a = c)) && (Nat.beq (a + (c :: w).length) e && rQ T (a + 1) w)) = (sm && (Nat.beq (a + (c :: w).length) e && rQ T a (c :: w))) := by
      have e3 : rQ T a (c :: w) = (decide (T a = c) && rQ T (a + 1) w) := rfl
      rw [e3]
      cases hq : Nat.beq (a + (c :: w).length) e with
      | false => simp
      | true =>
        have h2 := Nat.eq_of_beq_eq_true hq
        rw [List.length_cons] at h2
        have h3 : Nat.blt a e = true := Nat.ble_eq.mpr (by omega)
        rw [h3]
        cases sm <;> cases decide (T a = c) <;> rfl
    rw [e2]
noncomputable def wdl : Nat → Nat → List Int32
  | 0, _ => []
  | m + 1, k => rWd k ++ 32 :: wdl m (k + 1)
theorem wdl_1 : ztx 1 = wdl 20 0 := by decide +kernel
theorem wdl_32 : (List.range 20).all (fun k => (rWd k).all (fun c => !(decide (c = 32)))) = true := by decide +kernel
theorem scn_l {T : Nat → Int32} {n b : Nat} : ∀ (m k : Nat), k + m ≤ 20 → (scn T (rE T n b) b (wdl m k) k b true = none ∧ ∀ j, k ≤ j → j < k + m → ¬ rW T n b (rWd j) = true) ∨ ∃ j, k ≤ j ∧ j < k + m ∧ scn T (rE T n b) b (wdl m k) k b true = some j ∧ rW T n b (rWd j) = true
  | 0, k, _ => Or.inl ⟨rfl, fun j h1 h2 => by omega⟩
  | m + 1, k, hk => by
    have h32 := List.all_eq_true.mp wdl_32 k (List.mem_range.mpr (by omega))
    have e : scn T (rE T n b) b (wdl (m + 1) k) k b true = _ := scn_w (rWd k) b true h32
    have e2 : (true && (Nat.beq (b + (rWd k).length) (rE T n b) && rQ T b (rWd k))) = rW T n b (rWd k) := by
      unfold rW
      rw [Bool.true_and]
      refine congrArg (fun z => z && _) ?_
      rw [Bool.eq_iff_iff]
      exact ⟨fun z => by rw [Nat.eq_of_beq_eq_true z]; exact Nat.beq_refl _, fun z => by rw [Nat.eq_of_beq_eq_true z]; exact Nat.beq_refl _⟩
    rw [e2] at e
    rw [e]
    by_cases c : rW T n b (rWd k) = true
    · rw [if_pos c]
      exact Or.inr ⟨k, Nat.le_refl _, by omega, rfl, c⟩
    · rw [if_neg c]
      rcases scn_l m (k + 1) (by omega) with ⟨a1, a2⟩ | ⟨j, a1, a2, a3, a4⟩
      · refine Or.inl ⟨a1, fun j h1 h2 => ?_⟩
        by_cases z : j = k
        · rw [z]; exact c
        · exact a2 j (by omega) (by omega)
      · exact Or.inr ⟨j, by omega, by omega, a3, a4⟩
noncomputable def wrd (T : Nat → Int32) (n b : Nat) (i : Int32) : Prop := (-1 ≤ i.toInt ∧ i.toInt < 20) ∧ ∀ k : Nat, k < 20 → (i.toInt = k ↔ rW T n b (rWd k) = true)
theorem wrd_n {T : Nat → Int32} {n b : Nat} (h : scn T (rE T n b) b (ztx 1) 0 b true = none) : wrd T n b (-1) := by
  rw [wdl_1] at h
  refine ⟨by decide, fun k hk => ⟨fun z => ?_, fun z => ?_⟩⟩
  · exfalso
    have : ((-1 : Int32)).toInt = -1 := by decide
    omega
  · rcases scn_l (T := T) (n := n) (b := b) 20 0 (by omega) with ⟨-, a2⟩ | ⟨j, -, -, a3, -⟩
    · exact absurd z (a2 k (by omega) (by omega))
    · rw [h] at a3; cases a3
theorem wrd_s {T : Nat → Int32} {n b : Nat} {i : Int32} {w : Nat} (h : scn T (rE T n b) b (ztx 1) 0 b true = some w) (hi : i.toInt = w) : wrd T n b i := by
  rw [wdl_1] at h
  rcases scn_l (T := T) (n := n) (b := b) 20 0 (by omega) with ⟨a1, -⟩ | ⟨j, -, a2, a3, a4⟩
  · rw [h] at a1; cases a1
  · rw [h] at a3
    cases a3
    refine ⟨by omega, fun k hk => ⟨fun z => ?_, fun z => ?_⟩⟩
    · have : w = k := by omega
      rw [← this]; exact a4
    · have := rW_ij (by omega) hk a4 z
      omega
theorem wlen : (ztx 1).length = 98 ∨ (ztx 1).length ≤ 200 := Or.inr (by decide +kernel)
theorem scn_d {T : Nat → Int32} {e b w a : Nat} {sm : Bool} {l : List Int32} {i : Nat} {R : Option Nat} (h : scn T e b (l.drop i) w a sm = R) (hi : i < l.length) : (if l.getD i 0 = 32 then (if sm && Nat.beq a e then some w else scn T e b (l.drop (i + 1)) (w + 1) b true) else scn T e b (l.drop (i + 1)) w (a + 1) (sm && (Nat.blt a e && decide (T a = l.getD i 0)))) = R := by
  rw [List.drop_eq_getElem_cons hi] at h
  rw [List.getD_eq_getElem?_getD, List.getElem?_eq_getElem hi]
  exact h
theorem scn_e {T : Nat → Int32} {e b w a : Nat} {sm : Bool} {l : List Int32} {i : Nat} {R : Option Nat} (h : scn T e b (l.drop i) w a sm = R) (hi : l.length ≤ i) : R = none := by
  rw [List.drop_eq_nil_of_le hi] at h
  exact h.symm
theorem cPl {h : zH} (p : cP h) : (tvI (tF h 44 2)).toInt = ((cs h).1 : Int) := by
  show _ = ((tvI (tF h 44 2)).toNatClampNeg : Int)
  rw [zclE]
  have := p.1
  omega
theorem cNl {h : zH} {n : Nat} (p : cP h) (hn : cn h = n) : (tvI (tF h 44 1)).toInt = (n : Int) := by
  rw [← hn]
  show _ = ((tvI (tF h 44 1)).toNatClampNeg : Int)
  rw [zclE]
  have := p.1
  omega
theorem wr_e {T : Nat → Int32} {n b k : Nat} (he : rE T n (b + k) = rE T n b) (h : ¬ (b + k < n ∧ 97 ≤ (T (b + k)).toInt ∧ (T (b + k)).toInt ≤ 122)) : rE T n b = b + k := he.symm.trans (rE_n h)
theorem f_wordHere {G : zG} (hG : G.1 = zProg) (hX : G.2.1 = ztx) {h : zH} {T : Nat → Int32} {n : Nat} (hs : tSh h) (hp : cP h) (hT : tA h 45 = T) (hN : cn h = n)  : tC zTt G 91 [.ref 44] h (fun w h2 => cFr h h2 ∧ cP h2 ∧ cs h2 = rA (rB T n (cs h).1) (cs h) ∧ (tvI (tF h2 44 3)).toInt = ((rE T n (rB T n (cs h).1) : Nat) : Int) ∧ ∃ i, w = some (.int i) ∧ wrd T n (rB T n (cs h).1) i) := by
  refine tC_in (by rw [hG]; rfl) (fun dp => ?_)
  have g0 := cFr_r hs
  have hpn : (cs h).1 ≤ n := by rw [← hN]; exact cP_le hp
  have c979 : (97 : Int32).toInt = 97 := rfl
  have c1229 : (122 : Int32).toInt = 122 := rfl
  refine tw_aload rfl rfl ?_
  refine tw_virt0 rfl (f_signHere hG hX (g0).1 hp ((cFr_T g0).trans hT) ((cFr_n g0).trans hN)) (fun wp440 hp440 p440 => ?_)
  obtain ⟨gp440, ppp440, ssp440, t3p440, cp440, rfl, kp440⟩ := p440
  have ggp440 := cFr_t g0 gp440
  refine tw_pop rfl ?_
  refine tw_aload rfl rfl ?_
  refine tw_aload rfl rfl ?_
  refine tw_getS rfl (hi_44_2 ggp440.1) ?_
  refine tw_put rfl (fun f441 => ?_)
  refine tG_set f441 (hw_44_3 f441 (ggp440).1) (fun hf441 ef441 => ?_)
  try dsimp only [tvI_i] at ef441
  have gf441 := cFr_s ggp440 ef441 (by decide)
  have sf441 := cs_o ef441 (by decide) (by decide) (by decide)
  have pf441 := cP_o ppp440 ef441 (by decide)
  have wf441 := cI_x ef441
  have vf441 := cI_o (q := 1) ef441 (by decide)
  have yf441 := cI_o (q := 2) ef441 (by decide)
  refine tG_loop (zW_mono zTt G dp) (zW_conj zTt G dp) (V := fun pc L st h9 _ _ => pc = 13 ∧ st = [] ∧ ∃ (h1 : zH) (k : Nat) (a b c d e : Option Value), h1 = h9 ∧ cFr h h1 ∧ cP h1 ∧ cs h1 = rA (rB T n (cs h).1) (cs h) ∧ (tvI (tF h1 44 3)).toInt = (((rB T n (cs h).1) + k : Nat) : Int) ∧ (rB T n (cs h).1) + k ≤ n ∧ rE T n ((rB T n (cs h).1) + k) = rE T n (rB T n (cs h).1) ∧ L = [some (.ref 44), a, b, c, d, e]) ?_ (⟨rfl, rfl, _, 0, _, _, _, _, _, rfl, gf441, pf441, sf441.trans ssp440, by rw [wf441, cPl ppp440, ssp440]; rfl, (by have := cP_le ppp440; rw [((cFr_n ggp440).trans hN), ssp440] at this; exact this), rfl, rfl⟩)
  rintro _ _ _ _ _ _ ⟨rfl, rfl, h1, k, a, b, c, d, e, rfl, g1, p1, hσ, hk, hkn, he, rfl⟩
  refine tw_aload rfl rfl ?_
  refine tw_getS rfl (hi_44_3 g1.1) ?_
  refine tw_aload rfl rfl ?_
  refine tw_getS rfl (hi_44_1 g1.1) ?_
  refine tw_ic_ge rfl (fun q442 => ?_) (fun q442 => ?_)
  · try dsimp only [tvI_i, tvJ_j, tvR_r] at q442
    refine tw_push rfl ?_
    refine tw_istore rfl ?_
    refine tw_aload rfl rfl ?_
    refine tw_getS rfl (hi_44_2 g1.1) ?_
    refine tw_istore rfl ?_
    refine tw_push rfl ?_
    refine tw_istore rfl ?_
    refine tw_push rfl ?_
    refine tw_istore rfl ?_
    have hend : (tvI (tF h1 44 3)).toInt = ((rE T n (rB T n (cs h).1) : Nat) : Int) := by
      rw [wr_e he (fun z => ?_), hk]
      have hix : (tvI (tF h1 44 3)).toNatClampNeg = (rB T n (cs h).1) + k := zof_cl hk
      have hTx := ((cFr_T g1).trans hT)
      have e9 : tA h1 45 (tvI (tF h1 44 3)).toNatClampNeg = T ((rB T n (cs h).1) + k) := by rw [hix, hTx]
      have e8 := cNl p1 ((cFr_n g1).trans hN)
      have z0 := q442
      try rw [e9] at z1
      try rw [e9] at z2
      omega
    refine tG_loop (zW_mono zTt G dp) (zW_conj zTt G dp) (V := fun pc L st h9 _ _ => pc = 77 ∧ st = [] ∧ h1 = h9 ∧ ∃ (i w2 a2 : Nat) (sm : Bool) (x word at9 same : Int32) (l5 : Option Value), x.toInt = i ∧ i ≤ (ztx 1).length ∧ word.toInt = w2 ∧ w2 ≤ i ∧ at9.toInt = a2 ∧ a2 ≤ 400 + i ∧ same = (if sm = true then 1 else 0) ∧ scn T (rE T n (rB T n (cs h).1)) (rB T n (cs h).1) ((ztx 1).drop i) w2 a2 sm = scn T (rE T n (rB T n (cs h).1)) (rB T n (cs h).1) (ztx 1) 0 (rB T n (cs h).1) true ∧ L = [some (.ref 44), some (.int word), some (.int at9), some (.int same), some (.int x), l5]) ?_ (⟨rfl, rfl, rfl, 0, 0, (rB T n (cs h).1), true, _, _, _, _, _, rfl, Nat.zero_le _, rfl, Nat.le_refl _, (show (tvI (tF h1 44 2)).toInt = (((rB T n (cs h).1) : Nat) : Int) from (cPl p1).trans (by rw [hσ]; rfl)), (by have := cP_400 p1; rw [((cFr_n g1).trans hN)] at this; omega), rfl, rfl, rfl⟩)
    rintro _ _ _ _ _ _ ⟨rfl, rfl, rfl, i, w2, a2, sm, x, word, at9, same, l5, hx, hi, hw, hwi, hat, ha4, hsame, hsc, rfl⟩
    refine tw_iload rfl rfl ?_
    refine tw_push rfl ?_
    refine tw_tlen rfl ?_
    refine tw_ic_ge rfl (fun q443 => ?_) (fun q443 => ?_)
    · try dsimp only [tvI_i, tvJ_j, tvR_r] at q443
      refine tw_push rfl ?_
      have hil : (ztx 1).length ≤ i := by have z := q443; rw [hX] at z; have e9 : (Int32.ofNat (ztx 1).length).toInt = ((ztx 1).length : Int) := zofI (by rcases wlen with y | y <;> omega); omega
      exact tw_iret rfl ⟨g1, p1, hσ, hend, _, rfl, wrd_n (scn_e hsc hil)⟩
    · try dsimp only [tvI_i, tvJ_j, tvR_r] at q443
      refine tw_push rfl ?_
      refine tw_iload rfl rfl ?_
      refine tw_chr rfl (fun _ => ?_)
      refine tw_istore rfl ?_
      refine tw_iload rfl rfl ?_
      refine tw_push rfl ?_
      refine tw_ic_eq rfl (fun q444 => ?_) (fun q444 => ?_)
      · try dsimp only [tvI_i, tvJ_j, tvR_r] at q444
        have q444i := zeqi (Y := 32) (by decide) q444
        refine tw_iload rfl rfl ?_
        refine tw_if_eq rfl (fun q445 => ?_) (fun q445 => ?_)
        · try dsimp only [tvI_i, tvJ_j, tvR_r] at q445
          have q445i := zeqi (Y := 0) (by decide) q445
          refine tw_iinc rfl rfl ?_
          refine tw_aload rfl rfl ?_
          refine tw_getS rfl (hi_44_2 g1.1) ?_
          refine tw_istore rfl ?_
          refine tw_push rfl ?_
          refine tw_istore rfl ?_
          refine tw_iinc rfl rfl ?_
          refine tw_goto rfl ?_
          have hil : i < (ztx 1).length := by have z := q443; rw [hX] at z; have e9 : (Int32.ofNat (ztx 1).length).toInt = ((ztx 1).length : Int) := zofI (by rcases wlen with y | y <;> omega); omega
          have hd := scn_d hsc hil
          have ec : ((G.2.1 1).getD x.toNatClampNeg 0) = (ztx 1).getD i 0 := by rw [hX, zof_cl hx]
          have e32 : (ztx 1).getD i 0 = 32 := ec ▸ q444
          rw [if_pos e32] at hd
          have hsm : sm = false := by cases sm with | false => rfl | true => exact absurd (hsame.symm.trans q445) (by decide)
          subst hsm
          rw [if_neg (show ¬ (false && Nat.beq a2 (rE T n (rB T n (cs h).1))) = true from Bool.false_ne_true)] at hd
          exact tG_cut (zW_mono zTt G dp) (Or.inr ⟨rfl, rfl, rfl, i + 1, w2 + 1, (rB T n (cs h).1), true, _, _, _, _, _, zincN hx (by rcases wlen with y | y <;> omega), by omega, zincN hw (by rcases wlen with y | y <;> omega), by omega, (show (tvI (tF h1 44 2)).toInt = (((rB T n (cs h).1) : Nat) : Int) from (cPl p1).trans (by rw [hσ]; rfl)), (by have := cP_400 p1; rw [((cFr_n g1).trans hN)] at this; omega), rfl, hd, rfl⟩)
        · try dsimp only [tvI_i, tvJ_j, tvR_r] at q445
          have q445i := zneq (Y := 0) (by decide) q445
          refine tw_iload rfl rfl ?_
          refine tw_aload rfl rfl ?_
          refine tw_getS rfl (hi_44_3 g1.1) ?_
          refine tw_ic_ne rfl (fun q446 => ?_) (fun q446 => ?_)
          · try dsimp only [tvI_i, tvJ_j, tvR_r] at q446
            have q446i := zneq rfl q446
            refine tw_iinc rfl rfl ?_
            refine tw_aload rfl rfl ?_
            refine tw_getS rfl (hi_44_2 g1.1) ?_
            refine tw_istore rfl ?_
            refine tw_push rfl ?_
            refine tw_istore rfl ?_
            refine tw_iinc rfl rfl ?_
            refine tw_goto rfl ?_
            have hil : i < (ztx 1).length := by have z := q443; rw [hX] at z; have e9 : (Int32.ofNat (ztx 1).length).toInt = ((ztx 1).length : Int) := zofI (by rcases wlen with y | y <;> omega); omega
            have hd := scn_d hsc hil
            have ec : ((G.2.1 1).getD x.toNatClampNeg 0) = (ztx 1).getD i 0 := by rw [hX, zof_cl hx]
            have e32 : (ztx 1).getD i 0 = 32 := ec ▸ q444
            rw [if_pos e32] at hd
            have hne : ¬ a2 = rE T n (rB T n (cs h).1) := fun z => q446 (Int32.toInt_inj.mp (by rw [hat, hend]; exact congrArg _ z))
            rw [if_neg (fun z => by rw [Bool.and_eq_true] at z; exact hne (Nat.eq_of_beq_eq_true z.2))] at hd
            exact tG_cut (zW_mono zTt G dp) (Or.inr ⟨rfl, rfl, rfl, i + 1, w2 + 1, (rB T n (cs h).1), true, _, _, _, _, _, zincN hx (by rcases wlen with y | y <;> omega), by omega, zincN hw (by rcases wlen with y | y <;> omega), by omega, (show (tvI (tF h1 44 2)).toInt = (((rB T n (cs h).1) : Nat) : Int) from (cPl p1).trans (by rw [hσ]; rfl)), (by have := cP_400 p1; rw [((cFr_n g1).trans hN)] at this; omega), rfl, hd, rfl⟩)
          · try dsimp only [tvI_i, tvJ_j, tvR_r] at q446
            have q446i := zeqi rfl q446
            refine tw_iload rfl rfl ?_
            have hil : i < (ztx 1).length := by have z := q443; rw [hX] at z; have e9 : (Int32.ofNat (ztx 1).length).toInt = ((ztx 1).length : Int) := zofI (by rcases wlen with y | y <;> omega); omega
            have hd := scn_d hsc hil
            have ec : ((G.2.1 1).getD x.toNatClampNeg 0) = (ztx 1).getD i 0 := by rw [hX, zof_cl hx]
            have e32 : (ztx 1).getD i 0 = 32 := ec ▸ q444
            rw [if_pos e32] at hd
            have hsm : sm = true := by cases sm with | true => rfl | false => exact absurd hsame q445
            subst hsm
            have hae : a2 = rE T n (rB T n (cs h).1) := by have z : at9.toInt = (tvI (tF h1 44 3)).toInt := congrArg Int32.toInt q446; omega
            rw [hae, if_pos (by rw [Bool.and_eq_true]; exact ⟨rfl, Nat.beq_refl _⟩)] at hd
            exact tw_iret rfl ⟨g1, p1, hσ, hend, _, rfl, wrd_s hd.symm hw⟩
      · try dsimp only [tvI_i, tvJ_j, tvR_r] at q444
        have q444i := zneq (Y := 32) (by decide) q444
        refine tw_iload rfl rfl ?_
        refine tw_if_eq rfl (fun q447 => ?_) (fun q447 => ?_)
        · try dsimp only [tvI_i, tvJ_j, tvR_r] at q447
          have q447i := zeqi (Y := 0) (by decide) q447
          refine tw_push rfl ?_
          refine tw_istore rfl ?_
          refine tw_iinc rfl rfl ?_
          refine tw_goto rfl ?_
          refine tw_iinc rfl rfl ?_
          refine tw_goto rfl ?_
          have hil : i < (ztx 1).length := by have z := q443; rw [hX] at z; have e9 : (Int32.ofNat (ztx 1).length).toInt = ((ztx 1).length : Int) := zofI (by rcases wlen with y | y <;> omega); omega
          have hd := scn_d hsc hil
          have ec : ((G.2.1 1).getD x.toNatClampNeg 0) = (ztx 1).getD i 0 := by rw [hX, zof_cl hx]
          have e32 : ¬ (ztx 1).getD i 0 = 32 := fun z => q444 (ec.trans z)
          rw [if_neg e32] at hd
          have hsm : sm = false := by cases sm with | false => rfl | true => exact absurd (hsame.symm.trans q447) (by decide)
          subst hsm
          exact tG_cut (zW_mono zTt G dp) (Or.inr ⟨rfl, rfl, rfl, i + 1, w2, a2 + 1, false, _, _, _, _, _, zincN hx (by rcases wlen with y | y <;> omega), by omega, hw, by omega, zincN hat (by rcases wlen with y | y <;> omega), by omega, rfl, hd, rfl⟩)
        · try dsimp only [tvI_i, tvJ_j, tvR_r] at q447
          have q447i := zneq (Y := 0) (by decide) q447
          refine tw_iload rfl rfl ?_
          refine tw_aload rfl rfl ?_
          refine tw_getS rfl (hi_44_3 g1.1) ?_
          refine tw_ic_ge rfl (fun q448 => ?_) (fun q448 => ?_)
          · try dsimp only [tvI_i, tvJ_j, tvR_r] at q448
            refine tw_push rfl ?_
            refine tw_istore rfl ?_
            refine tw_iinc rfl rfl ?_
            refine tw_goto rfl ?_
            refine tw_iinc rfl rfl ?_
            refine tw_goto rfl ?_
            have hil : i < (ztx 1).length := by have z := q443; rw [hX] at z; have e9 : (Int32.ofNat (ztx 1).length).toInt = ((ztx 1).length : Int) := zofI (by rcases wlen with y | y <;> omega); omega
            have hd := scn_d hsc hil
            have ec : ((G.2.1 1).getD x.toNatClampNeg 0) = (ztx 1).getD i 0 := by rw [hX, zof_cl hx]
            have e32 : ¬ (ztx 1).getD i 0 = 32 := fun z => q444 (ec.trans z)
            rw [if_neg e32] at hd
            have hsm : sm = true := by cases sm with | true => rfl | false => exact absurd hsame q447
            subst hsm
            have hb : Nat.blt a2 (rE T n (rB T n (cs h).1)) = false := by cases z : Nat.blt a2 (rE T n (rB T n (cs h).1)) with | false => rfl | true => have y : a2 < rE T n (rB T n (cs h).1) := Nat.le_of_ble_eq_true z; omega
            rw [hb] at hd
            exact tG_cut (zW_mono zTt G dp) (Or.inr ⟨rfl, rfl, rfl, i + 1, w2, a2 + 1, false, _, _, _, _, _, zincN hx (by rcases wlen with y | y <;> omega), by omega, hw, by omega, zincN hat (by rcases wlen with y | y <;> omega), by omega, rfl, hd, rfl⟩)
          · try dsimp only [tvI_i, tvJ_j, tvR_r] at q448
            refine tw_aload rfl rfl ?_
            refine tw_getS rfl (hs_44_0 g1.1) ?_
            refine tw_iload rfl rfl ?_
            refine tw_bald rfl (fun f449 => ?_)
            refine tw_iload rfl rfl ?_
            refine tw_ic_ne rfl (fun q450 => ?_) (fun q450 => ?_)
            · try dsimp only [tvI_i, tvJ_j, tvR_r] at q450
              have q450i := zneq rfl q450
              refine tw_push rfl ?_
              refine tw_istore rfl ?_
              refine tw_iinc rfl rfl ?_
              refine tw_goto rfl ?_
              refine tw_iinc rfl rfl ?_
              refine tw_goto rfl ?_
              have hil : i < (ztx 1).length := by have z := q443; rw [hX] at z; have e9 : (Int32.ofNat (ztx 1).length).toInt = ((ztx 1).length : Int) := zofI (by rcases wlen with y | y <;> omega); omega
              have hd := scn_d hsc hil
              have ec : ((G.2.1 1).getD x.toNatClampNeg 0) = (ztx 1).getD i 0 := by rw [hX, zof_cl hx]
              have e32 : ¬ (ztx 1).getD i 0 = 32 := fun z => q444 (ec.trans z)
              rw [if_neg e32] at hd
              have hsm : sm = true := by cases sm with | true => rfl | false => exact absurd hsame q447
              subst hsm
              have hb : Nat.blt a2 (rE T n (rB T n (cs h).1)) = true := Nat.ble_eq.mpr (by omega)
              rw [hb] at hd
              have et : tA h1 45 at9.toNatClampNeg = T a2 := by rw [zof_cl hat, ((cFr_T g1).trans hT)]
              rw [decide_eq_false (show ¬ T a2 = (ztx 1).getD i 0 from fun z => q450 (et.trans (z.trans ec.symm)))] at hd
              exact tG_cut (zW_mono zTt G dp) (Or.inr ⟨rfl, rfl, rfl, i + 1, w2, a2 + 1, false, _, _, _, _, _, zincN hx (by rcases wlen with y | y <;> omega), by omega, hw, by omega, zincN hat (by rcases wlen with y | y <;> omega), by omega, rfl, hd, rfl⟩)
            · try dsimp only [tvI_i, tvJ_j, tvR_r] at q450
              have q450i := zeqi rfl q450
              refine tw_push rfl ?_
              refine tw_goto rfl ?_
              refine tw_istore rfl ?_
              refine tw_iinc rfl rfl ?_
              refine tw_goto rfl ?_
              refine tw_iinc rfl rfl ?_
              refine tw_goto rfl ?_
              have hil : i < (ztx 1).length := by have z := q443; rw [hX] at z; have e9 : (Int32.ofNat (ztx 1).length).toInt = ((ztx 1).length : Int) := zofI (by rcases wlen with y | y <;> omega); omega
              have hd := scn_d hsc hil
              have ec : ((G.2.1 1).getD x.toNatClampNeg 0) = (ztx 1).getD i 0 := by rw [hX, zof_cl hx]
              have e32 : ¬ (ztx 1).getD i 0 = 32 := fun z => q444 (ec.trans z)
              rw [if_neg e32] at hd
              have hsm : sm = true := by cases sm with | true => rfl | false => exact absurd hsame q447
              subst hsm
              have hb : Nat.blt a2 (rE T n (rB T n (cs h).1)) = true := Nat.ble_eq.mpr (by omega)
              rw [hb] at hd
              have et : tA h1 45 at9.toNatClampNeg = T a2 := by rw [zof_cl hat, ((cFr_T g1).trans hT)]
              rw [decide_eq_true (show T a2 = (ztx 1).getD i 0 from et.symm.trans (q450.trans ec))] at hd
              exact tG_cut (zW_mono zTt G dp) (Or.inr ⟨rfl, rfl, rfl, i + 1, w2, a2 + 1, true, _, _, _, _, _, zincN hx (by rcases wlen with y | y <;> omega), by omega, hw, by omega, zincN hat (by rcases wlen with y | y <;> omega), by omega, rfl, hd, rfl⟩)
  · try dsimp only [tvI_i, tvJ_j, tvR_r] at q442
    refine tw_aload rfl rfl ?_
    refine tw_getS rfl (hs_44_0 g1.1) ?_
    refine tw_aload rfl rfl ?_
    refine tw_getS rfl (hi_44_3 g1.1) ?_
    refine tw_bald rfl (fun f451 => ?_)
    refine tw_push rfl ?_
    refine tw_ic_lt rfl (fun q452 => ?_) (fun q452 => ?_)
    · try dsimp only [tvI_i, tvJ_j, tvR_r] at q452
      refine tw_push rfl ?_
      refine tw_istore rfl ?_
      refine tw_aload rfl rfl ?_
      refine tw_getS rfl (hi_44_2 g1.1) ?_
      refine tw_istore rfl ?_
      refine tw_push rfl ?_
      refine tw_istore rfl ?_
      refine tw_push rfl ?_
      refine tw_istore rfl ?_
      have hend : (tvI (tF h1 44 3)).toInt = ((rE T n (rB T n (cs h).1) : Nat) : Int) := by
        rw [wr_e he (fun z => ?_), hk]
        have hix : (tvI (tF h1 44 3)).toNatClampNeg = (rB T n (cs h).1) + k := zof_cl hk
        have hTx := ((cFr_T g1).trans hT)
        have e9 : tA h1 45 (tvI (tF h1 44 3)).toNatClampNeg = T ((rB T n (cs h).1) + k) := by rw [hix, hTx]
        have e8 := cNl p1 ((cFr_n g1).trans hN)
        have z0 := q442
        have z1 := q452
        try rw [e9] at z1
        try rw [e9] at z2
        omega
      refine tG_loop (zW_mono zTt G dp) (zW_conj zTt G dp) (V := fun pc L st h9 _ _ => pc = 77 ∧ st = [] ∧ h1 = h9 ∧ ∃ (i w2 a2 : Nat) (sm : Bool) (x word at9 same : Int32) (l5 : Option Value), x.toInt = i ∧ i ≤ (ztx 1).length ∧ word.toInt = w2 ∧ w2 ≤ i ∧ at9.toInt = a2 ∧ a2 ≤ 400 + i ∧ same = (if sm = true then 1 else 0) ∧ scn T (rE T n (rB T n (cs h).1)) (rB T n (cs h).1) ((ztx 1).drop i) w2 a2 sm = scn T (rE T n (rB T n (cs h).1)) (rB T n (cs h).1) (ztx 1) 0 (rB T n (cs h).1) true ∧ L = [some (.ref 44), some (.int word), some (.int at9), some (.int same), some (.int x), l5]) ?_ (⟨rfl, rfl, rfl, 0, 0, (rB T n (cs h).1), true, _, _, _, _, _, rfl, Nat.zero_le _, rfl, Nat.le_refl _, (show (tvI (tF h1 44 2)).toInt = (((rB T n (cs h).1) : Nat) : Int) from (cPl p1).trans (by rw [hσ]; rfl)), (by have := cP_400 p1; rw [((cFr_n g1).trans hN)] at this; omega), rfl, rfl, rfl⟩)
      rintro _ _ _ _ _ _ ⟨rfl, rfl, rfl, i, w2, a2, sm, x, word, at9, same, l5, hx, hi, hw, hwi, hat, ha4, hsame, hsc, rfl⟩
      refine tw_iload rfl rfl ?_
      refine tw_push rfl ?_
      refine tw_tlen rfl ?_
      refine tw_ic_ge rfl (fun q453 => ?_) (fun q453 => ?_)
      · try dsimp only [tvI_i, tvJ_j, tvR_r] at q453
        refine tw_push rfl ?_
        have hil : (ztx 1).length ≤ i := by have z := q453; rw [hX] at z; have e9 : (Int32.ofNat (ztx 1).length).toInt = ((ztx 1).length : Int) := zofI (by rcases wlen with y | y <;> omega); omega
        exact tw_iret rfl ⟨g1, p1, hσ, hend, _, rfl, wrd_n (scn_e hsc hil)⟩
      · try dsimp only [tvI_i, tvJ_j, tvR_r] at q453
        refine tw_push rfl ?_
        refine tw_iload rfl rfl ?_
        refine tw_chr rfl (fun _ => ?_)
        refine tw_istore rfl ?_
        refine tw_iload rfl rfl ?_
        refine tw_push rfl ?_
        refine tw_ic_eq rfl (fun q454 => ?_) (fun q454 => ?_)
        · try dsimp only [tvI_i, tvJ_j, tvR_r] at q454
          have q454i := zeqi (Y := 32) (by decide) q454
          refine tw_iload rfl rfl ?_
          refine tw_if_eq rfl (fun q455 => ?_) (fun q455 => ?_)
          · try dsimp only [tvI_i, tvJ_j, tvR_r] at q455
            have q455i := zeqi (Y := 0) (by decide) q455
            refine tw_iinc rfl rfl ?_
            refine tw_aload rfl rfl ?_
            refine tw_getS rfl (hi_44_2 g1.1) ?_
            refine tw_istore rfl ?_
            refine tw_push rfl ?_
            refine tw_istore rfl ?_
            refine tw_iinc rfl rfl ?_
            refine tw_goto rfl ?_
            have hil : i < (ztx 1).length := by have z := q453; rw [hX] at z; have e9 : (Int32.ofNat (ztx 1).length).toInt = ((ztx 1).length : Int) := zofI (by rcases wlen with y | y <;> omega); omega
            have hd := scn_d hsc hil
            have ec : ((G.2.1 1).getD x.toNatClampNeg 0) = (ztx 1).getD i 0 := by rw [hX, zof_cl hx]
            have e32 : (ztx 1).getD i 0 = 32 := ec ▸ q454
            rw [if_pos e32] at hd
            have hsm : sm = false := by cases sm with | false => rfl | true => exact absurd (hsame.symm.trans q455) (by decide)
            subst hsm
            rw [if_neg (show ¬ (false && Nat.beq a2 (rE T n (rB T n (cs h).1))) = true from Bool.false_ne_true)] at hd
            exact tG_cut (zW_mono zTt G dp) (Or.inr ⟨rfl, rfl, rfl, i + 1, w2 + 1, (rB T n (cs h).1), true, _, _, _, _, _, zincN hx (by rcases wlen with y | y <;> omega), by omega, zincN hw (by rcases wlen with y | y <;> omega), by omega, (show (tvI (tF h1 44 2)).toInt = (((rB T n (cs h).1) : Nat) : Int) from (cPl p1).trans (by rw [hσ]; rfl)), (by have := cP_400 p1; rw [((cFr_n g1).trans hN)] at this; omega), rfl, hd, rfl⟩)
          · try dsimp only [tvI_i, tvJ_j, tvR_r] at q455
            have q455i := zneq (Y := 0) (by decide) q455
            refine tw_iload rfl rfl ?_
            refine tw_aload rfl rfl ?_
            refine tw_getS rfl (hi_44_3 g1.1) ?_
            refine tw_ic_ne rfl (fun q456 => ?_) (fun q456 => ?_)
            · try dsimp only [tvI_i, tvJ_j, tvR_r] at q456
              have q456i := zneq rfl q456
              refine tw_iinc rfl rfl ?_
              refine tw_aload rfl rfl ?_
              refine tw_getS rfl (hi_44_2 g1.1) ?_
              refine tw_istore rfl ?_
              refine tw_push rfl ?_
              refine tw_istore rfl ?_
              refine tw_iinc rfl rfl ?_
              refine tw_goto rfl ?_
              have hil : i < (ztx 1).length := by have z := q453; rw [hX] at z; have e9 : (Int32.ofNat (ztx 1).length).toInt = ((ztx 1).length : Int) := zofI (by rcases wlen with y | y <;> omega); omega
              have hd := scn_d hsc hil
              have ec : ((G.2.1 1).getD x.toNatClampNeg 0) = (ztx 1).getD i 0 := by rw [hX, zof_cl hx]
              have e32 : (ztx 1).getD i 0 = 32 := ec ▸ q454
              rw [if_pos e32] at hd
              have hne : ¬ a2 = rE T n (rB T n (cs h).1) := fun z => q456 (Int32.toInt_inj.mp (by rw [hat, hend]; exact congrArg _ z))
              rw [if_neg (fun z => by rw [Bool.and_eq_true] at z; exact hne (Nat.eq_of_beq_eq_true z.2))] at hd
              exact tG_cut (zW_mono zTt G dp) (Or.inr ⟨rfl, rfl, rfl, i + 1, w2 + 1, (rB T n (cs h).1), true, _, _, _, _, _, zincN hx (by rcases wlen with y | y <;> omega), by omega, zincN hw (by rcases wlen with y | y <;> omega), by omega, (show (tvI (tF h1 44 2)).toInt = (((rB T n (cs h).1) : Nat) : Int) from (cPl p1).trans (by rw [hσ]; rfl)), (by have := cP_400 p1; rw [((cFr_n g1).trans hN)] at this; omega), rfl, hd, rfl⟩)
            · try dsimp only [tvI_i, tvJ_j, tvR_r] at q456
              have q456i := zeqi rfl q456
              refine tw_iload rfl rfl ?_
              have hil : i < (ztx 1).length := by have z := q453; rw [hX] at z; have e9 : (Int32.ofNat (ztx 1).length).toInt = ((ztx 1).length : Int) := zofI (by rcases wlen with y | y <;> omega); omega
              have hd := scn_d hsc hil
              have ec : ((G.2.1 1).getD x.toNatClampNeg 0) = (ztx 1).getD i 0 := by rw [hX, zof_cl hx]
              have e32 : (ztx 1).getD i 0 = 32 := ec ▸ q454
              rw [if_pos e32] at hd
              have hsm : sm = true := by cases sm with | true => rfl | false => exact absurd hsame q455
              subst hsm
              have hae : a2 = rE T n (rB T n (cs h).1) := by have z : at9.toInt = (tvI (tF h1 44 3)).toInt := congrArg Int32.toInt q456; omega
              rw [hae, if_pos (by rw [Bool.and_eq_true]; exact ⟨rfl, Nat.beq_refl _⟩)] at hd
              exact tw_iret rfl ⟨g1, p1, hσ, hend, _, rfl, wrd_s hd.symm hw⟩
        · try dsimp only [tvI_i, tvJ_j, tvR_r] at q454
          have q454i := zneq (Y := 32) (by decide) q454
          refine tw_iload rfl rfl ?_
          refine tw_if_eq rfl (fun q457 => ?_) (fun q457 => ?_)
          · try dsimp only [tvI_i, tvJ_j, tvR_r] at q457
            have q457i := zeqi (Y := 0) (by decide) q457
            refine tw_push rfl ?_
            refine tw_istore rfl ?_
            refine tw_iinc rfl rfl ?_
            refine tw_goto rfl ?_
            refine tw_iinc rfl rfl ?_
            refine tw_goto rfl ?_
            have hil : i < (ztx 1).length := by have z := q453; rw [hX] at z; have e9 : (Int32.ofNat (ztx 1).length).toInt = ((ztx 1).length : Int) := zofI (by rcases wlen with y | y <;> omega); omega
            have hd := scn_d hsc hil
            have ec : ((G.2.1 1).getD x.toNatClampNeg 0) = (ztx 1).getD i 0 := by rw [hX, zof_cl hx]
            have e32 : ¬ (ztx 1).getD i 0 = 32 := fun z => q454 (ec.trans z)
            rw [if_neg e32] at hd
            have hsm : sm = false := by cases sm with | false => rfl | true => exact absurd (hsame.symm.trans q457) (by decide)
            subst hsm
            exact tG_cut (zW_mono zTt G dp) (Or.inr ⟨rfl, rfl, rfl, i + 1, w2, a2 + 1, false, _, _, _, _, _, zincN hx (by rcases wlen with y | y <;> omega), by omega, hw, by omega, zincN hat (by rcases wlen with y | y <;> omega), by omega, rfl, hd, rfl⟩)
          · try dsimp only [tvI_i, tvJ_j, tvR_r] at q457
            have q457i := zneq (Y := 0) (by decide) q457
            refine tw_iload rfl rfl ?_
            refine tw_aload rfl rfl ?_
            refine tw_getS rfl (hi_44_3 g1.1) ?_
            refine tw_ic_ge rfl (fun q458 => ?_) (fun q458 => ?_)
            · try dsimp only [tvI_i, tvJ_j, tvR_r] at q458
              refine tw_push rfl ?_
              refine tw_istore rfl ?_
              refine tw_iinc rfl rfl ?_
              refine tw_goto rfl ?_
              refine tw_iinc rfl rfl ?_
              refine tw_goto rfl ?_
              have hil : i < (ztx 1).length := by have z := q453; rw [hX] at z; have e9 : (Int32.ofNat (ztx 1).length).toInt = ((ztx 1).length : Int) := zofI (by rcases wlen with y | y <;> omega); omega
              have hd := scn_d hsc hil
              have ec : ((G.2.1 1).getD x.toNatClampNeg 0) = (ztx 1).getD i 0 := by rw [hX, zof_cl hx]
              have e32 : ¬ (ztx 1).getD i 0 = 32 := fun z => q454 (ec.trans z)
              rw [if_neg e32] at hd
              have hsm : sm = true := by cases sm with | true => rfl | false => exact absurd hsame q457
              subst hsm
              have hb : Nat.blt a2 (rE T n (rB T n (cs h).1)) = false := by cases z : Nat.blt a2 (rE T n (rB T n (cs h).1)) with | false => rfl | true => have y : a2 < rE T n (rB T n (cs h).1) := Nat.le_of_ble_eq_true z; omega
              rw [hb] at hd
              exact tG_cut (zW_mono zTt G dp) (Or.inr ⟨rfl, rfl, rfl, i + 1, w2, a2 + 1, false, _, _, _, _, _, zincN hx (by rcases wlen with y | y <;> omega), by omega, hw, by omega, zincN hat (by rcases wlen with y | y <;> omega), by omega, rfl, hd, rfl⟩)
            · try dsimp only [tvI_i, tvJ_j, tvR_r] at q458
              refine tw_aload rfl rfl ?_
              refine tw_getS rfl (hs_44_0 g1.1) ?_
              refine tw_iload rfl rfl ?_
              refine tw_bald rfl (fun f459 => ?_)
              refine tw_iload rfl rfl ?_
              refine tw_ic_ne rfl (fun q460 => ?_) (fun q460 => ?_)
              · try dsimp only [tvI_i, tvJ_j, tvR_r] at q460
                have q460i := zneq rfl q460
                refine tw_push rfl ?_
                refine tw_istore rfl ?_
                refine tw_iinc rfl rfl ?_
                refine tw_goto rfl ?_
                refine tw_iinc rfl rfl ?_
                refine tw_goto rfl ?_
                have hil : i < (ztx 1).length := by have z := q453; rw [hX] at z; have e9 : (Int32.ofNat (ztx 1).length).toInt = ((ztx 1).length : Int) := zofI (by rcases wlen with y | y <;> omega); omega
                have hd := scn_d hsc hil
                have ec : ((G.2.1 1).getD x.toNatClampNeg 0) = (ztx 1).getD i 0 := by rw [hX, zof_cl hx]
                have e32 : ¬ (ztx 1).getD i 0 = 32 := fun z => q454 (ec.trans z)
                rw [if_neg e32] at hd
                have hsm : sm = true := by cases sm with | true => rfl | false => exact absurd hsame q457
                subst hsm
                have hb : Nat.blt a2 (rE T n (rB T n (cs h).1)) = true := Nat.ble_eq.mpr (by omega)
                rw [hb] at hd
                have et : tA h1 45 at9.toNatClampNeg = T a2 := by rw [zof_cl hat, ((cFr_T g1).trans hT)]
                rw [decide_eq_false (show ¬ T a2 = (ztx 1).getD i 0 from fun z => q460 (et.trans (z.trans ec.symm)))] at hd
                exact tG_cut (zW_mono zTt G dp) (Or.inr ⟨rfl, rfl, rfl, i + 1, w2, a2 + 1, false, _, _, _, _, _, zincN hx (by rcases wlen with y | y <;> omega), by omega, hw, by omega, zincN hat (by rcases wlen with y | y <;> omega), by omega, rfl, hd, rfl⟩)
              · try dsimp only [tvI_i, tvJ_j, tvR_r] at q460
                have q460i := zeqi rfl q460
                refine tw_push rfl ?_
                refine tw_goto rfl ?_
                refine tw_istore rfl ?_
                refine tw_iinc rfl rfl ?_
                refine tw_goto rfl ?_
                refine tw_iinc rfl rfl ?_
                refine tw_goto rfl ?_
                have hil : i < (ztx 1).length := by have z := q453; rw [hX] at z; have e9 : (Int32.ofNat (ztx 1).length).toInt = ((ztx 1).length : Int) := zofI (by rcases wlen with y | y <;> omega); omega
                have hd := scn_d hsc hil
                have ec : ((G.2.1 1).getD x.toNatClampNeg 0) = (ztx 1).getD i 0 := by rw [hX, zof_cl hx]
                have e32 : ¬ (ztx 1).getD i 0 = 32 := fun z => q454 (ec.trans z)
                rw [if_neg e32] at hd
                have hsm : sm = true := by cases sm with | true => rfl | false => exact absurd hsame q457
                subst hsm
                have hb : Nat.blt a2 (rE T n (rB T n (cs h).1)) = true := Nat.ble_eq.mpr (by omega)
                rw [hb] at hd
                have et : tA h1 45 at9.toNatClampNeg = T a2 := by rw [zof_cl hat, ((cFr_T g1).trans hT)]
                rw [decide_eq_true (show T a2 = (ztx 1).getD i 0 from et.symm.trans (q460.trans ec))] at hd
                exact tG_cut (zW_mono zTt G dp) (Or.inr ⟨rfl, rfl, rfl, i + 1, w2, a2 + 1, true, _, _, _, _, _, zincN hx (by rcases wlen with y | y <;> omega), by omega, hw, by omega, zincN hat (by rcases wlen with y | y <;> omega), by omega, rfl, hd, rfl⟩)
    · try dsimp only [tvI_i, tvJ_j, tvR_r] at q452
      refine tw_aload rfl rfl ?_
      refine tw_getS rfl (hs_44_0 g1.1) ?_
      refine tw_aload rfl rfl ?_
      refine tw_getS rfl (hi_44_3 g1.1) ?_
      refine tw_bald rfl (fun f461 => ?_)
      refine tw_push rfl ?_
      refine tw_ic_gt rfl (fun q462 => ?_) (fun q462 => ?_)
      · try dsimp only [tvI_i, tvJ_j, tvR_r] at q462
        refine tw_push rfl ?_
        refine tw_istore rfl ?_
        refine tw_aload rfl rfl ?_
        refine tw_getS rfl (hi_44_2 g1.1) ?_
        refine tw_istore rfl ?_
        refine tw_push rfl ?_
        refine tw_istore rfl ?_
        refine tw_push rfl ?_
        refine tw_istore rfl ?_
        have hend : (tvI (tF h1 44 3)).toInt = ((rE T n (rB T n (cs h).1) : Nat) : Int) := by
          rw [wr_e he (fun z => ?_), hk]
          have hix : (tvI (tF h1 44 3)).toNatClampNeg = (rB T n (cs h).1) + k := zof_cl hk
          have hTx := ((cFr_T g1).trans hT)
          have e9 : tA h1 45 (tvI (tF h1 44 3)).toNatClampNeg = T ((rB T n (cs h).1) + k) := by rw [hix, hTx]
          have e8 := cNl p1 ((cFr_n g1).trans hN)
          have z0 := q442
          have z1 := q452
          have z2 := q462
          try rw [e9] at z1
          try rw [e9] at z2
          omega
        refine tG_loop (zW_mono zTt G dp) (zW_conj zTt G dp) (V := fun pc L st h9 _ _ => pc = 77 ∧ st = [] ∧ h1 = h9 ∧ ∃ (i w2 a2 : Nat) (sm : Bool) (x word at9 same : Int32) (l5 : Option Value), x.toInt = i ∧ i ≤ (ztx 1).length ∧ word.toInt = w2 ∧ w2 ≤ i ∧ at9.toInt = a2 ∧ a2 ≤ 400 + i ∧ same = (if sm = true then 1 else 0) ∧ scn T (rE T n (rB T n (cs h).1)) (rB T n (cs h).1) ((ztx 1).drop i) w2 a2 sm = scn T (rE T n (rB T n (cs h).1)) (rB T n (cs h).1) (ztx 1) 0 (rB T n (cs h).1) true ∧ L = [some (.ref 44), some (.int word), some (.int at9), some (.int same), some (.int x), l5]) ?_ (⟨rfl, rfl, rfl, 0, 0, (rB T n (cs h).1), true, _, _, _, _, _, rfl, Nat.zero_le _, rfl, Nat.le_refl _, (show (tvI (tF h1 44 2)).toInt = (((rB T n (cs h).1) : Nat) : Int) from (cPl p1).trans (by rw [hσ]; rfl)), (by have := cP_400 p1; rw [((cFr_n g1).trans hN)] at this; omega), rfl, rfl, rfl⟩)
        rintro _ _ _ _ _ _ ⟨rfl, rfl, rfl, i, w2, a2, sm, x, word, at9, same, l5, hx, hi, hw, hwi, hat, ha4, hsame, hsc, rfl⟩
        refine tw_iload rfl rfl ?_
        refine tw_push rfl ?_
        refine tw_tlen rfl ?_
        refine tw_ic_ge rfl (fun q463 => ?_) (fun q463 => ?_)
        · try dsimp only [tvI_i, tvJ_j, tvR_r] at q463
          refine tw_push rfl ?_
          have hil : (ztx 1).length ≤ i := by have z := q463; rw [hX] at z; have e9 : (Int32.ofNat (ztx 1).length).toInt = ((ztx 1).length : Int) := zofI (by rcases wlen with y | y <;> omega); omega
          exact tw_iret rfl ⟨g1, p1, hσ, hend, _, rfl, wrd_n (scn_e hsc hil)⟩
        · try dsimp only [tvI_i, tvJ_j, tvR_r] at q463
          refine tw_push rfl ?_
          refine tw_iload rfl rfl ?_
          refine tw_chr rfl (fun _ => ?_)
          refine tw_istore rfl ?_
          refine tw_iload rfl rfl ?_
          refine tw_push rfl ?_
          refine tw_ic_eq rfl (fun q464 => ?_) (fun q464 => ?_)
          · try dsimp only [tvI_i, tvJ_j, tvR_r] at q464
            have q464i := zeqi (Y := 32) (by decide) q464
            refine tw_iload rfl rfl ?_
            refine tw_if_eq rfl (fun q465 => ?_) (fun q465 => ?_)
            · try dsimp only [tvI_i, tvJ_j, tvR_r] at q465
              have q465i := zeqi (Y := 0) (by decide) q465
              refine tw_iinc rfl rfl ?_
              refine tw_aload rfl rfl ?_
              refine tw_getS rfl (hi_44_2 g1.1) ?_
              refine tw_istore rfl ?_
              refine tw_push rfl ?_
              refine tw_istore rfl ?_
              refine tw_iinc rfl rfl ?_
              refine tw_goto rfl ?_
              have hil : i < (ztx 1).length := by have z := q463; rw [hX] at z; have e9 : (Int32.ofNat (ztx 1).length).toInt = ((ztx 1).length : Int) := zofI (by rcases wlen with y | y <;> omega); omega
              have hd := scn_d hsc hil
              have ec : ((G.2.1 1).getD x.toNatClampNeg 0) = (ztx 1).getD i 0 := by rw [hX, zof_cl hx]
              have e32 : (ztx 1).getD i 0 = 32 := ec ▸ q464
              rw [if_pos e32] at hd
              have hsm : sm = false := by cases sm with | false => rfl | true => exact absurd (hsame.symm.trans q465) (by decide)
              subst hsm
              rw [if_neg (show ¬ (false && Nat.beq a2 (rE T n (rB T n (cs h).1))) = true from Bool.false_ne_true)] at hd
              exact tG_cut (zW_mono zTt G dp) (Or.inr ⟨rfl, rfl, rfl, i + 1, w2 + 1, (rB T n (cs h).1), true, _, _, _, _, _, zincN hx (by rcases wlen with y | y <;> omega), by omega, zincN hw (by rcases wlen with y | y <;> omega), by omega, (show (tvI (tF h1 44 2)).toInt = (((rB T n (cs h).1) : Nat) : Int) from (cPl p1).trans (by rw [hσ]; rfl)), (by have := cP_400 p1; rw [((cFr_n g1).trans hN)] at this; omega), rfl, hd, rfl⟩)
            · try dsimp only [tvI_i, tvJ_j, tvR_r] at q465
              have q465i := zneq (Y := 0) (by decide) q465
              refine tw_iload rfl rfl ?_
              refine tw_aload rfl rfl ?_
              refine tw_getS rfl (hi_44_3 g1.1) ?_
              refine tw_ic_ne rfl (fun q466 => ?_) (fun q466 => ?_)
              · try dsimp only [tvI_i, tvJ_j, tvR_r] at q466
                have q466i := zneq rfl q466
                refine tw_iinc rfl rfl ?_
                refine tw_aload rfl rfl ?_
                refine tw_getS rfl (hi_44_2 g1.1) ?_
                refine tw_istore rfl ?_
                refine tw_push rfl ?_
                refine tw_istore rfl ?_
                refine tw_iinc rfl rfl ?_
                refine tw_goto rfl ?_
                have hil : i < (ztx 1).length := by have z := q463; rw [hX] at z; have e9 : (Int32.ofNat (ztx 1).length).toInt = ((ztx 1).length : Int) := zofI (by rcases wlen with y | y <;> omega); omega
                have hd := scn_d hsc hil
                have ec : ((G.2.1 1).getD x.toNatClampNeg 0) = (ztx 1).getD i 0 := by rw [hX, zof_cl hx]
                have e32 : (ztx 1).getD i 0 = 32 := ec ▸ q464
                rw [if_pos e32] at hd
                have hne : ¬ a2 = rE T n (rB T n (cs h).1) := fun z => q466 (Int32.toInt_inj.mp (by rw [hat, hend]; exact congrArg _ z))
                rw [if_neg (fun z => by rw [Bool.and_eq_true] at z; exact hne (Nat.eq_of_beq_eq_true z.2))] at hd
                exact tG_cut (zW_mono zTt G dp) (Or.inr ⟨rfl, rfl, rfl, i + 1, w2 + 1, (rB T n (cs h).1), true, _, _, _, _, _, zincN hx (by rcases wlen with y | y <;> omega), by omega, zincN hw (by rcases wlen with y | y <;> omega), by omega, (show (tvI (tF h1 44 2)).toInt = (((rB T n (cs h).1) : Nat) : Int) from (cPl p1).trans (by rw [hσ]; rfl)), (by have := cP_400 p1; rw [((cFr_n g1).trans hN)] at this; omega), rfl, hd, rfl⟩)
              · try dsimp only [tvI_i, tvJ_j, tvR_r] at q466
                have q466i := zeqi rfl q466
                refine tw_iload rfl rfl ?_
                have hil : i < (ztx 1).length := by have z := q463; rw [hX] at z; have e9 : (Int32.ofNat (ztx 1).length).toInt = ((ztx 1).length : Int) := zofI (by rcases wlen with y | y <;> omega); omega
                have hd := scn_d hsc hil
                have ec : ((G.2.1 1).getD x.toNatClampNeg 0) = (ztx 1).getD i 0 := by rw [hX, zof_cl hx]
                have e32 : (ztx 1).getD i 0 = 32 := ec ▸ q464
                rw [if_pos e32] at hd
                have hsm : sm = true := by cases sm with | true => rfl | false => exact absurd hsame q465
                subst hsm
                have hae : a2 = rE T n (rB T n (cs h).1) := by have z : at9.toInt = (tvI (tF h1 44 3)).toInt := congrArg Int32.toInt q466; omega
                rw [hae, if_pos (by rw [Bool.and_eq_true]; exact ⟨rfl, Nat.beq_refl _⟩)] at hd
                exact tw_iret rfl ⟨g1, p1, hσ, hend, _, rfl, wrd_s hd.symm hw⟩
          · try dsimp only [tvI_i, tvJ_j, tvR_r] at q464
            have q464i := zneq (Y := 32) (by decide) q464
            refine tw_iload rfl rfl ?_
            refine tw_if_eq rfl (fun q467 => ?_) (fun q467 => ?_)
            · try dsimp only [tvI_i, tvJ_j, tvR_r] at q467
              have q467i := zeqi (Y := 0) (by decide) q467
              refine tw_push rfl ?_
              refine tw_istore rfl ?_
              refine tw_iinc rfl rfl ?_
              refine tw_goto rfl ?_
              refine tw_iinc rfl rfl ?_
              refine tw_goto rfl ?_
              have hil : i < (ztx 1).length := by have z := q463; rw [hX] at z; have e9 : (Int32.ofNat (ztx 1).length).toInt = ((ztx 1).length : Int) := zofI (by rcases wlen with y | y <;> omega); omega
              have hd := scn_d hsc hil
              have ec : ((G.2.1 1).getD x.toNatClampNeg 0) = (ztx 1).getD i 0 := by rw [hX, zof_cl hx]
              have e32 : ¬ (ztx 1).getD i 0 = 32 := fun z => q464 (ec.trans z)
              rw [if_neg e32] at hd
              have hsm : sm = false := by cases sm with | false => rfl | true => exact absurd (hsame.symm.trans q467) (by decide)
              subst hsm
              exact tG_cut (zW_mono zTt G dp) (Or.inr ⟨rfl, rfl, rfl, i + 1, w2, a2 + 1, false, _, _, _, _, _, zincN hx (by rcases wlen with y | y <;> omega), by omega, hw, by omega, zincN hat (by rcases wlen with y | y <;> omega), by omega, rfl, hd, rfl⟩)
            · try dsimp only [tvI_i, tvJ_j, tvR_r] at q467
              have q467i := zneq (Y := 0) (by decide) q467
              refine tw_iload rfl rfl ?_
              refine tw_aload rfl rfl ?_
              refine tw_getS rfl (hi_44_3 g1.1) ?_
              refine tw_ic_ge rfl (fun q468 => ?_) (fun q468 => ?_)
              · try dsimp only [tvI_i, tvJ_j, tvR_r] at q468
                refine tw_push rfl ?_
                refine tw_istore rfl ?_
                refine tw_iinc rfl rfl ?_
                refine tw_goto rfl ?_
                refine tw_iinc rfl rfl ?_
                refine tw_goto rfl ?_
                have hil : i < (ztx 1).length := by have z := q463; rw [hX] at z; have e9 : (Int32.ofNat (ztx 1).length).toInt = ((ztx 1).length : Int) := zofI (by rcases wlen with y | y <;> omega); omega
                have hd := scn_d hsc hil
                have ec : ((G.2.1 1).getD x.toNatClampNeg 0) = (ztx 1).getD i 0 := by rw [hX, zof_cl hx]
                have e32 : ¬ (ztx 1).getD i 0 = 32 := fun z => q464 (ec.trans z)
                rw [if_neg e32] at hd
                have hsm : sm = true := by cases sm with | true => rfl | false => exact absurd hsame q467
                subst hsm
                have hb : Nat.blt a2 (rE T n (rB T n (cs h).1)) = false := by cases z : Nat.blt a2 (rE T n (rB T n (cs h).1)) with | false => rfl | true => have y : a2 < rE T n (rB T n (cs h).1) := Nat.le_of_ble_eq_true z; omega
                rw [hb] at hd
                exact tG_cut (zW_mono zTt G dp) (Or.inr ⟨rfl, rfl, rfl, i + 1, w2, a2 + 1, false, _, _, _, _, _, zincN hx (by rcases wlen with y | y <;> omega), by omega, hw, by omega, zincN hat (by rcases wlen with y | y <;> omega), by omega, rfl, hd, rfl⟩)
              · try dsimp only [tvI_i, tvJ_j, tvR_r] at q468
                refine tw_aload rfl rfl ?_
                refine tw_getS rfl (hs_44_0 g1.1) ?_
                refine tw_iload rfl rfl ?_
                refine tw_bald rfl (fun f469 => ?_)
                refine tw_iload rfl rfl ?_
                refine tw_ic_ne rfl (fun q470 => ?_) (fun q470 => ?_)
                · try dsimp only [tvI_i, tvJ_j, tvR_r] at q470
                  have q470i := zneq rfl q470
                  refine tw_push rfl ?_
                  refine tw_istore rfl ?_
                  refine tw_iinc rfl rfl ?_
                  refine tw_goto rfl ?_
                  refine tw_iinc rfl rfl ?_
                  refine tw_goto rfl ?_
                  have hil : i < (ztx 1).length := by have z := q463; rw [hX] at z; have e9 : (Int32.ofNat (ztx 1).length).toInt = ((ztx 1).length : Int) := zofI (by rcases wlen with y | y <;> omega); omega
                  have hd := scn_d hsc hil
                  have ec : ((G.2.1 1).getD x.toNatClampNeg 0) = (ztx 1).getD i 0 := by rw [hX, zof_cl hx]
                  have e32 : ¬ (ztx 1).getD i 0 = 32 := fun z => q464 (ec.trans z)
                  rw [if_neg e32] at hd
                  have hsm : sm = true := by cases sm with | true => rfl | false => exact absurd hsame q467
                  subst hsm
                  have hb : Nat.blt a2 (rE T n (rB T n (cs h).1)) = true := Nat.ble_eq.mpr (by omega)
                  rw [hb] at hd
                  have et : tA h1 45 at9.toNatClampNeg = T a2 := by rw [zof_cl hat, ((cFr_T g1).trans hT)]
                  rw [decide_eq_false (show ¬ T a2 = (ztx 1).getD i 0 from fun z => q470 (et.trans (z.trans ec.symm)))] at hd
                  exact tG_cut (zW_mono zTt G dp) (Or.inr ⟨rfl, rfl, rfl, i + 1, w2, a2 + 1, false, _, _, _, _, _, zincN hx (by rcases wlen with y | y <;> omega), by omega, hw, by omega, zincN hat (by rcases wlen with y | y <;> omega), by omega, rfl, hd, rfl⟩)
                · try dsimp only [tvI_i, tvJ_j, tvR_r] at q470
                  have q470i := zeqi rfl q470
                  refine tw_push rfl ?_
                  refine tw_goto rfl ?_
                  refine tw_istore rfl ?_
                  refine tw_iinc rfl rfl ?_
                  refine tw_goto rfl ?_
                  refine tw_iinc rfl rfl ?_
                  refine tw_goto rfl ?_
                  have hil : i < (ztx 1).length := by have z := q463; rw [hX] at z; have e9 : (Int32.ofNat (ztx 1).length).toInt = ((ztx 1).length : Int) := zofI (by rcases wlen with y | y <;> omega); omega
                  have hd := scn_d hsc hil
                  have ec : ((G.2.1 1).getD x.toNatClampNeg 0) = (ztx 1).getD i 0 := by rw [hX, zof_cl hx]
                  have e32 : ¬ (ztx 1).getD i 0 = 32 := fun z => q464 (ec.trans z)
                  rw [if_neg e32] at hd
                  have hsm : sm = true := by cases sm with | true => rfl | false => exact absurd hsame q467
                  subst hsm
                  have hb : Nat.blt a2 (rE T n (rB T n (cs h).1)) = true := Nat.ble_eq.mpr (by omega)
                  rw [hb] at hd
                  have et : tA h1 45 at9.toNatClampNeg = T a2 := by rw [zof_cl hat, ((cFr_T g1).trans hT)]
                  rw [decide_eq_true (show T a2 = (ztx 1).getD i 0 from et.symm.trans (q470.trans ec))] at hd
                  exact tG_cut (zW_mono zTt G dp) (Or.inr ⟨rfl, rfl, rfl, i + 1, w2, a2 + 1, true, _, _, _, _, _, zincN hx (by rcases wlen with y | y <;> omega), by omega, hw, by omega, zincN hat (by rcases wlen with y | y <;> omega), by omega, rfl, hd, rfl⟩)
      · try dsimp only [tvI_i, tvJ_j, tvR_r] at q462
        refine tw_aload rfl rfl ?_
        refine tw_dup rfl ?_
        refine tw_getS rfl (hi_44_3 g1.1) ?_
        refine tw_push rfl ?_
        refine tw_iadd rfl ?_
        refine tw_put rfl (fun f471 => ?_)
        refine tG_set f471 (hw_44_3 f471 (g1).1) (fun hf471 ef471 => ?_)
        try dsimp only [tvI_i] at ef471
        have gf471 := cFr_s g1 ef471 (by decide)
        have sf471 := cs_o ef471 (by decide) (by decide) (by decide)
        have pf471 := cP_o p1 ef471 (by decide)
        have wf471 := cI_x ef471
        have vf471 := cI_o (q := 1) ef471 (by decide)
        have yf471 := cI_o (q := 2) ef471 (by decide)
        refine tw_goto rfl ?_
        have hlt : (rB T n (cs h).1) + k < n := by have := cNl p1 ((cFr_n g1).trans hN); omega
        have hix : (tvI (tF h1 44 3)).toNatClampNeg = (rB T n (cs h).1) + k := zof_cl hk
        have ha : 97 ≤ (T ((rB T n (cs h).1) + k)).toInt ∧ (T ((rB T n (cs h).1) + k)).toInt ≤ 122 := by rw [← hix, ← ((cFr_T g1).trans hT)]; exact ⟨by omega, by omega⟩
        exact tG_cut (zW_mono zTt G dp) (Or.inr ⟨rfl, rfl, _, k + 1, _, _, _, _, _, rfl, gf471, pf471, sf471.trans hσ, by rw [wf471]; exact zincL hk q442, by omega, (rE_y ⟨hlt, ha⟩).symm.trans he, rfl⟩)
theorem rM_a {T : Nat → Int32} {n p b M : Nat} (hb : rB T n p = b) (hd : rD T n b = b) : rM T n M p = .inl (1 + 8 * b + 0) := by
  unfold rM
  rw [hb, if_pos hd]
theorem rM_b {T : Nat → Int32} {n p b k M : Nat} (hb : rB T n p = b) (hd : rD T n b = b + k) (h0 : k ≠ 0) (h : 5 < k ∨ M < rV T b k) : rM T n M p = .inl (1 + 8 * b + 1) := by
  have e : b + k - b = k := by omega
  unfold rM
  rw [hb, hd, if_neg (by omega), e, if_pos h]
theorem rM_c {T : Nat → Int32} {n p b k M : Nat} (hb : rB T n p = b) (hd : rD T n b = b + k) (h0 : k ≠ 0) (h : ¬ (5 < k ∨ M < rV T b k)) : rM T n M p = .inr (b + k, rV T b k) := by
  have e : b + k - b = k := by omega
  unfold rM
  rw [hb, hd, if_neg (by omega), e, if_neg h]
theorem cNum {y t : Int32} {V : Nat} (hy : y.toInt = ((min V 100000 : Nat) : Int)) (ht : 48 ≤ t.toInt ∧ t.toInt ≤ 57) : (if (100000 : Int32) < y * 10 + (t - 48) then (100000 : Int32) else y * 10 + (t - 48)).toInt = ((min (10 * V + (t.toInt - 48).toNat) 100000 : Nat) : Int) := by
  have h1 : (y * 10).toInt = y.toInt * 10 := by
    rw [Int32.toInt_mul, show (10 : Int32).toInt = 10 from rfl]
    exact Int.bmod_eq_of_le (by show (-2147483648 : Int) ≤ y.toInt * 10; omega) (by show y.toInt * 10 < (2147483648 : Int); omega)
  have h2 : (t - 48).toInt = t.toInt - 48 := by
    rw [Int32.toInt_sub, show (48 : Int32).toInt = 48 from rfl]
    exact Int.bmod_eq_of_le (by show (-2147483648 : Int) ≤ t.toInt - 48; omega) (by show t.toInt - 48 < (2147483648 : Int); omega)
  have h3 : (y * 10 + (t - 48)).toInt = y.toInt * 10 + (t.toInt - 48) := by
    rw [Int32.toInt_add, h1, h2]
    exact Int.bmod_eq_of_le (by show (-2147483648 : Int) ≤ y.toInt * 10 + (t.toInt - 48); omega) (by show y.toInt * 10 + (t.toInt - 48) < (2147483648 : Int); omega)
  have h4 : (100000 : Int32).toInt = 100000 := rfl
  by_cases c : (100000 : Int32) < y * 10 + (t - 48)
  · rw [if_pos c]
    rw [Int32.lt_iff_toInt_lt, h3, h4] at c
    rw [h4]
    omega
  · rw [if_neg c]
    rw [Int32.lt_iff_toInt_lt, h3, h4] at c
    rw [h3]
    omega
theorem zsb {x y : Int32} {a b : Nat} (hx : x.toInt = a) (hy : y.toInt = b) (ha : a ≤ 100000) (hb : b ≤ 100000) : (x - y).toInt = (a : Int) - b := by
  rw [Int32.toInt_sub, hx, hy]
  exact Int.bmod_eq_of_le (by show (-2147483648 : Int) ≤ (a : Int) - b; omega) (by show (a : Int) - b < (2147483648 : Int); omega)
theorem cTo {h h3 : zH} {n v : Nat} {X : Int32} (p : cP h) (hn : cn h = n) (e : cSet 2 X h h3) (hx : X.toInt = v) (h1 : (cs h).1 ≤ v) (h2 : v ≤ n) : cP h3 ∧ cs h3 = rA v (cs h) := by
  have e1 := cPl p
  have e2 := cNl p hn
  refine ⟨cP_2 p e (by omega) (by omega), ?_⟩
  rw [cs_2 e, zof_cl hx]
theorem rC_y {p : Nat} {s s2 : rS} (h : rC p s = some (.inr s2)) : s.2.1 ≠ 80 ∧ s2 = (s.1, s.2.1 + 1, s.2.2) := by
  unfold rC at h
  by_cases c : s.2.1 = 80
  · rw [if_pos c] at h; cases h
  · rw [if_neg c] at h; cases h; exact ⟨c, rfl⟩
theorem rC_n {p e : Nat} {s : rS} (h : rC p s = some (.inl e)) : s.2.1 = 80 ∧ e = 1 + 8 * p + 3 := by
  unfold rC at h
  by_cases c : s.2.1 = 80
  · rw [if_pos c] at h; cases h; exact ⟨c, rfl⟩
  · rw [if_neg c] at h; cases h
section CC
variable {T : Nat → Int32} {n b : Nat}
theorem cm61 (h : b < n ∧ T b = 61) : rCm T n b = some (100105, b + 1) := if_pos h
theorem cm60 (h : b < n ∧ T b = 60) : rCm T n b = (if b + 1 < n ∧ T (b + 1) = 61 then some (100104, b + 2) else some (100103, b + 1)) := (if_neg (fun z => absurd (z.2.symm.trans h.2) (by decide))).trans (if_pos h)
theorem cm62 (h : b < n ∧ T b = 62) : rCm T n b = (if b + 1 < n ∧ T (b + 1) = 61 then some (100106, b + 2) else some (100107, b + 1)) := (if_neg (fun z => absurd (z.2.symm.trans h.2) (by decide))).trans ((if_neg (fun z => absurd (z.2.symm.trans h.2) (by decide))).trans (if_pos h))
theorem cm_n (h1 : ¬ (b < n ∧ T b = 61)) (h2 : ¬ (b < n ∧ T b = 60)) (h3 : ¬ (b < n ∧ T b = 62)) : rCm T n b = none := (if_neg h1).trans ((if_neg h2).trans (if_neg h3))
theorem cm_s (h : (b < n ∧ T b = 61) ∨ (b < n ∧ T b = 60) ∨ (b < n ∧ T b = 62)) : ∃ q, rCm T n b = some q := by
  rcases h with h | h | h
  · exact ⟨_, cm61 h⟩
  · rw [cm60 h]; split <;> exact ⟨_, rfl⟩
  · rw [cm62 h]; split <;> exact ⟨_, rfl⟩
end CC
theorem f_numberHere {G : zG} (hG : G.1 = zProg) (hX : G.2.1 = ztx) {h : zH} {T : Nat → Int32} {n : Nat} (hs : tSh h) (hp : cP h) (hT : tA h 45 = T) (hN : cn h = n) {m : Int32} {M : Nat} (hm : m.toInt = M) (hM : M ≤ 99999) : tC zTt G 89 [.ref 44, .int m] h (fun w h2 => cFr h h2 ∧ ((∃ q, rM T n M (cs h).1 = .inr q ∧ w = some (.int (Int32.ofNat q.2)) ∧ cs h2 = rA q.1 (cs h) ∧ cP h2) ∨ (∃ e, rM T n M (cs h).1 = .inl e ∧ w = some (.int (-1)) ∧ cFt h2 e))) := by
  refine tC_in (by rw [hG]; rfl) (fun dp => ?_)
  have g0 := cFr_r hs
  have hpn : (cs h).1 ≤ n := by rw [← hN]; exact cP_le hp
  have c489 : (48 : Int32).toInt = 48 := rfl
  have c579 : (57 : Int32).toInt = 57 := rfl
  have c59 : (5 : Int32).toInt = 5 := rfl
  refine tw_aload rfl rfl ?_
  refine tw_virt0 rfl (f_signHere hG hX (g0).1 hp ((cFr_T g0).trans hT) ((cFr_n g0).trans hN)) (fun wp472 hp472 p472 => ?_)
  obtain ⟨gp472, ppp472, ssp472, t3p472, cp472, rfl, kp472⟩ := p472
  have ggp472 := cFr_t g0 gp472
  refine tw_istore rfl ?_
  refine tw_aload rfl rfl ?_
  refine tw_getS rfl (hi_44_2 ggp472.1) ?_
  refine tw_istore rfl ?_
  refine tw_push rfl ?_
  refine tw_istore rfl ?_
  refine tG_loop (zW_mono zTt G dp) (zW_conj zTt G dp) (V := fun pc L st h9 _ _ => pc = 13 ∧ st = [] ∧ hp472 = h9 ∧ ∃ (k : Nat) (x y : Int32) (v2 : Option Value), x.toInt = (((cs hp472).1 + k : Nat) : Int) ∧ (cs hp472).1 + k ≤ n ∧ rD T n ((cs hp472).1 + k) = rD T n (cs hp472).1 ∧ y.toInt = ((min (rV T (cs hp472).1 k) 100000 : Nat) : Int) ∧ L = [some (.ref 44), some (.int m), v2, some (.int x), some (.int y)]) ?_ (⟨rfl, rfl, rfl, 0, _, _, _, cPl ppp472, (by have := cP_le ppp472; rw [((cFr_n ggp472).trans hN)] at this; exact this), rfl, rfl, rfl⟩)
  rintro _ _ _ _ _ _ ⟨rfl, rfl, rfl, k, x, y, v2, hx, hkn, hd, hv, rfl⟩
  refine tw_iload rfl rfl ?_
  refine tw_aload rfl rfl ?_
  refine tw_getS rfl (hi_44_1 ggp472.1) ?_
  refine tw_ic_ge rfl (fun q473 => ?_) (fun q473 => ?_)
  · try dsimp only [tvI_i, tvJ_j, tvR_r] at q473
    refine tw_iload rfl rfl ?_
    refine tw_aload rfl rfl ?_
    refine tw_getS rfl (hi_44_2 ggp472.1) ?_
    refine tw_ic_ne rfl (fun q474 => ?_) (fun q474 => ?_)
    · try dsimp only [tvI_i, tvJ_j, tvR_r] at q474
      have q474i := zneq rfl q474
      refine tw_iload rfl rfl ?_
      refine tw_aload rfl rfl ?_
      refine tw_getS rfl (hi_44_2 ggp472.1) ?_
      refine tw_isub rfl ?_
      refine tw_push rfl ?_
      refine tw_ic_gt rfl (fun q475 => ?_) (fun q475 => ?_)
      · try dsimp only [tvI_i, tvJ_j, tvR_r] at q475
        refine tw_aload rfl rfl ?_
        refine tw_aload rfl rfl ?_
        refine tw_getS rfl (hi_44_2 ggp472.1) ?_
        refine tw_push rfl ?_
        refine tw_virt2 rfl (f_refuse hG hX (ggp472).1 ppp472 ((cFr_T ggp472).trans hT) ((cFr_n ggp472).trans hN)) (fun wp476 hp476 p476 => ?_)
        obtain ⟨gp476, rfl, up476⟩ := p476
        have ggp476 := cFr_t ggp472 gp476
        refine tw_pop rfl ?_
        refine tw_push rfl ?_
        have hix : x.toNatClampNeg = (cs hp472).1 + k := zof_cl hx
        have hln := cNl ppp472 ((cFr_n ggp472).trans hN)
        have hTx : tA hp472 45 x.toNatClampNeg = T ((cs hp472).1 + k) := by rw [hix, ((cFr_T ggp472).trans hT)]
        have hnd : ¬ ((cs hp472).1 + k < n ∧ 48 ≤ (T ((cs hp472).1 + k)).toInt ∧ (T ((cs hp472).1 + k)).toInt ≤ 57) := by rw [← hTx]; omega
        have hrd : rD T n (cs hp472).1 = (cs hp472).1 + k := hd.symm.trans (rD_n hnd)
        have hpl := cPl ppp472
        have hbb : rB T n (cs h).1 = (cs hp472).1 := by rw [ssp472]; rfl
        have h400 := cP_400 ppp472
        rw [((cFr_n ggp472).trans hN)] at h400
        have hk0 : k ≠ 0 := fun z => q474 (Int32.toInt_inj.mp (by rw [hx, hpl, z]; rfl))
        have hsb : (x - tvI (tF hp472 44 2)).toInt = (((cs hp472).1 + k : Nat) : Int) - ((cs hp472).1 : Nat) := zsb hx hpl (by omega) (by omega)
        have z0 := q475
        exact tw_iret rfl ⟨ggp476, Or.inr ⟨_, rM_b hbb hrd hk0 (by omega), rfl, cFt_of ppp472 up476 (w := 1) rfl (by decide)⟩⟩
      · try dsimp only [tvI_i, tvJ_j, tvR_r] at q475
        refine tw_iload rfl rfl ?_
        refine tw_iload rfl rfl ?_
        refine tw_ic_le rfl (fun q477 => ?_) (fun q477 => ?_)
        · try dsimp only [tvI_i, tvJ_j, tvR_r] at q477
          refine tw_aload rfl rfl ?_
          refine tw_iload rfl rfl ?_
          refine tw_put rfl (fun f478 => ?_)
          refine tG_set f478 (hw_44_2 f478 (ggp472).1) (fun hf478 ef478 => ?_)
          try dsimp only [tvI_i] at ef478
          have gf478 := cFr_s ggp472 ef478 (by decide)
          obtain ⟨pf478, sf478⟩ := cTo ppp472 ((cFr_n ggp472).trans hN) ef478 hx (by omega) hkn
          refine tw_iload rfl rfl ?_
          have hix : x.toNatClampNeg = (cs hp472).1 + k := zof_cl hx
          have hln := cNl ppp472 ((cFr_n ggp472).trans hN)
          have hTx : tA hp472 45 x.toNatClampNeg = T ((cs hp472).1 + k) := by rw [hix, ((cFr_T ggp472).trans hT)]
          have hnd : ¬ ((cs hp472).1 + k < n ∧ 48 ≤ (T ((cs hp472).1 + k)).toInt ∧ (T ((cs hp472).1 + k)).toInt ≤ 57) := by rw [← hTx]; omega
          have hrd : rD T n (cs hp472).1 = (cs hp472).1 + k := hd.symm.trans (rD_n hnd)
          have hpl := cPl ppp472
          have hbb : rB T n (cs h).1 = (cs hp472).1 := by rw [ssp472]; rfl
          have h400 := cP_400 ppp472
          rw [((cFr_n ggp472).trans hN)] at h400
          have hk0 : k ≠ 0 := fun z => q474 (Int32.toInt_inj.mp (by rw [hx, hpl, z]; rfl))
          have hsb : (x - tvI (tF hp472 44 2)).toInt = (((cs hp472).1 + k : Nat) : Int) - ((cs hp472).1 : Nat) := zsb hx hpl (by omega) (by omega)
          have z0 := q475
          have z1 := q477
          have hval : y.toInt = ((rV T (cs hp472).1 k : Nat) : Int) := by omega
          refine tw_iret rfl ⟨gf478, Or.inl ⟨_, rM_c hbb hrd hk0 (by omega), congrArg (fun z => some (Value.int z)) (zof hval), ?_, pf478⟩⟩
          rw [sf478, ssp472]
          rfl
        · try dsimp only [tvI_i, tvJ_j, tvR_r] at q477
          refine tw_aload rfl rfl ?_
          refine tw_aload rfl rfl ?_
          refine tw_getS rfl (hi_44_2 ggp472.1) ?_
          refine tw_push rfl ?_
          refine tw_virt2 rfl (f_refuse hG hX (ggp472).1 ppp472 ((cFr_T ggp472).trans hT) ((cFr_n ggp472).trans hN)) (fun wp479 hp479 p479 => ?_)
          obtain ⟨gp479, rfl, up479⟩ := p479
          have ggp479 := cFr_t ggp472 gp479
          refine tw_pop rfl ?_
          refine tw_push rfl ?_
          have hix : x.toNatClampNeg = (cs hp472).1 + k := zof_cl hx
          have hln := cNl ppp472 ((cFr_n ggp472).trans hN)
          have hTx : tA hp472 45 x.toNatClampNeg = T ((cs hp472).1 + k) := by rw [hix, ((cFr_T ggp472).trans hT)]
          have hnd : ¬ ((cs hp472).1 + k < n ∧ 48 ≤ (T ((cs hp472).1 + k)).toInt ∧ (T ((cs hp472).1 + k)).toInt ≤ 57) := by rw [← hTx]; omega
          have hrd : rD T n (cs hp472).1 = (cs hp472).1 + k := hd.symm.trans (rD_n hnd)
          have hpl := cPl ppp472
          have hbb : rB T n (cs h).1 = (cs hp472).1 := by rw [ssp472]; rfl
          have h400 := cP_400 ppp472
          rw [((cFr_n ggp472).trans hN)] at h400
          have hk0 : k ≠ 0 := fun z => q474 (Int32.toInt_inj.mp (by rw [hx, hpl, z]; rfl))
          have hsb : (x - tvI (tF hp472 44 2)).toInt = (((cs hp472).1 + k : Nat) : Int) - ((cs hp472).1 : Nat) := zsb hx hpl (by omega) (by omega)
          have z0 := q475
          have z1 := q477
          exact tw_iret rfl ⟨ggp479, Or.inr ⟨_, rM_b hbb hrd hk0 (by omega), rfl, cFt_of ppp472 up479 (w := 1) rfl (by decide)⟩⟩
    · try dsimp only [tvI_i, tvJ_j, tvR_r] at q474
      have q474i := zeqi rfl q474
      refine tw_aload rfl rfl ?_
      refine tw_aload rfl rfl ?_
      refine tw_getS rfl (hi_44_2 ggp472.1) ?_
      refine tw_push rfl ?_
      refine tw_virt2 rfl (f_refuse hG hX (ggp472).1 ppp472 ((cFr_T ggp472).trans hT) ((cFr_n ggp472).trans hN)) (fun wp480 hp480 p480 => ?_)
      obtain ⟨gp480, rfl, up480⟩ := p480
      have ggp480 := cFr_t ggp472 gp480
      refine tw_pop rfl ?_
      refine tw_push rfl ?_
      have hix : x.toNatClampNeg = (cs hp472).1 + k := zof_cl hx
      have hln := cNl ppp472 ((cFr_n ggp472).trans hN)
      have hTx : tA hp472 45 x.toNatClampNeg = T ((cs hp472).1 + k) := by rw [hix, ((cFr_T ggp472).trans hT)]
      have hnd : ¬ ((cs hp472).1 + k < n ∧ 48 ≤ (T ((cs hp472).1 + k)).toInt ∧ (T ((cs hp472).1 + k)).toInt ≤ 57) := by rw [← hTx]; omega
      have hrd : rD T n (cs hp472).1 = (cs hp472).1 + k := hd.symm.trans (rD_n hnd)
      have hpl := cPl ppp472
      have hbb : rB T n (cs h).1 = (cs hp472).1 := by rw [ssp472]; rfl
      have h400 := cP_400 ppp472
      rw [((cFr_n ggp472).trans hN)] at h400
      have hk0 : k = 0 := by have z : x.toInt = (tvI (tF hp472 44 2)).toInt := congrArg Int32.toInt q474; omega
      subst hk0
      exact tw_iret rfl ⟨ggp480, Or.inr ⟨_, rM_a hbb hrd, rfl, cFt_of ppp472 up480 (w := 0) rfl (by decide)⟩⟩
  · try dsimp only [tvI_i, tvJ_j, tvR_r] at q473
    refine tw_aload rfl rfl ?_
    refine tw_getS rfl (hs_44_0 ggp472.1) ?_
    refine tw_iload rfl rfl ?_
    refine tw_bald rfl (fun f481 => ?_)
    refine tw_push rfl ?_
    refine tw_ic_lt rfl (fun q482 => ?_) (fun q482 => ?_)
    · try dsimp only [tvI_i, tvJ_j, tvR_r] at q482
      refine tw_iload rfl rfl ?_
      refine tw_aload rfl rfl ?_
      refine tw_getS rfl (hi_44_2 ggp472.1) ?_
      refine tw_ic_ne rfl (fun q483 => ?_) (fun q483 => ?_)
      · try dsimp only [tvI_i, tvJ_j, tvR_r] at q483
        have q483i := zneq rfl q483
        refine tw_iload rfl rfl ?_
        refine tw_aload rfl rfl ?_
        refine tw_getS rfl (hi_44_2 ggp472.1) ?_
        refine tw_isub rfl ?_
        refine tw_push rfl ?_
        refine tw_ic_gt rfl (fun q484 => ?_) (fun q484 => ?_)
        · try dsimp only [tvI_i, tvJ_j, tvR_r] at q484
          refine tw_aload rfl rfl ?_
          refine tw_aload rfl rfl ?_
          refine tw_getS rfl (hi_44_2 ggp472.1) ?_
          refine tw_push rfl ?_
          refine tw_virt2 rfl (f_refuse hG hX (ggp472).1 ppp472 ((cFr_T ggp472).trans hT) ((cFr_n ggp472).trans hN)) (fun wp485 hp485 p485 => ?_)
          obtain ⟨gp485, rfl, up485⟩ := p485
          have ggp485 := cFr_t ggp472 gp485
          refine tw_pop rfl ?_
          refine tw_push rfl ?_
          have hix : x.toNatClampNeg = (cs hp472).1 + k := zof_cl hx
          have hln := cNl ppp472 ((cFr_n ggp472).trans hN)
          have hTx : tA hp472 45 x.toNatClampNeg = T ((cs hp472).1 + k) := by rw [hix, ((cFr_T ggp472).trans hT)]
          have hnd : ¬ ((cs hp472).1 + k < n ∧ 48 ≤ (T ((cs hp472).1 + k)).toInt ∧ (T ((cs hp472).1 + k)).toInt ≤ 57) := by rw [← hTx]; omega
          have hrd : rD T n (cs hp472).1 = (cs hp472).1 + k := hd.symm.trans (rD_n hnd)
          have hpl := cPl ppp472
          have hbb : rB T n (cs h).1 = (cs hp472).1 := by rw [ssp472]; rfl
          have h400 := cP_400 ppp472
          rw [((cFr_n ggp472).trans hN)] at h400
          have hk0 : k ≠ 0 := fun z => q483 (Int32.toInt_inj.mp (by rw [hx, hpl, z]; rfl))
          have hsb : (x - tvI (tF hp472 44 2)).toInt = (((cs hp472).1 + k : Nat) : Int) - ((cs hp472).1 : Nat) := zsb hx hpl (by omega) (by omega)
          have z0 := q484
          exact tw_iret rfl ⟨ggp485, Or.inr ⟨_, rM_b hbb hrd hk0 (by omega), rfl, cFt_of ppp472 up485 (w := 1) rfl (by decide)⟩⟩
        · try dsimp only [tvI_i, tvJ_j, tvR_r] at q484
          refine tw_iload rfl rfl ?_
          refine tw_iload rfl rfl ?_
          refine tw_ic_le rfl (fun q486 => ?_) (fun q486 => ?_)
          · try dsimp only [tvI_i, tvJ_j, tvR_r] at q486
            refine tw_aload rfl rfl ?_
            refine tw_iload rfl rfl ?_
            refine tw_put rfl (fun f487 => ?_)
            refine tG_set f487 (hw_44_2 f487 (ggp472).1) (fun hf487 ef487 => ?_)
            try dsimp only [tvI_i] at ef487
            have gf487 := cFr_s ggp472 ef487 (by decide)
            obtain ⟨pf487, sf487⟩ := cTo ppp472 ((cFr_n ggp472).trans hN) ef487 hx (by omega) hkn
            refine tw_iload rfl rfl ?_
            have hix : x.toNatClampNeg = (cs hp472).1 + k := zof_cl hx
            have hln := cNl ppp472 ((cFr_n ggp472).trans hN)
            have hTx : tA hp472 45 x.toNatClampNeg = T ((cs hp472).1 + k) := by rw [hix, ((cFr_T ggp472).trans hT)]
            have hnd : ¬ ((cs hp472).1 + k < n ∧ 48 ≤ (T ((cs hp472).1 + k)).toInt ∧ (T ((cs hp472).1 + k)).toInt ≤ 57) := by rw [← hTx]; omega
            have hrd : rD T n (cs hp472).1 = (cs hp472).1 + k := hd.symm.trans (rD_n hnd)
            have hpl := cPl ppp472
            have hbb : rB T n (cs h).1 = (cs hp472).1 := by rw [ssp472]; rfl
            have h400 := cP_400 ppp472
            rw [((cFr_n ggp472).trans hN)] at h400
            have hk0 : k ≠ 0 := fun z => q483 (Int32.toInt_inj.mp (by rw [hx, hpl, z]; rfl))
            have hsb : (x - tvI (tF hp472 44 2)).toInt = (((cs hp472).1 + k : Nat) : Int) - ((cs hp472).1 : Nat) := zsb hx hpl (by omega) (by omega)
            have z0 := q484
            have z1 := q486
            have hval : y.toInt = ((rV T (cs hp472).1 k : Nat) : Int) := by omega
            refine tw_iret rfl ⟨gf487, Or.inl ⟨_, rM_c hbb hrd hk0 (by omega), congrArg (fun z => some (Value.int z)) (zof hval), ?_, pf487⟩⟩
            rw [sf487, ssp472]
            rfl
          · try dsimp only [tvI_i, tvJ_j, tvR_r] at q486
            refine tw_aload rfl rfl ?_
            refine tw_aload rfl rfl ?_
            refine tw_getS rfl (hi_44_2 ggp472.1) ?_
            refine tw_push rfl ?_
            refine tw_virt2 rfl (f_refuse hG hX (ggp472).1 ppp472 ((cFr_T ggp472).trans hT) ((cFr_n ggp472).trans hN)) (fun wp488 hp488 p488 => ?_)
            obtain ⟨gp488, rfl, up488⟩ := p488
            have ggp488 := cFr_t ggp472 gp488
            refine tw_pop rfl ?_
            refine tw_push rfl ?_
            have hix : x.toNatClampNeg = (cs hp472).1 + k := zof_cl hx
            have hln := cNl ppp472 ((cFr_n ggp472).trans hN)
            have hTx : tA hp472 45 x.toNatClampNeg = T ((cs hp472).1 + k) := by rw [hix, ((cFr_T ggp472).trans hT)]
            have hnd : ¬ ((cs hp472).1 + k < n ∧ 48 ≤ (T ((cs hp472).1 + k)).toInt ∧ (T ((cs hp472).1 + k)).toInt ≤ 57) := by rw [← hTx]; omega
            have hrd : rD T n (cs hp472).1 = (cs hp472).1 + k := hd.symm.trans (rD_n hnd)
            have hpl := cPl ppp472
            have hbb : rB T n (cs h).1 = (cs hp472).1 := by rw [ssp472]; rfl
            have h400 := cP_400 ppp472
            rw [((cFr_n ggp472).trans hN)] at h400
            have hk0 : k ≠ 0 := fun z => q483 (Int32.toInt_inj.mp (by rw [hx, hpl, z]; rfl))
            have hsb : (x - tvI (tF hp472 44 2)).toInt = (((cs hp472).1 + k : Nat) : Int) - ((cs hp472).1 : Nat) := zsb hx hpl (by omega) (by omega)
            have z0 := q484
            have z1 := q486
            exact tw_iret rfl ⟨ggp488, Or.inr ⟨_, rM_b hbb hrd hk0 (by omega), rfl, cFt_of ppp472 up488 (w := 1) rfl (by decide)⟩⟩
      · try dsimp only [tvI_i, tvJ_j, tvR_r] at q483
        have q483i := zeqi rfl q483
        refine tw_aload rfl rfl ?_
        refine tw_aload rfl rfl ?_
        refine tw_getS rfl (hi_44_2 ggp472.1) ?_
        refine tw_push rfl ?_
        refine tw_virt2 rfl (f_refuse hG hX (ggp472).1 ppp472 ((cFr_T ggp472).trans hT) ((cFr_n ggp472).trans hN)) (fun wp489 hp489 p489 => ?_)
        obtain ⟨gp489, rfl, up489⟩ := p489
        have ggp489 := cFr_t ggp472 gp489
        refine tw_pop rfl ?_
        refine tw_push rfl ?_
        have hix : x.toNatClampNeg = (cs hp472).1 + k := zof_cl hx
        have hln := cNl ppp472 ((cFr_n ggp472).trans hN)
        have hTx : tA hp472 45 x.toNatClampNeg = T ((cs hp472).1 + k) := by rw [hix, ((cFr_T ggp472).trans hT)]
        have hnd : ¬ ((cs hp472).1 + k < n ∧ 48 ≤ (T ((cs hp472).1 + k)).toInt ∧ (T ((cs hp472).1 + k)).toInt ≤ 57) := by rw [← hTx]; omega
        have hrd : rD T n (cs hp472).1 = (cs hp472).1 + k := hd.symm.trans (rD_n hnd)
        have hpl := cPl ppp472
        have hbb : rB T n (cs h).1 = (cs hp472).1 := by rw [ssp472]; rfl
        have h400 := cP_400 ppp472
        rw [((cFr_n ggp472).trans hN)] at h400
        have hk0 : k = 0 := by have z : x.toInt = (tvI (tF hp472 44 2)).toInt := congrArg Int32.toInt q483; omega
        subst hk0
        exact tw_iret rfl ⟨ggp489, Or.inr ⟨_, rM_a hbb hrd, rfl, cFt_of ppp472 up489 (w := 0) rfl (by decide)⟩⟩
    · try dsimp only [tvI_i, tvJ_j, tvR_r] at q482
      refine tw_aload rfl rfl ?_
      refine tw_getS rfl (hs_44_0 ggp472.1) ?_
      refine tw_iload rfl rfl ?_
      refine tw_bald rfl (fun f490 => ?_)
      refine tw_push rfl ?_
      refine tw_ic_gt rfl (fun q491 => ?_) (fun q491 => ?_)
      · try dsimp only [tvI_i, tvJ_j, tvR_r] at q491
        refine tw_iload rfl rfl ?_
        refine tw_aload rfl rfl ?_
        refine tw_getS rfl (hi_44_2 ggp472.1) ?_
        refine tw_ic_ne rfl (fun q492 => ?_) (fun q492 => ?_)
        · try dsimp only [tvI_i, tvJ_j, tvR_r] at q492
          have q492i := zneq rfl q492
          refine tw_iload rfl rfl ?_
          refine tw_aload rfl rfl ?_
          refine tw_getS rfl (hi_44_2 ggp472.1) ?_
          refine tw_isub rfl ?_
          refine tw_push rfl ?_
          refine tw_ic_gt rfl (fun q493 => ?_) (fun q493 => ?_)
          · try dsimp only [tvI_i, tvJ_j, tvR_r] at q493
            refine tw_aload rfl rfl ?_
            refine tw_aload rfl rfl ?_
            refine tw_getS rfl (hi_44_2 ggp472.1) ?_
            refine tw_push rfl ?_
            refine tw_virt2 rfl (f_refuse hG hX (ggp472).1 ppp472 ((cFr_T ggp472).trans hT) ((cFr_n ggp472).trans hN)) (fun wp494 hp494 p494 => ?_)
            obtain ⟨gp494, rfl, up494⟩ := p494
            have ggp494 := cFr_t ggp472 gp494
            refine tw_pop rfl ?_
            refine tw_push rfl ?_
            have hix : x.toNatClampNeg = (cs hp472).1 + k := zof_cl hx
            have hln := cNl ppp472 ((cFr_n ggp472).trans hN)
            have hTx : tA hp472 45 x.toNatClampNeg = T ((cs hp472).1 + k) := by rw [hix, ((cFr_T ggp472).trans hT)]
            have hnd : ¬ ((cs hp472).1 + k < n ∧ 48 ≤ (T ((cs hp472).1 + k)).toInt ∧ (T ((cs hp472).1 + k)).toInt ≤ 57) := by rw [← hTx]; omega
            have hrd : rD T n (cs hp472).1 = (cs hp472).1 + k := hd.symm.trans (rD_n hnd)
            have hpl := cPl ppp472
            have hbb : rB T n (cs h).1 = (cs hp472).1 := by rw [ssp472]; rfl
            have h400 := cP_400 ppp472
            rw [((cFr_n ggp472).trans hN)] at h400
            have hk0 : k ≠ 0 := fun z => q492 (Int32.toInt_inj.mp (by rw [hx, hpl, z]; rfl))
            have hsb : (x - tvI (tF hp472 44 2)).toInt = (((cs hp472).1 + k : Nat) : Int) - ((cs hp472).1 : Nat) := zsb hx hpl (by omega) (by omega)
            have z0 := q493
            exact tw_iret rfl ⟨ggp494, Or.inr ⟨_, rM_b hbb hrd hk0 (by omega), rfl, cFt_of ppp472 up494 (w := 1) rfl (by decide)⟩⟩
          · try dsimp only [tvI_i, tvJ_j, tvR_r] at q493
            refine tw_iload rfl rfl ?_
            refine tw_iload rfl rfl ?_
            refine tw_ic_le rfl (fun q495 => ?_) (fun q495 => ?_)
            · try dsimp only [tvI_i, tvJ_j, tvR_r] at q495
              refine tw_aload rfl rfl ?_
              refine tw_iload rfl rfl ?_
              refine tw_put rfl (fun f496 => ?_)
              refine tG_set f496 (hw_44_2 f496 (ggp472).1) (fun hf496 ef496 => ?_)
              try dsimp only [tvI_i] at ef496
              have gf496 := cFr_s ggp472 ef496 (by decide)
              obtain ⟨pf496, sf496⟩ := cTo ppp472 ((cFr_n ggp472).trans hN) ef496 hx (by omega) hkn
              refine tw_iload rfl rfl ?_
              have hix : x.toNatClampNeg = (cs hp472).1 + k := zof_cl hx
              have hln := cNl ppp472 ((cFr_n ggp472).trans hN)
              have hTx : tA hp472 45 x.toNatClampNeg = T ((cs hp472).1 + k) := by rw [hix, ((cFr_T ggp472).trans hT)]
              have hnd : ¬ ((cs hp472).1 + k < n ∧ 48 ≤ (T ((cs hp472).1 + k)).toInt ∧ (T ((cs hp472).1 + k)).toInt ≤ 57) := by rw [← hTx]; omega
              have hrd : rD T n (cs hp472).1 = (cs hp472).1 + k := hd.symm.trans (rD_n hnd)
              have hpl := cPl ppp472
              have hbb : rB T n (cs h).1 = (cs hp472).1 := by rw [ssp472]; rfl
              have h400 := cP_400 ppp472
              rw [((cFr_n ggp472).trans hN)] at h400
              have hk0 : k ≠ 0 := fun z => q492 (Int32.toInt_inj.mp (by rw [hx, hpl, z]; rfl))
              have hsb : (x - tvI (tF hp472 44 2)).toInt = (((cs hp472).1 + k : Nat) : Int) - ((cs hp472).1 : Nat) := zsb hx hpl (by omega) (by omega)
              have z0 := q493
              have z1 := q495
              have hval : y.toInt = ((rV T (cs hp472).1 k : Nat) : Int) := by omega
              refine tw_iret rfl ⟨gf496, Or.inl ⟨_, rM_c hbb hrd hk0 (by omega), congrArg (fun z => some (Value.int z)) (zof hval), ?_, pf496⟩⟩
              rw [sf496, ssp472]
              rfl
            · try dsimp only [tvI_i, tvJ_j, tvR_r] at q495
              refine tw_aload rfl rfl ?_
              refine tw_aload rfl rfl ?_
              refine tw_getS rfl (hi_44_2 ggp472.1) ?_
              refine tw_push rfl ?_
              refine tw_virt2 rfl (f_refuse hG hX (ggp472).1 ppp472 ((cFr_T ggp472).trans hT) ((cFr_n ggp472).trans hN)) (fun wp497 hp497 p497 => ?_)
              obtain ⟨gp497, rfl, up497⟩ := p497
              have ggp497 := cFr_t ggp472 gp497
              refine tw_pop rfl ?_
              refine tw_push rfl ?_
              have hix : x.toNatClampNeg = (cs hp472).1 + k := zof_cl hx
              have hln := cNl ppp472 ((cFr_n ggp472).trans hN)
              have hTx : tA hp472 45 x.toNatClampNeg = T ((cs hp472).1 + k) := by rw [hix, ((cFr_T ggp472).trans hT)]
              have hnd : ¬ ((cs hp472).1 + k < n ∧ 48 ≤ (T ((cs hp472).1 + k)).toInt ∧ (T ((cs hp472).1 + k)).toInt ≤ 57) := by rw [← hTx]; omega
              have hrd : rD T n (cs hp472).1 = (cs hp472).1 + k := hd.symm.trans (rD_n hnd)
              have hpl := cPl ppp472
              have hbb : rB T n (cs h).1 = (cs hp472).1 := by rw [ssp472]; rfl
              have h400 := cP_400 ppp472
              rw [((cFr_n ggp472).trans hN)] at h400
              have hk0 : k ≠ 0 := fun z => q492 (Int32.toInt_inj.mp (by rw [hx, hpl, z]; rfl))
              have hsb : (x - tvI (tF hp472 44 2)).toInt = (((cs hp472).1 + k : Nat) : Int) - ((cs hp472).1 : Nat) := zsb hx hpl (by omega) (by omega)
              have z0 := q493
              have z1 := q495
              exact tw_iret rfl ⟨ggp497, Or.inr ⟨_, rM_b hbb hrd hk0 (by omega), rfl, cFt_of ppp472 up497 (w := 1) rfl (by decide)⟩⟩
        · try dsimp only [tvI_i, tvJ_j, tvR_r] at q492
          have q492i := zeqi rfl q492
          refine tw_aload rfl rfl ?_
          refine tw_aload rfl rfl ?_
          refine tw_getS rfl (hi_44_2 ggp472.1) ?_
          refine tw_push rfl ?_
          refine tw_virt2 rfl (f_refuse hG hX (ggp472).1 ppp472 ((cFr_T ggp472).trans hT) ((cFr_n ggp472).trans hN)) (fun wp498 hp498 p498 => ?_)
          obtain ⟨gp498, rfl, up498⟩ := p498
          have ggp498 := cFr_t ggp472 gp498
          refine tw_pop rfl ?_
          refine tw_push rfl ?_
          have hix : x.toNatClampNeg = (cs hp472).1 + k := zof_cl hx
          have hln := cNl ppp472 ((cFr_n ggp472).trans hN)
          have hTx : tA hp472 45 x.toNatClampNeg = T ((cs hp472).1 + k) := by rw [hix, ((cFr_T ggp472).trans hT)]
          have hnd : ¬ ((cs hp472).1 + k < n ∧ 48 ≤ (T ((cs hp472).1 + k)).toInt ∧ (T ((cs hp472).1 + k)).toInt ≤ 57) := by rw [← hTx]; omega
          have hrd : rD T n (cs hp472).1 = (cs hp472).1 + k := hd.symm.trans (rD_n hnd)
          have hpl := cPl ppp472
          have hbb : rB T n (cs h).1 = (cs hp472).1 := by rw [ssp472]; rfl
          have h400 := cP_400 ppp472
          rw [((cFr_n ggp472).trans hN)] at h400
          have hk0 : k = 0 := by have z : x.toInt = (tvI (tF hp472 44 2)).toInt := congrArg Int32.toInt q492; omega
          subst hk0
          exact tw_iret rfl ⟨ggp498, Or.inr ⟨_, rM_a hbb hrd, rfl, cFt_of ppp472 up498 (w := 0) rfl (by decide)⟩⟩
      · try dsimp only [tvI_i, tvJ_j, tvR_r] at q491
        refine tw_iload rfl rfl ?_
        refine tw_push rfl ?_
        refine tw_imul rfl ?_
        refine tw_aload rfl rfl ?_
        refine tw_getS rfl (hs_44_0 ggp472.1) ?_
        refine tw_iload rfl rfl ?_
        refine tw_bald rfl (fun f499 => ?_)
        refine tw_push rfl ?_
        refine tw_isub rfl ?_
        refine tw_iadd rfl ?_
        refine tw_push rfl ?_
        refine tw_imin rfl ?_
        refine tw_istore rfl ?_
        refine tw_iinc rfl rfl ?_
        refine tw_goto rfl ?_
        have hix : x.toNatClampNeg = (cs hp472).1 + k := zof_cl hx
        have hln := cNl ppp472 ((cFr_n ggp472).trans hN)
        have hTx : tA hp472 45 x.toNatClampNeg = T ((cs hp472).1 + k) := by rw [hix, ((cFr_T ggp472).trans hT)]
        have ht : 48 ≤ (T ((cs hp472).1 + k)).toInt ∧ (T ((cs hp472).1 + k)).toInt ≤ 57 := by rw [← hTx]; exact ⟨by omega, by omega⟩
        exact tG_cut (zW_mono zTt G dp) (Or.inr ⟨rfl, rfl, rfl, k + 1, _, _, _, zincL hx q473, by omega, (rD_y ⟨by omega, ht⟩).symm.trans hd, ((cNum (t := tA hp472 45 x.toNatClampNeg) hv (by rw [hTx]; exact ht)).trans (by rw [hTx]; rfl)), rfl⟩)
theorem f_comparisonHere {G : zG} (hG : G.1 = zProg) (hX : G.2.1 = ztx) {h : zH} {T : Nat → Int32} {n : Nat} (hs : tSh h) (hp : cP h) (hT : tA h 45 = T) (hN : cn h = n)  : tC zTt G 82 [.ref 44] h (fun w h2 => cFr h h2 ∧ ((∃ q, rCm T n (rB T n (cs h).1) = some q ∧ (cs h).2.1 ≠ 80 ∧ w = some (.int (Int32.ofNat q.1)) ∧ cs h2 = (q.2, (cs h).2.1 + 1, (cs h).2.2) ∧ cP h2) ∨ (w = some (.int (-1)) ∧ ∃ e, cFt h2 e ∧ ((rCm T n (rB T n (cs h).1) = none ∧ e = 1 + 8 * (rB T n (cs h).1) + 0) ∨ (∃ q, rCm T n (rB T n (cs h).1) = some q ∧ (cs h).2.1 = 80 ∧ e = 1 + 8 * (rB T n (cs h).1) + 3))))) := by
  refine tC_in (by rw [hG]; rfl) (fun dp => ?_)
  have g0 := cFr_r hs
  have hpn : (cs h).1 ≤ n := by rw [← hN]; exact cP_le hp
  refine tw_aload rfl rfl ?_
  refine tw_virt0 rfl (f_signHere hG hX (g0).1 hp ((cFr_T g0).trans hT) ((cFr_n g0).trans hN)) (fun wp500 hp500 p500 => ?_)
  obtain ⟨gp500, ppp500, ssp500, t3p500, cp500, rfl, kp500⟩ := p500
  have ggp500 := cFr_t g0 gp500
  refine tw_istore rfl ?_
  refine tw_iload rfl rfl ?_
  refine tw_push rfl ?_
  refine tw_ic_eq rfl (fun q501 => ?_) (fun q501 => ?_)
  · try dsimp only [tvI_i, tvJ_j, tvR_r] at q501
    have q501i := zeqi (Y := 60) (by decide) q501
    refine tw_aload rfl rfl ?_
    refine tw_virt0 rfl (f_countOne hG hX (ggp500).1 ppp500 ((cFr_T ggp500).trans hT) ((cFr_n ggp500).trans hN)) (fun w9 hp502 p502 => ?_)
    obtain ⟨gp502, ⟨rfl, p502, ppp502, t3p502⟩ | ⟨rfl, xp502, p502, up502⟩⟩ := p502
    · have ggp502 := cFr_t ggp500 gp502
      refine tw_if_ne rfl (fun _ => ?_) (fun z => absurd z (by decide))
      refine tw_aload rfl rfl ?_
      refine tw_dup rfl ?_
      refine tw_getS rfl (hi_44_2 ggp502.1) ?_
      refine tw_push rfl ?_
      refine tw_iadd rfl ?_
      refine tw_put rfl (fun f503 => ?_)
      refine tG_set f503 (hw_44_2 f503 (ggp502).1) (fun hf503 ef503 => ?_)
      try dsimp only [tvI_i] at ef503
      have gf503 := cFr_s ggp502 ef503 (by decide)
      have hbn := ((sgn_k kp500 60 (by decide)).mp q501).1
      obtain ⟨hcnf503, hcef503⟩ := rC_y p502
      have hlf503 : (cs hp502).1 < n := by rw [hcef503]; show (cs hp500).1 < n; rw [ssp500]; exact hbn
      obtain ⟨pf503, sf503⟩ := cInc ppp502 hlf503 ((cFr_n ggp502).trans hN) ef503
      rw [hcef503] at sf503
      refine tw_iload rfl rfl ?_
      refine tw_push rfl ?_
      refine tw_ic_ne rfl (fun q504 => ?_) (fun q504 => ?_)
      · try dsimp only [tvI_i, tvJ_j, tvR_r] at q504
        have q504i := zneq (Y := 61) (by decide) q504
        refine tw_aload rfl rfl ?_
        refine tw_getS rfl (hi_44_2 (gf503).1) ?_
        refine tw_aload rfl rfl ?_
        refine tw_getS rfl (hi_44_1 (gf503).1) ?_
        refine tw_ic_ge rfl (fun q505 => ?_) (fun q505 => ?_)
        · try dsimp only [tvI_i, tvJ_j, tvR_r] at q505
          refine tw_iload rfl rfl ?_
          refine tw_push rfl ?_
          refine tw_ic_ne rfl (fun q506 => ?_) (fun q506 => ?_)
          · try dsimp only [tvI_i, tvJ_j, tvR_r] at q506
            have q506i := zneq (Y := 60) (by decide) q506
            exact absurd q501 q506
          · try dsimp only [tvI_i, tvJ_j, tvR_r] at q506
            have q506i := zeqi (Y := 60) (by decide) q506
            refine tw_push rfl ?_
            refine tw_goto rfl ?_
            have hbb : (cs hp500).1 = (rB T n (cs h).1) := by rw [ssp500]; rfl
            rw [ssp500] at hcnf503
            have hb1 : (cs hf503).1 = (rB T n (cs h).1) + 1 := by rw [sf503, ssp500]; rfl
            have hy : ¬ ((rB T n (cs h).1) + 1 < n ∧ T ((rB T n (cs h).1) + 1) = 61) := by
              rw [← hb1, ← ((cFr_T gf503).trans hT)]
              rintro ⟨y1, y2⟩
              exact cGe pf503 ((cFr_n gf503).trans hN) q505 y1
            exact tw_iret rfl ⟨gf503, Or.inl ⟨_, (cm60 ((sgn_k kp500 60 (by decide)).mp q501)).trans (if_neg hy), hcnf503, rfl, (by rw [sf503, ssp500]; rfl), pf503⟩⟩
        · try dsimp only [tvI_i, tvJ_j, tvR_r] at q505
          refine tw_aload rfl rfl ?_
          refine tw_getS rfl (hs_44_0 (gf503).1) ?_
          refine tw_aload rfl rfl ?_
          refine tw_getS rfl (hi_44_2 (gf503).1) ?_
          refine tw_bald rfl (fun f507 => ?_)
          refine tw_push rfl ?_
          refine tw_ic_ne rfl (fun q508 => ?_) (fun q508 => ?_)
          · try dsimp only [tvI_i, tvJ_j, tvR_r] at q508
            have q508i := zneq (Y := 61) (by decide) q508
            refine tw_iload rfl rfl ?_
            refine tw_push rfl ?_
            refine tw_ic_ne rfl (fun q509 => ?_) (fun q509 => ?_)
            · try dsimp only [tvI_i, tvJ_j, tvR_r] at q509
              have q509i := zneq (Y := 60) (by decide) q509
              exact absurd q501 q509
            · try dsimp only [tvI_i, tvJ_j, tvR_r] at q509
              have q509i := zeqi (Y := 60) (by decide) q509
              refine tw_push rfl ?_
              refine tw_goto rfl ?_
              have hbb : (cs hp500).1 = (rB T n (cs h).1) := by rw [ssp500]; rfl
              rw [ssp500] at hcnf503
              have hb1 : (cs hf503).1 = (rB T n (cs h).1) + 1 := by rw [sf503, ssp500]; rfl
              have hy : ¬ ((rB T n (cs h).1) + 1 < n ∧ T ((rB T n (cs h).1) + 1) = 61) := by
                rw [← hb1, ← ((cFr_T gf503).trans hT)]
                rintro ⟨y1, y2⟩
                exact q508 y2
              exact tw_iret rfl ⟨gf503, Or.inl ⟨_, (cm60 ((sgn_k kp500 60 (by decide)).mp q501)).trans (if_neg hy), hcnf503, rfl, (by rw [sf503, ssp500]; rfl), pf503⟩⟩
          · try dsimp only [tvI_i, tvJ_j, tvR_r] at q508
            have q508i := zeqi (Y := 61) (by decide) q508
            refine tw_aload rfl rfl ?_
            refine tw_dup rfl ?_
            refine tw_getS rfl (hi_44_2 (gf503).1) ?_
            refine tw_push rfl ?_
            refine tw_iadd rfl ?_
            refine tw_put rfl (fun f510 => ?_)
            refine tG_set f510 (hw_44_2 f510 (gf503).1) (fun hf510 ef510 => ?_)
            try dsimp only [tvI_i] at ef510
            have gf510 := cFr_s gf503 ef510 (by decide)
            have hlf510 := cLt pf503 ((cFr_n gf503).trans hN) q505
            obtain ⟨pf510, sf510⟩ := cInc pf503 hlf510 ((cFr_n gf503).trans hN) ef510
            refine tw_iload rfl rfl ?_
            refine tw_push rfl ?_
            refine tw_ic_ne rfl (fun q511 => ?_) (fun q511 => ?_)
            · try dsimp only [tvI_i, tvJ_j, tvR_r] at q511
              have q511i := zneq (Y := 60) (by decide) q511
              exact absurd q501 q511
            · try dsimp only [tvI_i, tvJ_j, tvR_r] at q511
              have q511i := zeqi (Y := 60) (by decide) q511
              refine tw_push rfl ?_
              refine tw_goto rfl ?_
              have hbb : (cs hp500).1 = (rB T n (cs h).1) := by rw [ssp500]; rfl
              rw [ssp500] at hcnf503
              have hb1 : (cs hf503).1 = (rB T n (cs h).1) + 1 := by rw [sf503, ssp500]; rfl
              have hy : (rB T n (cs h).1) + 1 < n ∧ T ((rB T n (cs h).1) + 1) = 61 := by rw [← hb1]; exact ⟨hlf510, by rw [← ((cFr_T gf503).trans hT)]; exact q508⟩
              exact tw_iret rfl ⟨gf510, Or.inl ⟨_, (cm60 ((sgn_k kp500 60 (by decide)).mp q501)).trans (if_pos hy), hcnf503, rfl, (by rw [sf510, sf503, ssp500]; rfl), pf510⟩⟩
      · try dsimp only [tvI_i, tvJ_j, tvR_r] at q504
        have q504i := zeqi (Y := 61) (by decide) q504
        exact absurd (q501.symm.trans q504) (by decide)
    · have ggp502 := cFr_t ggp500 gp502
      refine tw_if_ne rfl (fun z => absurd z (by decide)) (fun _ => ?_)
      refine tw_push rfl ?_
      have hbb : (cs hp500).1 = (rB T n (cs h).1) := by rw [ssp500]; rfl
      obtain ⟨o1, o2⟩ := rC_n p502
      rw [hbb] at o2
      rw [ssp500] at o1
      obtain ⟨q9, hq9⟩ := cm_s (Or.inr (Or.inl ((sgn_k kp500 60 (by decide)).mp q501)))
      exact tw_iret rfl ⟨ggp502, Or.inr ⟨rfl, _, up502, Or.inr ⟨q9, hq9, o1, o2⟩⟩⟩
  · try dsimp only [tvI_i, tvJ_j, tvR_r] at q501
    have q501i := zneq (Y := 60) (by decide) q501
    refine tw_iload rfl rfl ?_
    refine tw_push rfl ?_
    refine tw_ic_eq rfl (fun q512 => ?_) (fun q512 => ?_)
    · try dsimp only [tvI_i, tvJ_j, tvR_r] at q512
      have q512i := zeqi (Y := 61) (by decide) q512
      refine tw_aload rfl rfl ?_
      refine tw_virt0 rfl (f_countOne hG hX (ggp500).1 ppp500 ((cFr_T ggp500).trans hT) ((cFr_n ggp500).trans hN)) (fun w9 hp513 p513 => ?_)
      obtain ⟨gp513, ⟨rfl, p513, ppp513, t3p513⟩ | ⟨rfl, xp513, p513, up513⟩⟩ := p513
      · have ggp513 := cFr_t ggp500 gp513
        refine tw_if_ne rfl (fun _ => ?_) (fun z => absurd z (by decide))
        refine tw_aload rfl rfl ?_
        refine tw_dup rfl ?_
        refine tw_getS rfl (hi_44_2 ggp513.1) ?_
        refine tw_push rfl ?_
        refine tw_iadd rfl ?_
        refine tw_put rfl (fun f514 => ?_)
        refine tG_set f514 (hw_44_2 f514 (ggp513).1) (fun hf514 ef514 => ?_)
        try dsimp only [tvI_i] at ef514
        have gf514 := cFr_s ggp513 ef514 (by decide)
        have hbn := ((sgn_k kp500 61 (by decide)).mp q512).1
        obtain ⟨hcnf514, hcef514⟩ := rC_y p513
        have hlf514 : (cs hp513).1 < n := by rw [hcef514]; show (cs hp500).1 < n; rw [ssp500]; exact hbn
        obtain ⟨pf514, sf514⟩ := cInc ppp513 hlf514 ((cFr_n ggp513).trans hN) ef514
        rw [hcef514] at sf514
        refine tw_iload rfl rfl ?_
        refine tw_push rfl ?_
        refine tw_ic_ne rfl (fun q515 => ?_) (fun q515 => ?_)
        · try dsimp only [tvI_i, tvJ_j, tvR_r] at q515
          have q515i := zneq (Y := 61) (by decide) q515
          exact absurd q512 q515
        · try dsimp only [tvI_i, tvJ_j, tvR_r] at q515
          have q515i := zeqi (Y := 61) (by decide) q515
          refine tw_push rfl ?_
          have hbb : (cs hp500).1 = (rB T n (cs h).1) := by rw [ssp500]; rfl
          rw [ssp500] at hcnf514
          exact tw_iret rfl ⟨gf514, Or.inl ⟨_, cm61 ((sgn_k kp500 61 (by decide)).mp q512), hcnf514, rfl, (by rw [sf514, ssp500]; rfl), pf514⟩⟩
      · have ggp513 := cFr_t ggp500 gp513
        refine tw_if_ne rfl (fun z => absurd z (by decide)) (fun _ => ?_)
        refine tw_push rfl ?_
        have hbb : (cs hp500).1 = (rB T n (cs h).1) := by rw [ssp500]; rfl
        obtain ⟨o1, o2⟩ := rC_n p513
        rw [hbb] at o2
        rw [ssp500] at o1
        obtain ⟨q9, hq9⟩ := cm_s (Or.inl ((sgn_k kp500 61 (by decide)).mp q512))
        exact tw_iret rfl ⟨ggp513, Or.inr ⟨rfl, _, up513, Or.inr ⟨q9, hq9, o1, o2⟩⟩⟩
    · try dsimp only [tvI_i, tvJ_j, tvR_r] at q512
      have q512i := zneq (Y := 61) (by decide) q512
      refine tw_iload rfl rfl ?_
      refine tw_push rfl ?_
      refine tw_ic_eq rfl (fun q516 => ?_) (fun q516 => ?_)
      · try dsimp only [tvI_i, tvJ_j, tvR_r] at q516
        have q516i := zeqi (Y := 62) (by decide) q516
        refine tw_aload rfl rfl ?_
        refine tw_virt0 rfl (f_countOne hG hX (ggp500).1 ppp500 ((cFr_T ggp500).trans hT) ((cFr_n ggp500).trans hN)) (fun w9 hp517 p517 => ?_)
        obtain ⟨gp517, ⟨rfl, p517, ppp517, t3p517⟩ | ⟨rfl, xp517, p517, up517⟩⟩ := p517
        · have ggp517 := cFr_t ggp500 gp517
          refine tw_if_ne rfl (fun _ => ?_) (fun z => absurd z (by decide))
          refine tw_aload rfl rfl ?_
          refine tw_dup rfl ?_
          refine tw_getS rfl (hi_44_2 ggp517.1) ?_
          refine tw_push rfl ?_
          refine tw_iadd rfl ?_
          refine tw_put rfl (fun f518 => ?_)
          refine tG_set f518 (hw_44_2 f518 (ggp517).1) (fun hf518 ef518 => ?_)
          try dsimp only [tvI_i] at ef518
          have gf518 := cFr_s ggp517 ef518 (by decide)
          have hbn := ((sgn_k kp500 62 (by decide)).mp q516).1
          obtain ⟨hcnf518, hcef518⟩ := rC_y p517
          have hlf518 : (cs hp517).1 < n := by rw [hcef518]; show (cs hp500).1 < n; rw [ssp500]; exact hbn
          obtain ⟨pf518, sf518⟩ := cInc ppp517 hlf518 ((cFr_n ggp517).trans hN) ef518
          rw [hcef518] at sf518
          refine tw_iload rfl rfl ?_
          refine tw_push rfl ?_
          refine tw_ic_ne rfl (fun q519 => ?_) (fun q519 => ?_)
          · try dsimp only [tvI_i, tvJ_j, tvR_r] at q519
            have q519i := zneq (Y := 61) (by decide) q519
            refine tw_aload rfl rfl ?_
            refine tw_getS rfl (hi_44_2 (gf518).1) ?_
            refine tw_aload rfl rfl ?_
            refine tw_getS rfl (hi_44_1 (gf518).1) ?_
            refine tw_ic_ge rfl (fun q520 => ?_) (fun q520 => ?_)
            · try dsimp only [tvI_i, tvJ_j, tvR_r] at q520
              refine tw_iload rfl rfl ?_
              refine tw_push rfl ?_
              refine tw_ic_ne rfl (fun q521 => ?_) (fun q521 => ?_)
              · try dsimp only [tvI_i, tvJ_j, tvR_r] at q521
                have q521i := zneq (Y := 60) (by decide) q521
                refine tw_push rfl ?_
                have hbb : (cs hp500).1 = (rB T n (cs h).1) := by rw [ssp500]; rfl
                rw [ssp500] at hcnf518
                have hb1 : (cs hf518).1 = (rB T n (cs h).1) + 1 := by rw [sf518, ssp500]; rfl
                have hy : ¬ ((rB T n (cs h).1) + 1 < n ∧ T ((rB T n (cs h).1) + 1) = 61) := by
                  rw [← hb1, ← ((cFr_T gf518).trans hT)]
                  rintro ⟨y1, y2⟩
                  exact cGe pf518 ((cFr_n gf518).trans hN) q520 y1
                exact tw_iret rfl ⟨gf518, Or.inl ⟨_, (cm62 ((sgn_k kp500 62 (by decide)).mp q516)).trans (if_neg hy), hcnf518, rfl, (by rw [sf518, ssp500]; rfl), pf518⟩⟩
              · try dsimp only [tvI_i, tvJ_j, tvR_r] at q521
                have q521i := zeqi (Y := 60) (by decide) q521
                exact absurd (q516.symm.trans q521) (by decide)
            · try dsimp only [tvI_i, tvJ_j, tvR_r] at q520
              refine tw_aload rfl rfl ?_
              refine tw_getS rfl (hs_44_0 (gf518).1) ?_
              refine tw_aload rfl rfl ?_
              refine tw_getS rfl (hi_44_2 (gf518).1) ?_
              refine tw_bald rfl (fun f522 => ?_)
              refine tw_push rfl ?_
              refine tw_ic_ne rfl (fun q523 => ?_) (fun q523 => ?_)
              · try dsimp only [tvI_i, tvJ_j, tvR_r] at q523
                have q523i := zneq (Y := 61) (by decide) q523
                refine tw_iload rfl rfl ?_
                refine tw_push rfl ?_
                refine tw_ic_ne rfl (fun q524 => ?_) (fun q524 => ?_)
                · try dsimp only [tvI_i, tvJ_j, tvR_r] at q524
                  have q524i := zneq (Y := 60) (by decide) q524
                  refine tw_push rfl ?_
                  have hbb : (cs hp500).1 = (rB T n (cs h).1) := by rw [ssp500]; rfl
                  rw [ssp500] at hcnf518
                  have hb1 : (cs hf518).1 = (rB T n (cs h).1) + 1 := by rw [sf518, ssp500]; rfl
                  have hy : ¬ ((rB T n (cs h).1) + 1 < n ∧ T ((rB T n (cs h).1) + 1) = 61) := by
                    rw [← hb1, ← ((cFr_T gf518).trans hT)]
                    rintro ⟨y1, y2⟩
                    exact q523 y2
                  exact tw_iret rfl ⟨gf518, Or.inl ⟨_, (cm62 ((sgn_k kp500 62 (by decide)).mp q516)).trans (if_neg hy), hcnf518, rfl, (by rw [sf518, ssp500]; rfl), pf518⟩⟩
                · try dsimp only [tvI_i, tvJ_j, tvR_r] at q524
                  have q524i := zeqi (Y := 60) (by decide) q524
                  exact absurd (q516.symm.trans q524) (by decide)
              · try dsimp only [tvI_i, tvJ_j, tvR_r] at q523
                have q523i := zeqi (Y := 61) (by decide) q523
                refine tw_aload rfl rfl ?_
                refine tw_dup rfl ?_
                refine tw_getS rfl (hi_44_2 (gf518).1) ?_
                refine tw_push rfl ?_
                refine tw_iadd rfl ?_
                refine tw_put rfl (fun f525 => ?_)
                refine tG_set f525 (hw_44_2 f525 (gf518).1) (fun hf525 ef525 => ?_)
                try dsimp only [tvI_i] at ef525
                have gf525 := cFr_s gf518 ef525 (by decide)
                have hlf525 := cLt pf518 ((cFr_n gf518).trans hN) q520
                obtain ⟨pf525, sf525⟩ := cInc pf518 hlf525 ((cFr_n gf518).trans hN) ef525
                refine tw_iload rfl rfl ?_
                refine tw_push rfl ?_
                refine tw_ic_ne rfl (fun q526 => ?_) (fun q526 => ?_)
                · try dsimp only [tvI_i, tvJ_j, tvR_r] at q526
                  have q526i := zneq (Y := 60) (by decide) q526
                  refine tw_push rfl ?_
                  have hbb : (cs hp500).1 = (rB T n (cs h).1) := by rw [ssp500]; rfl
                  rw [ssp500] at hcnf518
                  have hb1 : (cs hf518).1 = (rB T n (cs h).1) + 1 := by rw [sf518, ssp500]; rfl
                  have hy : (rB T n (cs h).1) + 1 < n ∧ T ((rB T n (cs h).1) + 1) = 61 := by rw [← hb1]; exact ⟨hlf525, by rw [← ((cFr_T gf518).trans hT)]; exact q523⟩
                  exact tw_iret rfl ⟨gf525, Or.inl ⟨_, (cm62 ((sgn_k kp500 62 (by decide)).mp q516)).trans (if_pos hy), hcnf518, rfl, (by rw [sf525, sf518, ssp500]; rfl), pf525⟩⟩
                · try dsimp only [tvI_i, tvJ_j, tvR_r] at q526
                  have q526i := zeqi (Y := 60) (by decide) q526
                  exact absurd (q516.symm.trans q526) (by decide)
          · try dsimp only [tvI_i, tvJ_j, tvR_r] at q519
            have q519i := zeqi (Y := 61) (by decide) q519
            exact absurd (q516.symm.trans q519) (by decide)
        · have ggp517 := cFr_t ggp500 gp517
          refine tw_if_ne rfl (fun z => absurd z (by decide)) (fun _ => ?_)
          refine tw_push rfl ?_
          have hbb : (cs hp500).1 = (rB T n (cs h).1) := by rw [ssp500]; rfl
          obtain ⟨o1, o2⟩ := rC_n p517
          rw [hbb] at o2
          rw [ssp500] at o1
          obtain ⟨q9, hq9⟩ := cm_s (Or.inr (Or.inr ((sgn_k kp500 62 (by decide)).mp q516)))
          exact tw_iret rfl ⟨ggp517, Or.inr ⟨rfl, _, up517, Or.inr ⟨q9, hq9, o1, o2⟩⟩⟩
      · try dsimp only [tvI_i, tvJ_j, tvR_r] at q516
        have q516i := zneq (Y := 62) (by decide) q516
        refine tw_aload rfl rfl ?_
        refine tw_aload rfl rfl ?_
        refine tw_getS rfl (hi_44_2 ggp500.1) ?_
        refine tw_push rfl ?_
        refine tw_virt2 rfl (f_refuse hG hX (ggp500).1 ppp500 ((cFr_T ggp500).trans hT) ((cFr_n ggp500).trans hN)) (fun wp527 hp527 p527 => ?_)
        obtain ⟨gp527, rfl, up527⟩ := p527
        have ggp527 := cFr_t ggp500 gp527
        refine tw_pop rfl ?_
        refine tw_push rfl ?_
        have hbb : (cs hp500).1 = (rB T n (cs h).1) := by rw [ssp500]; rfl
        have hft := cFt_of ppp500 up527 (w := 0) rfl (by decide)
        rw [hbb] at hft
        exact tw_iret rfl ⟨ggp527, Or.inr ⟨rfl, _, hft, Or.inl ⟨cm_n (fun z => q512 ((sgn_k kp500 61 (by decide)).mpr z)) (fun z => q501 ((sgn_k kp500 60 (by decide)).mpr z)) (fun z => q516 ((sgn_k kp500 62 (by decide)).mpr z)), rfl⟩⟩⟩
theorem zd1 {x : Int32} {d : Nat} (hx : x.toInt = d) (hd : d ≤ 10) : (x + 1).toInt = ((d + 1 : Nat) : Int) := zincN hx (by omega)
theorem wrd_k {T : Nat → Int32} {n b k : Nat} {i : Int32} (w : wrd T n b i) (hk : k < 20) {K : Int32} (hK : K.toInt = k) : i = K ↔ rW T n b (rWd k) = true := (by
  rw [← w.2 k hk, ← hK]
  exact Int32.toInt_inj.symm)
theorem cTw_of {h : zH} {k : Nat} {i : Int32} (hi : i.toInt = k) (hk : k < 20) : (100000 + i).toNatClampNeg = 100000 + k := by
  have e : (100000 + i).toInt = 100000 + k := by
    rw [Int32.toInt_add, hi]
    exact Int.bmod_eq_of_le (by show (-2147483648 : Int) ≤ 100000 + (k : Int); omega) (by show 100000 + (k : Int) < (2147483648 : Int); omega)
  rw [zclE, e]
  omega
theorem cPe {T : Nat → Int32} {n m d : Nat} {h h2 : zH} (p : cP h) (hn : cn h = n) (k : pE T n m d (cs h) (.inr (cs h2))) : rPg n (cs h) (cs h2) := pE_pg k (by rw [← hn]; exact cP_le p)
theorem cHc {h : zH} (p : cP h) (q : (cs h).2.2.length < (cs h).1) : (tvI (tF h 44 5)).toInt < (tvI (tF h 44 2)).toInt := by
  have q : (cCo h).length < (tvI (tF h 44 2)).toNatClampNeg := q
  rw [cCo_len, zclE, zclE] at q
  have := p.1
  have := p.2.2.1
  omega
theorem c400 {T : Nat → Int32} {n x : Nat} (h : 400 ≤ x) (h2 : x ≤ n) (hn : n ≤ 400) {c : Prop} : ¬ (rB T n x < n ∧ c) := by
  have := rB_ge (T := T) (n := n) (p := x)
  intro z
  omega
theorem rB_400 {T : Nat → Int32} {n x : Nat} (h : n ≤ x) : rB T n x = x := rB_n (by omega)
theorem w400 {T : Nat → Int32} {n x i : Nat} (hi : i < 20) (h : n ≤ x) : ¬ rW T n x (rWd i) = true := fun z => by
  have := (rW_l hi z).1
  omega
theorem f_takeWord {G : zG} (hG : G.1 = zProg) (hX : G.2.1 = ztx) {h : zH} {T : Nat → Int32} {n : Nat} (hs : tSh h) (hp : cP h) (hT : tA h 45 = T) (hN : cn h = n) {i : Int32} {k E : Nat} (hi : i.toInt = k) (hk : k < 12) (hE : (tvI (tF h 44 3)).toInt = E) (hE1 : (cs h).1 < E) (hE2 : E ≤ n) : tC zTt G 86 [.ref 44, .int i] h (fun w h2 => cFr h h2 ∧ w = some (.int 1) ∧ cs h2 = rU (100000 + k) (rA E (cs h)) ∧ cP h2) := by
  refine tC_in (by rw [hG]; rfl) (fun dp => ?_)
  have g0 := cFr_r hs
  have hpn : (cs h).1 ≤ n := by rw [← hN]; exact cP_le hp
  refine tw_aload rfl rfl ?_
  refine tw_aload rfl rfl ?_
  refine tw_getS rfl (hi_44_3 hs) ?_
  refine tw_put rfl (fun f528 => ?_)
  refine tG_set f528 (hw_44_2 f528 (g0).1) (fun hf528 ef528 => ?_)
  try dsimp only [tvI_i] at ef528
  have gf528 := cFr_s g0 ef528 (by decide)
  obtain ⟨pf528, sf528⟩ := cTo hp ((cFr_n g0).trans hN) ef528 hE (by omega) hE2
  refine tw_aload rfl rfl ?_
  refine tw_push rfl ?_
  refine tw_iload rfl rfl ?_
  refine tw_iadd rfl ?_
  refine tw_virt1 rfl (f_putCode hG hX (gf528).1 pf528 ((cFr_T gf528).trans hT) ((cFr_n gf528).trans hN) (cHc pf528 (by rw [sf528]; show (cs h).2.2.length < E; have := cP_len hp; omega))) (fun wp529 hp529 p529 => ?_)
  obtain ⟨gp529, rfl, ssp529, ppp529⟩ := p529
  have ggp529 := cFr_t gf528 gp529
  refine tw_push rfl ?_
  refine tw_iret rfl ⟨ggp529, rfl, ?_, ppp529⟩
  rw [ssp529, sf528]
  show rU (100000 + i).toNatClampNeg _ = _
  rw [cTw_of (h := h) hi (by omega)]
theorem zoN {v : Nat} (h : v ≤ 200000) : (Int32.ofNat v).toNatClampNeg = v := zof_cl (zofI (by omega))
theorem zoN9 {v : Nat} (h : v ≤ 200000) : ¬ Int32.ofNat v = -1 := fun z => by
  have e := zofI (e := v) (by omega)
  rw [z] at e
  have : ((-1 : Int32)).toInt = -1 := by decide
  omega
theorem f_readValue {G : zG} (hG : G.1 = zProg) (hX : G.2.1 = ztx) {dp : Nat} (IH : cIH G dp) {h : zH} {T : Nat → Int32} {n : Nat} (hs : tSh h) (hp : cP h) (hT : tA h 45 = T) (hN : cn h = n) {x : Int32} {d : Nat} (hx : x.toInt = d) (hd : d ≤ 10) : tCp zTt G (dp + 1) 85 [.ref 44, .int x] h (cR T n 0 d h) := by
  refine tCp_in (by rw [hG]; rfl) ?_
  have g0 := cFr_r hs
  have hpn : (cs h).1 ≤ n := by rw [← hN]; exact cP_le hp
  have c129 : (12 : Int32).toInt = 12 := rfl
  have c4009 : (400 : Int32).toInt = 400 := rfl
  have c109 : (10 : Int32).toInt = 10 := rfl
  refine tw_aload rfl rfl ?_
  refine tw_virt0 rfl (f_signHere hG hX (g0).1 hp ((cFr_T g0).trans hT) ((cFr_n g0).trans hN)) (fun wp530 hp530 p530 => ?_)
  obtain ⟨gp530, ppp530, ssp530, t3p530, cp530, rfl, kp530⟩ := p530
  have ggp530 := cFr_t g0 gp530
  refine tw_push rfl ?_
  refine tw_ic_ne rfl (fun q531 => ?_) (fun q531 => ?_)
  · try dsimp only [tvI_i, tvJ_j, tvR_r] at q531
    have q531i := zneq (Y := 40) (by decide) q531
    refine tw_aload rfl rfl ?_
    refine tw_virt0 rfl (f_wordHere hG hX (ggp530).1 ppp530 ((cFr_T ggp530).trans hT) ((cFr_n ggp530).trans hN)) (fun wp532 hp532 p532 => ?_)
    obtain ⟨gp532, ppp532, ssp532, eep532, ip532, rfl, kwp532⟩ := p532
    have ggp532 := cFr_t ggp530 gp532
    have hbS : rB T n (cs hp530).1 = (rB T n (cs h).1) := by rw [ssp530]; exact rB_2
    rw [hbS] at ssp532 eep532 kwp532
    rw [ssp530] at ssp532
    refine tw_istore rfl ?_
    refine tw_iload rfl rfl ?_
    refine tw_push rfl ?_
    refine tw_ic_eq rfl (fun q533 => ?_) (fun q533 => ?_)
    · try dsimp only [tvI_i, tvJ_j, tvR_r] at q533
      have q533i := zeqi (Y := (-1)) (by decide) q533
      refine tw_aload rfl rfl ?_
      refine tw_getS rfl (hi_44_2 ggp532.1) ?_
      refine tw_istore rfl ?_
      refine tw_aload rfl rfl ?_
      refine tw_push rfl ?_
      refine tw_virt1 rfl (f_numberHere hG hX (ggp532).1 ppp532 ((cFr_T ggp532).trans hT) ((cFr_n ggp532).trans hN) (m := 99999) (M := 99999) rfl (by decide)) (fun w9 hp534 p534 => ?_)
      obtain ⟨gp534, ⟨vp534, p534, rfl, ssp534, ppp534⟩ | ⟨xp534, p534, rfl, up534⟩⟩ := p534
      · have ggp534 := cFr_t ggp532 gp534
        have hrm := p534
        rw [ssp532] at hrm
        refine tw_istore rfl ?_
        refine tw_iload rfl rfl ?_
        refine tw_push rfl ?_
        refine tw_ic_ne rfl (fun q535 => ?_) (fun q535 => ?_)
        · try dsimp only [tvI_i, tvJ_j, tvR_r] at q535
          have q535i := zneq (Y := (-1)) (by decide) q535
          refine tw_aload rfl rfl ?_
          refine tw_getS rfl (hi_44_8 ggp534.1) ?_
          refine tw_push rfl ?_
          refine tw_ic_ne rfl (fun q536 => ?_) (fun q536 => ?_)
          · try dsimp only [tvI_i, tvJ_j, tvR_r] at q536
            have q536i := zneq (Y := 80) (by decide) q536
            refine tw_aload rfl rfl ?_
            refine tw_dup rfl ?_
            refine tw_getS rfl (hi_44_8 ggp534.1) ?_
            refine tw_push rfl ?_
            refine tw_iadd rfl ?_
            refine tw_put rfl (fun f537 => ?_)
            refine tG_set f537 (hw_44_8 f537 (ggp534).1) (fun hf537 ef537 => ?_)
            try dsimp only [tvI_i] at ef537
            have gf537 := cFr_s ggp534 ef537 (by decide)
            obtain ⟨pf537, sf537⟩ := cCnt ppp534 q536 ef537
            refine tw_aload rfl rfl ?_
            refine tw_iload rfl rfl ?_
            refine tw_virt1 rfl (f_putCode hG hX (gf537).1 pf537 ((cFr_T gf537).trans hT) ((cFr_n gf537).trans hN) (cHc pf537 (by rw [sf537]; show (cs hp534).2.2.length < (cs hp534).1; rw [ssp534, ssp532]; show (cs h).2.2.length < vp534.1; have z := (rM_r (rB_le (T := T) hpn) hrm).1; rw [rB_2] at z; have := rB_ge (T := T) (n := n) (p := (cs h).1); have := cP_len hp; omega))) (fun wp538 hp538 p538 => ?_)
            obtain ⟨gp538, rfl, ssp538, ppp538⟩ := p538
            have ggp538 := cFr_t gf537 gp538
            refine tw_push rfl ?_
            have hi9 : ip532.toInt = -1 := congrArg Int32.toInt q533
            have hnw : ∀ k, k < 12 → ¬ rW T n (rB T n (cs h).1) (rWd k) = true := fun k hk z => by have y := (kwp532.2 k (by omega)).mpr z; omega
            have h80 := cn80 ppp534 q536
            rw [ssp534, ssp532] at h80
            refine tw_iret rfl ⟨ggp538, Or.inl ⟨rfl, ?_, ppp538⟩⟩
            rw [ssp538, sf537, ssp534, ssp532]
            have e9 := zoN (v := vp534.2) (by have := (rM_r (rB_le (T := T) hpn) hrm).2.2; omega)
            show pE T n 0 d (cs h) (.inr (vp534.1, (cs h).2.1 + 1, (cs h).2.2 ++ [(Int32.ofNat vp534.2).toNatClampNeg]))
            rw [e9]
            exact pE_0z (fun z => q531 ((sgn_k kp530 40 (by decide)).mpr z)) hnw hrm h80
          · try dsimp only [tvI_i, tvJ_j, tvR_r] at q536
            have q536i := zeqi (Y := 80) (by decide) q536
            refine tw_aload rfl rfl ?_
            refine tw_iload rfl rfl ?_
            refine tw_push rfl ?_
            refine tw_virt2 rfl (f_refuse hG hX (ggp534).1 ppp534 ((cFr_T ggp534).trans hT) ((cFr_n ggp534).trans hN)) (fun wp539 hp539 p539 => ?_)
            obtain ⟨gp539, rfl, up539⟩ := p539
            have ggp539 := cFr_t ggp534 gp539
            have hi9 : ip532.toInt = -1 := congrArg Int32.toInt q533
            have hnw : ∀ k, k < 12 → ¬ rW T n (rB T n (cs h).1) (rWd k) = true := fun k hk z => by have y := (kwp532.2 k (by omega)).mpr z; omega
            have hft := cFt_of ppp532 up539 (w := 3) rfl (by decide)
            rw [ssp532] at hft
            have h80 := c80 q536
            rw [ssp534, ssp532] at h80
            exact tw_iret rfl ⟨ggp539, Or.inr ⟨rfl, _, pE_0y (fun z => q531 ((sgn_k kp530 40 (by decide)).mpr z)) hnw hrm h80, hft⟩⟩
        · try dsimp only [tvI_i, tvJ_j, tvR_r] at q535
          have q535i := zeqi (Y := (-1)) (by decide) q535
          exact absurd q535 (zoN9 (by have := (rM_r (rB_le (T := T) hpn) hrm).2.2; omega))
      · have ggp534 := cFr_t ggp532 gp534
        have hrm := p534
        rw [ssp532] at hrm
        refine tw_istore rfl ?_
        refine tw_iload rfl rfl ?_
        refine tw_push rfl ?_
        refine tw_ic_ne rfl (fun z => absurd z (by decide)) (fun _ => ?_)
        refine tw_push rfl ?_
        have hi9 : ip532.toInt = -1 := congrArg Int32.toInt q533
        have hnw : ∀ k, k < 12 → ¬ rW T n (rB T n (cs h).1) (rWd k) = true := fun k hk z => by have y := (kwp532.2 k (by omega)).mpr z; omega
        exact tw_iret rfl ⟨ggp534, Or.inr ⟨rfl, _, pE_0m (fun z => q531 ((sgn_k kp530 40 (by decide)).mpr z)) hnw hrm, up534⟩⟩
    · try dsimp only [tvI_i, tvJ_j, tvR_r] at q533
      have q533i := zneq (Y := (-1)) (by decide) q533
      refine tw_iload rfl rfl ?_
      refine tw_push rfl ?_
      refine tw_ic_ge rfl (fun q540 => ?_) (fun q540 => ?_)
      · try dsimp only [tvI_i, tvJ_j, tvR_r] at q540
        refine tw_aload rfl rfl ?_
        refine tw_getS rfl (hi_44_2 ggp532.1) ?_
        refine tw_istore rfl ?_
        refine tw_aload rfl rfl ?_
        refine tw_push rfl ?_
        refine tw_virt1 rfl (f_numberHere hG hX (ggp532).1 ppp532 ((cFr_T ggp532).trans hT) ((cFr_n ggp532).trans hN) (m := 99999) (M := 99999) rfl (by decide)) (fun w9 hp541 p541 => ?_)
        obtain ⟨gp541, ⟨vp541, p541, rfl, ssp541, ppp541⟩ | ⟨xp541, p541, rfl, up541⟩⟩ := p541
        · have ggp541 := cFr_t ggp532 gp541
          have hrm := p541
          rw [ssp532] at hrm
          refine tw_istore rfl ?_
          refine tw_iload rfl rfl ?_
          refine tw_push rfl ?_
          refine tw_ic_ne rfl (fun q542 => ?_) (fun q542 => ?_)
          · try dsimp only [tvI_i, tvJ_j, tvR_r] at q542
            have q542i := zneq (Y := (-1)) (by decide) q542
            refine tw_aload rfl rfl ?_
            refine tw_getS rfl (hi_44_8 ggp541.1) ?_
            refine tw_push rfl ?_
            refine tw_ic_ne rfl (fun q543 => ?_) (fun q543 => ?_)
            · try dsimp only [tvI_i, tvJ_j, tvR_r] at q543
              have q543i := zneq (Y := 80) (by decide) q543
              refine tw_aload rfl rfl ?_
              refine tw_dup rfl ?_
              refine tw_getS rfl (hi_44_8 ggp541.1) ?_
              refine tw_push rfl ?_
              refine tw_iadd rfl ?_
              refine tw_put rfl (fun f544 => ?_)
              refine tG_set f544 (hw_44_8 f544 (ggp541).1) (fun hf544 ef544 => ?_)
              try dsimp only [tvI_i] at ef544
              have gf544 := cFr_s ggp541 ef544 (by decide)
              obtain ⟨pf544, sf544⟩ := cCnt ppp541 q543 ef544
              refine tw_aload rfl rfl ?_
              refine tw_iload rfl rfl ?_
              refine tw_virt1 rfl (f_putCode hG hX (gf544).1 pf544 ((cFr_T gf544).trans hT) ((cFr_n gf544).trans hN) (cHc pf544 (by rw [sf544]; show (cs hp541).2.2.length < (cs hp541).1; rw [ssp541, ssp532]; show (cs h).2.2.length < vp541.1; have z := (rM_r (rB_le (T := T) hpn) hrm).1; rw [rB_2] at z; have := rB_ge (T := T) (n := n) (p := (cs h).1); have := cP_len hp; omega))) (fun wp545 hp545 p545 => ?_)
              obtain ⟨gp545, rfl, ssp545, ppp545⟩ := p545
              have ggp545 := cFr_t gf544 gp545
              refine tw_push rfl ?_
              have hi9 : 12 ≤ ip532.toInt := by have z := q540; exact z
              have hnw : ∀ k, k < 12 → ¬ rW T n (rB T n (cs h).1) (rWd k) = true := fun k hk z => by have y := (kwp532.2 k (by omega)).mpr z; omega
              have h80 := cn80 ppp541 q543
              rw [ssp541, ssp532] at h80
              refine tw_iret rfl ⟨ggp545, Or.inl ⟨rfl, ?_, ppp545⟩⟩
              rw [ssp545, sf544, ssp541, ssp532]
              have e9 := zoN (v := vp541.2) (by have := (rM_r (rB_le (T := T) hpn) hrm).2.2; omega)
              show pE T n 0 d (cs h) (.inr (vp541.1, (cs h).2.1 + 1, (cs h).2.2 ++ [(Int32.ofNat vp541.2).toNatClampNeg]))
              rw [e9]
              exact pE_0z (fun z => q531 ((sgn_k kp530 40 (by decide)).mpr z)) hnw hrm h80
            · try dsimp only [tvI_i, tvJ_j, tvR_r] at q543
              have q543i := zeqi (Y := 80) (by decide) q543
              refine tw_aload rfl rfl ?_
              refine tw_iload rfl rfl ?_
              refine tw_push rfl ?_
              refine tw_virt2 rfl (f_refuse hG hX (ggp541).1 ppp541 ((cFr_T ggp541).trans hT) ((cFr_n ggp541).trans hN)) (fun wp546 hp546 p546 => ?_)
              obtain ⟨gp546, rfl, up546⟩ := p546
              have ggp546 := cFr_t ggp541 gp546
              have hi9 : 12 ≤ ip532.toInt := by have z := q540; exact z
              have hnw : ∀ k, k < 12 → ¬ rW T n (rB T n (cs h).1) (rWd k) = true := fun k hk z => by have y := (kwp532.2 k (by omega)).mpr z; omega
              have hft := cFt_of ppp532 up546 (w := 3) rfl (by decide)
              rw [ssp532] at hft
              have h80 := c80 q543
              rw [ssp541, ssp532] at h80
              exact tw_iret rfl ⟨ggp546, Or.inr ⟨rfl, _, pE_0y (fun z => q531 ((sgn_k kp530 40 (by decide)).mpr z)) hnw hrm h80, hft⟩⟩
          · try dsimp only [tvI_i, tvJ_j, tvR_r] at q542
            have q542i := zeqi (Y := (-1)) (by decide) q542
            exact absurd q542 (zoN9 (by have := (rM_r (rB_le (T := T) hpn) hrm).2.2; omega))
        · have ggp541 := cFr_t ggp532 gp541
          have hrm := p541
          rw [ssp532] at hrm
          refine tw_istore rfl ?_
          refine tw_iload rfl rfl ?_
          refine tw_push rfl ?_
          refine tw_ic_ne rfl (fun z => absurd z (by decide)) (fun _ => ?_)
          refine tw_push rfl ?_
          have hi9 : 12 ≤ ip532.toInt := by have z := q540; exact z
          have hnw : ∀ k, k < 12 → ¬ rW T n (rB T n (cs h).1) (rWd k) = true := fun k hk z => by have y := (kwp532.2 k (by omega)).mpr z; omega
          exact tw_iret rfl ⟨ggp541, Or.inr ⟨rfl, _, pE_0m (fun z => q531 ((sgn_k kp530 40 (by decide)).mpr z)) hnw hrm, up541⟩⟩
      · try dsimp only [tvI_i, tvJ_j, tvR_r] at q540
        refine tw_aload rfl rfl ?_
        refine tw_virt0 rfl (f_countOne hG hX (ggp532).1 ppp532 ((cFr_T ggp532).trans hT) ((cFr_n ggp532).trans hN)) (fun w9 hp547 p547 => ?_)
        obtain ⟨gp547, ⟨rfl, p547, ppp547, t3p547⟩ | ⟨rfl, xp547, p547, up547⟩⟩ := p547
        · have ggp547 := cFr_t ggp532 gp547
          have kwb := kwp532.1
          have hk12 : rW T n (rB T n (cs h).1) (rWd ip532.toInt.toNat) = true := (kwp532.2 ip532.toInt.toNat (by omega)).mp (by omega)
          have hEb : (rB T n (cs h).1) < rE T n (rB T n (cs h).1) := by have z := rE_ge (T := T) (n := n) (p := (rB T n (cs h).1) + 1); rw [← rE_y (rW_l (by omega) hk12)] at z; omega
          refine tw_if_eq rfl (fun z => absurd z (by decide)) (fun _ => ?_)
          refine tw_aload rfl rfl ?_
          refine tw_iload rfl rfl ?_
          refine tw_virt1 rfl (f_takeWord hG hX (ggp547).1 ppp547 ((cFr_T ggp547).trans hT) ((cFr_n ggp547).trans hN) (i := ip532) (k := ip532.toInt.toNat) (E := rE T n (rB T n (cs h).1)) (by have := kwp532.1; omega) (by omega) (by rw [t3p547]; exact eep532) (by rw [(rC_y p547).2]; show (cs hp532).1 < _; rw [ssp532]; exact hEb) (rE_le (rB_le hpn))) (fun wp548 hp548 p548 => ?_)
          obtain ⟨gp548, rfl, ssp548, ppp548⟩ := p548
          have ggp548 := cFr_t ggp547 gp548
          refine tw_if_eq rfl (fun z => absurd z (by decide)) (fun _ => ?_)
          refine tw_push rfl ?_
          refine tw_goto rfl ?_
          obtain ⟨hcn, hce⟩ := rC_y p547
          rw [ssp532] at hcn
          refine tw_iret rfl ⟨ggp548, Or.inl ⟨rfl, ?_, ppp548⟩⟩
          rw [ssp548, hce, ssp532]
          exact pE_0w (by omega) hk12 hcn
        · have ggp547 := cFr_t ggp532 gp547
          have kwb := kwp532.1
          have hk12 : rW T n (rB T n (cs h).1) (rWd ip532.toInt.toNat) = true := (kwp532.2 ip532.toInt.toNat (by omega)).mp (by omega)
          have hEb : (rB T n (cs h).1) < rE T n (rB T n (cs h).1) := by have z := rE_ge (T := T) (n := n) (p := (rB T n (cs h).1) + 1); rw [← rE_y (rW_l (by omega) hk12)] at z; omega
          refine tw_if_eq rfl (fun _ => ?_) (fun z => absurd z (by decide))
          refine tw_push rfl ?_
          obtain ⟨o1, o2⟩ := rC_n p547
          rw [ssp532] at o1 o2
          subst o2
          exact tw_iret rfl ⟨ggp547, Or.inr ⟨rfl, _, pE_0x (k := ip532.toInt.toNat) (by omega) hk12 o1, up547⟩⟩
  · try dsimp only [tvI_i, tvJ_j, tvR_r] at q531
    have q531i := zeqi (Y := 40) (by decide) q531
    refine tw_iload rfl rfl ?_
    refine tw_push rfl ?_
    refine tw_ic_ne rfl (fun q549 => ?_) (fun q549 => ?_)
    · try dsimp only [tvI_i, tvJ_j, tvR_r] at q549
      have q549i := zneq (Y := 10) (by decide) q549
      refine tw_aload rfl rfl ?_
      refine tw_virt0 rfl (f_countOne hG hX (ggp530).1 ppp530 ((cFr_T ggp530).trans hT) ((cFr_n ggp530).trans hN)) (fun w9 hp550 p550 => ?_)
      obtain ⟨gp550, ⟨rfl, p550, ppp550, t3p550⟩ | ⟨rfl, xp550, p550, up550⟩⟩ := p550
      · have ggp550 := cFr_t ggp530 gp550
        refine tw_if_ne rfl (fun _ => ?_) (fun z => absurd z (by decide))
        refine tw_aload rfl rfl ?_
        refine tw_dup rfl ?_
        refine tw_getS rfl (hi_44_2 ggp550.1) ?_
        refine tw_push rfl ?_
        refine tw_iadd rfl ?_
        refine tw_put rfl (fun f551 => ?_)
        refine tG_set f551 (hw_44_2 f551 (ggp550).1) (fun hf551 ef551 => ?_)
        try dsimp only [tvI_i] at ef551
        have gf551 := cFr_s ggp550 ef551 (by decide)
        obtain ⟨hcn, hce⟩ := rC_y p550
        have hw := (sgn_k kp530 40 (by decide)).mp q531
        have hlf551 : (cs hp550).1 < n := by rw [hce]; show (cs hp530).1 < n; rw [ssp530]; exact hw.1
        obtain ⟨pf551, sf551⟩ := cInc ppp550 hlf551 ((cFr_n ggp550).trans hN) ef551
        rw [hce, ssp530] at sf551
        refine tw_aload rfl rfl ?_
        refine tw_iload rfl rfl ?_
        refine tw_push rfl ?_
        refine tw_iadd rfl ?_
        refine tw_virt1p rfl (IH 3 83 (by decide) _ _ _ (d + 1) _ (gf551).1 pf551 ((cFr_T gf551).trans hT) ((cFr_n gf551).trans hN) (zd1 hx hd) (by omega)) (fun w9 hp552 p552 => ?_)
        obtain ⟨gp552, ⟨rfl, p552, ppp552⟩ | ⟨rfl, xp552, p552, up552⟩⟩ := p552
        · have ggp552 := cFr_t gf551 gp552
          refine tw_if_eq rfl (fun z => absurd z (by decide)) (fun _ => ?_)
          refine tw_aload rfl rfl ?_
          refine tw_push rfl ?_
          refine tw_virt1 rfl (f_takeSign hG hX (ggp552).1 ppp552 ((cFr_T ggp552).trans hT) ((cFr_n ggp552).trans hN) (y := 41) (by decide)) (fun w9 hp553 p553 => ?_)
          obtain ⟨gp553, ⟨rfl, p553, ppp553⟩ | ⟨rfl, xp553, p553, up553⟩⟩ := p553
          · have ggp553 := cFr_t ggp552 gp553
            refine tw_if_eq rfl (fun z => absurd z (by decide)) (fun _ => ?_)
            refine tw_push rfl ?_
            refine tw_goto rfl ?_
            have hw9 := ((sgn_k kp530 40 (by decide)).mp q531)
            have hd10 : d ≠ 10 := fun z => q549 (Int32.toInt_inj.mp (by rw [hx, z]; rfl))
            rw [ssp530] at hcn
            rw [sf551] at p552
            exact tw_iret rfl ⟨ggp553, Or.inl ⟨rfl, pE_0d hw9 hd10 hcn p552 p553, ppp553⟩⟩
          · have ggp553 := cFr_t ggp552 gp553
            refine tw_if_eq rfl (fun _ => ?_) (fun z => absurd z (by decide))
            refine tw_push rfl ?_
            have hw9 := ((sgn_k kp530 40 (by decide)).mp q531)
            have hd10 : d ≠ 10 := fun z => q549 (Int32.toInt_inj.mp (by rw [hx, z]; rfl))
            rw [ssp530] at hcn
            rw [sf551] at p552
            exact tw_iret rfl ⟨ggp553, Or.inr ⟨rfl, _, pE_0d hw9 hd10 hcn p552 p553, up553⟩⟩
        · have ggp552 := cFr_t gf551 gp552
          refine tw_if_eq rfl (fun _ => ?_) (fun z => absurd z (by decide))
          refine tw_push rfl ?_
          have hw9 := ((sgn_k kp530 40 (by decide)).mp q531)
          have hd10 : d ≠ 10 := fun z => q549 (Int32.toInt_inj.mp (by rw [hx, z]; rfl))
          rw [ssp530] at hcn
          rw [sf551] at p552
          exact tw_iret rfl ⟨ggp552, Or.inr ⟨rfl, _, pE_0c hw9 hd10 hcn p552, up552⟩⟩
      · have ggp550 := cFr_t ggp530 gp550
        refine tw_if_ne rfl (fun z => absurd z (by decide)) (fun _ => ?_)
        refine tw_push rfl ?_
        have hw9 := ((sgn_k kp530 40 (by decide)).mp q531)
        have hd10 : d ≠ 10 := fun z => q549 (Int32.toInt_inj.mp (by rw [hx, z]; rfl))
        obtain ⟨o1, o2⟩ := rC_n p550
        rw [ssp530] at o1 o2
        subst o2
        exact tw_iret rfl ⟨ggp550, Or.inr ⟨rfl, _, pE_0b hw9 hd10 o1, up550⟩⟩
    · try dsimp only [tvI_i, tvJ_j, tvR_r] at q549
      have q549i := zeqi (Y := 10) (by decide) q549
      refine tw_aload rfl rfl ?_
      refine tw_aload rfl rfl ?_
      refine tw_getS rfl (hi_44_2 ggp530.1) ?_
      refine tw_push rfl ?_
      refine tw_virt2 rfl (f_refuse hG hX (ggp530).1 ppp530 ((cFr_T ggp530).trans hT) ((cFr_n ggp530).trans hN)) (fun wp554 hp554 p554 => ?_)
      obtain ⟨gp554, rfl, up554⟩ := p554
      have ggp554 := cFr_t ggp530 gp554
      have hw9 := ((sgn_k kp530 40 (by decide)).mp q531)
      have hd10 : d = 10 := by have z : x.toInt = 10 := congrArg Int32.toInt q549; omega
      have hft := cFt_of ppp530 up554 (w := 2) rfl (by decide)
      rw [ssp530] at hft
      exact tw_iret rfl ⟨ggp554, Or.inr ⟨rfl, _, pE_0a hw9 hd10, hft⟩⟩
theorem wlen_k : (rWd 18).length = 3 ∧ (rWd 17).length = 2 ∧ (rWd 19).length = 3 ∧ (rWd 16).length = 2 := by decide +kernel
theorem f_readTerm {G : zG} (hG : G.1 = zProg) (hX : G.2.1 = ztx) {dp : Nat} (IH : cIH G dp) {h : zH} {T : Nat → Int32} {n : Nat} (hs : tSh h) (hp : cP h) (hT : tA h 45 = T) (hN : cn h = n) {x : Int32} {d : Nat} (hx : x.toInt = d) (hd : d ≤ 10) : tCp zTt G (dp + 1) 84 [.ref 44, .int x] h (cR T n 1 d h) := by
  refine tCp_in (by rw [hG]; rfl) ?_
  have g0 := cFr_r hs
  have hpn : (cs h).1 ≤ n := by rw [← hN]; exact cP_le hp
  have c129 : (12 : Int32).toInt = 12 := rfl
  have c4009 : (400 : Int32).toInt = 400 := rfl
  have c109 : (10 : Int32).toInt = 10 := rfl
  refine tw_aload rfl rfl ?_
  refine tw_iload rfl rfl ?_
  refine tw_virt1p rfl (IH 0 85 (by decide) _ _ _ d _ (g0).1 hp ((cFr_T g0).trans hT) ((cFr_n g0).trans hN) hx hd) (fun w9 hp555 p555 => ?_)
  obtain ⟨gp555, ⟨rfl, p555, ppp555⟩ | ⟨rfl, xp555, p555, up555⟩⟩ := p555
  · have ggp555 := cFr_t g0 gp555
    refine tw_if_ne rfl (fun _ => ?_) (fun z => absurd z (by decide))
    refine tw_push rfl ?_
    refine tw_istore rfl ?_
    refine tG_loop (zW_mono zTt G dp) (zW_conj zTt G dp) (V := fun pc L st h9 _ _ => pc = 12 ∧ st = [] ∧ ∃ (h1 : zH) (k : Nat) (y : Int32), h1 = h9 ∧ y.toInt = k ∧ k ≤ (cs h1).1 ∧ cFr h h1 ∧ cP h1 ∧ (∀ r, pE T n 2 d (cs h1) r → pE T n 1 d (cs h) r) ∧ L = [some (.ref 44), some (.int x), some (.int y)]) ?_ (⟨rfl, rfl, _, 0, _, rfl, rfl, Nat.zero_le _, ggp555, ppp555, fun r z => pE_q (by decide) p555 z, rfl⟩)
    rintro _ _ _ _ _ _ ⟨rfl, rfl, h1, k, y, rfl, hy, hk, g1, p1, hR, rfl⟩
    refine tw_iload rfl rfl ?_
    refine tw_push rfl ?_
    refine tw_ic_ge rfl (fun q556 => ?_) (fun q556 => ?_)
    · try dsimp only [tvI_i, tvJ_j, tvR_r] at q556
      refine tw_push rfl ?_
      have h4 : 400 ≤ (cs h1).1 := by omega
      have h5 := cP_400 p1
      rw [((cFr_n g1).trans hN)] at h5
      have h6 := rB_400 (T := T) (show n ≤ (cs h1).1 by omega)
      have h7 := pE_2n (T := T) (n := n) (d := d) (s := cs h1) (c400 (T := T) h4 (by have := cP_le p1; rw [((cFr_n g1).trans hN)] at this; exact this) h5)
      rw [h6] at h7
      exact tw_iret rfl ⟨g1, Or.inl ⟨rfl, hR _ h7, p1⟩⟩
    · try dsimp only [tvI_i, tvJ_j, tvR_r] at q556
      refine tw_aload rfl rfl ?_
      refine tw_virt0 rfl (f_signHere hG hX (g1).1 p1 ((cFr_T g1).trans hT) ((cFr_n g1).trans hN)) (fun wp557 hp557 p557 => ?_)
      obtain ⟨gp557, ppp557, ssp557, t3p557, cp557, rfl, kp557⟩ := p557
      have ggp557 := cFr_t g1 gp557
      refine tw_push rfl ?_
      refine tw_ic_ne rfl (fun q558 => ?_) (fun q558 => ?_)
      · try dsimp only [tvI_i, tvJ_j, tvR_r] at q558
        have q558i := zneq (Y := 42) (by decide) q558
        refine tw_push rfl ?_
        have h7 := pE_2n (T := T) (n := n) (d := d) (s := cs h1) (fun z => q558 ((sgn_k kp557 42 (by decide)).mpr z))
        rw [← ssp557] at h7
        exact tw_iret rfl ⟨ggp557, Or.inl ⟨rfl, hR _ h7, ppp557⟩⟩
      · try dsimp only [tvI_i, tvJ_j, tvR_r] at q558
        have q558i := zeqi (Y := 42) (by decide) q558
        refine tw_aload rfl rfl ?_
        refine tw_dup rfl ?_
        refine tw_getS rfl (hi_44_2 ggp557.1) ?_
        refine tw_push rfl ?_
        refine tw_iadd rfl ?_
        refine tw_put rfl (fun f559 => ?_)
        refine tG_set f559 (hw_44_2 f559 (ggp557).1) (fun hf559 ef559 => ?_)
        try dsimp only [tvI_i] at ef559
        have gf559 := cFr_s ggp557 ef559 (by decide)
        have hwf559 := ((sgn_k kp557 42 (by decide)).mp q558)
        have hlf559 : (cs hp557).1 < n := by rw [ssp557]; exact hwf559.1
        obtain ⟨pf559, sf559⟩ := cInc ppp557 hlf559 ((cFr_n ggp557).trans hN) ef559
        rw [ssp557] at sf559
        refine tw_aload rfl rfl ?_
        refine tw_iload rfl rfl ?_
        refine tw_virt1p rfl (IH 0 85 (by decide) _ _ _ d _ (gf559).1 pf559 ((cFr_T gf559).trans hT) ((cFr_n gf559).trans hN) hx hd) (fun w9 hp560 p560 => ?_)
        obtain ⟨gp560, ⟨rfl, p560, ppp560⟩ | ⟨rfl, xp560, p560, up560⟩⟩ := p560
        · have ggp560 := cFr_t gf559 gp560
          refine tw_if_ne rfl (fun _ => ?_) (fun z => absurd z (by decide))
          refine tw_aload rfl rfl ?_
          refine tw_push rfl ?_
          refine tw_virt1 rfl (f_putCode hG hX (ggp560).1 ppp560 ((cFr_T ggp560).trans hT) ((cFr_n ggp560).trans hN) (cHc ppp560 (by have z := cPe pf559 ((cFr_n gf559).trans hN) p560; have z2 := cP_len p1; have z3 := rB_ge (T := T) (n := n) (p := (cs h1).1); obtain ⟨z4, z5, z6⟩ := z; rw [sf559] at z4 z6; have z4 : (rB T n (cs h1).1) + 1 ≤ (cs hp560).1 := z4; have z6 : (rB T n (cs h1).1) + 1 + (cs hp560).2.2.length ≤ (cs hp560).1 + (cs h1).2.2.length := z6; omega))) (fun wp561 hp561 p561 => ?_)
          obtain ⟨gp561, rfl, ssp561, ppp561⟩ := p561
          have ggp561 := cFr_t ggp560 gp561
          refine tw_iinc rfl rfl ?_
          refine tw_goto rfl ?_
          have z := cPe pf559 ((cFr_n gf559).trans hN) p560
          have z3 := rB_ge (T := T) (n := n) (p := (cs h1).1)
          obtain ⟨z4, z5, z6⟩ := z
          have hon := p560
          rw [sf559] at z4 hon
          have z4 : (rB T n (cs h1).1) + 1 ≤ (cs hp560).1 := z4
          exact tG_cut (zW_mono zTt G dp) (Or.inr ⟨rfl, rfl, _, k + 1, _, rfl, zincL hy q556, (by rw [ssp561]; show k + 1 ≤ (cs hp560).1; omega), ggp561, ppp561, fun r w => hR r (pE_2y hwf559 hon (by rw [ssp561] at w; exact w)), rfl⟩)
        · have ggp560 := cFr_t gf559 gp560
          refine tw_if_ne rfl (fun z => absurd z (by decide)) (fun _ => ?_)
          refine tw_push rfl ?_
          have hoff := p560
          rw [sf559] at hoff
          exact tw_iret rfl ⟨ggp560, Or.inr ⟨rfl, _, hR _ (pE_2f hwf559 hoff), up560⟩⟩
  · have ggp555 := cFr_t g0 gp555
    refine tw_if_ne rfl (fun z => absurd z (by decide)) (fun _ => ?_)
    refine tw_push rfl ?_
    exact tw_iret rfl ⟨ggp555, Or.inr ⟨rfl, _, pE_qf (c := 2) (by decide) p555, up555⟩⟩
theorem f_readSum {G : zG} (hG : G.1 = zProg) (hX : G.2.1 = ztx) {dp : Nat} (IH : cIH G dp) {h : zH} {T : Nat → Int32} {n : Nat} (hs : tSh h) (hp : cP h) (hT : tA h 45 = T) (hN : cn h = n) {x : Int32} {d : Nat} (hx : x.toInt = d) (hd : d ≤ 10) : tCp zTt G (dp + 1) 83 [.ref 44, .int x] h (cR T n 3 d h) := by
  refine tCp_in (by rw [hG]; rfl) ?_
  have g0 := cFr_r hs
  have hpn : (cs h).1 ≤ n := by rw [← hN]; exact cP_le hp
  have c129 : (12 : Int32).toInt = 12 := rfl
  have c4009 : (400 : Int32).toInt = 400 := rfl
  have c109 : (10 : Int32).toInt = 10 := rfl
  refine tw_aload rfl rfl ?_
  refine tw_iload rfl rfl ?_
  refine tw_virt1p rfl (IH 1 84 (by decide) _ _ _ d _ (g0).1 hp ((cFr_T g0).trans hT) ((cFr_n g0).trans hN) hx hd) (fun w9 hp562 p562 => ?_)
  obtain ⟨gp562, ⟨rfl, p562, ppp562⟩ | ⟨rfl, xp562, p562, up562⟩⟩ := p562
  · have ggp562 := cFr_t g0 gp562
    refine tw_if_ne rfl (fun _ => ?_) (fun z => absurd z (by decide))
    refine tw_push rfl ?_
    refine tw_istore rfl ?_
    refine tG_loop (zW_mono zTt G dp) (zW_conj zTt G dp) (V := fun pc L st h9 _ _ => pc = 12 ∧ st = [] ∧ ∃ (h1 : zH) (k : Nat) (y : Int32) (v3 : Option Value), h1 = h9 ∧ y.toInt = k ∧ k ≤ (cs h1).1 ∧ cFr h h1 ∧ cP h1 ∧ (∀ r, pE T n 4 d (cs h1) r → pE T n 3 d (cs h) r) ∧ L = [some (.ref 44), some (.int x), some (.int y), v3]) ?_ (⟨rfl, rfl, _, 0, _, _, rfl, rfl, Nat.zero_le _, ggp562, ppp562, fun r z => pE_q (by decide) p562 z, rfl⟩)
    rintro _ _ _ _ _ _ ⟨rfl, rfl, h1, k, y, v3, rfl, hy, hk, g1, p1, hR, rfl⟩
    refine tw_iload rfl rfl ?_
    refine tw_push rfl ?_
    refine tw_ic_ge rfl (fun q563 => ?_) (fun q563 => ?_)
    · try dsimp only [tvI_i, tvJ_j, tvR_r] at q563
      refine tw_push rfl ?_
      have h4 : 400 ≤ (cs h1).1 := by omega
      have h5 := cP_400 p1
      rw [((cFr_n g1).trans hN)] at h5
      have h6 := rB_400 (T := T) (show n ≤ (cs h1).1 by omega)
      have h7 := pE_4n (T := T) (n := n) (d := d) (s := cs h1) (c400 (T := T) h4 (by have := cP_le p1; rw [((cFr_n g1).trans hN)] at this; exact this) h5) (c400 (T := T) h4 (by have := cP_le p1; rw [((cFr_n g1).trans hN)] at this; exact this) h5)
      rw [h6] at h7
      exact tw_iret rfl ⟨g1, Or.inl ⟨rfl, hR _ h7, p1⟩⟩
    · try dsimp only [tvI_i, tvJ_j, tvR_r] at q563
      refine tw_aload rfl rfl ?_
      refine tw_virt0 rfl (f_signHere hG hX (g1).1 p1 ((cFr_T g1).trans hT) ((cFr_n g1).trans hN)) (fun wp564 hp564 p564 => ?_)
      obtain ⟨gp564, ppp564, ssp564, t3p564, cp564, rfl, kp564⟩ := p564
      have ggp564 := cFr_t g1 gp564
      refine tw_istore rfl ?_
      refine tw_iload rfl rfl ?_
      refine tw_push rfl ?_
      refine tw_ic_eq rfl (fun q565 => ?_) (fun q565 => ?_)
      · try dsimp only [tvI_i, tvJ_j, tvR_r] at q565
        have q565i := zeqi (Y := 43) (by decide) q565
        refine tw_aload rfl rfl ?_
        refine tw_dup rfl ?_
        refine tw_getS rfl (hi_44_2 ggp564.1) ?_
        refine tw_push rfl ?_
        refine tw_iadd rfl ?_
        refine tw_put rfl (fun f566 => ?_)
        refine tG_set f566 (hw_44_2 f566 (ggp564).1) (fun hf566 ef566 => ?_)
        try dsimp only [tvI_i] at ef566
        have gf566 := cFr_s ggp564 ef566 (by decide)
        have hwf566 := ((sgn_k kp564 43 (by decide)).mp q565)
        have hlf566 : (cs hp564).1 < n := by rw [ssp564]; exact hwf566.1
        obtain ⟨pf566, sf566⟩ := cInc ppp564 hlf566 ((cFr_n ggp564).trans hN) ef566
        rw [ssp564] at sf566
        refine tw_aload rfl rfl ?_
        refine tw_iload rfl rfl ?_
        refine tw_virt1p rfl (IH 1 84 (by decide) _ _ _ d _ (gf566).1 pf566 ((cFr_T gf566).trans hT) ((cFr_n gf566).trans hN) hx hd) (fun w9 hp567 p567 => ?_)
        obtain ⟨gp567, ⟨rfl, p567, ppp567⟩ | ⟨rfl, xp567, p567, up567⟩⟩ := p567
        · have ggp567 := cFr_t gf566 gp567
          refine tw_if_ne rfl (fun _ => ?_) (fun z => absurd z (by decide))
          refine tw_aload rfl rfl ?_
          refine tw_iload rfl rfl ?_
          refine tw_push rfl ?_
          refine tw_ic_ne rfl (fun q568 => ?_) (fun q568 => ?_)
          · try dsimp only [tvI_i, tvJ_j, tvR_r] at q568
            have q568i := zneq (Y := 43) (by decide) q568
            exact absurd q565 q568
          · try dsimp only [tvI_i, tvJ_j, tvR_r] at q568
            have q568i := zeqi (Y := 43) (by decide) q568
            refine tw_push rfl ?_
            refine tw_goto rfl ?_
            refine tw_virt1 rfl (f_putCode hG hX (ggp567).1 ppp567 ((cFr_T ggp567).trans hT) ((cFr_n ggp567).trans hN) (cHc ppp567 (by have z := cPe pf566 ((cFr_n gf566).trans hN) p567; have z2 := cP_len p1; have z3 := rB_ge (T := T) (n := n) (p := (cs h1).1); obtain ⟨z4, z5, z6⟩ := z; rw [sf566] at z4 z6; have z4 : (rB T n (cs h1).1) + 1 ≤ (cs hp567).1 := z4; have z6 : (rB T n (cs h1).1) + 1 + (cs hp567).2.2.length ≤ (cs hp567).1 + (cs h1).2.2.length := z6; omega))) (fun wp569 hp569 p569 => ?_)
            obtain ⟨gp569, rfl, ssp569, ppp569⟩ := p569
            have ggp569 := cFr_t ggp567 gp569
            refine tw_iinc rfl rfl ?_
            refine tw_goto rfl ?_
            have z := cPe pf566 ((cFr_n gf566).trans hN) p567
            have z3 := rB_ge (T := T) (n := n) (p := (cs h1).1)
            obtain ⟨z4, z5, z6⟩ := z
            have hon := p567
            rw [sf566] at z4 hon
            have z4 : (rB T n (cs h1).1) + 1 ≤ (cs hp567).1 := z4
            exact tG_cut (zW_mono zTt G dp) (Or.inr ⟨rfl, rfl, _, k + 1, _, _, rfl, zincL hy q563, (by rw [ssp569]; show k + 1 ≤ (cs hp567).1; omega), ggp569, ppp569, fun r w => hR r (pE_4p hwf566 hon (by rw [ssp569] at w; exact w)), rfl⟩)
        · have ggp567 := cFr_t gf566 gp567
          refine tw_if_ne rfl (fun z => absurd z (by decide)) (fun _ => ?_)
          refine tw_push rfl ?_
          have hoff := p567
          rw [sf566] at hoff
          exact tw_iret rfl ⟨ggp567, Or.inr ⟨rfl, _, hR _ (pE_4pf hwf566 hoff), up567⟩⟩
      · try dsimp only [tvI_i, tvJ_j, tvR_r] at q565
        have q565i := zneq (Y := 43) (by decide) q565
        refine tw_iload rfl rfl ?_
        refine tw_push rfl ?_
        refine tw_ic_eq rfl (fun q570 => ?_) (fun q570 => ?_)
        · try dsimp only [tvI_i, tvJ_j, tvR_r] at q570
          have q570i := zeqi (Y := 45) (by decide) q570
          refine tw_aload rfl rfl ?_
          refine tw_dup rfl ?_
          refine tw_getS rfl (hi_44_2 ggp564.1) ?_
          refine tw_push rfl ?_
          refine tw_iadd rfl ?_
          refine tw_put rfl (fun f571 => ?_)
          refine tG_set f571 (hw_44_2 f571 (ggp564).1) (fun hf571 ef571 => ?_)
          try dsimp only [tvI_i] at ef571
          have gf571 := cFr_s ggp564 ef571 (by decide)
          have hwf571 := ((sgn_k kp564 45 (by decide)).mp q570)
          have hlf571 : (cs hp564).1 < n := by rw [ssp564]; exact hwf571.1
          obtain ⟨pf571, sf571⟩ := cInc ppp564 hlf571 ((cFr_n ggp564).trans hN) ef571
          rw [ssp564] at sf571
          refine tw_aload rfl rfl ?_
          refine tw_iload rfl rfl ?_
          refine tw_virt1p rfl (IH 1 84 (by decide) _ _ _ d _ (gf571).1 pf571 ((cFr_T gf571).trans hT) ((cFr_n gf571).trans hN) hx hd) (fun w9 hp572 p572 => ?_)
          obtain ⟨gp572, ⟨rfl, p572, ppp572⟩ | ⟨rfl, xp572, p572, up572⟩⟩ := p572
          · have ggp572 := cFr_t gf571 gp572
            refine tw_if_ne rfl (fun _ => ?_) (fun z => absurd z (by decide))
            refine tw_aload rfl rfl ?_
            refine tw_iload rfl rfl ?_
            refine tw_push rfl ?_
            refine tw_ic_ne rfl (fun q573 => ?_) (fun q573 => ?_)
            · try dsimp only [tvI_i, tvJ_j, tvR_r] at q573
              have q573i := zneq (Y := 43) (by decide) q573
              refine tw_push rfl ?_
              refine tw_virt1 rfl (f_putCode hG hX (ggp572).1 ppp572 ((cFr_T ggp572).trans hT) ((cFr_n ggp572).trans hN) (cHc ppp572 (by have z := cPe pf571 ((cFr_n gf571).trans hN) p572; have z2 := cP_len p1; have z3 := rB_ge (T := T) (n := n) (p := (cs h1).1); obtain ⟨z4, z5, z6⟩ := z; rw [sf571] at z4 z6; have z4 : (rB T n (cs h1).1) + 1 ≤ (cs hp572).1 := z4; have z6 : (rB T n (cs h1).1) + 1 + (cs hp572).2.2.length ≤ (cs hp572).1 + (cs h1).2.2.length := z6; omega))) (fun wp574 hp574 p574 => ?_)
              obtain ⟨gp574, rfl, ssp574, ppp574⟩ := p574
              have ggp574 := cFr_t ggp572 gp574
              refine tw_iinc rfl rfl ?_
              refine tw_goto rfl ?_
              have z := cPe pf571 ((cFr_n gf571).trans hN) p572
              have z3 := rB_ge (T := T) (n := n) (p := (cs h1).1)
              obtain ⟨z4, z5, z6⟩ := z
              have hon := p572
              rw [sf571] at z4 hon
              have z4 : (rB T n (cs h1).1) + 1 ≤ (cs hp572).1 := z4
              exact tG_cut (zW_mono zTt G dp) (Or.inr ⟨rfl, rfl, _, k + 1, _, _, rfl, zincL hy q563, (by rw [ssp574]; show k + 1 ≤ (cs hp572).1; omega), ggp574, ppp574, fun r w => hR r (pE_4m hwf571 hon (by rw [ssp574] at w; exact w)), rfl⟩)
            · try dsimp only [tvI_i, tvJ_j, tvR_r] at q573
              have q573i := zeqi (Y := 43) (by decide) q573
              exact absurd q573 q565
          · have ggp572 := cFr_t gf571 gp572
            refine tw_if_ne rfl (fun z => absurd z (by decide)) (fun _ => ?_)
            refine tw_push rfl ?_
            have hoff := p572
            rw [sf571] at hoff
            exact tw_iret rfl ⟨ggp572, Or.inr ⟨rfl, _, hR _ (pE_4mf hwf571 hoff), up572⟩⟩
        · try dsimp only [tvI_i, tvJ_j, tvR_r] at q570
          have q570i := zneq (Y := 45) (by decide) q570
          refine tw_goto rfl ?_
          refine tw_push rfl ?_
          have h7 := pE_4n (T := T) (n := n) (d := d) (s := cs h1) (fun z => q565 ((sgn_k kp564 43 (by decide)).mpr z)) (fun z => q570 ((sgn_k kp564 45 (by decide)).mpr z))
          rw [← ssp564] at h7
          exact tw_iret rfl ⟨ggp564, Or.inl ⟨rfl, hR _ h7, ppp564⟩⟩
  · have ggp562 := cFr_t g0 gp562
    refine tw_if_ne rfl (fun z => absurd z (by decide)) (fun _ => ?_)
    refine tw_push rfl ?_
    exact tw_iret rfl ⟨ggp562, Or.inr ⟨rfl, _, pE_qf (c := 4) (by decide) p562, up562⟩⟩
theorem f_readPart {G : zG} (hG : G.1 = zProg) (hX : G.2.1 = ztx) {dp : Nat} (IH : cIH G dp) {h : zH} {T : Nat → Int32} {n : Nat} (hs : tSh h) (hp : cP h) (hT : tA h 45 = T) (hN : cn h = n) {x : Int32} {d : Nat} (hx : x.toInt = d) (hd : d ≤ 10) : tCp zTt G (dp + 1) 79 [.ref 44, .int x] h (cR T n 7 d h) := by
  refine tCp_in (by rw [hG]; rfl) ?_
  have g0 := cFr_r hs
  have hpn : (cs h).1 ≤ n := by rw [← hN]; exact cP_le hp
  have c129 : (12 : Int32).toInt = 12 := rfl
  have c4009 : (400 : Int32).toInt = 400 := rfl
  have c109 : (10 : Int32).toInt = 10 := rfl
  refine tw_aload rfl rfl ?_
  refine tw_iload rfl rfl ?_
  refine tw_virt1p rfl (IH 6 80 (by decide) _ _ _ d _ (g0).1 hp ((cFr_T g0).trans hT) ((cFr_n g0).trans hN) hx hd) (fun w9 hp575 p575 => ?_)
  obtain ⟨gp575, ⟨rfl, p575, ppp575⟩ | ⟨rfl, xp575, p575, up575⟩⟩ := p575
  · have ggp575 := cFr_t g0 gp575
    refine tw_if_ne rfl (fun _ => ?_) (fun z => absurd z (by decide))
    refine tw_push rfl ?_
    refine tw_istore rfl ?_
    refine tG_loop (zW_mono zTt G dp) (zW_conj zTt G dp) (V := fun pc L st h9 _ _ => pc = 12 ∧ st = [] ∧ ∃ (h1 : zH) (k : Nat) (y : Int32), h1 = h9 ∧ y.toInt = k ∧ k ≤ (cs h1).1 ∧ cFr h h1 ∧ cP h1 ∧ (∀ r, pE T n 8 d (cs h1) r → pE T n 7 d (cs h) r) ∧ L = [some (.ref 44), some (.int x), some (.int y)]) ?_ (⟨rfl, rfl, _, 0, _, rfl, rfl, Nat.zero_le _, ggp575, ppp575, fun r z => pE_q (by decide) p575 z, rfl⟩)
    rintro _ _ _ _ _ _ ⟨rfl, rfl, h1, k, y, rfl, hy, hk, g1, p1, hR, rfl⟩
    refine tw_iload rfl rfl ?_
    refine tw_push rfl ?_
    refine tw_ic_ge rfl (fun q576 => ?_) (fun q576 => ?_)
    · try dsimp only [tvI_i, tvJ_j, tvR_r] at q576
      refine tw_push rfl ?_
      have h4 : 400 ≤ (cs h1).1 := by omega
      have h5 := cP_400 p1
      rw [((cFr_n g1).trans hN)] at h5
      have h6 := rB_400 (T := T) (show n ≤ (cs h1).1 by omega)
      have h7 := pE_8n (T := T) (n := n) (d := d) (s := cs h1) (w400 (by decide) (by rw [h6]; omega))
      rw [h6] at h7
      exact tw_iret rfl ⟨g1, Or.inl ⟨rfl, hR _ h7, p1⟩⟩
    · try dsimp only [tvI_i, tvJ_j, tvR_r] at q576
      refine tw_aload rfl rfl ?_
      refine tw_virt0 rfl (f_wordHere hG hX (g1).1 p1 ((cFr_T g1).trans hT) ((cFr_n g1).trans hN)) (fun wp577 hp577 p577 => ?_)
      obtain ⟨gp577, ppp577, ssp577, eep577, ip577, rfl, kwp577⟩ := p577
      have ggp577 := cFr_t g1 gp577
      refine tw_push rfl ?_
      refine tw_ic_ne rfl (fun q578 => ?_) (fun q578 => ?_)
      · try dsimp only [tvI_i, tvJ_j, tvR_r] at q578
        have q578i := zneq (Y := 18) (by decide) q578
        refine tw_push rfl ?_
        have h7 := pE_8n (T := T) (n := n) (d := d) (s := cs h1) (fun z => q578 ((wrd_k (k := 18) kwp577 (by decide) (K := 18) rfl).mpr z))
        rw [← ssp577] at h7
        exact tw_iret rfl ⟨ggp577, Or.inl ⟨rfl, hR _ h7, ppp577⟩⟩
      · try dsimp only [tvI_i, tvJ_j, tvR_r] at q578
        have q578i := zeqi (Y := 18) (by decide) q578
        refine tw_aload rfl rfl ?_
        refine tw_aload rfl rfl ?_
        refine tw_getS rfl (hi_44_3 ggp577.1) ?_
        refine tw_put rfl (fun f579 => ?_)
        refine tG_set f579 (hw_44_2 f579 (ggp577).1) (fun hf579 ef579 => ?_)
        try dsimp only [tvI_i] at ef579
        have gf579 := cFr_s ggp577 ef579 (by decide)
        have hwf579 := ((wrd_k (k := 18) kwp577 (by decide) (K := 18) rfl).mp q578)
        have h9wf579 : rE T n (rB T n (cs h1).1) = (rB T n (cs h1).1) + 3 := by rw [rW_e hwf579, wlen_k.1]
        rw [h9wf579] at eep577
        have hp1n : (cs h1).1 ≤ n := by rw [← ((cFr_n g1).trans hN)]; exact cP_le p1
        have hr9f579 := rE_le (T := T) (rB_le (T := T) hp1n)
        rw [h9wf579] at hr9f579
        obtain ⟨pf579, sf579⟩ := cTo ppp577 ((cFr_n ggp577).trans hN) ef579 eep577 (by rw [ssp577]; exact Nat.le_add_right _ _) hr9f579
        rw [ssp577] at sf579
        refine tw_aload rfl rfl ?_
        refine tw_iload rfl rfl ?_
        refine tw_virt1p rfl (IH 6 80 (by decide) _ _ _ d _ (gf579).1 pf579 ((cFr_T gf579).trans hT) ((cFr_n gf579).trans hN) hx hd) (fun w9 hp580 p580 => ?_)
        obtain ⟨gp580, ⟨rfl, p580, ppp580⟩ | ⟨rfl, xp580, p580, up580⟩⟩ := p580
        · have ggp580 := cFr_t gf579 gp580
          refine tw_if_ne rfl (fun _ => ?_) (fun z => absurd z (by decide))
          refine tw_aload rfl rfl ?_
          refine tw_push rfl ?_
          refine tw_virt1 rfl (f_putCode hG hX (ggp580).1 ppp580 ((cFr_T ggp580).trans hT) ((cFr_n ggp580).trans hN) (cHc ppp580 (by have z := cPe pf579 ((cFr_n gf579).trans hN) p580; have z2 := cP_len p1; have z3 := rB_ge (T := T) (n := n) (p := (cs h1).1); obtain ⟨z4, z5, z6⟩ := z; rw [sf579] at z4 z6; have z4 : (rB T n (cs h1).1) + 3 ≤ (cs hp580).1 := z4; have z6 : (rB T n (cs h1).1) + 3 + (cs hp580).2.2.length ≤ (cs hp580).1 + (cs h1).2.2.length := z6; omega))) (fun wp581 hp581 p581 => ?_)
          obtain ⟨gp581, rfl, ssp581, ppp581⟩ := p581
          have ggp581 := cFr_t ggp580 gp581
          refine tw_iinc rfl rfl ?_
          refine tw_goto rfl ?_
          have z := cPe pf579 ((cFr_n gf579).trans hN) p580
          have z3 := rB_ge (T := T) (n := n) (p := (cs h1).1)
          obtain ⟨z4, z5, z6⟩ := z
          have hon := p580
          rw [sf579] at z4 hon
          have z4 : (rB T n (cs h1).1) + 3 ≤ (cs hp580).1 := z4
          exact tG_cut (zW_mono zTt G dp) (Or.inr ⟨rfl, rfl, _, k + 1, _, rfl, zincL hy q576, (by rw [ssp581]; show k + 1 ≤ (cs hp580).1; omega), ggp581, ppp581, fun r w => hR r (pE_8y hwf579 hon (by rw [ssp581] at w; exact w)), rfl⟩)
        · have ggp580 := cFr_t gf579 gp580
          refine tw_if_ne rfl (fun z => absurd z (by decide)) (fun _ => ?_)
          refine tw_push rfl ?_
          have hoff := p580
          rw [sf579] at hoff
          exact tw_iret rfl ⟨ggp580, Or.inr ⟨rfl, _, hR _ (pE_8f hwf579 hoff), up580⟩⟩
  · have ggp575 := cFr_t g0 gp575
    refine tw_if_ne rfl (fun z => absurd z (by decide)) (fun _ => ?_)
    refine tw_push rfl ?_
    exact tw_iret rfl ⟨ggp575, Or.inr ⟨rfl, _, pE_qf (c := 8) (by decide) p575, up575⟩⟩
theorem f_readTest {G : zG} (hG : G.1 = zProg) (hX : G.2.1 = ztx) {dp : Nat} (IH : cIH G dp) {h : zH} {T : Nat → Int32} {n : Nat} (hs : tSh h) (hp : cP h) (hT : tA h 45 = T) (hN : cn h = n) {x : Int32} {d : Nat} (hx : x.toInt = d) (hd : d ≤ 10) : tCp zTt G (dp + 1) 78 [.ref 44, .int x] h (cR T n 9 d h) := by
  refine tCp_in (by rw [hG]; rfl) ?_
  have g0 := cFr_r hs
  have hpn : (cs h).1 ≤ n := by rw [← hN]; exact cP_le hp
  have c129 : (12 : Int32).toInt = 12 := rfl
  have c4009 : (400 : Int32).toInt = 400 := rfl
  have c109 : (10 : Int32).toInt = 10 := rfl
  refine tw_aload rfl rfl ?_
  refine tw_iload rfl rfl ?_
  refine tw_virt1p rfl (IH 7 79 (by decide) _ _ _ d _ (g0).1 hp ((cFr_T g0).trans hT) ((cFr_n g0).trans hN) hx hd) (fun w9 hp582 p582 => ?_)
  obtain ⟨gp582, ⟨rfl, p582, ppp582⟩ | ⟨rfl, xp582, p582, up582⟩⟩ := p582
  · have ggp582 := cFr_t g0 gp582
    refine tw_if_ne rfl (fun _ => ?_) (fun z => absurd z (by decide))
    refine tw_push rfl ?_
    refine tw_istore rfl ?_
    refine tG_loop (zW_mono zTt G dp) (zW_conj zTt G dp) (V := fun pc L st h9 _ _ => pc = 12 ∧ st = [] ∧ ∃ (h1 : zH) (k : Nat) (y : Int32), h1 = h9 ∧ y.toInt = k ∧ k ≤ (cs h1).1 ∧ cFr h h1 ∧ cP h1 ∧ (∀ r, pE T n 10 d (cs h1) r → pE T n 9 d (cs h) r) ∧ L = [some (.ref 44), some (.int x), some (.int y)]) ?_ (⟨rfl, rfl, _, 0, _, rfl, rfl, Nat.zero_le _, ggp582, ppp582, fun r z => pE_q (by decide) p582 z, rfl⟩)
    rintro _ _ _ _ _ _ ⟨rfl, rfl, h1, k, y, rfl, hy, hk, g1, p1, hR, rfl⟩
    refine tw_iload rfl rfl ?_
    refine tw_push rfl ?_
    refine tw_ic_ge rfl (fun q583 => ?_) (fun q583 => ?_)
    · try dsimp only [tvI_i, tvJ_j, tvR_r] at q583
      refine tw_push rfl ?_
      have h4 : 400 ≤ (cs h1).1 := by omega
      have h5 := cP_400 p1
      rw [((cFr_n g1).trans hN)] at h5
      have h6 := rB_400 (T := T) (show n ≤ (cs h1).1 by omega)
      have h7 := pE_10n (T := T) (n := n) (d := d) (s := cs h1) (w400 (by decide) (by rw [h6]; omega))
      rw [h6] at h7
      exact tw_iret rfl ⟨g1, Or.inl ⟨rfl, hR _ h7, p1⟩⟩
    · try dsimp only [tvI_i, tvJ_j, tvR_r] at q583
      refine tw_aload rfl rfl ?_
      refine tw_virt0 rfl (f_wordHere hG hX (g1).1 p1 ((cFr_T g1).trans hT) ((cFr_n g1).trans hN)) (fun wp584 hp584 p584 => ?_)
      obtain ⟨gp584, ppp584, ssp584, eep584, ip584, rfl, kwp584⟩ := p584
      have ggp584 := cFr_t g1 gp584
      refine tw_push rfl ?_
      refine tw_ic_ne rfl (fun q585 => ?_) (fun q585 => ?_)
      · try dsimp only [tvI_i, tvJ_j, tvR_r] at q585
        have q585i := zneq (Y := 17) (by decide) q585
        refine tw_push rfl ?_
        have h7 := pE_10n (T := T) (n := n) (d := d) (s := cs h1) (fun z => q585 ((wrd_k (k := 17) kwp584 (by decide) (K := 17) rfl).mpr z))
        rw [← ssp584] at h7
        exact tw_iret rfl ⟨ggp584, Or.inl ⟨rfl, hR _ h7, ppp584⟩⟩
      · try dsimp only [tvI_i, tvJ_j, tvR_r] at q585
        have q585i := zeqi (Y := 17) (by decide) q585
        refine tw_aload rfl rfl ?_
        refine tw_aload rfl rfl ?_
        refine tw_getS rfl (hi_44_3 ggp584.1) ?_
        refine tw_put rfl (fun f586 => ?_)
        refine tG_set f586 (hw_44_2 f586 (ggp584).1) (fun hf586 ef586 => ?_)
        try dsimp only [tvI_i] at ef586
        have gf586 := cFr_s ggp584 ef586 (by decide)
        have hwf586 := ((wrd_k (k := 17) kwp584 (by decide) (K := 17) rfl).mp q585)
        have h9wf586 : rE T n (rB T n (cs h1).1) = (rB T n (cs h1).1) + 2 := by rw [rW_e hwf586, wlen_k.2.1]
        rw [h9wf586] at eep584
        have hp1n : (cs h1).1 ≤ n := by rw [← ((cFr_n g1).trans hN)]; exact cP_le p1
        have hr9f586 := rE_le (T := T) (rB_le (T := T) hp1n)
        rw [h9wf586] at hr9f586
        obtain ⟨pf586, sf586⟩ := cTo ppp584 ((cFr_n ggp584).trans hN) ef586 eep584 (by rw [ssp584]; exact Nat.le_add_right _ _) hr9f586
        rw [ssp584] at sf586
        refine tw_aload rfl rfl ?_
        refine tw_iload rfl rfl ?_
        refine tw_virt1p rfl (IH 7 79 (by decide) _ _ _ d _ (gf586).1 pf586 ((cFr_T gf586).trans hT) ((cFr_n gf586).trans hN) hx hd) (fun w9 hp587 p587 => ?_)
        obtain ⟨gp587, ⟨rfl, p587, ppp587⟩ | ⟨rfl, xp587, p587, up587⟩⟩ := p587
        · have ggp587 := cFr_t gf586 gp587
          refine tw_if_ne rfl (fun _ => ?_) (fun z => absurd z (by decide))
          refine tw_aload rfl rfl ?_
          refine tw_push rfl ?_
          refine tw_virt1 rfl (f_putCode hG hX (ggp587).1 ppp587 ((cFr_T ggp587).trans hT) ((cFr_n ggp587).trans hN) (cHc ppp587 (by have z := cPe pf586 ((cFr_n gf586).trans hN) p587; have z2 := cP_len p1; have z3 := rB_ge (T := T) (n := n) (p := (cs h1).1); obtain ⟨z4, z5, z6⟩ := z; rw [sf586] at z4 z6; have z4 : (rB T n (cs h1).1) + 2 ≤ (cs hp587).1 := z4; have z6 : (rB T n (cs h1).1) + 2 + (cs hp587).2.2.length ≤ (cs hp587).1 + (cs h1).2.2.length := z6; omega))) (fun wp588 hp588 p588 => ?_)
          obtain ⟨gp588, rfl, ssp588, ppp588⟩ := p588
          have ggp588 := cFr_t ggp587 gp588
          refine tw_iinc rfl rfl ?_
          refine tw_goto rfl ?_
          have z := cPe pf586 ((cFr_n gf586).trans hN) p587
          have z3 := rB_ge (T := T) (n := n) (p := (cs h1).1)
          obtain ⟨z4, z5, z6⟩ := z
          have hon := p587
          rw [sf586] at z4 hon
          have z4 : (rB T n (cs h1).1) + 2 ≤ (cs hp587).1 := z4
          exact tG_cut (zW_mono zTt G dp) (Or.inr ⟨rfl, rfl, _, k + 1, _, rfl, zincL hy q583, (by rw [ssp588]; show k + 1 ≤ (cs hp587).1; omega), ggp588, ppp588, fun r w => hR r (pE_10y hwf586 hon (by rw [ssp588] at w; exact w)), rfl⟩)
        · have ggp587 := cFr_t gf586 gp587
          refine tw_if_ne rfl (fun z => absurd z (by decide)) (fun _ => ?_)
          refine tw_push rfl ?_
          have hoff := p587
          rw [sf586] at hoff
          exact tw_iret rfl ⟨ggp587, Or.inr ⟨rfl, _, hR _ (pE_10f hwf586 hoff), up587⟩⟩
  · have ggp582 := cFr_t g0 gp582
    refine tw_if_ne rfl (fun z => absurd z (by decide)) (fun _ => ?_)
    refine tw_push rfl ?_
    exact tw_iret rfl ⟨ggp582, Or.inr ⟨rfl, _, pE_qf (c := 10) (by decide) p582, up582⟩⟩
theorem f_readComparison {G : zG} (hG : G.1 = zProg) (hX : G.2.1 = ztx) {dp : Nat} (IH : cIH G dp) {h : zH} {T : Nat → Int32} {n : Nat} (hs : tSh h) (hp : cP h) (hT : tA h 45 = T) (hN : cn h = n) {x : Int32} {d : Nat} (hx : x.toInt = d) (hd : d ≤ 10) : tCp zTt G (dp + 1) 81 [.ref 44, .int x] h (cR T n 5 d h) := by
  refine tCp_in (by rw [hG]; rfl) ?_
  have g0 := cFr_r hs
  have hpn : (cs h).1 ≤ n := by rw [← hN]; exact cP_le hp
  have c129 : (12 : Int32).toInt = 12 := rfl
  have c4009 : (400 : Int32).toInt = 400 := rfl
  have c109 : (10 : Int32).toInt = 10 := rfl
  refine tw_aload rfl rfl ?_
  refine tw_iload rfl rfl ?_
  refine tw_virt1p rfl (IH 3 83 (by decide) _ _ _ d _ (g0).1 hp ((cFr_T g0).trans hT) ((cFr_n g0).trans hN) hx hd) (fun w9 hp589 p589 => ?_)
  obtain ⟨gp589, ⟨rfl, p589, ppp589⟩ | ⟨rfl, xp589, p589, up589⟩⟩ := p589
  · have ggp589 := cFr_t g0 gp589
    refine tw_if_ne rfl (fun _ => ?_) (fun z => absurd z (by decide))
    refine tw_aload rfl rfl ?_
    refine tw_virt0 rfl (f_comparisonHere hG hX (ggp589).1 ppp589 ((cFr_T ggp589).trans hT) ((cFr_n ggp589).trans hN)) (fun w9 hp590 p590 => ?_)
    obtain ⟨gp590, ⟨vp590, p590, c8p590, rfl, ssp590, ppp590⟩ | ⟨rfl, xp590, up590, p590⟩⟩ := p590
    · have ggp590 := cFr_t ggp589 gp590
      refine tw_istore rfl ?_
      refine tw_iload rfl rfl ?_
      refine tw_push rfl ?_
      refine tw_ic_eq rfl (fun q591 => ?_) (fun q591 => ?_)
      · try dsimp only [tvI_i, tvJ_j, tvR_r] at q591
        have q591i := zeqi (Y := (-1)) (by decide) q591
        exact absurd q591 (zoN9 (by have := (rCm_r p590).2.1; omega))
      · try dsimp only [tvI_i, tvJ_j, tvR_r] at q591
        have q591i := zneq (Y := (-1)) (by decide) q591
        refine tw_aload rfl rfl ?_
        refine tw_iload rfl rfl ?_
        refine tw_virt1p rfl (IH 3 83 (by decide) _ _ _ d _ (ggp590).1 ppp590 ((cFr_T ggp590).trans hT) ((cFr_n ggp590).trans hN) hx hd) (fun w9 hp592 p592 => ?_)
        obtain ⟨gp592, ⟨rfl, p592, ppp592⟩ | ⟨rfl, xp592, p592, up592⟩⟩ := p592
        · have ggp592 := cFr_t ggp590 gp592
          refine tw_if_ne rfl (fun _ => ?_) (fun z => absurd z (by decide))
          refine tw_aload rfl rfl ?_
          refine tw_iload rfl rfl ?_
          refine tw_virt1 rfl (f_putCode hG hX (ggp592).1 ppp592 ((cFr_T ggp592).trans hT) ((cFr_n ggp592).trans hN) (cHc ppp592 (by have z := cPe ppp590 ((cFr_n ggp590).trans hN) p592; have z1 := cP_len ppp589; have z3 := rB_ge (T := T) (n := n) (p := (cs hp589).1); have z7 := (rCm_r p590).2.2; obtain ⟨z4, z5, z6⟩ := z; rw [ssp590] at z4 z6; have z4 : vp590.2 ≤ (cs hp592).1 := z4; have z6 : vp590.2 + (cs hp592).2.2.length ≤ (cs hp592).1 + (cs hp589).2.2.length := z6; omega))) (fun wp593 hp593 p593 => ?_)
          obtain ⟨gp593, rfl, ssp593, ppp593⟩ := p593
          have ggp593 := cFr_t ggp592 gp593
          refine tw_push rfl ?_
          have ho := p592
          rw [ssp590] at ho
          refine tw_iret rfl ⟨ggp593, Or.inl ⟨rfl, ?_, ppp593⟩⟩
          rw [ssp593]
          show pE T n 5 d (cs h) (.inr (rU (Int32.ofNat vp590.1).toNatClampNeg _))
          rw [zoN (v := vp590.1) (by have := (rCm_r p590).2.1; omega)]
          exact pE_5e p589 p590 c8p590 ho
        · have ggp592 := cFr_t ggp590 gp592
          refine tw_if_ne rfl (fun z => absurd z (by decide)) (fun _ => ?_)
          refine tw_push rfl ?_
          have ho := p592
          rw [ssp590] at ho
          exact tw_iret rfl ⟨ggp592, Or.inr ⟨rfl, _, pE_5d p589 p590 c8p590 ho, up592⟩⟩
    · have ggp590 := cFr_t ggp589 gp590
      refine tw_istore rfl ?_
      refine tw_iload rfl rfl ?_
      refine tw_push rfl ?_
      refine tw_ic_eq rfl (fun _ => ?_) (fun z => absurd z (by decide))
      refine tw_push rfl ?_
      rcases p590 with ⟨a1, rfl⟩ | ⟨q9, a1, a2, rfl⟩
      · exact tw_iret rfl ⟨ggp590, Or.inr ⟨rfl, _, pE_5b p589 a1, up590⟩⟩
      · exact tw_iret rfl ⟨ggp590, Or.inr ⟨rfl, _, pE_5c p589 a1 a2, up590⟩⟩
  · have ggp589 := cFr_t g0 gp589
    refine tw_if_ne rfl (fun z => absurd z (by decide)) (fun _ => ?_)
    refine tw_push rfl ?_
    exact tw_iret rfl ⟨ggp589, Or.inr ⟨rfl, _, pE_5a p589, up589⟩⟩
theorem f_readFact {G : zG} (hG : G.1 = zProg) (hX : G.2.1 = ztx) {dp : Nat} (IH : cIH G dp) {h : zH} {T : Nat → Int32} {n : Nat} (hs : tSh h) (hp : cP h) (hT : tA h 45 = T) (hN : cn h = n) {x : Int32} {d : Nat} (hx : x.toInt = d) (hd : d ≤ 10) : tCp zTt G (dp + 1) 80 [.ref 44, .int x] h (cR T n 6 d h) := by
  refine tCp_in (by rw [hG]; rfl) ?_
  have g0 := cFr_r hs
  have hpn : (cs h).1 ≤ n := by rw [← hN]; exact cP_le hp
  have c129 : (12 : Int32).toInt = 12 := rfl
  have c4009 : (400 : Int32).toInt = 400 := rfl
  have c109 : (10 : Int32).toInt = 10 := rfl
  refine tw_aload rfl rfl ?_
  refine tw_virt0 rfl (f_wordHere hG hX (g0).1 hp ((cFr_T g0).trans hT) ((cFr_n g0).trans hN)) (fun wp594 hp594 p594 => ?_)
  obtain ⟨gp594, ppp594, ssp594, eep594, ip594, rfl, kwp594⟩ := p594
  have ggp594 := cFr_t g0 gp594
  refine tw_push rfl ?_
  refine tw_ic_ne rfl (fun q595 => ?_) (fun q595 => ?_)
  · try dsimp only [tvI_i, tvJ_j, tvR_r] at q595
    have q595i := zneq (Y := 19) (by decide) q595
    refine tw_push rfl ?_
    refine tw_istore rfl ?_
    refine tw_aload rfl rfl ?_
    refine tw_virt0 rfl (f_signHere hG hX (ggp594).1 ppp594 ((cFr_T ggp594).trans hT) ((cFr_n ggp594).trans hN)) (fun wp596 hp596 p596 => ?_)
    obtain ⟨gp596, ppp596, ssp596, t3p596, cp596, rfl, kp596⟩ := p596
    have ggp596 := cFr_t ggp594 gp596
    refine tw_push rfl ?_
    refine tw_ic_ne rfl (fun q597 => ?_) (fun q597 => ?_)
    · try dsimp only [tvI_i, tvJ_j, tvR_r] at q597
      have q597i := zneq (Y := 91) (by decide) q597
      refine tw_push rfl ?_
      refine tw_istore rfl ?_
      refine tw_iload rfl rfl ?_
      refine tw_if_ne rfl (fun z => absurd z (by decide)) (fun _ => ?_)
      refine tw_iload rfl rfl ?_
      refine tw_if_ne rfl (fun z => absurd z (by decide)) (fun _ => ?_)
      refine tw_aload rfl rfl ?_
      refine tw_iload rfl rfl ?_
      refine tw_virt1p rfl (IH 5 81 (by decide) _ _ _ d _ (ggp596).1 ppp596 ((cFr_T ggp596).trans hT) ((cFr_n ggp596).trans hN) hx hd) (fun w9 hp598 p598 => ?_)
      obtain ⟨gp598, ⟨rfl, p598, ppp598⟩ | ⟨rfl, xp598, p598, up598⟩⟩ := p598
      · have ggp598 := cFr_t ggp596 gp598
        have hK := (sgn_k kp596 91 (by decide))
        rw [ssp594, show (rA (rB T n (cs h).1) (cs h)).1 = (rB T n (cs h).1) from rfl, rB_2] at hK
        have hss : cs hp596 = rA (rB T n (cs h).1) (cs h) := by rw [ssp596, ssp594]; show rA (rB T n (rB T n (cs h).1)) _ = _; rw [rB_2]; rfl
        have ho := p598
        rw [hss] at ho
        exact tw_iret rfl ⟨ggp598, Or.inl ⟨rfl, (pE_6h (fun z => q595 ((wrd_k (k := 19) kwp594 (by decide) (K := 19) rfl).mpr z)) (fun z => q597 (hK.mpr z)) ho), ppp598⟩⟩
      · have ggp598 := cFr_t ggp596 gp598
        have hK := (sgn_k kp596 91 (by decide))
        rw [ssp594, show (rA (rB T n (cs h).1) (cs h)).1 = (rB T n (cs h).1) from rfl, rB_2] at hK
        have hss : cs hp596 = rA (rB T n (cs h).1) (cs h) := by rw [ssp596, ssp594]; show rA (rB T n (rB T n (cs h).1)) _ = _; rw [rB_2]; rfl
        have ho := p598
        rw [hss] at ho
        exact tw_iret rfl ⟨ggp598, Or.inr ⟨rfl, _, (pE_6h (fun z => q595 ((wrd_k (k := 19) kwp594 (by decide) (K := 19) rfl).mpr z)) (fun z => q597 (hK.mpr z)) ho), up598⟩⟩
    · try dsimp only [tvI_i, tvJ_j, tvR_r] at q597
      have q597i := zeqi (Y := 91) (by decide) q597
      refine tw_push rfl ?_
      refine tw_goto rfl ?_
      refine tw_istore rfl ?_
      refine tw_iload rfl rfl ?_
      refine tw_if_ne rfl (fun z => absurd z (by decide)) (fun _ => ?_)
      refine tw_iload rfl rfl ?_
      refine tw_if_ne rfl (fun _ => ?_) (fun z => absurd z (by decide))
      refine tw_iload rfl rfl ?_
      refine tw_push rfl ?_
      refine tw_ic_ne rfl (fun q599 => ?_) (fun q599 => ?_)
      · try dsimp only [tvI_i, tvJ_j, tvR_r] at q599
        have q599i := zneq (Y := 10) (by decide) q599
        refine tw_iload rfl rfl ?_
        refine tw_if_eq rfl (fun z => absurd z (by decide)) (fun _ => ?_)
        refine tw_aload rfl rfl ?_
        refine tw_dup rfl ?_
        refine tw_getS rfl (hi_44_2 ggp596.1) ?_
        refine tw_push rfl ?_
        refine tw_iadd rfl ?_
        refine tw_put rfl (fun f600 => ?_)
        refine tG_set f600 (hw_44_2 f600 (ggp596).1) (fun hf600 ef600 => ?_)
        try dsimp only [tvI_i] at ef600
        have gf600 := cFr_s ggp596 ef600 (by decide)
        have hw9 : (rB T n (cs h).1) < n ∧ T (rB T n (cs h).1) = 91 := by have z := (sgn_k kp596 91 (by decide)).mp q597; rw [ssp594] at z; rw [show (rA (rB T n (cs h).1) (cs h)).1 = (rB T n (cs h).1) from rfl, rB_2] at z; exact z
        have hlf600 : (cs hp596).1 < n := by rw [ssp596, ssp594]; show rB T n (rB T n (cs h).1) < n; rw [rB_2]; exact hw9.1
        obtain ⟨pf600, sf600⟩ := cInc ppp596 hlf600 ((cFr_n ggp596).trans hN) ef600
        rw [ssp596, ssp594] at sf600
        have sf600 : cs hf600 = rA ((rB T n (cs h).1) + 1) (cs h) := by rw [sf600]; show rA (rB T n (rB T n (cs h).1) + 1) _ = _; rw [rB_2]; rfl
        refine tw_aload rfl rfl ?_
        refine tw_iload rfl rfl ?_
        refine tw_push rfl ?_
        refine tw_iadd rfl ?_
        refine tw_virt1p rfl (IH 9 78 (by decide) _ _ _ (d + 1) _ (gf600).1 pf600 ((cFr_T gf600).trans hT) ((cFr_n gf600).trans hN) (zd1 hx hd) (by omega)) (fun w9 hp601 p601 => ?_)
        obtain ⟨gp601, ⟨rfl, p601, ppp601⟩ | ⟨rfl, xp601, p601, up601⟩⟩ := p601
        · have ggp601 := cFr_t gf600 gp601
          refine tw_if_eq rfl (fun z => absurd z (by decide)) (fun _ => ?_)
          refine tw_aload rfl rfl ?_
          refine tw_push rfl ?_
          refine tw_virt1 rfl (f_takeSign hG hX (ggp601).1 ppp601 ((cFr_T ggp601).trans hT) ((cFr_n ggp601).trans hN) (y := 93) (by decide)) (fun w9 hp602 p602 => ?_)
          obtain ⟨gp602, ⟨rfl, p602, ppp602⟩ | ⟨rfl, xp602, p602, up602⟩⟩ := p602
          · have ggp602 := cFr_t ggp601 gp602
            refine tw_if_eq rfl (fun z => absurd z (by decide)) (fun _ => ?_)
            refine tw_push rfl ?_
            refine tw_goto rfl ?_
            have hd10 : d ≠ 10 := fun z => q599 (Int32.toInt_inj.mp (by rw [hx, z]; rfl))
            have ho := p601
            rw [sf600] at ho
            exact tw_iret rfl ⟨ggp602, Or.inl ⟨rfl, pE_6g hw9 hd10 ho p602, ppp602⟩⟩
          · have ggp602 := cFr_t ggp601 gp602
            refine tw_if_eq rfl (fun _ => ?_) (fun z => absurd z (by decide))
            refine tw_push rfl ?_
            have hd10 : d ≠ 10 := fun z => q599 (Int32.toInt_inj.mp (by rw [hx, z]; rfl))
            have ho := p601
            rw [sf600] at ho
            exact tw_iret rfl ⟨ggp602, Or.inr ⟨rfl, _, pE_6g hw9 hd10 ho p602, up602⟩⟩
        · have ggp601 := cFr_t gf600 gp601
          refine tw_if_eq rfl (fun _ => ?_) (fun z => absurd z (by decide))
          refine tw_push rfl ?_
          have hd10 : d ≠ 10 := fun z => q599 (Int32.toInt_inj.mp (by rw [hx, z]; rfl))
          have ho := p601
          rw [sf600] at ho
          exact tw_iret rfl ⟨ggp601, Or.inr ⟨rfl, _, pE_6e hw9 hd10 ho, up601⟩⟩
      · try dsimp only [tvI_i, tvJ_j, tvR_r] at q599
        have q599i := zeqi (Y := 10) (by decide) q599
        refine tw_aload rfl rfl ?_
        refine tw_aload rfl rfl ?_
        refine tw_getS rfl (hi_44_2 ggp596.1) ?_
        refine tw_push rfl ?_
        refine tw_virt2 rfl (f_refuse hG hX (ggp596).1 ppp596 ((cFr_T ggp596).trans hT) ((cFr_n ggp596).trans hN)) (fun wp603 hp603 p603 => ?_)
        obtain ⟨gp603, rfl, up603⟩ := p603
        have ggp603 := cFr_t ggp596 gp603
        have hd10 : d = 10 := by have z : x.toInt = 10 := congrArg Int32.toInt q599; omega
        have hss : cs hp596 = rA (rB T n (cs h).1) (cs h) := by rw [ssp596, ssp594]; show rA (rB T n (rB T n (cs h).1)) _ = _; rw [rB_2]; rfl
        have hft := cFt_of ppp596 up603 (w := 2) rfl (by decide)
        rw [hss] at hft
        have hK := (sgn_k kp596 91 (by decide))
        rw [ssp594, show (rA (rB T n (cs h).1) (cs h)).1 = (rB T n (cs h).1) from rfl, rB_2] at hK
        exact tw_iret rfl ⟨ggp603, Or.inr ⟨rfl, _, pE_6d (hK.mp q597) hd10, hft⟩⟩
  · try dsimp only [tvI_i, tvJ_j, tvR_r] at q595
    have q595i := zeqi (Y := 19) (by decide) q595
    refine tw_push rfl ?_
    refine tw_goto rfl ?_
    refine tw_istore rfl ?_
    refine tw_aload rfl rfl ?_
    refine tw_virt0 rfl (f_signHere hG hX (ggp594).1 ppp594 ((cFr_T ggp594).trans hT) ((cFr_n ggp594).trans hN)) (fun wp604 hp604 p604 => ?_)
    obtain ⟨gp604, ppp604, ssp604, t3p604, cp604, rfl, kp604⟩ := p604
    have ggp604 := cFr_t ggp594 gp604
    refine tw_push rfl ?_
    refine tw_ic_ne rfl (fun q605 => ?_) (fun q605 => ?_)
    · try dsimp only [tvI_i, tvJ_j, tvR_r] at q605
      have q605i := zneq (Y := 91) (by decide) q605
      refine tw_push rfl ?_
      refine tw_istore rfl ?_
      refine tw_iload rfl rfl ?_
      refine tw_if_ne rfl (fun _ => ?_) (fun z => absurd z (by decide))
      refine tw_iload rfl rfl ?_
      refine tw_push rfl ?_
      refine tw_ic_ne rfl (fun q606 => ?_) (fun q606 => ?_)
      · try dsimp only [tvI_i, tvJ_j, tvR_r] at q606
        have q606i := zneq (Y := 10) (by decide) q606
        refine tw_iload rfl rfl ?_
        refine tw_if_eq rfl (fun _ => ?_) (fun z => absurd z (by decide))
        refine tw_aload rfl rfl ?_
        refine tw_aload rfl rfl ?_
        refine tw_getS rfl (hi_44_3 ggp604.1) ?_
        refine tw_put rfl (fun f607 => ?_)
        refine tG_set f607 (hw_44_2 f607 (ggp604).1) (fun hf607 ef607 => ?_)
        try dsimp only [tvI_i] at ef607
        have gf607 := cFr_s ggp604 ef607 (by decide)
        have hw9 := (wrd_k (k := 19) kwp594 (by decide) (K := 19) rfl).mp q595
        have h9w : rE T n (rB T n (cs h).1) = (rB T n (cs h).1) + 3 := by rw [rW_e hw9, wlen_k.2.2.1]
        have hr9 := rE_le (T := T) (rB_le (T := T) hpn)
        rw [h9w] at hr9 eep594
        obtain ⟨pf607, sf607⟩ := cTo ppp604 ((cFr_n ggp604).trans hN) ef607 (by rw [t3p604]; exact eep594) (by rw [ssp604, ssp594]; show rB T n (rB T n (cs h).1) ≤ _; rw [rB_2]; exact Nat.le_add_right _ _) hr9
        rw [ssp604, ssp594] at sf607
        have sf607 : cs hf607 = rA ((rB T n (cs h).1) + 3) (cs h) := sf607
        refine tw_aload rfl rfl ?_
        refine tw_iload rfl rfl ?_
        refine tw_push rfl ?_
        refine tw_iadd rfl ?_
        refine tw_virt1p rfl (IH 6 80 (by decide) _ _ _ (d + 1) _ (gf607).1 pf607 ((cFr_T gf607).trans hT) ((cFr_n gf607).trans hN) (zd1 hx hd) (by omega)) (fun w9 hp608 p608 => ?_)
        obtain ⟨gp608, ⟨rfl, p608, ppp608⟩ | ⟨rfl, xp608, p608, up608⟩⟩ := p608
        · have ggp608 := cFr_t gf607 gp608
          refine tw_if_ne rfl (fun _ => ?_) (fun z => absurd z (by decide))
          refine tw_aload rfl rfl ?_
          refine tw_push rfl ?_
          refine tw_virt1 rfl (f_putCode hG hX (ggp608).1 ppp608 ((cFr_T ggp608).trans hT) ((cFr_n ggp608).trans hN) (cHc ppp608 (by have z := cPe pf607 ((cFr_n gf607).trans hN) p608; have z2 := cP_len hp; have z3 := rB_ge (T := T) (n := n) (p := (cs h).1); obtain ⟨z4, z5, z6⟩ := z; rw [sf607] at z4 z6; have z4 : (rB T n (cs h).1) + 3 ≤ (cs hp608).1 := z4; have z6 : (rB T n (cs h).1) + 3 + (cs hp608).2.2.length ≤ (cs hp608).1 + (cs h).2.2.length := z6; omega))) (fun wp609 hp609 p609 => ?_)
          obtain ⟨gp609, rfl, ssp609, ppp609⟩ := p609
          have ggp609 := cFr_t ggp608 gp609
          refine tw_push rfl ?_
          have hd10 : d ≠ 10 := fun z => q606 (Int32.toInt_inj.mp (by rw [hx, z]; rfl))
          have ho := p608
          rw [sf607] at ho
          refine tw_iret rfl ⟨ggp609, Or.inl ⟨rfl, ?_, ppp609⟩⟩
          rw [ssp609]
          exact pE_6c hw9 hd10 ho
        · have ggp608 := cFr_t gf607 gp608
          refine tw_if_ne rfl (fun z => absurd z (by decide)) (fun _ => ?_)
          refine tw_push rfl ?_
          have hd10 : d ≠ 10 := fun z => q606 (Int32.toInt_inj.mp (by rw [hx, z]; rfl))
          have ho := p608
          rw [sf607] at ho
          exact tw_iret rfl ⟨ggp608, Or.inr ⟨rfl, _, pE_6b hw9 hd10 ho, up608⟩⟩
      · try dsimp only [tvI_i, tvJ_j, tvR_r] at q606
        have q606i := zeqi (Y := 10) (by decide) q606
        refine tw_aload rfl rfl ?_
        refine tw_aload rfl rfl ?_
        refine tw_getS rfl (hi_44_2 ggp604.1) ?_
        refine tw_push rfl ?_
        refine tw_virt2 rfl (f_refuse hG hX (ggp604).1 ppp604 ((cFr_T ggp604).trans hT) ((cFr_n ggp604).trans hN)) (fun wp610 hp610 p610 => ?_)
        obtain ⟨gp610, rfl, up610⟩ := p610
        have ggp610 := cFr_t ggp604 gp610
        have hd10 : d = 10 := by have z : x.toInt = 10 := congrArg Int32.toInt q606; omega
        have hss : cs hp604 = rA (rB T n (cs h).1) (cs h) := by rw [ssp604, ssp594]; show rA (rB T n (rB T n (cs h).1)) _ = _; rw [rB_2]; rfl
        have hft := cFt_of ppp604 up610 (w := 2) rfl (by decide)
        rw [hss] at hft
        have hw9 := (wrd_k (k := 19) kwp594 (by decide) (K := 19) rfl).mp q595
        exact tw_iret rfl ⟨ggp610, Or.inr ⟨rfl, _, pE_6a hw9 hd10, hft⟩⟩
    · try dsimp only [tvI_i, tvJ_j, tvR_r] at q605
      have q605i := zeqi (Y := 91) (by decide) q605
      have hw9 := (wrd_k (k := 19) kwp594 (by decide) (K := 19) rfl).mp q595
      have z := (sgn_k kp604 91 (by decide)).mp q605
      rw [ssp594, show (rA (rB T n (cs h).1) (cs h)).1 = (rB T n (cs h).1) from rfl, rB_2] at z
      exact absurd hw9 (no_91 z (by decide))
theorem f_rec {G : zG} (hG : G.1 = zProg) (hX : G.2.1 = ztx) : ∀ dp, cIH G dp
  | 0 => fun m j hm h T n d x hs hp hT hN hx hd z => z.elim
  | dp + 1 => by
    have IH := f_rec hG hX dp
    intro m j hm h T n d x hs hp hT hN hx hd
    have hm : (m, j) = (0, 85) ∨ (m, j) = (1, 84) ∨ (m, j) = (3, 83) ∨ (m, j) = (5, 81) ∨ (m, j) = (6, 80) ∨ (m, j) = (7, 79) ∨ (m, j) = (9, 78) := by
      unfold cML at hm
      simpa using hm
    rcases hm with e | e | e | e | e | e | e <;> cases e
    · exact f_readValue hG hX IH hs hp hT hN hx hd
    · exact f_readTerm hG hX IH hs hp hT hN hx hd
    · exact f_readSum hG hX IH hs hp hT hN hx hd
    · exact f_readComparison hG hX IH hs hp hT hN hx hd
    · exact f_readFact hG hX IH hs hp hT hN hx hd
    · exact f_readPart hG hX IH hs hp hT hN hx hd
    · exact f_readTest hG hX IH hs hp hT hN hx hd
